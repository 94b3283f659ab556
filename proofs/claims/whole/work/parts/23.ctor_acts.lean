theorem arrV_ext {c : ClassId} {n : Nat} {u v : Nat → Value} (h : ∀ j, j < n → u j = v j) : arrV c n u = arrV c n v := by
  unfold arrV
  congr 1
  exact congrArg _ (funext fun j => h j.val j.isLt)
theorem va_D_fst {A : Nat → Prop} {a b : va_W} (h : a.map Prod.fst = b.map Prod.fst) (hD : va_D A a) : va_D A b := by
  have key : ∀ (k : Nat) (q : Nat × va_E), b[k]? = some q → ∃ q0, a[k]? = some q0 ∧ q0.1 = q.1 := by
    intro k q hk
    have h1 : (b.map Prod.fst)[k]? = some q.1 := by rw [List.getElem?_map, hk]; rfl
    rw [← h, List.getElem?_map] at h1
    cases ha : a[k]? with
    | none => rw [ha] at h1; cases h1
    | some q0 => rw [ha] at h1; exact ⟨q0, rfl, Option.some.inj h1⟩
  refine ⟨fun i j x y hi hj e => ?_, fun k q hk => ?_⟩
  · obtain ⟨x0, h1, h2⟩ := key i x hi
    obtain ⟨y0, h3, h4⟩ := key j y hj
    exact hD.1 i j x0 y0 h1 h3 (h2.trans (e.trans h4.symm))
  · obtain ⟨q0, h1, h2⟩ := key k q hk
    rw [← h2]; exact hD.2 k q0 h1
theorem va_P_refs {D : va_G} {cl : List vw_C} {x : Nat × va_E} {qa n : Nat} {c : ClassId} {f g : Nat → Option Nat} {L : va_W} {H : Heap} (hfg : ∀ j, j < n → f j = g j) (h : va_P D cl (x :: (qa, .inl (c, n, .inr (.inr (.inr (.inr f))))) :: L) H) : va_P D cl (x :: (qa, .inl (c, n, .inr (.inr (.inr (.inr g))))) :: L) H := by
  intro k q hk
  match k, hk with
  | 0, hk => exact h 0 q hk
  | 1, hk =>
    cases hk
    have h1 := h 1 _ rfl
    show H[qa]? = some (vp_cell c _)
    have h2 : H[qa]? = some (vp_cell c (n, .inr (.inr (.inr (.inr f))))) := h1
    rw [h2, vp_cell_q, vp_cell_q]
    exact congrArg some (arrV_ext (fun j hj => by rw [hfg j hj]))
  | k + 2, hk => exact h (k + 2) q hk
theorem q_refs {X : Cx} {x : Nat × va_E} {qa n : Nat} {c9 : ClassId} {f g : Nat → Option Nat} {L : va_W} {cells slots pc : Nat} {lv : List (Nat × Value)} {st : List Value} (hfg : ∀ j, j < n → f j = g j) (k : Wc X (x :: (qa, .inl (c9, n, .inr (.inr (.inr (.inr g))))) :: L) cells slots pc lv st) : Wc X (x :: (qa, .inl (c9, n, .inr (.inr (.inr (.inr f))))) :: L) cells slots pc lv st := by
  obtain ⟨G, l, sz, Q, c0, s0, p, e, R, s, m, args, below, meth, c, nL⟩ := X
  intro H locs ls hP hD hS hl
  exact k H locs ls (va_P_refs hfg hP) (va_D_fst (by simp) hD) hS hl
/-- scenes, four cells each -/
def scs (pl : Nat) (cy : Nat → ClassId) (a : Nat → Nat) : Nat → va_W
  | 0 => []
  | i + 1 => scs pl cy a i ++ B_X3 pl cy (a (4 * i)) (fun k => a (4 * i + k))
theorem scs_eq {pl : Nat} {cy : Nat → ClassId} {a b : Nat → Nat} : ∀ i, (∀ k, k < 4 * i → a k = b k) → scs pl cy a i = scs pl cy b i
  | 0, _ => rfl
  | i + 1, h => by
    rw [scs, scs, scs_eq i (fun k hk => h k (by omega))]
    unfold B_X3
    simp only [h (4 * i) (by omega), h (4 * i + 1) (by omega), h (4 * i + 2) (by omega), h (4 * i + 3) (by omega)]
def B_X0 (pl : Nat) (cy : Nat → ClassId) (h0 : Nat) (a : Nat → Nat) : va_W := (h0, .inr (0, [.ref (a 1), .int 0, .int 0])) :: (a 1, .inl (cy 2, 16, .inr (.inr (.inr (.inr (fun j => some (a (2 + 4 * j)))))))) :: scs pl cy (fun k => a (2 + k)) 16
theorem hd_X0_init : yX0_init.cls ≠ "java/lang/invoke/MethodHandle" ∧ yX0_init.cls ≠ "java/lang/invoke/VarHandle" ∧ (parseMethodDescriptor yX0_init.desc).map (fun d => d.parameters.length) = some 1 := by decide +kernel
set_option maxHeartbeats 4000000 in
set_option maxRecDepth 100000 in
theorem i_X0_loop {X : Cx} {pl qa : Nat} (hRq : Rq X 65 288 (B_X0 pl (g_cy X.1) (g_ad X.1 0))) (hRc : Rc X 65 288) (O : Ok X cX0_init RX0 none wsX0_init 2 33 3) : ∀ (n i : Nat) (a : Nat → Nat) (f : Nat → Option Nat), i + n = 16 → (∀ j, j < i → f j = some (a (4 * j))) → Wc X ((g_ad X.1 0, .inr (0, [.ref qa, .int 0, .int 0])) :: (qa, .inl (g_cy X.1 2, 16, .inr (.inr (.inr (.inr f))))) :: scs pl (g_cy X.1) a i) (1 + 4 * i) (16 + 17 * i) 25 [(2, .int (nI i)), (0, .ref (g_ad X.1 0)), (1, .ref pl)] [] := by
  intro n
  induction n with
  | zero =>
    intro i a f hi hf
    have hi : i = 16 := by omega
    subst hi
    refine q_iload_n O dX0_init_25 0 rfl ?_
    refine q_bipush O dX0_init_26 (v := 16) (by decide) ?_
    refine q_icmp_ge O 51 dX0_init_28 (by decide) (fun c => ?_) (fun c => absurd (by decide) c)
    refine q_refs (g := fun j => some (a (4 * j))) hf ?_
    refine q_vret O hRq (fun k => if k = 1 then qa else a (k - 2)) ?_ dX0_init_51
    unfold B_X0
    have e1 : (fun k => (fun k => if k = 1 then qa else a (k - 2)) (2 + k)) = a := by
      funext k
      show (if 2 + k = 1 then qa else a (2 + k - 2)) = a k
      rw [if_neg (by omega), Nat.add_sub_cancel_left]
    have e2 : (fun j => some ((fun k => if k = 1 then qa else a (k - 2)) (2 + 4 * j))) = fun j => some (a (4 * j)) := by
      funext j
      exact congrArg some (congrFun e1 (4 * j))
    rw [e1, e2]
    rfl
  | succ n ih =>
    intro i a f hi hf
    have hlt : i < 16 := by omega
    refine q_iload_n O dX0_init_25 0 rfl ?_
    refine q_bipush O dX0_init_26 (v := 16) (by decide) ?_
    refine q_icmp_ge O 51 dX0_init_28 (by decide) (fun c => absurd c (nI_ge (b := 16) hlt (by decide))) (fun c => ?_)
    refine q_aload_n O dX0_init_31 1 rfl ?_
    refine q_get O (v := .ref qa) 0 rfl rfl 0 (by decide) (fun _ h9 => List.mem_cons_of_mem _ (List.mem_append_left _ (List.mem_append_right _ h9))) (List.mem_of_getElem? (i := 5) rfl) rfl dX0_init_32 ?_
    refine q_iload_n O dX0_init_35 0 rfl ?_
    refine q_new O hRc (ci := 3) (fs := [.null, .int 0, .int 0, .int 0, .null, .null, .null]) tyX3 tyX3_ok (fun _ h9 => List.mem_cons_of_mem _ (List.mem_append_right _ h9)) (List.mem_of_getElem? (i := 4) rfl) (List.mem_of_getElem? (i := 8) rfl) (List.mem_of_getElem? (i := 9) rfl) rfl (fun j hj => by rcases (show j = 0 ∨ j = 1 ∨ j = 2 ∨ j = 3 ∨ j = 4 ∨ j = 5 ∨ j = 6 by omega) with rfl | rfl | rfl | rfl | rfl | rfl | rfl <;> rfl) ⟨by omega, by omega⟩ dX0_init_36 (fun q => ?_)
    refine q_dup O dX0_init_39 rfl ?_
    refine q_aload_n O dX0_init_40 2 rfl ?_
    refine q_callI O hRc (As := [.ref pl]) (rest := [.ref q, .int (nI i), .ref qa]) (q := q) (i_X3 (x_l X) (g1 X.1 q) pl) gX0_init_X3_init rfl (List.mem_of_getElem? (i := 9) rfl) (List.mem_of_getElem? (i := 10) rfl) (List.mem_of_getElem? (i := 11) rfl) rfl hd_X3_init (by decide) ⟨by omega, by omega⟩ rfl rfl rfl (Nat.le_of_ble_eq_true rfl) dX0_init_41 (fun a1 => ?_)
    refine q_aast O (i := nI i) (f := f) (ci := 3) 1 (2 + (scs pl (g_cy X.1) a i).length) rfl (by
      show ((_ :: _ :: scs pl (g_cy X.1) a i) ++ B_X3 pl (g_cy X.1) q a1)[2 + (scs pl (g_cy X.1) a i).length]? = some (q, .inr (3, [.ref pl, .int 0, .int 0, .int 0, .ref (a1 1), .ref (a1 2), .ref (a1 3)]))
      rw [List.getElem?_append_right (by simp; omega)]
      rw [show 2 + (scs pl (g_cy X.1) a i).length - (_ :: _ :: scs pl (g_cy X.1) a i : va_W).length = 0 by simp; omega]
      rfl) (by unfold inb; exact decide_eq_true (nI_in hlt (by decide))) rfl dX0_init_44 ?_
    obtain ⟨z, ez⟩ : ∃ z : Int32, z = nI i + 1 := ⟨_, rfl⟩
    refine q_iinc (lv' := [(2, .int z), (0, .ref (g_ad X.1 0)), (1, .ref pl)]) O dX0_init_45 0 rfl (by rw [ez]; rfl) (by decide) rfl ?_
    refine q_goto O 25 dX0_init_48 (by decide) ?_
    refine q_wd (k := 1 + 4 * (i + 1)) (n := 16 + 17 * (i + 1)) (by omega) (by omega) ?_
    have e9 : (nI i).toNatClampNeg = i := nI_clamp (by omega)
    have key := ih (i + 1) (fun k => if k < 4 * i then a k else if k = 4 * i then q else a1 (k - 4 * i)) (va_up f i (some q)) (by omega) (fun j hj => by
      by_cases hji : j = i
      · subst hji
        simp [va_up]
      · rw [va_up_ne _ _ hji, hf j (by omega), if_pos (by omega)])
    have es : scs pl (g_cy X.1) (fun k => if k < 4 * i then a k else if k = 4 * i then q else a1 (k - 4 * i)) (i + 1) = scs pl (g_cy X.1) a i ++ B_X3 pl (g_cy X.1) q a1 := by
      rw [scs, scs_eq i (b := a) (fun k hk => if_pos hk)]
      congr 1
      unfold B_X3
      simp
      exact ⟨fun h => absurd h (by omega), fun h => absurd h (by omega), fun h => absurd h (by omega)⟩
    rw [es] at key
    rw [e9, ez, nI_1]
    exact key
set_option maxHeartbeats 4000000 in
set_option maxRecDepth 100000 in
theorem i_X0 (l : Launch) (G : Gl) (pl : Nat) : Ci l yX0_init wsX0_init 2 33 65 288 G [.ref (g_ad G 0), .ref pl] (.inr (0, [.null, .int 0, .int 0])) (B_X0 pl (g_cy G) (g_ad G 0)) := by
  refine Ci.start (by decide) rfl rfl rfl rfl (Nat.le_of_ble_eq_true rfl) (fun X hG hRq hl hRc hMi O => ?_)
  subst hG
  subst hl
  refine q_aload_n O dX0_init_0 0 rfl ?_
  refine q_objInit O (List.mem_of_getElem? (i := 1) rfl) (List.mem_of_getElem? (i := 2) rfl) (List.mem_of_getElem? (i := 3) rfl) (by decide) (by decide) dX0_init_1 ?_
  refine q_aload_n O dX0_init_4 0 rfl ?_
  refine q_bipush O dX0_init_5 (v := 16) (by decide) ?_
  refine q_newq O hRc (List.mem_of_getElem? (i := 4) rfl) (by decide) (N9 := 16) (by decide) (by decide) (by decide) dX0_init_7 (fun qa => ?_)
  refine q_ws (ws9 := [(g_ad X.1 0, .inr (0, [.null, .int 0, .int 0])), (qa, .inl (g_cy X.1 2, 16, .inr (.inr (.inr (.inr (fun _ => none))))))]) rfl ?_
  refine q_putF O (v := .ref qa) (ws9 := [(g_ad X.1 0, .inr (0, [.ref qa, .int 0, .int 0])), (qa, .inl (g_cy X.1 2, 16, .inr (.inr (.inr (.inr (fun _ => none))))))]) tyX0 tyX0_ok nmX0 0 rfl rfl 0 (by decide) (fun _ h9 => List.mem_cons_of_mem _ (List.mem_append_left _ (List.mem_append_right _ h9))) (List.mem_of_getElem? (i := 5) rfl) rfl hMi rfl rfl rfl (Nat.le_of_ble_eq_true rfl) rfl dX0_init_10 ?_
  refine q_aload_n O dX0_init_13 0 rfl ?_
  refine q_iconst O dX0_init_14 (v := 0) (by decide) ?_
  refine q_put O (v := .int 0) (ws9 := [(g_ad X.1 0, .inr (0, [.ref qa, .int 0, .int 0])), (qa, .inl (g_cy X.1 2, 16, .inr (.inr (.inr (.inr (fun _ => none))))))]) tyX0 tyX0_ok nmX0 0 rfl rfl 1 (by decide) (fun _ h9 => List.mem_cons_of_mem _ (List.mem_append_left _ (List.mem_append_right _ h9))) (List.mem_of_getElem? (i := 6) rfl) rfl rfl rfl (Nat.le_of_ble_eq_true rfl) rfl dX0_init_15 ?_
  refine q_aload_n O dX0_init_18 0 rfl ?_
  refine q_iconst O dX0_init_19 (v := 0) (by decide) ?_
  refine q_put O (v := .int 0) (ws9 := [(g_ad X.1 0, .inr (0, [.ref qa, .int 0, .int 0])), (qa, .inl (g_cy X.1 2, 16, .inr (.inr (.inr (.inr (fun _ => none))))))]) tyX0 tyX0_ok nmX0 0 rfl rfl 2 (by decide) (fun _ h9 => List.mem_cons_of_mem _ (List.mem_append_left _ (List.mem_append_right _ h9))) (List.mem_of_getElem? (i := 7) rfl) rfl rfl rfl (Nat.le_of_ble_eq_true rfl) rfl dX0_init_20 ?_
  refine q_iconst O dX0_init_23 (v := 0) (by decide) ?_
  refine q_istore_n (lv' := [(2, .int 0), (0, .ref (g_ad X.1 0)), (1, .ref pl)]) O dX0_init_24 rfl (by decide) rfl ?_
  exact i_X0_loop hRq hRc O 16 0 (fun _ => 0) (fun _ => none) rfl (fun j hj => absurd hj (Nat.not_lt_zero j))
