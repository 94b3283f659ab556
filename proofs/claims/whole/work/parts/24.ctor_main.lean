theorem q_refsP {X : Cx} {P L : va_W} {qa n : Nat} {c9 : ClassId} {f g : Nat → Option Nat} {cells slots pc : Nat} {lv : List (Nat × Value)} {st : List Value} (hfg : ∀ j, j < n → f j = g j) (k : Wc X (P ++ (qa, .inl (c9, n, .inr (.inr (.inr (.inr g))))) :: L) cells slots pc lv st) : Wc X (P ++ (qa, .inl (c9, n, .inr (.inr (.inr (.inr f))))) :: L) cells slots pc lv st := by
  obtain ⟨G, l, sz, Q, c0, s0, p, e, R, s, m, args, below, meth, c, nL⟩ := X
  intro H locs ls hP hD hS hl
  refine k H locs ls ((va_P_l hP).app ?_) (va_D_fst (by simp) hD) hS hl
  have h2 := va_P_r hP
  intro k q hk
  match k, hk with
  | 0, hk =>
    cases hk
    have h1 := h2 0 _ rfl
    show H[qa]? = some (vp_cell c9 _)
    have h3 : H[qa]? = some (vp_cell c9 (n, .inr (.inr (.inr (.inr f))))) := h1
    rw [h3, vp_cell_q, vp_cell_q]
    exact congrArg some (arrV_ext (fun j hj => by rw [hfg j hj]))
  | k + 1, hk => exact h2 (k + 1) q hk
theorem q_callW {X : Cx} {cc : ByteArray} {own : String} {ret9 : Option FieldType} {Ts : List Cond} {fr lo mL : Nat} {ws : va_W} {cells slots pc : Nat} {lv : List (Nat × Value)} {st : List Value} {MC MS : Nat} (O : Ok X cc own ret9 Ts fr lo mL) (hRc : Rc X MC MS) {y : MethodName} {bytes : ByteArray} {maxL cfr clo index n : Nat} {ret' : Option FieldType} {wy wy' : List Cond} {As rest : List Value} {C : String} {b ci j0 : Nat} {fs : List Value} {q : vw_C} (G1 : Gl) {w w1 : Wd} (hg : gD G1 = gD X.1 ∧ g_cy G1 = g_cy X.1 ∧ g_ta G1 = g_ta X.1) (hws : ws = wl G1 w) (hM : Ct (x_l X) y wy cfr clo G1 (.ref b :: As) w (none, w1)) (hG : GoodIn Ts (wsV own index C y wy)) (hw : wy = Cond.code y bytes maxL ret' :: wy') (hd : y.cls ≠ "java/lang/invoke/MethodHandle" ∧ y.cls ≠ "java/lang/invoke/VarHandle" ∧ (parseMethodDescriptor y.desc).map (fun d => d.parameters.length) = some n) (hR9 : cfr + 1 ≤ fr ∧ 8 + (maxL + 11) + clo ≤ lo) (he : ws[j0]? = some (b, .inr (ci, fs))) (hc : vwCl[ci]? = some q) (hC : q.1 = C) (hyC : y.cls = C) (hcs : cells ≤ MC ∧ slots ≤ MS) (hn : As.length = n) (hst : st = As.reverse ++ .ref b :: rest) (hcat : (rest.map fun v => v.category).sum ≤ 8) (hdg : decode cc pc = .ok (.invokevirtual index, 3)) (kk : Wc X (wl G1 w1) cells slots (pc + 3) lv rest) : Wc X ws cells slots pc lv st := by
  obtain ⟨G, l, sz, Q, c0, s0, p, e, R, s, m, args, below, meth, c, nL⟩ := X
  obtain ⟨hx, hb, hr, hml, hown, hts, hlk, hSw, hsz, hR, hmL⟩ := O
  intro H locs ls hP hD hS hl
  subst hst
  obtain ⟨hRc1, hRc2⟩ := hRc
  obtain ⟨hg1, hg2, hg3⟩ := hg
  have hrecv := va_recv hSw.1 hP hc he
  subst hws
  have hsS : sz ≤ H.size := by rw [← hsz]; exact hS.1
  have hAA : ∀ z, Aw G1 H.size z → Aw G sz z := fun z hz => by
    rcases hz with ⟨k, hk, rfl⟩ | hz
    · exact hD.2 k _ (wl_at hk)
    · exact Or.inr (Nat.le_trans hsS hz)
  have hSw1 : Sw G1 (Aw G1 H.size) s H := by
    have h9 := (hSw.kept (fun a h1 h2 => hS.2.1 a h1 h2)).narrow hAA
    unfold Sw at h9 ⊢
    unfold gtys at h9 ⊢
    rw [hg1, hg2, hg3]
    exact h9
  have hpre : ∀ U : State, U.heap = H → s.WarmedH U.vm → va_Pc (.ref b :: As) (Pw G1 H.size w) (Value.ref b :: As).toArray U := fun U hU hW => ⟨rfl, by rw [hU], ⟨by rw [hU, hg1]; exact hP, Aw_D (a := 0) hD⟩, by rw [hU]; exact Sw.moved hW hSw1⟩
  have hrun := va_runV (R := R) (As := As) (rest := rest) (locs := locs) (cells := cells) (slots := slots) (g := F0 m pc ls (As.reverse ++ .ref b :: rest)) (below := below) (meth := meth) (e := e) ⟨hx, hb, hml, hown, hts⟩ (hM H.size) (cwV n hts hG hw rfl rfl ⟨hyC, hd⟩ ⟨Nat.le_trans hR9.1 hR.1, Nat.le_trans hR9.2 hR.2.1⟩) ⟨Pw_blind, by rw [← hC]; exact hrecv, hpre⟩ rfl hn hl.1 rfl (lv_room hcat) hdg ⟨by rw [hRc1]; exact hcs.1, by rw [hRc2]; exact hcs.2⟩
  intro T hT X9
  obtain ⟨v, st₀, t, T', L, h0, X', hL, e1, e2, ⟨hv, ⟨hb1, hb2⟩, hz, hk⟩, stp⟩ := hrun T hT X9
  have hv : v = none := by injection hv
  subst hv
  rw [h0] at hz hk
  rw [hg1] at hb1
  obtain ⟨t2, a1, b1⟩ := kk T'.heap (locs ++ L) ls (by rw [e1]; exact hb1) (hb2.weaken (fun k z _ h => hAA _ h)) ⟨Nat.le_trans hS.1 (by rw [e1]; exact hz), fun q h1 h2 => by rw [e1, hk q (Nat.lt_of_lt_of_le h1 hS.1) (fun z => h2 (hAA q z))]; exact hS.2.1 q h1 h2, fun q hq => by
      rcases List.mem_append.mp hq with h | h
      · exact hS.2.2 q h
      · exact hAA _ (hL q h)⟩ hl T' rfl X'
  exact ⟨t2, stp t2 a1, b1⟩
/-- the memory as the first scene begins, and behind that -/
def wB : Wd := (fun k => if k = 10 then (fun j => if j = 0 then 3 else 0) else fun _ => 0, fun _ => 0)
def wI : Wd := up (up (up (up (up (up (up (up (up (up (up (up (up wB 18 1 0) 18 2 0) 18 3 0) 19 0 0) 19 1 0) 20 0 0) 21 0 (-9)) 20 1 0) 21 1 (-9)) 20 2 0) 21 2 (-9)) 20 3 0) 21 3 (-9)
set_option maxRecDepth 100000 in
theorem begin_wB : f_X3_begin 18 wB = some wI := by rfl
/-- the memory of a new object -/
def wX : Wd := (fun k => if k < 22 then wI.1 k else if k = 94 then (fun j => if j = 2 then -9 else 0) else fun _ => 0, fun _ => 0)
abbrev gX (G : Gl) (ad : Nat → Nat) (N : Nat) (mz : Option (List Value)) : Gl := (G.1, G.2.1, ad, g_cy G, N, g_ta G, mz)
def B_X7 (G : Gl) (h0 : Nat) (a : Nat → Nat) : va_W := wl (gX G (fun k => if k = 0 then h0 else a k) 105 none) wX
theorem hd_X7_init : yX7_init.cls ≠ "java/lang/invoke/MethodHandle" ∧ yX7_init.cls ≠ "java/lang/invoke/VarHandle" ∧ (parseMethodDescriptor yX7_init.desc).map (fun d => d.parameters.length) = some 0 := by decide +kernel
set_option maxHeartbeats 8000000 in
set_option maxRecDepth 100000 in
theorem i_X7 (l : Launch) (G : Gl) : Ci l yX7_init wsX7_init 3 55 104 539 G [.ref (g_ad G 0)] (.inr (7, [.null, .null, .null, .null, .null, .null, .null, .null, .null, .null, .null, .long 0])) (B_X7 G (g_ad G 0)) := by
  refine Ci.start (by decide) rfl rfl rfl rfl (Nat.le_of_ble_eq_true rfl) (fun X hG hRq hl hRc hMi O => ?_)
  subst hG
  subst hl
  refine q_aload_n O dX7_init_0 0 rfl ?_
  refine q_objInit O (List.mem_of_getElem? (i := 1) rfl) (List.mem_of_getElem? (i := 2) rfl) (List.mem_of_getElem? (i := 3) rfl) (by decide) (by decide) dX7_init_1 ?_
  refine q_aload_n O dX7_init_4 0 rfl ?_
  refine q_new O hRc (ci := 5) (fs := [.null, .int 0]) tyX5 tyX5_ok (fun _ h9 => List.mem_cons_of_mem _ (List.mem_append_left _ (List.mem_append_left _ (List.mem_append_left _ (List.mem_append_left _ (List.mem_append_left _ (List.mem_append_left _ (List.mem_append_left _ (List.mem_append_right _ h9))))))))) (List.mem_of_getElem? (i := 4) rfl) (List.mem_of_getElem? (i := 5) rfl) (List.mem_of_getElem? (i := 6) rfl) rfl (fun j hj => by rcases (show j = 0 ∨ j = 1 by omega) with rfl | rfl <;> rfl) (by decide) dX7_init_5 (fun qT => ?_)
  refine q_dup O dX7_init_8 rfl ?_
  refine q_callIN O hRc (As := []) (rest := [.ref qT, .ref (g_ad X.1 0)]) (q := qT) (i_X5 (x_l X) (g1 X.1 qT)) gX7_init_X5_init_n9 rfl (List.mem_of_getElem? (i := 6) rfl) (List.mem_of_getElem? (i := 0) rfl) (List.mem_of_getElem? (i := 38) rfl) rfl hd_X5_init (by decide) (by decide) rfl rfl rfl (Nat.le_of_ble_eq_true rfl) dX7_init_9 (fun a5 => ?_)
  refine q_ws (ws9 := (g_ad X.1 0, .inr (7, [.null, .null, .null, .null, .null, .null, .null, .null, .null, .null, .null, .long 0])) :: B_X5 (g_cy X.1) qT a5) rfl ?_
  refine q_putF O (v := .ref qT) (ws9 := (g_ad X.1 0, .inr (7, [.ref qT, .null, .null, .null, .null, .null, .null, .null, .null, .null, .null, .long 0])) :: B_X5 (g_cy X.1) qT a5) tyX7 tyX7_ok nmX7 0 rfl rfl 0 (by decide) (fun _ h9 => List.mem_cons_of_mem _ (List.mem_append_left _ (List.mem_append_left _ (List.mem_append_left _ (List.mem_append_left _ (List.mem_append_left _ (List.mem_append_left _ (List.mem_append_right _ h9)))))))) (List.mem_of_getElem? (i := 7) rfl) rfl hMi rfl rfl rfl (Nat.le_of_ble_eq_true rfl) rfl dX7_init_12 ?_
  refine q_aload_n O dX7_init_15 0 rfl ?_
  refine q_new O hRc (ci := 1) (fs := [.int 0, .int 0, .int 0, .int 0, .int 0, .int 0, .null, .null, .null, .null, .null, .null]) tyX1 tyX1_ok (fun _ h9 => List.mem_cons_of_mem _ (List.mem_append_left _ (List.mem_append_left _ (List.mem_append_left _ (List.mem_append_left _ (List.mem_append_left _ (List.mem_append_right _ h9))))))) (List.mem_of_getElem? (i := 8) rfl) (List.mem_of_getElem? (i := 9) rfl) (List.mem_of_getElem? (i := 10) rfl) rfl (fun j hj => by rcases (show j = 0 ∨ j = 1 ∨ j = 2 ∨ j = 3 ∨ j = 4 ∨ j = 5 ∨ j = 6 ∨ j = 7 ∨ j = 8 ∨ j = 9 ∨ j = 10 ∨ j = 11 by omega) with rfl | rfl | rfl | rfl | rfl | rfl | rfl | rfl | rfl | rfl | rfl | rfl <;> rfl) (by decide) dX7_init_16 (fun qD => ?_)
  refine q_dup O dX7_init_19 rfl ?_
  refine q_callIN O hRc (As := []) (rest := [.ref qD, .ref (g_ad X.1 0)]) (q := qD) (i_X1 (x_l X) (g1 X.1 qD)) gX7_init_X1_init_n18 rfl (List.mem_of_getElem? (i := 10) rfl) (List.mem_of_getElem? (i := 1) rfl) (List.mem_of_getElem? (i := 44) rfl) rfl hd_X1_init (by decide) (by decide) rfl rfl rfl (Nat.le_of_ble_eq_true rfl) dX7_init_20 (fun a1 => ?_)
  refine q_ws (ws9 := (g_ad X.1 0, .inr (7, [.ref qT, .null, .null, .null, .null, .null, .null, .null, .null, .null, .null, .long 0])) :: (B_X5 (g_cy X.1) qT a5 ++ B_X1 (g_cy X.1) qD a1)) rfl ?_
  refine q_putF O (v := .ref qD) (ws9 := (g_ad X.1 0, .inr (7, [.ref qT, .null, .ref qD, .null, .null, .null, .null, .null, .null, .null, .null, .long 0])) :: (B_X5 (g_cy X.1) qT a5 ++ B_X1 (g_cy X.1) qD a1)) tyX7 tyX7_ok nmX7 0 rfl rfl 2 (by decide) (fun _ h9 => List.mem_cons_of_mem _ (List.mem_append_left _ (List.mem_append_left _ (List.mem_append_left _ (List.mem_append_left _ (List.mem_append_left _ (List.mem_append_left _ (List.mem_append_right _ h9)))))))) (List.mem_of_getElem? (i := 11) rfl) rfl hMi rfl rfl rfl (Nat.le_of_ble_eq_true rfl) rfl dX7_init_23 ?_
  refine q_aload_n O dX7_init_26 0 rfl ?_
  refine q_new O hRc (ci := 2) (fs := [.null, .int 0, .int 0, .int 0, .int 0]) tyX2 tyX2_ok (fun _ h9 => List.mem_cons_of_mem _ (List.mem_append_left _ (List.mem_append_left _ (List.mem_append_left _ (List.mem_append_left _ (List.mem_append_right _ h9)))))) (List.mem_of_getElem? (i := 12) rfl) (List.mem_of_getElem? (i := 13) rfl) (List.mem_of_getElem? (i := 14) rfl) rfl (fun j hj => by rcases (show j = 0 ∨ j = 1 ∨ j = 2 ∨ j = 3 ∨ j = 4 by omega) with rfl | rfl | rfl | rfl | rfl <;> rfl) (by decide) dX7_init_27 (fun qR => ?_)
  refine q_dup O dX7_init_30 rfl ?_
  refine q_aload_n O dX7_init_31 0 rfl ?_
  refine q_get O (v := .ref qD) 0 rfl rfl 2 (by decide) (fun _ h9 => List.mem_cons_of_mem _ (List.mem_append_left _ (List.mem_append_left _ (List.mem_append_left _ (List.mem_append_left _ (List.mem_append_left _ (List.mem_append_left _ (List.mem_append_right _ h9)))))))) (List.mem_of_getElem? (i := 11) rfl) rfl dX7_init_32 ?_
  refine q_callI O hRc (As := [.ref qD]) (rest := [.ref qR, .ref (g_ad X.1 0)]) (q := qR) (i_X2 (x_l X) (g1 X.1 qR) qD) gX7_init_X2_init rfl (List.mem_of_getElem? (i := 14) rfl) (List.mem_of_getElem? (i := 59) rfl) (List.mem_of_getElem? (i := 60) rfl) rfl hd_X2_init (by decide) (by decide) rfl rfl rfl (Nat.le_of_ble_eq_true rfl) dX7_init_35 (fun a2 => ?_)
  refine q_ws (ws9 := (g_ad X.1 0, .inr (7, [.ref qT, .null, .ref qD, .null, .null, .null, .null, .null, .null, .null, .null, .long 0])) :: ((B_X5 (g_cy X.1) qT a5 ++ B_X1 (g_cy X.1) qD a1) ++ B_X2 qD (g_cy X.1) qR a2)) rfl ?_
  refine q_putF O (v := .ref qR) (ws9 := (g_ad X.1 0, .inr (7, [.ref qT, .ref qR, .ref qD, .null, .null, .null, .null, .null, .null, .null, .null, .long 0])) :: ((B_X5 (g_cy X.1) qT a5 ++ B_X1 (g_cy X.1) qD a1) ++ B_X2 qD (g_cy X.1) qR a2)) tyX7 tyX7_ok nmX7 0 rfl rfl 1 (by decide) (fun _ h9 => List.mem_cons_of_mem _ (List.mem_append_left _ (List.mem_append_left _ (List.mem_append_left _ (List.mem_append_left _ (List.mem_append_left _ (List.mem_append_left _ (List.mem_append_right _ h9)))))))) (List.mem_of_getElem? (i := 15) rfl) rfl hMi rfl rfl rfl (Nat.le_of_ble_eq_true rfl) rfl dX7_init_38 ?_
  refine q_aload_n O dX7_init_41 0 rfl ?_
  refine q_new O hRc (ci := 1) (fs := [.int 0, .int 0, .int 0, .int 0, .int 0, .int 0, .null, .null, .null, .null, .null, .null]) tyX1 tyX1_ok (fun _ h9 => List.mem_cons_of_mem _ (List.mem_append_left _ (List.mem_append_left _ (List.mem_append_left _ (List.mem_append_left _ (List.mem_append_left _ (List.mem_append_right _ h9))))))) (List.mem_of_getElem? (i := 8) rfl) (List.mem_of_getElem? (i := 9) rfl) (List.mem_of_getElem? (i := 10) rfl) rfl (fun j hj => by rcases (show j = 0 ∨ j = 1 ∨ j = 2 ∨ j = 3 ∨ j = 4 ∨ j = 5 ∨ j = 6 ∨ j = 7 ∨ j = 8 ∨ j = 9 ∨ j = 10 ∨ j = 11 by omega) with rfl | rfl | rfl | rfl | rfl | rfl | rfl | rfl | rfl | rfl | rfl | rfl <;> rfl) (by decide) dX7_init_42 (fun qP => ?_)
  refine q_dup O dX7_init_45 rfl ?_
  refine q_callIN O hRc (As := []) (rest := [.ref qP, .ref (g_ad X.1 0)]) (q := qP) (i_X1 (x_l X) (g1 X.1 qP)) gX7_init_X1_init_n18 rfl (List.mem_of_getElem? (i := 10) rfl) (List.mem_of_getElem? (i := 1) rfl) (List.mem_of_getElem? (i := 44) rfl) rfl hd_X1_init (by decide) (by decide) rfl rfl rfl (Nat.le_of_ble_eq_true rfl) dX7_init_46 (fun a7 => ?_)
  refine q_ws (ws9 := (g_ad X.1 0, .inr (7, [.ref qT, .ref qR, .ref qD, .null, .null, .null, .null, .null, .null, .null, .null, .long 0])) :: (((B_X5 (g_cy X.1) qT a5 ++ B_X1 (g_cy X.1) qD a1) ++ B_X2 qD (g_cy X.1) qR a2) ++ B_X1 (g_cy X.1) qP a7)) rfl ?_
  refine q_putF O (v := .ref qP) (ws9 := (g_ad X.1 0, .inr (7, [.ref qT, .ref qR, .ref qD, .ref qP, .null, .null, .null, .null, .null, .null, .null, .long 0])) :: (((B_X5 (g_cy X.1) qT a5 ++ B_X1 (g_cy X.1) qD a1) ++ B_X2 qD (g_cy X.1) qR a2) ++ B_X1 (g_cy X.1) qP a7)) tyX7 tyX7_ok nmX7 0 rfl rfl 3 (by decide) (fun _ h9 => List.mem_cons_of_mem _ (List.mem_append_left _ (List.mem_append_left _ (List.mem_append_left _ (List.mem_append_left _ (List.mem_append_left _ (List.mem_append_left _ (List.mem_append_right _ h9)))))))) (List.mem_of_getElem? (i := 16) rfl) rfl hMi rfl rfl rfl (Nat.le_of_ble_eq_true rfl) rfl dX7_init_49 ?_
  refine q_aload_n O dX7_init_52 0 rfl ?_
  refine q_new O hRc (ci := 3) (fs := [.null, .int 0, .int 0, .int 0, .null, .null, .null]) tyX3 tyX3_ok (fun _ h9 => List.mem_cons_of_mem _ (List.mem_append_left _ (List.mem_append_left _ (List.mem_append_left _ (List.mem_append_right _ h9))))) (List.mem_of_getElem? (i := 17) rfl) (List.mem_of_getElem? (i := 18) rfl) (List.mem_of_getElem? (i := 19) rfl) rfl (fun j hj => by rcases (show j = 0 ∨ j = 1 ∨ j = 2 ∨ j = 3 ∨ j = 4 ∨ j = 5 ∨ j = 6 by omega) with rfl | rfl | rfl | rfl | rfl | rfl | rfl <;> rfl) (by decide) dX7_init_53 (fun qN => ?_)
  refine q_dup O dX7_init_56 rfl ?_
  refine q_aload_n O dX7_init_57 0 rfl ?_
  refine q_get O (v := .ref qP) 0 rfl rfl 3 (by decide) (fun _ h9 => List.mem_cons_of_mem _ (List.mem_append_left _ (List.mem_append_left _ (List.mem_append_left _ (List.mem_append_left _ (List.mem_append_left _ (List.mem_append_left _ (List.mem_append_right _ h9)))))))) (List.mem_of_getElem? (i := 16) rfl) rfl dX7_init_58 ?_
  refine q_callI O hRc (As := [.ref qP]) (rest := [.ref qN, .ref (g_ad X.1 0)]) (q := qN) (i_X3 (x_l X) (g1 X.1 qN) qP) gX7_init_X3_init rfl (List.mem_of_getElem? (i := 19) rfl) (List.mem_of_getElem? (i := 68) rfl) (List.mem_of_getElem? (i := 69) rfl) rfl hd_X3_init (by decide) (by decide) rfl rfl rfl (Nat.le_of_ble_eq_true rfl) dX7_init_61 (fun a3 => ?_)
  refine q_ws (ws9 := (g_ad X.1 0, .inr (7, [.ref qT, .ref qR, .ref qD, .ref qP, .null, .null, .null, .null, .null, .null, .null, .long 0])) :: ((((B_X5 (g_cy X.1) qT a5 ++ B_X1 (g_cy X.1) qD a1) ++ B_X2 qD (g_cy X.1) qR a2) ++ B_X1 (g_cy X.1) qP a7) ++ B_X3 qP (g_cy X.1) qN a3)) rfl ?_
  refine q_putF O (v := .ref qN) (ws9 := (g_ad X.1 0, .inr (7, [.ref qT, .ref qR, .ref qD, .ref qP, .ref qN, .null, .null, .null, .null, .null, .null, .long 0])) :: ((((B_X5 (g_cy X.1) qT a5 ++ B_X1 (g_cy X.1) qD a1) ++ B_X2 qD (g_cy X.1) qR a2) ++ B_X1 (g_cy X.1) qP a7) ++ B_X3 qP (g_cy X.1) qN a3)) tyX7 tyX7_ok nmX7 0 rfl rfl 4 (by decide) (fun _ h9 => List.mem_cons_of_mem _ (List.mem_append_left _ (List.mem_append_left _ (List.mem_append_left _ (List.mem_append_left _ (List.mem_append_left _ (List.mem_append_left _ (List.mem_append_right _ h9)))))))) (List.mem_of_getElem? (i := 20) rfl) rfl hMi rfl rfl rfl (Nat.le_of_ble_eq_true rfl) rfl dX7_init_64 ?_
  refine q_aload_n O dX7_init_67 0 rfl ?_
  refine q_get O (v := .ref qN) 0 rfl rfl 4 (by decide) (fun _ h9 => List.mem_cons_of_mem _ (List.mem_append_left _ (List.mem_append_left _ (List.mem_append_left _ (List.mem_append_left _ (List.mem_append_left _ (List.mem_append_left _ (List.mem_append_right _ h9)))))))) (List.mem_of_getElem? (i := 20) rfl) rfl dX7_init_68 ?_
  obtain ⟨ad, hadd⟩ : ∃ z : Nat → Nat, z = (fun k => if k = 0 then g_ad X.1 0 else if k = 1 then qT else if k = 2 then a5 1 else if k = 3 then qD else if k < 10 then a1 (k - 3) else if k = 10 then qR else if k = 11 then qP else if k < 18 then a7 (k - 11) else if k = 18 then qN else a3 (k - 18)) := ⟨_, rfl⟩
  have e22 : (g_ad X.1 0, .inr (7, [.ref qT, .ref qR, .ref qD, .ref qP, .ref qN, .null, .null, .null, .null, .null, .null, .long 0])) :: ((((B_X5 (g_cy X.1) qT a5 ++ B_X1 (g_cy X.1) qD a1) ++ B_X2 qD (g_cy X.1) qR a2) ++ B_X1 (g_cy X.1) qP a7) ++ B_X3 qP (g_cy X.1) qN a3) = wl (gX X.1 ad 22 (some [.ref qT, .ref qR, .ref qD, .ref qP, .ref qN, .null, .null, .null, .null, .null, .null, .long 0])) wB := by rw [hadd]; rfl
  have hq18 : ad 18 = qN := by rw [hadd]; try rfl
  have hbeg : Ct (x_l X) yX3_begin wsX3_begin 1 20 (gX X.1 ad 22 (some [.ref qT, .ref qR, .ref qD, .ref qP, .ref qN, .null, .null, .null, .null, .null, .null, .long 0])) [.ref (ad 18)] wB (none, wI) := c_X3_begin (x_l X) (gX X.1 ad 22 (some [.ref qT, .ref qR, .ref qD, .ref qP, .ref qN, .null, .null, .null, .null, .null, .null, .long 0])) (b := 18) (by decide) (show 18 + 3 < 22 by decide) begin_wB
  rw [hq18] at hbeg
  refine q_callW O hRc (As := []) (rest := []) (b := qN) (C := RX3) (ci := 3) (j0 := 18) (fs := [.ref qP, .int 0, .int 0, .int 0, .ref (a3 1), .ref (a3 2), .ref (a3 3)]) (q := (RX3, TX3, 7)) (w1 := wI) (gX X.1 ad 22 (some [.ref qT, .ref qR, .ref qD, .ref qP, .ref qN, .null, .null, .null, .null, .null, .null, .long 0])) ⟨rfl, rfl, rfl⟩ e22 hbeg gX7_init_X3_begin rfl hd_X3_begin (by decide) rfl rfl rfl rfl (by decide) rfl rfl (Nat.le_of_ble_eq_true rfl) dX7_init_71 ?_
  have e23 : wl (gX X.1 ad 22 (some [.ref qT, .ref qR, .ref qD, .ref qP, .ref qN, .null, .null, .null, .null, .null, .null, .long 0])) wI = (g_ad X.1 0, .inr (7, [.ref qT, .ref qR, .ref qD, .ref qP, .ref qN, .null, .null, .null, .null, .null, .null, .long 0])) :: ((List.range 22).drop 1).map (fun k => (ad k, ent ad (g_cy X.1) none k (wI.1 k) (wI.2 k))) := by rw [show wl (gX X.1 ad 22 (some [.ref qT, .ref qR, .ref qD, .ref qP, .ref qN, .null, .null, .null, .null, .null, .null, .long 0])) wI = (ad 0, .inr (7, [.ref qT, .ref qR, .ref qD, .ref qP, .ref qN, .null, .null, .null, .null, .null, .null, .long 0])) :: ((List.range 22).drop 1).map (fun k => (ad k, ent ad (g_cy X.1) none k (wI.1 k) (wI.2 k))) from rfl]; rw [show ad 0 = g_ad X.1 0 from by rw [hadd]; rfl]
  refine q_ws e23 ?_
  obtain ⟨L22, hL22⟩ : ∃ z : va_W, z = ((List.range 22).drop 1).map (fun k => (ad k, ent ad (g_cy X.1) none k (wI.1 k) (wI.2 k))) := ⟨_, rfl⟩
  rw [← hL22]
  refine q_aload_n O dX7_init_74 0 rfl ?_
  refine q_new O hRc (ci := 3) (fs := [.null, .int 0, .int 0, .int 0, .null, .null, .null]) tyX3 tyX3_ok (fun _ h9 => List.mem_cons_of_mem _ (List.mem_append_left _ (List.mem_append_left _ (List.mem_append_left _ (List.mem_append_right _ h9))))) (List.mem_of_getElem? (i := 17) rfl) (List.mem_of_getElem? (i := 18) rfl) (List.mem_of_getElem? (i := 19) rfl) rfl (fun j hj => by rcases (show j = 0 ∨ j = 1 ∨ j = 2 ∨ j = 3 ∨ j = 4 ∨ j = 5 ∨ j = 6 by omega) with rfl | rfl | rfl | rfl | rfl | rfl | rfl <;> rfl) (by decide) dX7_init_75 (fun qM => ?_)
  refine q_dup O dX7_init_78 rfl ?_
  refine q_aload_n O dX7_init_79 0 rfl ?_
  refine q_get O (v := .ref qP) 0 rfl rfl 3 (by decide) (fun _ h9 => List.mem_cons_of_mem _ (List.mem_append_left _ (List.mem_append_left _ (List.mem_append_left _ (List.mem_append_left _ (List.mem_append_left _ (List.mem_append_left _ (List.mem_append_right _ h9)))))))) (List.mem_of_getElem? (i := 16) rfl) rfl dX7_init_80 ?_
  refine q_callI O hRc (As := [.ref qP]) (rest := [.ref qM, .ref (g_ad X.1 0)]) (q := qM) (i_X3 (x_l X) (g1 X.1 qM) qP) gX7_init_X3_init rfl (List.mem_of_getElem? (i := 19) rfl) (List.mem_of_getElem? (i := 68) rfl) (List.mem_of_getElem? (i := 69) rfl) rfl hd_X3_init (by decide) (by decide) rfl rfl rfl (Nat.le_of_ble_eq_true rfl) dX7_init_83 (fun a4 => ?_)
  refine q_ws (ws9 := (g_ad X.1 0, .inr (7, [.ref qT, .ref qR, .ref qD, .ref qP, .ref qN, .null, .null, .null, .null, .null, .null, .long 0])) :: (L22 ++ B_X3 qP (g_cy X.1) qM a4)) rfl ?_
  refine q_putF O (v := .ref qM) (ws9 := (g_ad X.1 0, .inr (7, [.ref qT, .ref qR, .ref qD, .ref qP, .ref qN, .ref qM, .null, .null, .null, .null, .null, .long 0])) :: (L22 ++ B_X3 qP (g_cy X.1) qM a4)) tyX7 tyX7_ok nmX7 0 rfl rfl 5 (by decide) (fun _ h9 => List.mem_cons_of_mem _ (List.mem_append_left _ (List.mem_append_left _ (List.mem_append_left _ (List.mem_append_left _ (List.mem_append_left _ (List.mem_append_left _ (List.mem_append_right _ h9)))))))) (List.mem_of_getElem? (i := 21) rfl) rfl hMi rfl rfl rfl (Nat.le_of_ble_eq_true rfl) rfl dX7_init_86 ?_
  refine q_aload_n O dX7_init_89 0 rfl ?_
  refine q_new O hRc (ci := 0) (fs := [.null, .int 0, .int 0]) tyX0 tyX0_ok (fun _ h9 => List.mem_cons_of_mem _ (List.mem_append_left _ (List.mem_append_left _ (List.mem_append_right _ h9)))) (List.mem_of_getElem? (i := 22) rfl) (List.mem_of_getElem? (i := 23) rfl) (List.mem_of_getElem? (i := 24) rfl) rfl (fun j hj => by rcases (show j = 0 ∨ j = 1 ∨ j = 2 by omega) with rfl | rfl | rfl <;> rfl) (by decide) dX7_init_90 (fun qA => ?_)
  refine q_dup O dX7_init_93 rfl ?_
  refine q_aload_n O dX7_init_94 0 rfl ?_
  refine q_get O (v := .ref qP) 0 rfl rfl 3 (by decide) (fun _ h9 => List.mem_cons_of_mem _ (List.mem_append_left _ (List.mem_append_left _ (List.mem_append_left _ (List.mem_append_left _ (List.mem_append_left _ (List.mem_append_left _ (List.mem_append_right _ h9)))))))) (List.mem_of_getElem? (i := 16) rfl) rfl dX7_init_95 ?_
  refine q_callI O hRc (As := [.ref qP]) (rest := [.ref qA, .ref (g_ad X.1 0)]) (q := qA) (i_X0 (x_l X) (g1 X.1 qA) qP) gX7_init_X0_init rfl (List.mem_of_getElem? (i := 24) rfl) (List.mem_of_getElem? (i := 90) rfl) (List.mem_of_getElem? (i := 91) rfl) rfl hd_X0_init (by decide) (by decide) rfl rfl rfl (Nat.le_of_ble_eq_true rfl) dX7_init_98 (fun a0 => ?_)
  refine q_ws (ws9 := (g_ad X.1 0, .inr (7, [.ref qT, .ref qR, .ref qD, .ref qP, .ref qN, .ref qM, .null, .null, .null, .null, .null, .long 0])) :: ((L22 ++ B_X3 qP (g_cy X.1) qM a4) ++ B_X0 qP (g_cy X.1) qA a0)) rfl ?_
  refine q_putF O (v := .ref qA) (ws9 := (g_ad X.1 0, .inr (7, [.ref qT, .ref qR, .ref qD, .ref qP, .ref qN, .ref qM, .ref qA, .null, .null, .null, .null, .long 0])) :: ((L22 ++ B_X3 qP (g_cy X.1) qM a4) ++ B_X0 qP (g_cy X.1) qA a0)) tyX7 tyX7_ok nmX7 0 rfl rfl 6 (by decide) (fun _ h9 => List.mem_cons_of_mem _ (List.mem_append_left _ (List.mem_append_left _ (List.mem_append_left _ (List.mem_append_left _ (List.mem_append_left _ (List.mem_append_left _ (List.mem_append_right _ h9)))))))) (List.mem_of_getElem? (i := 25) rfl) rfl hMi rfl rfl rfl (Nat.le_of_ble_eq_true rfl) rfl dX7_init_101 ?_
  refine q_aload_n O dX7_init_104 0 rfl ?_
  refine q_new O hRc (ci := 6) (fs := [.null, .null]) tyX6 tyX6_ok (fun _ h9 => List.mem_cons_of_mem _ (List.mem_append_left _ (List.mem_append_right _ h9))) (List.mem_of_getElem? (i := 26) rfl) (List.mem_of_getElem? (i := 27) rfl) (List.mem_of_getElem? (i := 28) rfl) rfl (fun j hj => by rcases (show j = 0 ∨ j = 1 by omega) with rfl | rfl <;> rfl) (by decide) dX7_init_105 (fun qW => ?_)
  refine q_dup O dX7_init_108 rfl ?_
  refine q_aload_n O dX7_init_109 0 rfl ?_
  refine q_get O (v := .ref qP) 0 rfl rfl 3 (by decide) (fun _ h9 => List.mem_cons_of_mem _ (List.mem_append_left _ (List.mem_append_left _ (List.mem_append_left _ (List.mem_append_left _ (List.mem_append_left _ (List.mem_append_left _ (List.mem_append_right _ h9)))))))) (List.mem_of_getElem? (i := 16) rfl) rfl dX7_init_110 ?_
  refine q_callI O hRc (As := [.ref qP]) (rest := [.ref qW, .ref (g_ad X.1 0)]) (q := qW) (i_X6 (x_l X) (g1 X.1 qW) qP) gX7_init_X6_init rfl (List.mem_of_getElem? (i := 28) rfl) (List.mem_of_getElem? (i := 99) rfl) (List.mem_of_getElem? (i := 100) rfl) rfl hd_X6_init (by decide) (by decide) rfl rfl rfl (Nat.le_of_ble_eq_true rfl) dX7_init_113 (fun a6 => ?_)
  refine q_ws (ws9 := (g_ad X.1 0, .inr (7, [.ref qT, .ref qR, .ref qD, .ref qP, .ref qN, .ref qM, .ref qA, .null, .null, .null, .null, .long 0])) :: (((L22 ++ B_X3 qP (g_cy X.1) qM a4) ++ B_X0 qP (g_cy X.1) qA a0) ++ B_X6 qP (g_cy X.1) qW a6)) rfl ?_
  refine q_putF O (v := .ref qW) (ws9 := (g_ad X.1 0, .inr (7, [.ref qT, .ref qR, .ref qD, .ref qP, .ref qN, .ref qM, .ref qA, .ref qW, .null, .null, .null, .long 0])) :: (((L22 ++ B_X3 qP (g_cy X.1) qM a4) ++ B_X0 qP (g_cy X.1) qA a0) ++ B_X6 qP (g_cy X.1) qW a6)) tyX7 tyX7_ok nmX7 0 rfl rfl 7 (by decide) (fun _ h9 => List.mem_cons_of_mem _ (List.mem_append_left _ (List.mem_append_left _ (List.mem_append_left _ (List.mem_append_left _ (List.mem_append_left _ (List.mem_append_left _ (List.mem_append_right _ h9)))))))) (List.mem_of_getElem? (i := 29) rfl) rfl hMi rfl rfl rfl (Nat.le_of_ble_eq_true rfl) rfl dX7_init_116 ?_
  refine q_aload_n O dX7_init_119 0 rfl ?_
  refine q_new O hRc (ci := 4) (fs := [.null, .int 0, .int 0]) tyX4 tyX4_ok (fun _ h9 => List.mem_cons_of_mem _ (List.mem_append_right _ h9)) (List.mem_of_getElem? (i := 30) rfl) (List.mem_of_getElem? (i := 31) rfl) (List.mem_of_getElem? (i := 32) rfl) rfl (fun j hj => by rcases (show j = 0 ∨ j = 1 ∨ j = 2 by omega) with rfl | rfl | rfl <;> rfl) (by decide) dX7_init_120 (fun qS => ?_)
  refine q_dup O dX7_init_123 rfl ?_
  refine q_aload_n O dX7_init_124 0 rfl ?_
  refine q_get O (v := .ref qP) 0 rfl rfl 3 (by decide) (fun _ h9 => List.mem_cons_of_mem _ (List.mem_append_left _ (List.mem_append_left _ (List.mem_append_left _ (List.mem_append_left _ (List.mem_append_left _ (List.mem_append_left _ (List.mem_append_right _ h9)))))))) (List.mem_of_getElem? (i := 16) rfl) rfl dX7_init_125 ?_
  refine q_callI O hRc (As := [.ref qP]) (rest := [.ref qS, .ref (g_ad X.1 0)]) (q := qS) (i_X4 (x_l X) (g1 X.1 qS) qP) gX7_init_X4_init rfl (List.mem_of_getElem? (i := 32) rfl) (List.mem_of_getElem? (i := 105) rfl) (List.mem_of_getElem? (i := 106) rfl) rfl hd_X4_init (by decide) (by decide) rfl rfl rfl (Nat.le_of_ble_eq_true rfl) dX7_init_128 (fun a8 => ?_)
  refine q_ws (ws9 := (g_ad X.1 0, .inr (7, [.ref qT, .ref qR, .ref qD, .ref qP, .ref qN, .ref qM, .ref qA, .ref qW, .null, .null, .null, .long 0])) :: ((((L22 ++ B_X3 qP (g_cy X.1) qM a4) ++ B_X0 qP (g_cy X.1) qA a0) ++ B_X6 qP (g_cy X.1) qW a6) ++ B_X4 qP (g_cy X.1) qS a8)) rfl ?_
  refine q_putF O (v := .ref qS) (ws9 := (g_ad X.1 0, .inr (7, [.ref qT, .ref qR, .ref qD, .ref qP, .ref qN, .ref qM, .ref qA, .ref qW, .ref qS, .null, .null, .long 0])) :: ((((L22 ++ B_X3 qP (g_cy X.1) qM a4) ++ B_X0 qP (g_cy X.1) qA a0) ++ B_X6 qP (g_cy X.1) qW a6) ++ B_X4 qP (g_cy X.1) qS a8)) tyX7 tyX7_ok nmX7 0 rfl rfl 8 (by decide) (fun _ h9 => List.mem_cons_of_mem _ (List.mem_append_left _ (List.mem_append_left _ (List.mem_append_left _ (List.mem_append_left _ (List.mem_append_left _ (List.mem_append_left _ (List.mem_append_right _ h9)))))))) (List.mem_of_getElem? (i := 33) rfl) rfl hMi rfl rfl rfl (Nat.le_of_ble_eq_true rfl) rfl dX7_init_131 ?_
  refine q_aload_n O dX7_init_134 0 rfl ?_
  refine q_iconst O dX7_init_135 (v := 2) (by decide) ?_
  refine q_newq O hRc (List.mem_of_getElem? (i := 17) rfl) (by decide) (N9 := 2) (by decide) (by decide) (by decide) dX7_init_136 (fun qL => ?_)
  refine q_ws (ws9 := (g_ad X.1 0, .inr (7, [.ref qT, .ref qR, .ref qD, .ref qP, .ref qN, .ref qM, .ref qA, .ref qW, .ref qS, .null, .null, .long 0])) :: (((((L22 ++ B_X3 qP (g_cy X.1) qM a4) ++ B_X0 qP (g_cy X.1) qA a0) ++ B_X6 qP (g_cy X.1) qW a6) ++ B_X4 qP (g_cy X.1) qS a8) ++ [(qL, .inl (g_cy X.1 2, 2, .inr (.inr (.inr (.inr (fun _ => none))))))])) rfl ?_
  refine q_putF O (v := .ref qL) (ws9 := (g_ad X.1 0, .inr (7, [.ref qT, .ref qR, .ref qD, .ref qP, .ref qN, .ref qM, .ref qA, .ref qW, .ref qS, .ref qL, .null, .long 0])) :: (((((L22 ++ B_X3 qP (g_cy X.1) qM a4) ++ B_X0 qP (g_cy X.1) qA a0) ++ B_X6 qP (g_cy X.1) qW a6) ++ B_X4 qP (g_cy X.1) qS a8) ++ [(qL, .inl (g_cy X.1 2, 2, .inr (.inr (.inr (.inr (fun _ => none))))))])) tyX7 tyX7_ok nmX7 0 rfl rfl 9 (by decide) (fun _ h9 => List.mem_cons_of_mem _ (List.mem_append_left _ (List.mem_append_left _ (List.mem_append_left _ (List.mem_append_left _ (List.mem_append_left _ (List.mem_append_left _ (List.mem_append_right _ h9)))))))) (List.mem_of_getElem? (i := 34) rfl) rfl hMi rfl rfl rfl (Nat.le_of_ble_eq_true rfl) rfl dX7_init_139 ?_
  obtain ⟨LA, hLA⟩ : ∃ z : va_W, z = ((((L22 ++ B_X3 qP (g_cy X.1) qM a4) ++ B_X0 qP (g_cy X.1) qA a0) ++ B_X6 qP (g_cy X.1) qW a6) ++ B_X4 qP (g_cy X.1) qS a8) := ⟨_, rfl⟩
  rw [← hLA]
  refine q_iconst O dX7_init_142 (v := 0) (by decide) ?_
  refine q_istore_n (lv' := [(1, .int 0), (0, .ref (g_ad X.1 0))]) O dX7_init_143 rfl (by decide) rfl ?_
  refine q_ws (ws9 := (g_ad X.1 0, .inr (7, [.ref qT, .ref qR, .ref qD, .ref qP, .ref qN, .ref qM, .ref qA, .ref qW, .ref qS, .ref qL, .null, .long 0])) :: (LA ++ (qL, .inl (g_cy X.1 2, 2, .inr (.inr (.inr (.inr (fun _ => none)))))) :: [])) rfl ?_
  refine q_iload_n O dX7_init_144 0 rfl ?_
  refine q_iconst O dX7_init_145 (v := 2) (by decide) ?_
  refine q_icmp_ge O 172 dX7_init_146 (by decide) (fun c9 => absurd c9 (by decide)) (fun c9 => ?_)
  refine q_aload_n O dX7_init_149 1 rfl ?_
  refine q_get O (v := .ref qL) 0 rfl rfl 9 (by decide) (fun _ h9 => List.mem_cons_of_mem _ (List.mem_append_left _ (List.mem_append_left _ (List.mem_append_left _ (List.mem_append_left _ (List.mem_append_left _ (List.mem_append_left _ (List.mem_append_right _ h9)))))))) (List.mem_of_getElem? (i := 34) rfl) rfl dX7_init_150 ?_
  refine q_iload_n O dX7_init_153 0 rfl ?_
  refine q_new O hRc (ci := 3) (fs := [.null, .int 0, .int 0, .int 0, .null, .null, .null]) tyX3 tyX3_ok (fun _ h9 => List.mem_cons_of_mem _ (List.mem_append_left _ (List.mem_append_left _ (List.mem_append_left _ (List.mem_append_right _ h9))))) (List.mem_of_getElem? (i := 17) rfl) (List.mem_of_getElem? (i := 18) rfl) (List.mem_of_getElem? (i := 19) rfl) rfl (fun j hj => by rcases (show j = 0 ∨ j = 1 ∨ j = 2 ∨ j = 3 ∨ j = 4 ∨ j = 5 ∨ j = 6 by omega) with rfl | rfl | rfl | rfl | rfl | rfl | rfl <;> rfl) (by decide) dX7_init_154 (fun qU => ?_)
  refine q_dup O dX7_init_157 rfl ?_
  refine q_aload_n O dX7_init_158 1 rfl ?_
  refine q_get O (v := .ref qP) 0 rfl rfl 3 (by decide) (fun _ h9 => List.mem_cons_of_mem _ (List.mem_append_left _ (List.mem_append_left _ (List.mem_append_left _ (List.mem_append_left _ (List.mem_append_left _ (List.mem_append_left _ (List.mem_append_right _ h9)))))))) (List.mem_of_getElem? (i := 16) rfl) rfl dX7_init_159 ?_
  refine q_callI O hRc (As := [.ref qP]) (rest := [.ref qU, .int 0, .ref qL]) (q := qU) (i_X3 (x_l X) (g1 X.1 qU) qP) gX7_init_X3_init rfl (List.mem_of_getElem? (i := 19) rfl) (List.mem_of_getElem? (i := 68) rfl) (List.mem_of_getElem? (i := 69) rfl) rfl hd_X3_init (by decide) (by decide) rfl rfl rfl (Nat.le_of_ble_eq_true rfl) dX7_init_162 (fun b1 => ?_)
  refine q_ws (ws9 := (g_ad X.1 0, .inr (7, [.ref qT, .ref qR, .ref qD, .ref qP, .ref qN, .ref qM, .ref qA, .ref qW, .ref qS, .ref qL, .null, .long 0])) :: (LA ++ (qL, .inl (g_cy X.1 2, 2, .inr (.inr (.inr (.inr (fun _ => none)))))) :: B_X3 qP (g_cy X.1) qU b1)) (by simp) ?_
  refine q_aast O (i := 0) (f := (fun _ => none)) (ci := 3) (ws9 := (g_ad X.1 0, .inr (7, [.ref qT, .ref qR, .ref qD, .ref qP, .ref qN, .ref qM, .ref qA, .ref qW, .ref qS, .ref qL, .null, .long 0])) :: (LA ++ (qL, .inl (g_cy X.1 2, 2, .inr (.inr (.inr (.inr (va_up (fun _ => none) 0 (some qU))))))) :: B_X3 qP (g_cy X.1) qU b1)) (1 + LA.length) (2 + LA.length + 0) (by rw [Nat.add_comm 1, List.getElem?_cons_succ, List.getElem?_append_right (Nat.le_refl _), Nat.sub_self]; rfl) (vs := [.ref qP, .int 0, .int 0, .int 0, .ref (b1 1), .ref (b1 2), .ref (b1 3)]) (by rw [show 2 + LA.length + 0 = (LA.length + 1) + 1 by omega, List.getElem?_cons_succ, List.getElem?_append_right (by omega), Nat.add_sub_cancel_left]; rfl) (by decide) (by rw [Nat.add_comm 1, List.set_cons_succ, List.set_append_right _ _ (Nat.le_refl _), Nat.sub_self]; rfl) dX7_init_165 ?_
  refine q_iinc (v := 1) (lv' := [(1, .int 1), (0, .ref (g_ad X.1 0))]) O dX7_init_166 0 rfl (by decide) (by decide) rfl ?_
  refine q_goto O 144 dX7_init_169 (by decide) ?_
  refine q_ws (ws9 := (g_ad X.1 0, .inr (7, [.ref qT, .ref qR, .ref qD, .ref qP, .ref qN, .ref qM, .ref qA, .ref qW, .ref qS, .ref qL, .null, .long 0])) :: (LA ++ (qL, .inl (g_cy X.1 2, 2, .inr (.inr (.inr (.inr (va_up (fun _ => none) 0 (some qU))))))) :: B_X3 qP (g_cy X.1) qU b1)) rfl ?_
  refine q_iload_n O dX7_init_144 0 rfl ?_
  refine q_iconst O dX7_init_145 (v := 2) (by decide) ?_
  refine q_icmp_ge O 172 dX7_init_146 (by decide) (fun c9 => absurd c9 (by decide)) (fun c9 => ?_)
  refine q_aload_n O dX7_init_149 1 rfl ?_
  refine q_get O (v := .ref qL) 0 rfl rfl 9 (by decide) (fun _ h9 => List.mem_cons_of_mem _ (List.mem_append_left _ (List.mem_append_left _ (List.mem_append_left _ (List.mem_append_left _ (List.mem_append_left _ (List.mem_append_left _ (List.mem_append_right _ h9)))))))) (List.mem_of_getElem? (i := 34) rfl) rfl dX7_init_150 ?_
  refine q_iload_n O dX7_init_153 0 rfl ?_
  refine q_new O hRc (ci := 3) (fs := [.null, .int 0, .int 0, .int 0, .null, .null, .null]) tyX3 tyX3_ok (fun _ h9 => List.mem_cons_of_mem _ (List.mem_append_left _ (List.mem_append_left _ (List.mem_append_left _ (List.mem_append_right _ h9))))) (List.mem_of_getElem? (i := 17) rfl) (List.mem_of_getElem? (i := 18) rfl) (List.mem_of_getElem? (i := 19) rfl) rfl (fun j hj => by rcases (show j = 0 ∨ j = 1 ∨ j = 2 ∨ j = 3 ∨ j = 4 ∨ j = 5 ∨ j = 6 by omega) with rfl | rfl | rfl | rfl | rfl | rfl | rfl <;> rfl) (by decide) dX7_init_154 (fun qV => ?_)
  refine q_dup O dX7_init_157 rfl ?_
  refine q_aload_n O dX7_init_158 1 rfl ?_
  refine q_get O (v := .ref qP) 0 rfl rfl 3 (by decide) (fun _ h9 => List.mem_cons_of_mem _ (List.mem_append_left _ (List.mem_append_left _ (List.mem_append_left _ (List.mem_append_left _ (List.mem_append_left _ (List.mem_append_left _ (List.mem_append_right _ h9)))))))) (List.mem_of_getElem? (i := 16) rfl) rfl dX7_init_159 ?_
  refine q_callI O hRc (As := [.ref qP]) (rest := [.ref qV, .int 1, .ref qL]) (q := qV) (i_X3 (x_l X) (g1 X.1 qV) qP) gX7_init_X3_init rfl (List.mem_of_getElem? (i := 19) rfl) (List.mem_of_getElem? (i := 68) rfl) (List.mem_of_getElem? (i := 69) rfl) rfl hd_X3_init (by decide) (by decide) rfl rfl rfl (Nat.le_of_ble_eq_true rfl) dX7_init_162 (fun b2 => ?_)
  refine q_ws (ws9 := (g_ad X.1 0, .inr (7, [.ref qT, .ref qR, .ref qD, .ref qP, .ref qN, .ref qM, .ref qA, .ref qW, .ref qS, .ref qL, .null, .long 0])) :: (LA ++ (qL, .inl (g_cy X.1 2, 2, .inr (.inr (.inr (.inr (va_up (fun _ => none) 0 (some qU))))))) :: (B_X3 qP (g_cy X.1) qU b1 ++ B_X3 qP (g_cy X.1) qV b2))) (by simp) ?_
  refine q_aast O (i := 1) (f := (va_up (fun _ => none) 0 (some qU))) (ci := 3) (ws9 := (g_ad X.1 0, .inr (7, [.ref qT, .ref qR, .ref qD, .ref qP, .ref qN, .ref qM, .ref qA, .ref qW, .ref qS, .ref qL, .null, .long 0])) :: (LA ++ (qL, .inl (g_cy X.1 2, 2, .inr (.inr (.inr (.inr (va_up (va_up (fun _ => none) 0 (some qU)) 1 (some qV))))))) :: (B_X3 qP (g_cy X.1) qU b1 ++ B_X3 qP (g_cy X.1) qV b2))) (1 + LA.length) (2 + LA.length + 4) (by rw [Nat.add_comm 1, List.getElem?_cons_succ, List.getElem?_append_right (Nat.le_refl _), Nat.sub_self]; rfl) (vs := [.ref qP, .int 0, .int 0, .int 0, .ref (b2 1), .ref (b2 2), .ref (b2 3)]) (by rw [show 2 + LA.length + 4 = (LA.length + 5) + 1 by omega, List.getElem?_cons_succ, List.getElem?_append_right (by omega), Nat.add_sub_cancel_left]; rfl) (by decide) (by rw [Nat.add_comm 1, List.set_cons_succ, List.set_append_right _ _ (Nat.le_refl _), Nat.sub_self]; rfl) dX7_init_165 ?_
  refine q_iinc (v := 2) (lv' := [(1, .int 2), (0, .ref (g_ad X.1 0))]) O dX7_init_166 0 rfl (by decide) (by decide) rfl ?_
  refine q_goto O 144 dX7_init_169 (by decide) ?_
  refine q_iload_n O dX7_init_144 0 rfl ?_
  refine q_iconst O dX7_init_145 (v := 2) (by decide) ?_
  refine q_icmp_ge O 172 dX7_init_146 (by decide) (fun c9 => ?_) (fun c9 => absurd (by decide) c9)
  refine q_aload_n O dX7_init_172 1 rfl ?_
  refine q_iconst O dX7_init_173 (v := 2) (by decide) ?_
  refine q_newz O hRc (List.mem_of_getElem? (i := 35) rfl) (by decide) (N9 := 2) (by decide) (by decide) (by decide) dX7_init_174 (fun qK => ?_)
  refine q_ws (ws9 := (g_ad X.1 0, .inr (7, [.ref qT, .ref qR, .ref qD, .ref qP, .ref qN, .ref qM, .ref qA, .ref qW, .ref qS, .ref qL, .null, .long 0])) :: ((LA ++ (qL, .inl (g_cy X.1 2, 2, .inr (.inr (.inr (.inr (va_up (va_up (fun _ => none) 0 (some qU)) 1 (some qV))))))) :: (B_X3 qP (g_cy X.1) qU b1 ++ B_X3 qP (g_cy X.1) qV b2)) ++ [(qK, .inl (g_cy X.1 1, 2, .inl (fun _ => 0)))])) rfl ?_
  refine q_putF O (v := .ref qK) (ws9 := (g_ad X.1 0, .inr (7, [.ref qT, .ref qR, .ref qD, .ref qP, .ref qN, .ref qM, .ref qA, .ref qW, .ref qS, .ref qL, .ref qK, .long 0])) :: ((LA ++ (qL, .inl (g_cy X.1 2, 2, .inr (.inr (.inr (.inr (va_up (va_up (fun _ => none) 0 (some qU)) 1 (some qV))))))) :: (B_X3 qP (g_cy X.1) qU b1 ++ B_X3 qP (g_cy X.1) qV b2)) ++ [(qK, .inl (g_cy X.1 1, 2, .inl (fun _ => 0)))])) tyX7 tyX7_ok nmX7 0 rfl rfl 10 (by decide) (fun _ h9 => List.mem_cons_of_mem _ (List.mem_append_left _ (List.mem_append_left _ (List.mem_append_left _ (List.mem_append_left _ (List.mem_append_left _ (List.mem_append_left _ (List.mem_append_right _ h9)))))))) (List.mem_of_getElem? (i := 36) rfl) rfl hMi rfl rfl rfl (Nat.le_of_ble_eq_true rfl) rfl dX7_init_176 ?_
  refine q_aload_n O dX7_init_179 1 rfl ?_
  refine q_lconst O dX7_init_180 (v := 0) (by decide) ?_
  refine q_put O (v := .long 0) (ws9 := (g_ad X.1 0, .inr (7, [.ref qT, .ref qR, .ref qD, .ref qP, .ref qN, .ref qM, .ref qA, .ref qW, .ref qS, .ref qL, .ref qK, .long 0])) :: ((LA ++ (qL, .inl (g_cy X.1 2, 2, .inr (.inr (.inr (.inr (va_up (va_up (fun _ => none) 0 (some qU)) 1 (some qV))))))) :: (B_X3 qP (g_cy X.1) qU b1 ++ B_X3 qP (g_cy X.1) qV b2)) ++ [(qK, .inl (g_cy X.1 1, 2, .inl (fun _ => 0)))])) tyX7 tyX7_ok nmX7 0 rfl rfl 11 (by decide) (fun _ h9 => List.mem_cons_of_mem _ (List.mem_append_left _ (List.mem_append_left _ (List.mem_append_left _ (List.mem_append_left _ (List.mem_append_left _ (List.mem_append_left _ (List.mem_append_right _ h9)))))))) (List.mem_of_getElem? (i := 37) rfl) rfl rfl rfl (Nat.le_of_ble_eq_true rfl) rfl dX7_init_181 ?_
  obtain ⟨adf, hadf⟩ : ∃ z : Nat → Nat, z = (fun k => if k = 0 then g_ad X.1 0 else if k < 22 then ad k else if k = 22 then qM else if k < 26 then a4 (k - 22) else if k = 26 then qA else if k < 92 then a0 (k - 26) else if k = 92 then qW else if k = 93 then a6 1 else if k = 94 then qS else if k = 95 then qL else if k = 96 then qU else if k < 100 then b1 (k - 96) else if k = 100 then qV else if k < 104 then b2 (k - 100) else qK) := ⟨_, rfl⟩
  refine q_ws (ws9 := ((g_ad X.1 0, .inr (7, [.ref qT, .ref qR, .ref qD, .ref qP, .ref qN, .ref qM, .ref qA, .ref qW, .ref qS, .ref qL, .ref qK, .long 0])) :: LA) ++ (qL, .inl (g_cy X.1 2, 2, .inr (.inr (.inr (.inr (va_up (va_up (fun _ => none) 0 (some qU)) 1 (some qV))))))) :: ((B_X3 qP (g_cy X.1) qU b1 ++ B_X3 qP (g_cy X.1) qV b2) ++ [(qK, .inl (g_cy X.1 1, 2, .inl (fun _ => 0)))])) (by simp) ?_
  refine q_refsP (g := fun j => some (adf (96 + 4 * j))) (fun j hj => by rw [hadf]; rcases (show j = 0 ∨ j = 1 by omega) with rfl | rfl <;> rfl) ?_
  rw [hLA]
  refine q_ws (ws9 := ((g_ad X.1 0, .inr (7, [.ref qT, .ref qR, .ref qD, .ref qP, .ref qN, .ref qM, .ref qA, .ref qW, .ref qS, .ref qL, .ref qK, .long 0])) :: (L22 ++ (B_X3 qP (g_cy X.1) qM a4 ++ [(qA, .inr (0, [.ref (a0 1), .int 0, .int 0]))]))) ++ (a0 1, .inl (g_cy X.1 2, 16, .inr (.inr (.inr (.inr (fun j => some (a0 (2 + 4 * j)))))))) :: (scs qP (g_cy X.1) (fun k => a0 (2 + k)) 16 ++ (B_X6 qP (g_cy X.1) qW a6 ++ (B_X4 qP (g_cy X.1) qS a8 ++ ((qL, .inl (g_cy X.1 2, 2, .inr (.inr (.inr (.inr (fun j => some (adf (96 + 4 * j)))))))) :: ((B_X3 qP (g_cy X.1) qU b1 ++ B_X3 qP (g_cy X.1) qV b2) ++ [(qK, .inl (g_cy X.1 1, 2, .inl (fun _ => 0)))])))))) (by simp [B_X0]) ?_
  refine q_refsP (g := fun j => some (adf (28 + 4 * j))) (fun j hj => by rw [hadf]; show some (a0 (2 + 4 * j)) = some (if 28 + 4 * j = 0 then _ else _); rw [if_neg (by omega), if_neg (by omega), if_neg (by omega), if_neg (by omega), if_neg (by omega), if_pos (by omega)]; congr 2; omega) ?_
  refine q_vret O hRq adf ?_ dX7_init_184
  have e0 : (fun k => if k = 0 then g_ad X.1 0 else adf k) = adf := by funext k; by_cases hk : k = 0; subst hk; rw [hadf]; rfl; rw [if_neg hk]
  unfold B_X7
  rw [e0]
  rw [hL22, hadf, hadd]
  rfl
