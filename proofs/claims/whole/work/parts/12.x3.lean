def b_X0_forget_0 (w : Wd) : Option (Wd) := nm (up w 26 2 ((0 : Int32))) (fun w1 => some w1)
def f_X0_forget (w : Wd) : Option (Wd) := b_X0_forget_0 w 
set_option maxHeartbeats 4000000 in
set_option maxRecDepth 100000 in
theorem w_X0_forget_0 {X : Cx} {wz : Wd} (O : Ok X cX0_forget RX0 none wsX0_forget (0) (0) 1) (hN : 105 ≤ g_N X.1) (ho : Ro X (none, wz)) {w : Wd} (h : b_X0_forget_0 w  = some wz) : Wk X w 0 [(0, .ref (g_ad X.1 26))] [] := by
  unfold b_X0_forget_0 at h
  refine k_aload_n O dX0_forget_0 0 rfl ?_
  refine k_iconst O dX0_forget_1 (v := 0) (by decide) ?_
  refine k_puti O (k := 26) tyX0 tyX0_ok nmX0 (by omega) E_26 rfl 2 (by decide) (fun _ h9 => List.mem_cons_of_mem _ (List.mem_append_right _ h9)) (List.mem_of_getElem? (i := 1) rfl) rfl rfl rfl (Nat.le_of_ble_eq_true rfl) (E_26.trans rfl) dX0_forget_2 ?_
  refine k_nw (fun w1 ew1 => ?_)
  have h := nm_use h w1 ew1
  exact k_vret O dX0_forget_5 (rt_void h ho)
theorem c_X0_forget (l : Launch) (G : Gl) (hN : 105 ≤ g_N G) {w wz : Wd} (h : f_X0_forget w  = some wz) : Ct l yX0_forget wsX0_forget (0) (0) G [.ref (g_ad G 26)] w (none, wz) := by
  refine Ct.start (by decide) rfl rfl rfl (Nat.le_of_ble_eq_true rfl) (fun X hG ho hl O => ?_)
  subst hG
  subst hl
  exact k_sub [0] rfl (w_X0_forget_0 O hN ho h)
def b_X3_become_56 (b : Nat) (b1 : Nat) : Nat → Wd → Int32 → Option (Wd)
  | 0, _, _ => none
  | n + 1, w, v2 => if ((4 : Int32)) ≤ v2 then (some w) else (gd (inb v2 4) (gd (inb v2 4) (nm (up w (b + 2) v2.toNatClampNeg (w.1 (b1 + 2) v2.toNatClampNeg)) (fun w4 => gd (inb v2 4) (gd (inb v2 4) (nm (up w4 (b + 3) v2.toNatClampNeg (w4.1 (b1 + 3) v2.toNatClampNeg)) (fun w7 => nm (v2 + (1 : Int32)) (fun x8 => b_X3_become_56 b b1 n w7 x8))))))))
def b_X3_become_31 (b : Nat) (b1 : Nat) : Nat → Wd → Int32 → Option (Wd)
  | 0, _, _ => none
  | n + 1, w, v2 => if ((2 : Int32)) ≤ v2 then (b_X3_become_56 b b1 LF w ((0 : Int32))) else (gd (inb v2 2) (gd (inb v2 2) (nm (up w (b + 1) v2.toNatClampNeg (w.1 (b1 + 1) v2.toNatClampNeg)) (fun w4 => nm (v2 + (1 : Int32)) (fun x5 => b_X3_become_31 b b1 n w4 x5)))))
def b_X3_become_0 (b : Nat) (b1 : Nat) (w : Wd) : Option (Wd) := nm (up w b 1 (w.1 b1 1)) (fun w1 => nm (up w1 b 2 (w1.1 b1 2)) (fun w2 => gd (bb (w2.1 b1 3)) (nm (up w2 b 3 (w2.1 b1 3)) (fun w4 => b_X3_become_31 b b1 LF w4 ((0 : Int32))))))
def f_X3_become (b : Nat) (b1 : Nat) (w : Wd) : Option (Wd) := b_X3_become_0 b b1 w 
set_option maxHeartbeats 4000000 in
set_option maxRecDepth 100000 in
theorem w_X3_become_56 {X : Cx} {wz : Wd} (O : Ok X cX3_become RX3 none wsX3_become (0) (0) 3) {b : Nat} (h_b : scb b = true) (n_b : b + 3 < g_N X.1) {b1 : Nat} (h_b1 : scb b1 = true) (n_b1 : b1 + 3 < g_N X.1) (ho : Ro X (none, wz)) (n : Nat) : ∀ {w : Wd} {v2 : Int32}, b_X3_become_56 b b1 n w v2 = some wz → Wk X w 56 [(0, .ref (g_ad X.1 b)), (1, .ref (g_ad X.1 b1)), (2, .int v2)] [] := by
  have q_b := scb_lt h_b
  have q_b1 := scb_lt h_b1
  induction n with
  | zero => intro w v2 h; exact nomatch (show (none : Option (Wd)) = some _ from h)
  | succ n ih =>
    intro w v2 h
    rw [b_X3_become_56] at h
    refine k_iload_n O dX3_become_56 2 rfl ?_
    refine k_iconst O dX3_become_57 (v := 4) (by decide) ?_
    refine k_icmp_ge O 91 dX3_become_58 (by decide) (fun c1 => ?_) (fun c1 => ?_)
    · have h := ite_t c1 h
      exact k_vret O dX3_become_91 (rt_void h ho)
    · have h := ite_f c1 h
      refine k_aload_n O dX3_become_61 0 rfl ?_
      refine k_get O (v := .ref (g_ad X.1 (b + 2))) (k := b) (by omega) (E_sc h_b) rfl 5 (by decide) (fun _ h9 => List.mem_cons_of_mem _ (List.mem_append_right _ h9)) (List.mem_of_getElem? (i := 5) rfl) rfl dX3_become_62 ?_
      refine k_iload_n O dX3_become_65 2 rfl ?_
      refine k_aload_n O dX3_become_66 1 rfl ?_
      refine k_get O (v := .ref (g_ad X.1 (b1 + 2))) (k := b1) (by omega) (E_sc h_b1) rfl 5 (by decide) (fun _ h9 => List.mem_cons_of_mem _ (List.mem_append_right _ h9)) (List.mem_of_getElem? (i := 5) rfl) rfl dX3_become_67 ?_
      refine k_iload_n O dX3_become_70 2 rfl ?_
      obtain ⟨g2, h⟩ := gd_some h
      refine k_iald O (k := (b1 + 2)) (by omega) (E_sc2 h_b1) g2 dX3_become_71 ?_
      obtain ⟨g3, h⟩ := gd_some h
      refine k_iast O (k := (b + 2)) (by omega) (E_sc2 h_b) (fun _ => (E_sc2 h_b)) g3 dX3_become_72 ?_
      refine k_nw (fun w4 ew4 => ?_)
      have h := nm_use h w4 ew4
      refine k_aload_n O dX3_become_73 0 rfl ?_
      refine k_get O (v := .ref (g_ad X.1 (b + 3))) (k := b) (by omega) (E_sc h_b) rfl 6 (by decide) (fun _ h9 => List.mem_cons_of_mem _ (List.mem_append_right _ h9)) (List.mem_of_getElem? (i := 6) rfl) rfl dX3_become_74 ?_
      refine k_iload_n O dX3_become_77 2 rfl ?_
      refine k_aload_n O dX3_become_78 1 rfl ?_
      refine k_get O (v := .ref (g_ad X.1 (b1 + 3))) (k := b1) (by omega) (E_sc h_b1) rfl 6 (by decide) (fun _ h9 => List.mem_cons_of_mem _ (List.mem_append_right _ h9)) (List.mem_of_getElem? (i := 6) rfl) rfl dX3_become_79 ?_
      refine k_iload_n O dX3_become_82 2 rfl ?_
      obtain ⟨g5, h⟩ := gd_some h
      refine k_iald O (k := (b1 + 3)) (by omega) (E_sc3 h_b1) g5 dX3_become_83 ?_
      obtain ⟨g6, h⟩ := gd_some h
      refine k_iast O (k := (b + 3)) (by omega) (E_sc3 h_b) (fun _ => (E_sc3 h_b)) g6 dX3_become_84 ?_
      refine k_nw (fun w7 ew7 => ?_)
      have h := nm_use h w7 ew7
      obtain ⟨x8, ex8⟩ : ∃ z : Int32, z = v2 + (1 : Int32) := ⟨_, rfl⟩
      have h := nm_use h x8 ex8
      refine k_iinc (lv' := [(2, .int x8), (0, .ref (g_ad X.1 b)), (1, .ref (g_ad X.1 b1))]) O dX3_become_85 2 rfl (by rw [ex8]; rfl) (by decide) rfl ?_
      refine k_goto O 56 dX3_become_88 (by decide) ?_
      exact k_sub [1, 2, 0] rfl (ih h)
set_option maxHeartbeats 4000000 in
set_option maxRecDepth 100000 in
theorem w_X3_become_31 {X : Cx} {wz : Wd} (O : Ok X cX3_become RX3 none wsX3_become (0) (0) 3) {b : Nat} (h_b : scb b = true) (n_b : b + 3 < g_N X.1) {b1 : Nat} (h_b1 : scb b1 = true) (n_b1 : b1 + 3 < g_N X.1) (ho : Ro X (none, wz)) (n : Nat) : ∀ {w : Wd} {v2 : Int32}, b_X3_become_31 b b1 n w v2 = some wz → Wk X w 31 [(0, .ref (g_ad X.1 b)), (1, .ref (g_ad X.1 b1)), (2, .int v2)] [] := by
  have q_b := scb_lt h_b
  have q_b1 := scb_lt h_b1
  induction n with
  | zero => intro w v2 h; exact nomatch (show (none : Option (Wd)) = some _ from h)
  | succ n ih =>
    intro w v2 h
    rw [b_X3_become_31] at h
    refine k_iload_n O dX3_become_31 2 rfl ?_
    refine k_iconst O dX3_become_32 (v := 2) (by decide) ?_
    refine k_icmp_ge O 54 dX3_become_33 (by decide) (fun c1 => ?_) (fun c1 => ?_)
    · have h := ite_t c1 h
      refine k_iconst O dX3_become_54 (v := 0) (by decide) ?_
      refine k_istore_n (lv' := [(2, .int ((0 : Int32))), (0, .ref (g_ad X.1 b)), (1, .ref (g_ad X.1 b1))]) O dX3_become_55 rfl (by decide) rfl ?_
      exact k_sub [1, 2, 0] rfl (w_X3_become_56 O h_b n_b h_b1 n_b1 ho LF h)
    · have h := ite_f c1 h
      refine k_aload_n O dX3_become_36 0 rfl ?_
      refine k_get O (v := .ref (g_ad X.1 (b + 1))) (k := b) (by omega) (E_sc h_b) rfl 4 (by decide) (fun _ h9 => List.mem_cons_of_mem _ (List.mem_append_right _ h9)) (List.mem_of_getElem? (i := 4) rfl) rfl dX3_become_37 ?_
      refine k_iload_n O dX3_become_40 2 rfl ?_
      refine k_aload_n O dX3_become_41 1 rfl ?_
      refine k_get O (v := .ref (g_ad X.1 (b1 + 1))) (k := b1) (by omega) (E_sc h_b1) rfl 4 (by decide) (fun _ h9 => List.mem_cons_of_mem _ (List.mem_append_right _ h9)) (List.mem_of_getElem? (i := 4) rfl) rfl dX3_become_42 ?_
      refine k_iload_n O dX3_become_45 2 rfl ?_
      obtain ⟨g2, h⟩ := gd_some h
      refine k_iald O (k := (b1 + 1)) (by omega) (E_sc1 h_b1) g2 dX3_become_46 ?_
      obtain ⟨g3, h⟩ := gd_some h
      refine k_iast O (k := (b + 1)) (by omega) (E_sc1 h_b) (fun _ => (E_sc1 h_b)) g3 dX3_become_47 ?_
      refine k_nw (fun w4 ew4 => ?_)
      have h := nm_use h w4 ew4
      obtain ⟨x5, ex5⟩ : ∃ z : Int32, z = v2 + (1 : Int32) := ⟨_, rfl⟩
      have h := nm_use h x5 ex5
      refine k_iinc (lv' := [(2, .int x5), (0, .ref (g_ad X.1 b)), (1, .ref (g_ad X.1 b1))]) O dX3_become_48 2 rfl (by rw [ex5]; rfl) (by decide) rfl ?_
      refine k_goto O 31 dX3_become_51 (by decide) ?_
      exact k_sub [1, 2, 0] rfl (ih h)
set_option maxHeartbeats 4000000 in
set_option maxRecDepth 100000 in
theorem w_X3_become_0 {X : Cx} {wz : Wd} (O : Ok X cX3_become RX3 none wsX3_become (0) (0) 3) {b : Nat} (h_b : scb b = true) (n_b : b + 3 < g_N X.1) {b1 : Nat} (h_b1 : scb b1 = true) (n_b1 : b1 + 3 < g_N X.1) (ho : Ro X (none, wz)) {w : Wd} (h : b_X3_become_0 b b1 w  = some wz) : Wk X w 0 [(0, .ref (g_ad X.1 b)), (1, .ref (g_ad X.1 b1))] [] := by
  have q_b := scb_lt h_b
  have q_b1 := scb_lt h_b1
  unfold b_X3_become_0 at h
  refine k_aload_n O dX3_become_0 1 rfl ?_
  refine k_ifnonnull O 5 dX3_become_1 (by decide) ?_
  refine k_aload_n O dX3_become_5 0 rfl ?_
  refine k_aload_n O dX3_become_6 1 rfl ?_
  refine k_get O (v := .int (w.1 b1 1)) (k := b1) (by omega) (E_sc h_b1) rfl 1 (by decide) (fun _ h9 => List.mem_cons_of_mem _ (List.mem_append_right _ h9)) (List.mem_of_getElem? (i := 1) rfl) rfl dX3_become_7 ?_
  refine k_puti O (k := b) tyX3 tyX3_ok nmX3 (by omega) (E_sc h_b) rfl 1 (by decide) (fun _ h9 => List.mem_cons_of_mem _ (List.mem_append_right _ h9)) (List.mem_of_getElem? (i := 1) rfl) rfl rfl rfl (Nat.le_of_ble_eq_true rfl) ((E_sc h_b).trans rfl) dX3_become_10 ?_
  refine k_nw (fun w1 ew1 => ?_)
  have h := nm_use h w1 ew1
  refine k_aload_n O dX3_become_13 0 rfl ?_
  refine k_aload_n O dX3_become_14 1 rfl ?_
  refine k_get O (v := .int (w1.1 b1 2)) (k := b1) (by omega) (E_sc h_b1) rfl 2 (by decide) (fun _ h9 => List.mem_cons_of_mem _ (List.mem_append_right _ h9)) (List.mem_of_getElem? (i := 2) rfl) rfl dX3_become_15 ?_
  refine k_puti O (k := b) tyX3 tyX3_ok nmX3 (by omega) (E_sc h_b) rfl 2 (by decide) (fun _ h9 => List.mem_cons_of_mem _ (List.mem_append_right _ h9)) (List.mem_of_getElem? (i := 2) rfl) rfl rfl rfl (Nat.le_of_ble_eq_true rfl) ((E_sc h_b).trans rfl) dX3_become_18 ?_
  refine k_nw (fun w2 ew2 => ?_)
  have h := nm_use h w2 ew2
  refine k_aload_n O dX3_become_21 0 rfl ?_
  refine k_aload_n O dX3_become_22 1 rfl ?_
  refine k_get O (v := .int (w2.1 b1 3)) (k := b1) (by omega) (E_sc h_b1) rfl 3 (by decide) (fun _ h9 => List.mem_cons_of_mem _ (List.mem_append_right _ h9)) (List.mem_of_getElem? (i := 3) rfl) rfl dX3_become_23 ?_
  obtain ⟨g3, h⟩ := gd_some h
  refine k_puti O (k := b) tyX3 tyX3_ok nmX3 (by omega) (E_sc h_b) rfl 3 (by decide) (fun _ h9 => List.mem_cons_of_mem _ (List.mem_append_right _ h9)) (List.mem_of_getElem? (i := 3) rfl) rfl (bb_nar g3) (bb_fit g3) (Nat.le_of_ble_eq_true rfl) ((E_sc h_b).trans rfl) dX3_become_26 ?_
  refine k_nw (fun w4 ew4 => ?_)
  have h := nm_use h w4 ew4
  refine k_iconst O dX3_become_29 (v := 0) (by decide) ?_
  refine k_istore_n (lv' := [(2, .int ((0 : Int32))), (0, .ref (g_ad X.1 b)), (1, .ref (g_ad X.1 b1))]) O dX3_become_30 rfl (by decide) rfl ?_
  exact k_sub [1, 2, 0] rfl (w_X3_become_31 O h_b n_b h_b1 n_b1 ho LF h)
theorem c_X3_become (l : Launch) (G : Gl) {b : Nat} (h_b : scb b = true) (n_b : b + 3 < g_N G) {b1 : Nat} (h_b1 : scb b1 = true) (n_b1 : b1 + 3 < g_N G) {w wz : Wd} (h : f_X3_become b b1 w  = some wz) : Ct l yX3_become wsX3_become (0) (0) G [.ref (g_ad G b), .ref (g_ad G b1)] w (none, wz) := by
  refine Ct.start (by decide) rfl rfl rfl (Nat.le_of_ble_eq_true rfl) (fun X hG ho hl O => ?_)
  subst hG
  subst hl
  exact k_sub [0, 1] rfl (w_X3_become_0 O h_b n_b h_b1 n_b1 ho h)
def b_X0_remember_0 (b1 : Nat) (w : Wd) : Option (Wd) := gd (inb (((w.1 26 1) + (w.1 26 2)) - ((w.1 26 1) + (w.1 26 2)) / ((16 : Int32)) * ((16 : Int32))) 16) (bv (f_X3_become (28 + 4 * (((w.1 26 1) + (w.1 26 2)) - ((w.1 26 1) + (w.1 26 2)) / ((16 : Int32)) * ((16 : Int32))).toNatClampNeg) b1 w) (fun w4 => if ((16 : Int32)) ≤ (w4.1 26 2) then (nm (up w4 26 1 (((w4.1 26 1) + ((1 : Int32))) - ((w4.1 26 1) + ((1 : Int32))) / ((16 : Int32)) * ((16 : Int32)))) (fun w6 => some w6)) else (nm (up w4 26 2 ((w4.1 26 2) + ((1 : Int32)))) (fun w7 => some w7))))
def f_X0_remember (b1 : Nat) (w : Wd) : Option (Wd) := b_X0_remember_0 b1 w 
set_option maxHeartbeats 4000000 in
set_option maxRecDepth 100000 in
theorem w_X0_remember_0 {X : Cx} {wz : Wd} (O : Ok X cX0_remember RX0 none wsX0_remember (1) (22) 3) {b1 : Nat} (h_b1 : scb b1 = true) (n_b1 : b1 + 3 < g_N X.1) (hN : 105 ≤ g_N X.1) (ho : Ro X (none, wz)) {w : Wd} (h : b_X0_remember_0 b1 w  = some wz) : Wk X w 0 [(0, .ref (g_ad X.1 26)), (1, .ref (g_ad X.1 b1))] [] := by
  have q_b1 := scb_lt h_b1
  unfold b_X0_remember_0 at h
  refine k_aload_n O dX0_remember_0 0 rfl ?_
  refine k_get O (v := .ref (g_ad X.1 27)) (k := 26) (by omega) E_26 rfl 0 (by decide) (fun _ h9 => List.mem_cons_of_mem _ (List.mem_append_left _ (List.mem_append_right _ h9))) (List.mem_of_getElem? (i := 1) rfl) rfl dX0_remember_1 ?_
  refine k_aload_n O dX0_remember_4 0 rfl ?_
  refine k_get O (v := .int (w.1 26 1)) (k := 26) (by omega) E_26 rfl 1 (by decide) (fun _ h9 => List.mem_cons_of_mem _ (List.mem_append_left _ (List.mem_append_right _ h9))) (List.mem_of_getElem? (i := 2) rfl) rfl dX0_remember_5 ?_
  refine k_aload_n O dX0_remember_8 0 rfl ?_
  refine k_get O (v := .int (w.1 26 2)) (k := 26) (by omega) E_26 rfl 2 (by decide) (fun _ h9 => List.mem_cons_of_mem _ (List.mem_append_left _ (List.mem_append_right _ h9))) (List.mem_of_getElem? (i := 3) rfl) rfl dX0_remember_9 ?_
  refine k_iadd O dX0_remember_12 ?_
  refine k_bipush O dX0_remember_13 (v := 16) (by decide) ?_
  refine k_irem O dX0_remember_15 (by decide) ?_
  obtain ⟨g1, h⟩ := gd_some h
  refine k_aald O (k := 27) (g := fun j => 28 + 4 * j) (by omega) E_27 g1 dX0_remember_16 ?_
  have hs2 := scb_ah g1
  have qhs2 := scb_lt hs2
  refine k_astore_n (lv' := [(2, .ref (g_ad X.1 (28 + 4 * (((w.1 26 1) + (w.1 26 2)) - ((w.1 26 1) + (w.1 26 2)) / ((16 : Int32)) * ((16 : Int32))).toNatClampNeg))), (0, .ref (g_ad X.1 26)), (1, .ref (g_ad X.1 b1))]) O dX0_remember_17 rfl (by decide) rfl ?_
  refine k_aload_n O dX0_remember_18 0 rfl ?_
  refine k_ifnonnull O 23 dX0_remember_19 (by decide) ?_
  refine k_aload_n O dX0_remember_23 0 rfl ?_
  refine k_aload_n O dX0_remember_24 2 rfl ?_
  obtain ⟨w4, hc3, h⟩ := bv_some h
  refine k_callVv O (As := [.ref (g_ad X.1 b1)]) (rest := []) (k := (28 + 4 * (((w.1 26 1) + (w.1 26 2)) - ((w.1 26 1) + (w.1 26 2)) / ((16 : Int32)) * ((16 : Int32))).toNatClampNeg)) (c_X3_become (x_l X) X.1 hs2 (by omega) h_b1 (by omega) hc3) gX0_remember_X3_become rfl hd_X3_become (by decide) (by omega) (E_sc hs2) rfl rfl rfl rfl rfl (Nat.le_of_ble_eq_true rfl) dX0_remember_25 ?_
  refine k_aload_n O dX0_remember_28 1 rfl ?_
  refine k_get O (v := .int (w4.1 26 2)) (k := 26) (by omega) E_26 rfl 2 (by decide) (fun _ h9 => List.mem_cons_of_mem _ (List.mem_append_left _ (List.mem_append_right _ h9))) (List.mem_of_getElem? (i := 3) rfl) rfl dX0_remember_29 ?_
  refine k_bipush O dX0_remember_32 (v := 16) (by decide) ?_
  refine k_icmp_ge O 50 dX0_remember_34 (by decide) (fun c5 => ?_) (fun c5 => ?_)
  · have h := ite_t c5 h
    refine k_aload_n O dX0_remember_50 1 rfl ?_
    refine k_aload_n O dX0_remember_51 1 rfl ?_
    refine k_get O (v := .int (w4.1 26 1)) (k := 26) (by omega) E_26 rfl 1 (by decide) (fun _ h9 => List.mem_cons_of_mem _ (List.mem_append_left _ (List.mem_append_right _ h9))) (List.mem_of_getElem? (i := 2) rfl) rfl dX0_remember_52 ?_
    refine k_iconst O dX0_remember_55 (v := 1) (by decide) ?_
    refine k_iadd O dX0_remember_56 ?_
    refine k_bipush O dX0_remember_57 (v := 16) (by decide) ?_
    refine k_irem O dX0_remember_59 (by decide) ?_
    refine k_puti O (k := 26) tyX0 tyX0_ok nmX0 (by omega) E_26 rfl 1 (by decide) (fun _ h9 => List.mem_cons_of_mem _ (List.mem_append_left _ (List.mem_append_right _ h9))) (List.mem_of_getElem? (i := 2) rfl) rfl rfl rfl (Nat.le_of_ble_eq_true rfl) (E_26.trans rfl) dX0_remember_60 ?_
    refine k_nw (fun w6 ew6 => ?_)
    have h := nm_use h w6 ew6
    exact k_vret O dX0_remember_63 (rt_void h ho)
  · have h := ite_f c5 h
    refine k_aload_n O dX0_remember_37 1 rfl ?_
    refine k_dup O dX0_remember_38 rfl ?_
    refine k_get O (v := .int (w4.1 26 2)) (k := 26) (by omega) E_26 rfl 2 (by decide) (fun _ h9 => List.mem_cons_of_mem _ (List.mem_append_left _ (List.mem_append_right _ h9))) (List.mem_of_getElem? (i := 3) rfl) rfl dX0_remember_39 ?_
    refine k_iconst O dX0_remember_42 (v := 1) (by decide) ?_
    refine k_iadd O dX0_remember_43 ?_
    refine k_puti O (k := 26) tyX0 tyX0_ok nmX0 (by omega) E_26 rfl 2 (by decide) (fun _ h9 => List.mem_cons_of_mem _ (List.mem_append_left _ (List.mem_append_right _ h9))) (List.mem_of_getElem? (i := 3) rfl) rfl rfl rfl (Nat.le_of_ble_eq_true rfl) (E_26.trans rfl) dX0_remember_44 ?_
    refine k_nw (fun w7 ew7 => ?_)
    have h := nm_use h w7 ew7
    refine k_goto O 63 dX0_remember_47 (by decide) ?_
    exact k_vret O dX0_remember_63 (rt_void h ho)
theorem c_X0_remember (l : Launch) (G : Gl) {b1 : Nat} (h_b1 : scb b1 = true) (n_b1 : b1 + 3 < g_N G) (hN : 105 ≤ g_N G) {w wz : Wd} (h : f_X0_remember b1 w  = some wz) : Ct l yX0_remember wsX0_remember (1) (22) G [.ref (g_ad G 26), .ref (g_ad G b1)] w (none, wz) := by
  refine Ct.start (by decide) rfl rfl rfl (Nat.le_of_ble_eq_true rfl) (fun X hG ho hl O => ?_)
  subst hG
  subst hl
  exact k_sub [0, 1] rfl (w_X0_remember_0 O h_b1 n_b1 hN ho h)
def b_X0_takeBack_0 (b1 : Nat) (w : Wd) : Option (Wd) := if (w.1 26 2) ≤ 0 then (some w) else (nm (up w 26 2 ((w.1 26 2) - ((1 : Int32)))) (fun w2 => gd (inb (((w2.1 26 1) + (w2.1 26 2)) - ((w2.1 26 1) + (w2.1 26 2)) / ((16 : Int32)) * ((16 : Int32))) 16) (bv (f_X3_become b1 (28 + 4 * (((w2.1 26 1) + (w2.1 26 2)) - ((w2.1 26 1) + (w2.1 26 2)) / ((16 : Int32)) * ((16 : Int32))).toNatClampNeg) w2) (fun w6 => some w6))))
def f_X0_takeBack (b1 : Nat) (w : Wd) : Option (Wd) := b_X0_takeBack_0 b1 w 
set_option maxHeartbeats 4000000 in
set_option maxRecDepth 100000 in
theorem w_X0_takeBack_0 {X : Cx} {wz : Wd} (O : Ok X cX0_takeBack RX0 none wsX0_takeBack (1) (22) 2) {b1 : Nat} (h_b1 : scb b1 = true) (n_b1 : b1 + 3 < g_N X.1) (hN : 105 ≤ g_N X.1) (ho : Ro X (none, wz)) {w : Wd} (h : b_X0_takeBack_0 b1 w  = some wz) : Wk X w 0 [(0, .ref (g_ad X.1 26)), (1, .ref (g_ad X.1 b1))] [] := by
  have q_b1 := scb_lt h_b1
  unfold b_X0_takeBack_0 at h
  refine k_aload_n O dX0_takeBack_0 0 rfl ?_
  refine k_get O (v := .int (w.1 26 2)) (k := 26) (by omega) E_26 rfl 2 (by decide) (fun _ h9 => List.mem_cons_of_mem _ (List.mem_append_left _ (List.mem_append_right _ h9))) (List.mem_of_getElem? (i := 1) rfl) rfl dX0_takeBack_1 ?_
  refine k_if_le O 38 dX0_takeBack_4 (by decide) (fun c1 => ?_) (fun c1 => ?_)
  · have h := ite_t c1 h
    exact k_vret O dX0_takeBack_38 (rt_void h ho)
  · have h := ite_f c1 h
    refine k_aload_n O dX0_takeBack_7 0 rfl ?_
    refine k_dup O dX0_takeBack_8 rfl ?_
    refine k_get O (v := .int (w.1 26 2)) (k := 26) (by omega) E_26 rfl 2 (by decide) (fun _ h9 => List.mem_cons_of_mem _ (List.mem_append_left _ (List.mem_append_right _ h9))) (List.mem_of_getElem? (i := 1) rfl) rfl dX0_takeBack_9 ?_
    refine k_iconst O dX0_takeBack_12 (v := 1) (by decide) ?_
    refine k_isub O dX0_takeBack_13 ?_
    refine k_puti O (k := 26) tyX0 tyX0_ok nmX0 (by omega) E_26 rfl 2 (by decide) (fun _ h9 => List.mem_cons_of_mem _ (List.mem_append_left _ (List.mem_append_right _ h9))) (List.mem_of_getElem? (i := 1) rfl) rfl rfl rfl (Nat.le_of_ble_eq_true rfl) (E_26.trans rfl) dX0_takeBack_14 ?_
    refine k_nw (fun w2 ew2 => ?_)
    have h := nm_use h w2 ew2
    refine k_aload_n O dX0_takeBack_17 1 rfl ?_
    refine k_aload_n O dX0_takeBack_18 0 rfl ?_
    refine k_get O (v := .ref (g_ad X.1 27)) (k := 26) (by omega) E_26 rfl 0 (by decide) (fun _ h9 => List.mem_cons_of_mem _ (List.mem_append_left _ (List.mem_append_right _ h9))) (List.mem_of_getElem? (i := 2) rfl) rfl dX0_takeBack_19 ?_
    refine k_aload_n O dX0_takeBack_22 0 rfl ?_
    refine k_get O (v := .int (w2.1 26 1)) (k := 26) (by omega) E_26 rfl 1 (by decide) (fun _ h9 => List.mem_cons_of_mem _ (List.mem_append_left _ (List.mem_append_right _ h9))) (List.mem_of_getElem? (i := 3) rfl) rfl dX0_takeBack_23 ?_
    refine k_aload_n O dX0_takeBack_26 0 rfl ?_
    refine k_get O (v := .int (w2.1 26 2)) (k := 26) (by omega) E_26 rfl 2 (by decide) (fun _ h9 => List.mem_cons_of_mem _ (List.mem_append_left _ (List.mem_append_right _ h9))) (List.mem_of_getElem? (i := 1) rfl) rfl dX0_takeBack_27 ?_
    refine k_iadd O dX0_takeBack_30 ?_
    refine k_bipush O dX0_takeBack_31 (v := 16) (by decide) ?_
    refine k_irem O dX0_takeBack_33 (by decide) ?_
    obtain ⟨g3, h⟩ := gd_some h
    refine k_aald O (k := 27) (g := fun j => 28 + 4 * j) (by omega) E_27 g3 dX0_takeBack_34 ?_
    have hs4 := scb_ah g3
    have qhs4 := scb_lt hs4
    obtain ⟨w6, hc5, h⟩ := bv_some h
    refine k_callVv O (As := [.ref (g_ad X.1 (28 + 4 * (((w2.1 26 1) + (w2.1 26 2)) - ((w2.1 26 1) + (w2.1 26 2)) / ((16 : Int32)) * ((16 : Int32))).toNatClampNeg))]) (rest := []) (k := b1) (c_X3_become (x_l X) X.1 h_b1 (by omega) hs4 (by omega) hc5) gX0_takeBack_X3_become rfl hd_X3_become (by decide) (by omega) (E_sc h_b1) rfl rfl rfl rfl rfl (Nat.le_of_ble_eq_true rfl) dX0_takeBack_35 ?_
    exact k_vret O dX0_takeBack_38 (rt_void h ho)
theorem c_X0_takeBack (l : Launch) (G : Gl) {b1 : Nat} (h_b1 : scb b1 = true) (n_b1 : b1 + 3 < g_N G) (hN : 105 ≤ g_N G) {w wz : Wd} (h : f_X0_takeBack b1 w  = some wz) : Ct l yX0_takeBack wsX0_takeBack (1) (22) G [.ref (g_ad G 26), .ref (g_ad G b1)] w (none, wz) := by
  refine Ct.start (by decide) rfl rfl rfl (Nat.le_of_ble_eq_true rfl) (fun X hG ho hl O => ?_)
  subst hG
  subst hl
  exact k_sub [0, 1] rfl (w_X0_takeBack_0 O h_b1 n_b1 hN ho h)
def b_X3_begin_97 (b : Nat) : Nat → Wd → Int32 → Option (Wd)
  | 0, _, _ => none
  | n + 1, w, v1 => if ((4 : Int32)) ≤ v1 then (some w) else (gd (inb v1 4) (gd (inb v1 4) (nm (up w (b + 2) v1.toNatClampNeg (w.1 16 v1.toNatClampNeg)) (fun w4 => gd (inb v1 4) (nm (up w4 (b + 3) v1.toNatClampNeg ((-9 : Int32))) (fun w6 => nm (v1 + (1 : Int32)) (fun x7 => b_X3_begin_97 b n w6 x7)))))))
def b_X3_begin_89 (kb23 : Wd → Int32 → Option (Wd)) (b : Nat) (w : Wd) (v1 : Int32) : Option (Wd) := nm (v1 + (1 : Int32)) (fun x1 => kb23 w x1)
def b_X3_begin_81 (kb23 : Wd → Int32 → Option (Wd)) (kb37 : Wd → Int32 → Int32 → Option (Wd)) (b : Nat) (w : Wd) (v1 : Int32) (v2 : Int32) (s0 : Int32) (s1 : Int32) (s2 : Int32) : Option (Wd) := gd (inb s2 2) (nm (up w (b + 1) s2.toNatClampNeg (s1 ||| s0)) (fun w2 => nm (v2 + (1 : Int32)) (fun x3 => kb37 w2 v1 x3)))
def b_X3_begin_37 (kb23 : Wd → Int32 → Option (Wd)) (b : Nat) : Nat → Wd → Int32 → Int32 → Option (Wd)
  | 0, _, _, _ => none
  | n + 1, w, v1, v2 => if ((6 : Int32)) ≤ v2 then (b_X3_begin_89 kb23 b w v1) else (if (w.1 11 0) ≤ v2 then (b_X3_begin_89 kb23 b w v1) else (gd (inb v1 2) (gd (inb v2 6) (if (w.1 13 v2.toNatClampNeg) = v1 then (b_X3_begin_81 kb23 (b_X3_begin_37 kb23 b n) b w v1 v2 (((1 : Int32)) <<< (v2 &&& 31)) (w.1 (b + 1) v1.toNatClampNeg) v1) else (b_X3_begin_81 kb23 (b_X3_begin_37 kb23 b n) b w v1 v2 ((0 : Int32)) (w.1 (b + 1) v1.toNatClampNeg) v1)))))
def b_X3_begin_23 (b : Nat) : Nat → Wd → Int32 → Option (Wd)
  | 0, _, _ => none
  | n + 1, w, v1 => if ((2 : Int32)) ≤ v1 then (b_X3_begin_97 b LF w ((0 : Int32))) else (gd (inb v1 2) (nm (up w (b + 1) v1.toNatClampNeg ((0 : Int32))) (fun w3 => b_X3_begin_37 (b_X3_begin_23 b n) b LF w3 v1 ((0 : Int32)))))
def b_X3_begin_0 (b : Nat) (w : Wd) : Option (Wd) := bd (f_X1_allTraps 11 w) (fun r3 w2 => nm (up w2 b 1 r3) (fun w4 => nm (up w4 b 2 ((0 : Int32))) (fun w5 => nm (up w5 b 3 ((0 : Int32))) (fun w6 => b_X3_begin_23 b LF w6 ((0 : Int32))))))
def f_X3_begin (b : Nat) (w : Wd) : Option (Wd) := b_X3_begin_0 b w 
set_option maxHeartbeats 4000000 in
set_option maxRecDepth 100000 in
theorem w_X3_begin_97 {X : Cx} {wz : Wd} (O : Ok X cX3_begin RX3 none wsX3_begin (1) (20) 3) {b : Nat} (h_b : scb b = true) (n_b : b + 3 < g_N X.1) (ho : Ro X (none, wz)) (n : Nat) : ∀ {w : Wd} {v1 : Int32}, b_X3_begin_97 b n w v1 = some wz → Wk X w 97 [(0, .ref (g_ad X.1 b)), (1, .int v1)] [] := by
  have q_b := scb_lt h_b
  induction n with
  | zero => intro w v1 h; exact nomatch (show (none : Option (Wd)) = some _ from h)
  | succ n ih =>
    intro w v1 h
    rw [b_X3_begin_97] at h
    refine k_iload_n O dX3_begin_97 1 rfl ?_
    refine k_iconst O dX3_begin_98 (v := 4) (by decide) ?_
    refine k_icmp_ge O 131 dX3_begin_99 (by decide) (fun c1 => ?_) (fun c1 => ?_)
    · have h := ite_t c1 h
      exact k_vret O dX3_begin_131 (rt_void h ho)
    · have h := ite_f c1 h
      refine k_aload_n O dX3_begin_102 0 rfl ?_
      refine k_get O (v := .ref (g_ad X.1 (b + 2))) (k := b) (by omega) (E_sc h_b) rfl 5 (by decide) (fun _ h9 => List.mem_cons_of_mem _ (List.mem_append_left _ (List.mem_append_right _ h9))) (List.mem_of_getElem? (i := 8) rfl) rfl dX3_begin_103 ?_
      refine k_iload_n O dX3_begin_106 1 rfl ?_
      refine k_aload_n O dX3_begin_107 0 rfl ?_
      refine k_get O (v := .ref (g_ad X.1 11)) (k := b) (by omega) (E_sc h_b) rfl 0 (by decide) (fun _ h9 => List.mem_cons_of_mem _ (List.mem_append_left _ (List.mem_append_right _ h9))) (List.mem_of_getElem? (i := 1) rfl) rfl dX3_begin_108 ?_
      refine k_get O (v := .ref (g_ad X.1 16)) (k := 11) (by omega) (E_pl (by decide)) rfl 10 (by decide) (fun _ h9 => List.mem_cons_of_mem _ (List.mem_append_right _ h9)) (List.mem_of_getElem? (i := 9) rfl) rfl dX3_begin_111 ?_
      refine k_iload_n O dX3_begin_114 1 rfl ?_
      obtain ⟨g2, h⟩ := gd_some h
      refine k_iald O (k := 16) (by omega) (E_pl5 (by decide)) g2 dX3_begin_115 ?_
      obtain ⟨g3, h⟩ := gd_some h
      refine k_iast O (k := (b + 2)) (by omega) (E_sc2 h_b) (fun _ => (E_sc2 h_b)) g3 dX3_begin_116 ?_
      refine k_nw (fun w4 ew4 => ?_)
      have h := nm_use h w4 ew4
      refine k_aload_n O dX3_begin_117 0 rfl ?_
      refine k_get O (v := .ref (g_ad X.1 (b + 3))) (k := b) (by omega) (E_sc h_b) rfl 6 (by decide) (fun _ h9 => List.mem_cons_of_mem _ (List.mem_append_left _ (List.mem_append_right _ h9))) (List.mem_of_getElem? (i := 10) rfl) rfl dX3_begin_118 ?_
      refine k_iload_n O dX3_begin_121 1 rfl ?_
      refine k_bipush O dX3_begin_122 (v := -9) (by decide) ?_
      obtain ⟨g5, h⟩ := gd_some h
      refine k_iast O (k := (b + 3)) (by omega) (E_sc3 h_b) (fun _ => (E_sc3 h_b)) g5 dX3_begin_124 ?_
      refine k_nw (fun w6 ew6 => ?_)
      have h := nm_use h w6 ew6
      obtain ⟨x7, ex7⟩ : ∃ z : Int32, z = v1 + (1 : Int32) := ⟨_, rfl⟩
      have h := nm_use h x7 ex7
      refine k_iinc (lv' := [(1, .int x7), (0, .ref (g_ad X.1 b))]) O dX3_begin_125 1 rfl (by rw [ex7]; rfl) (by decide) rfl ?_
      refine k_goto O 97 dX3_begin_128 (by decide) ?_
      exact k_sub [1, 0] rfl (ih h)
set_option maxHeartbeats 4000000 in
set_option maxRecDepth 100000 in
theorem w_X3_begin_89 {X : Cx} {wz : Wd} (O : Ok X cX3_begin RX3 none wsX3_begin (1) (20) 3) {b : Nat} (h_b : scb b = true) (n_b : b + 3 < g_N X.1) {kb23 : Wd → Int32 → Option (Wd)} (hk23 : ∀ {w : Wd} {v1 : Int32}, kb23 w v1 = some wz → Wk X w 23 [(0, .ref (g_ad X.1 b)), (1, .int v1)] []) (ho : Ro X (none, wz)) {w : Wd} {v1 : Int32} (h : b_X3_begin_89 kb23 b w v1 = some wz) : Wk X w 89 [(0, .ref (g_ad X.1 b)), (1, .int v1)] [] := by
  have q_b := scb_lt h_b
  unfold b_X3_begin_89 at h
  obtain ⟨x1, ex1⟩ : ∃ z : Int32, z = v1 + (1 : Int32) := ⟨_, rfl⟩
  have h := nm_use h x1 ex1
  refine k_iinc (lv' := [(1, .int x1), (0, .ref (g_ad X.1 b))]) O dX3_begin_89 1 rfl (by rw [ex1]; rfl) (by decide) rfl ?_
  refine k_goto O 23 dX3_begin_92 (by decide) ?_
  exact k_sub [1, 0] rfl (hk23 h)
set_option maxHeartbeats 4000000 in
set_option maxRecDepth 100000 in
theorem w_X3_begin_81 {X : Cx} {wz : Wd} (O : Ok X cX3_begin RX3 none wsX3_begin (1) (20) 3) {b : Nat} (h_b : scb b = true) (n_b : b + 3 < g_N X.1) {kb23 : Wd → Int32 → Option (Wd)} (hk23 : ∀ {w : Wd} {v1 : Int32}, kb23 w v1 = some wz → Wk X w 23 [(0, .ref (g_ad X.1 b)), (1, .int v1)] []) {kb37 : Wd → Int32 → Int32 → Option (Wd)} (hk37 : ∀ {w : Wd} {v1 : Int32} {v2 : Int32}, kb37 w v1 v2 = some wz → Wk X w 37 [(0, .ref (g_ad X.1 b)), (1, .int v1), (2, .int v2)] []) (ho : Ro X (none, wz)) {w : Wd} {v1 : Int32} {v2 : Int32} {s0 : Int32} {s1 : Int32} {s2 : Int32} (h : b_X3_begin_81 kb23 kb37 b w v1 v2 s0 s1 s2 = some wz) : Wk X w 81 [(0, .ref (g_ad X.1 b)), (1, .int v1), (2, .int v2)] [.int s0, .int s1, .int s2, .ref (g_ad X.1 (b + 1))] := by
  have q_b := scb_lt h_b
  unfold b_X3_begin_81 at h
  refine k_ior O dX3_begin_81 ?_
  obtain ⟨g1, h⟩ := gd_some h
  refine k_iast O (k := (b + 1)) (by omega) (E_sc1 h_b) (fun _ => (E_sc1 h_b)) g1 dX3_begin_82 ?_
  refine k_nw (fun w2 ew2 => ?_)
  have h := nm_use h w2 ew2
  obtain ⟨x3, ex3⟩ : ∃ z : Int32, z = v2 + (1 : Int32) := ⟨_, rfl⟩
  have h := nm_use h x3 ex3
  refine k_iinc (lv' := [(2, .int x3), (0, .ref (g_ad X.1 b)), (1, .int v1)]) O dX3_begin_83 2 rfl (by rw [ex3]; rfl) (by decide) rfl ?_
  refine k_goto O 37 dX3_begin_86 (by decide) ?_
  exact k_sub [1, 2, 0] rfl (hk37 h)
set_option maxHeartbeats 4000000 in
set_option maxRecDepth 100000 in
theorem w_X3_begin_37 {X : Cx} {wz : Wd} (O : Ok X cX3_begin RX3 none wsX3_begin (1) (20) 3) {b : Nat} (h_b : scb b = true) (n_b : b + 3 < g_N X.1) {kb23 : Wd → Int32 → Option (Wd)} (hk23 : ∀ {w : Wd} {v1 : Int32}, kb23 w v1 = some wz → Wk X w 23 [(0, .ref (g_ad X.1 b)), (1, .int v1)] []) (ho : Ro X (none, wz)) (n : Nat) : ∀ {w : Wd} {v1 : Int32} {v2 : Int32}, b_X3_begin_37 kb23 b n w v1 v2 = some wz → Wk X w 37 [(0, .ref (g_ad X.1 b)), (1, .int v1), (2, .int v2)] [] := by
  have q_b := scb_lt h_b
  induction n with
  | zero => intro w v1 v2 h; exact nomatch (show (none : Option (Wd)) = some _ from h)
  | succ n ih =>
    intro w v1 v2 h
    rw [b_X3_begin_37] at h
    refine k_iload_n O dX3_begin_37 2 rfl ?_
    refine k_bipush O dX3_begin_38 (v := 6) (by decide) ?_
    refine k_icmp_ge O 89 dX3_begin_40 (by decide) (fun c1 => ?_) (fun c1 => ?_)
    · have h := ite_t c1 h
      exact k_sub [0, 1] rfl (w_X3_begin_89 O h_b n_b hk23 ho h)
    · have h := ite_f c1 h
      refine k_iload_n O dX3_begin_43 2 rfl ?_
      refine k_aload_n O dX3_begin_44 0 rfl ?_
      refine k_get O (v := .ref (g_ad X.1 11)) (k := b) (by omega) (E_sc h_b) rfl 0 (by decide) (fun _ h9 => List.mem_cons_of_mem _ (List.mem_append_left _ (List.mem_append_right _ h9))) (List.mem_of_getElem? (i := 1) rfl) rfl dX3_begin_45 ?_
      refine k_get O (v := .int (w.1 11 0)) (k := 11) (by omega) (E_pl (by decide)) rfl 0 (by decide) (fun _ h9 => List.mem_cons_of_mem _ (List.mem_append_right _ h9)) (List.mem_of_getElem? (i := 6) rfl) rfl dX3_begin_48 ?_
      refine k_icmp_ge O 89 dX3_begin_51 (by decide) (fun c2 => ?_) (fun c2 => ?_)
      · have h := ite_t c2 h
        exact k_sub [0, 1] rfl (w_X3_begin_89 O h_b n_b hk23 ho h)
      · have h := ite_f c2 h
        refine k_aload_n O dX3_begin_54 0 rfl ?_
        refine k_get O (v := .ref (g_ad X.1 (b + 1))) (k := b) (by omega) (E_sc h_b) rfl 4 (by decide) (fun _ h9 => List.mem_cons_of_mem _ (List.mem_append_left _ (List.mem_append_right _ h9))) (List.mem_of_getElem? (i := 5) rfl) rfl dX3_begin_55 ?_
        refine k_iload_n O dX3_begin_58 1 rfl ?_
        refine k_dup2 O dX3_begin_59 rfl rfl ?_
        obtain ⟨g3, h⟩ := gd_some h
        refine k_iald O (k := (b + 1)) (by omega) (E_sc1 h_b) g3 dX3_begin_60 ?_
        refine k_aload_n O dX3_begin_61 0 rfl ?_
        refine k_get O (v := .ref (g_ad X.1 11)) (k := b) (by omega) (E_sc h_b) rfl 0 (by decide) (fun _ h9 => List.mem_cons_of_mem _ (List.mem_append_left _ (List.mem_append_right _ h9))) (List.mem_of_getElem? (i := 1) rfl) rfl dX3_begin_62 ?_
        refine k_get O (v := .ref (g_ad X.1 13)) (k := 11) (by omega) (E_pl (by decide)) rfl 7 (by decide) (fun _ h9 => List.mem_cons_of_mem _ (List.mem_append_right _ h9)) (List.mem_of_getElem? (i := 7) rfl) rfl dX3_begin_65 ?_
        refine k_iload_n O dX3_begin_68 2 rfl ?_
        obtain ⟨g4, h⟩ := gd_some h
        refine k_iald O (k := 13) (by omega) (E_pl2 (by decide)) g4 dX3_begin_69 ?_
        refine k_iload_n O dX3_begin_70 1 rfl ?_
        refine k_icmp_ne O 80 dX3_begin_71 (by decide) (fun c5 => ?_) (fun c5 => ?_)
        · have h := ite_f c5 h
          refine k_iconst O dX3_begin_80 (v := 0) (by decide) ?_
          exact k_sub [0, 1, 2] rfl (w_X3_begin_81 O h_b n_b hk23 (fun {_} {_} {_} h9 => ih h9) ho h)
        · have h := ite_t c5 h
          refine k_iconst O dX3_begin_74 (v := 1) (by decide) ?_
          refine k_iload_n O dX3_begin_75 2 rfl ?_
          refine k_ishl O dX3_begin_76 ?_
          refine k_goto O 81 dX3_begin_77 (by decide) ?_
          exact k_sub [0, 1, 2] rfl (w_X3_begin_81 O h_b n_b hk23 (fun {_} {_} {_} h9 => ih h9) ho h)
set_option maxHeartbeats 4000000 in
set_option maxRecDepth 100000 in
theorem w_X3_begin_23 {X : Cx} {wz : Wd} (O : Ok X cX3_begin RX3 none wsX3_begin (1) (20) 3) {b : Nat} (h_b : scb b = true) (n_b : b + 3 < g_N X.1) (ho : Ro X (none, wz)) (n : Nat) : ∀ {w : Wd} {v1 : Int32}, b_X3_begin_23 b n w v1 = some wz → Wk X w 23 [(0, .ref (g_ad X.1 b)), (1, .int v1)] [] := by
  have q_b := scb_lt h_b
  induction n with
  | zero => intro w v1 h; exact nomatch (show (none : Option (Wd)) = some _ from h)
  | succ n ih =>
    intro w v1 h
    rw [b_X3_begin_23] at h
    refine k_iload_n O dX3_begin_23 1 rfl ?_
    refine k_iconst O dX3_begin_24 (v := 2) (by decide) ?_
    refine k_icmp_ge O 95 dX3_begin_25 (by decide) (fun c1 => ?_) (fun c1 => ?_)
    · have h := ite_t c1 h
      refine k_iconst O dX3_begin_95 (v := 0) (by decide) ?_
      refine k_istore_n (lv' := [(1, .int ((0 : Int32))), (0, .ref (g_ad X.1 b))]) O dX3_begin_96 rfl (by decide) rfl ?_
      exact k_sub [1, 0] rfl (w_X3_begin_97 O h_b n_b ho LF h)
    · have h := ite_f c1 h
      refine k_aload_n O dX3_begin_28 0 rfl ?_
      refine k_get O (v := .ref (g_ad X.1 (b + 1))) (k := b) (by omega) (E_sc h_b) rfl 4 (by decide) (fun _ h9 => List.mem_cons_of_mem _ (List.mem_append_left _ (List.mem_append_right _ h9))) (List.mem_of_getElem? (i := 5) rfl) rfl dX3_begin_29 ?_
      refine k_iload_n O dX3_begin_32 1 rfl ?_
      refine k_iconst O dX3_begin_33 (v := 0) (by decide) ?_
      obtain ⟨g2, h⟩ := gd_some h
      refine k_iast O (k := (b + 1)) (by omega) (E_sc1 h_b) (fun _ => (E_sc1 h_b)) g2 dX3_begin_34 ?_
      refine k_nw (fun w3 ew3 => ?_)
      have h := nm_use h w3 ew3
      refine k_iconst O dX3_begin_35 (v := 0) (by decide) ?_
      refine k_istore_n (lv' := [(2, .int ((0 : Int32))), (0, .ref (g_ad X.1 b)), (1, .int v1)]) O dX3_begin_36 rfl (by decide) rfl ?_
      exact k_sub [1, 2, 0] rfl (w_X3_begin_37 O h_b n_b (fun {_} {_} h9 => ih h9) ho LF h)
set_option maxHeartbeats 4000000 in
set_option maxRecDepth 100000 in
theorem w_X3_begin_0 {X : Cx} {wz : Wd} (O : Ok X cX3_begin RX3 none wsX3_begin (1) (20) 3) {b : Nat} (h_b : scb b = true) (n_b : b + 3 < g_N X.1) (ho : Ro X (none, wz)) {w : Wd} (h : b_X3_begin_0 b w  = some wz) : Wk X w 0 [(0, .ref (g_ad X.1 b))] [] := by
  have q_b := scb_lt h_b
  unfold b_X3_begin_0 at h
  refine k_aload_n O dX3_begin_0 0 rfl ?_
  refine k_aload_n O dX3_begin_1 0 rfl ?_
  refine k_get O (v := .ref (g_ad X.1 11)) (k := b) (by omega) (E_sc h_b) rfl 0 (by decide) (fun _ h9 => List.mem_cons_of_mem _ (List.mem_append_left _ (List.mem_append_right _ h9))) (List.mem_of_getElem? (i := 1) rfl) rfl dX3_begin_2 ?_
  obtain ⟨r3, w2, hc1, h⟩ := bd_some h
  refine k_callVi O (As := []) (rest := [.ref (g_ad X.1 b)]) (k := 11) (c_X1_allTraps (x_l X) X.1 (by decide) (by omega) hc1) gX3_begin_X1_allTraps rfl hd_X1_allTraps (by decide) (by omega) (E_pl (by decide)) rfl rfl rfl rfl rfl (Nat.le_of_ble_eq_true rfl) dX3_begin_5 ?_
  refine k_puti O (k := b) tyX3 tyX3_ok nmX3 (by omega) (E_sc h_b) rfl 1 (by decide) (fun _ h9 => List.mem_cons_of_mem _ (List.mem_append_left _ (List.mem_append_right _ h9))) (List.mem_of_getElem? (i := 2) rfl) rfl rfl rfl (Nat.le_of_ble_eq_true rfl) ((E_sc h_b).trans rfl) dX3_begin_8 ?_
  refine k_nw (fun w4 ew4 => ?_)
  have h := nm_use h w4 ew4
  refine k_aload_n O dX3_begin_11 0 rfl ?_
  refine k_iconst O dX3_begin_12 (v := 0) (by decide) ?_
  refine k_puti O (k := b) tyX3 tyX3_ok nmX3 (by omega) (E_sc h_b) rfl 2 (by decide) (fun _ h9 => List.mem_cons_of_mem _ (List.mem_append_left _ (List.mem_append_right _ h9))) (List.mem_of_getElem? (i := 3) rfl) rfl rfl rfl (Nat.le_of_ble_eq_true rfl) ((E_sc h_b).trans rfl) dX3_begin_13 ?_
  refine k_nw (fun w5 ew5 => ?_)
  have h := nm_use h w5 ew5
  refine k_aload_n O dX3_begin_16 0 rfl ?_
  refine k_iconst O dX3_begin_17 (v := 0) (by decide) ?_
  refine k_puti O (k := b) tyX3 tyX3_ok nmX3 (by omega) (E_sc h_b) rfl 3 (by decide) (fun _ h9 => List.mem_cons_of_mem _ (List.mem_append_left _ (List.mem_append_right _ h9))) (List.mem_of_getElem? (i := 4) rfl) rfl (by decide) (by decide) (Nat.le_of_ble_eq_true rfl) ((E_sc h_b).trans rfl) dX3_begin_18 ?_
  refine k_nw (fun w6 ew6 => ?_)
  have h := nm_use h w6 ew6
  refine k_iconst O dX3_begin_21 (v := 0) (by decide) ?_
  refine k_istore_n (lv' := [(1, .int ((0 : Int32))), (0, .ref (g_ad X.1 b))]) O dX3_begin_22 rfl (by decide) rfl ?_
  exact k_sub [1, 0] rfl (w_X3_begin_23 O h_b n_b ho LF h)
theorem c_X3_begin (l : Launch) (G : Gl) {b : Nat} (h_b : scb b = true) (n_b : b + 3 < g_N G) {w wz : Wd} (h : f_X3_begin b w  = some wz) : Ct l yX3_begin wsX3_begin (1) (20) G [.ref (g_ad G b)] w (none, wz) := by
  refine Ct.start (by decide) rfl rfl rfl (Nat.le_of_ble_eq_true rfl) (fun X hG ho hl O => ?_)
  subst hG
  subst hl
  exact k_sub [0] rfl (w_X3_begin_0 O h_b n_b ho h)
def b_X3_ready_0 (b : Nat) (w : Wd) : Option (Int32 × Wd) := if (w.1 b 3) = 0 then (some ((w.1 b 1) &&& ((w.1 11 3) ^^^ ((-1 : Int32))), w)) else (some ((0 : Int32), w))
def f_X3_ready (b : Nat) (w : Wd) : Option (Int32 × Wd) := b_X3_ready_0 b w 
set_option maxHeartbeats 4000000 in
set_option maxRecDepth 100000 in
theorem w_X3_ready_0 {X : Cx} {rz : Int32} {wz : Wd} (O : Ok X cX3_ready RX3 ((some .int)) wsX3_ready (0) (0) 1) {b : Nat} (h_b : scb b = true) (n_b : b + 3 < g_N X.1) (ho : Ro X (some (.int rz), wz)) {w : Wd} (h : b_X3_ready_0 b w  = some (rz, wz)) : Wk X w 0 [(0, .ref (g_ad X.1 b))] [] := by
  have q_b := scb_lt h_b
  unfold b_X3_ready_0 at h
  refine k_aload_n O dX3_ready_0 0 rfl ?_
  refine k_get O (v := .int (w.1 b 3)) (k := b) (by omega) (E_sc h_b) rfl 3 (by decide) (fun _ h9 => List.mem_cons_of_mem _ (List.mem_append_left _ (List.mem_append_right _ h9))) (List.mem_of_getElem? (i := 1) rfl) rfl dX3_ready_1 ?_
  refine k_if_eq O 11 dX3_ready_4 (by decide) (fun c1 => ?_) (fun c1 => ?_)
  · have h := ite_t c1 h
    refine k_aload_n O dX3_ready_11 0 rfl ?_
    refine k_get O (v := .int (w.1 b 1)) (k := b) (by omega) (E_sc h_b) rfl 1 (by decide) (fun _ h9 => List.mem_cons_of_mem _ (List.mem_append_left _ (List.mem_append_right _ h9))) (List.mem_of_getElem? (i := 2) rfl) rfl dX3_ready_12 ?_
    refine k_aload_n O dX3_ready_15 0 rfl ?_
    refine k_get O (v := .ref (g_ad X.1 11)) (k := b) (by omega) (E_sc h_b) rfl 0 (by decide) (fun _ h9 => List.mem_cons_of_mem _ (List.mem_append_left _ (List.mem_append_right _ h9))) (List.mem_of_getElem? (i := 3) rfl) rfl dX3_ready_16 ?_
    refine k_get O (v := .int (w.1 11 3)) (k := 11) (by omega) (E_pl (by decide)) rfl 3 (by decide) (fun _ h9 => List.mem_cons_of_mem _ (List.mem_append_right _ h9)) (List.mem_of_getElem? (i := 4) rfl) rfl dX3_ready_19 ?_
    refine k_iconst O dX3_ready_22 (v := -1) (by decide) ?_
    refine k_ixor O dX3_ready_23 ?_
    refine k_iand O dX3_ready_24 ?_
    exact k_iret O dX3_ready_25 (rt_int h ho)
  · have h := ite_f c1 h
    refine k_iconst O dX3_ready_7 (v := 0) (by decide) ?_
    refine k_goto O 25 dX3_ready_8 (by decide) ?_
    exact k_iret O dX3_ready_25 (rt_int h ho)
theorem c_X3_ready (l : Launch) (G : Gl) {b : Nat} (h_b : scb b = true) (n_b : b + 3 < g_N G) {w wz : Wd} {rz : Int32} (h : f_X3_ready b w  = some (rz, wz)) : Ct l yX3_ready wsX3_ready (0) (0) G [.ref (g_ad G b)] w (some (.int rz), wz) := by
  refine Ct.start (by decide) rfl rfl rfl (Nat.le_of_ble_eq_true rfl) (fun X hG ho hl O => ?_)
  subst hG
  subst hl
  exact k_sub [0] rfl (w_X3_ready_0 O h_b n_b ho h)
def b_X3_isFree_0 (b : Nat) (w : Wd) (v1 : Int32) : Option (Int32 × Wd) := bd (f_X1_hasWalker 11 w v1) (fun r3 w2 => if r3 = 0 then (some ((0 : Int32), w2)) else (gd (inb v1 4) (if (w2.1 (b + 3) v1.toNatClampNeg) = ((-9 : Int32)) then (some ((1 : Int32), w2)) else (some ((0 : Int32), w2)))))
def f_X3_isFree (b : Nat) (w : Wd) (v1 : Int32) : Option (Int32 × Wd) := b_X3_isFree_0 b w v1
set_option maxHeartbeats 4000000 in
set_option maxRecDepth 100000 in
theorem w_X3_isFree_0 {X : Cx} {rz : Int32} {wz : Wd} (O : Ok X cX3_isFree RX3 ((some .boolean)) wsX3_isFree (1) (21) 2) {b : Nat} (h_b : scb b = true) (n_b : b + 3 < g_N X.1) (ho : Ro X (some (.int rz), wz)) {w : Wd} {v1 : Int32} (h : b_X3_isFree_0 b w v1 = some (rz, wz)) : Wk X w 0 [(0, .ref (g_ad X.1 b)), (1, .int v1)] [] := by
  have q_b := scb_lt h_b
  unfold b_X3_isFree_0 at h
  refine k_aload_n O dX3_isFree_0 0 rfl ?_
  refine k_get O (v := .ref (g_ad X.1 11)) (k := b) (by omega) (E_sc h_b) rfl 0 (by decide) (fun _ h9 => List.mem_cons_of_mem _ (List.mem_append_left _ (List.mem_append_right _ h9))) (List.mem_of_getElem? (i := 1) rfl) rfl dX3_isFree_1 ?_
  refine k_iload_n O dX3_isFree_4 1 rfl ?_
  obtain ⟨r3, w2, hc1, h⟩ := bd_some h
  refine k_callVi O (As := [.int v1]) (rest := []) (k := 11) (c_X1_hasWalker (x_l X) X.1 (by decide) (by omega) hc1) gX3_isFree_X1_hasWalker rfl hd_X1_hasWalker (by decide) (by omega) (E_pl (by decide)) rfl rfl rfl rfl rfl (Nat.le_of_ble_eq_true rfl) dX3_isFree_5 ?_
  refine k_if_eq O 26 dX3_isFree_8 (by decide) (fun c4 => ?_) (fun c4 => ?_)
  · have h := ite_t c4 h
    refine k_iconst O dX3_isFree_26 (v := 0) (by decide) ?_
    exact k_zret O (by decide) dX3_isFree_27 (rt_int h ho)
  · have h := ite_f c4 h
    refine k_aload_n O dX3_isFree_11 0 rfl ?_
    refine k_get O (v := .ref (g_ad X.1 (b + 3))) (k := b) (by omega) (E_sc h_b) rfl 6 (by decide) (fun _ h9 => List.mem_cons_of_mem _ (List.mem_append_left _ (List.mem_append_right _ h9))) (List.mem_of_getElem? (i := 2) rfl) rfl dX3_isFree_12 ?_
    refine k_iload_n O dX3_isFree_15 1 rfl ?_
    obtain ⟨g5, h⟩ := gd_some h
    refine k_iald O (k := (b + 3)) (by omega) (E_sc3 h_b) g5 dX3_isFree_16 ?_
    refine k_bipush O dX3_isFree_17 (v := -9) (by decide) ?_
    refine k_icmp_ne O 26 dX3_isFree_19 (by decide) (fun c6 => ?_) (fun c6 => ?_)
    · have h := ite_f c6 h
      refine k_iconst O dX3_isFree_26 (v := 0) (by decide) ?_
      exact k_zret O (by decide) dX3_isFree_27 (rt_int h ho)
    · have h := ite_t c6 h
      refine k_iconst O dX3_isFree_22 (v := 1) (by decide) ?_
      refine k_goto O 27 dX3_isFree_23 (by decide) ?_
      exact k_zret O (by decide) dX3_isFree_27 (rt_int h ho)
theorem c_X3_isFree (l : Launch) (G : Gl) {b : Nat} (h_b : scb b = true) (n_b : b + 3 < g_N G) {w wz : Wd} {v1 : Int32} {rz : Int32} (h : f_X3_isFree b w v1 = some (rz, wz)) : Ct l yX3_isFree wsX3_isFree (1) (21) G [.ref (g_ad G b), .int v1] w (some (.int rz), wz) := by
  refine Ct.start (by decide) rfl rfl rfl (Nat.le_of_ble_eq_true rfl) (fun X hG ho hl O => ?_)
  subst hG
  subst hl
  exact k_sub [0, 1] rfl (w_X3_isFree_0 O h_b n_b ho h)
def b_X3_caught_39 (kb4 : Wd → Int32 → Int32 → Option (Int32 × Wd)) (b : Nat) (w : Wd) (v2 : Int32) (s0 : Int32) (s1 : Int32) : Option (Int32 × Wd) := nm (s1 ||| s0) (fun x1 => nm (v2 + (1 : Int32)) (fun x2 => kb4 w x1 x2))
def b_X3_caught_4 (b : Nat) : Nat → Wd → Int32 → Int32 → Option (Int32 × Wd)
  | 0, _, _, _ => none
  | n + 1, w, v1, v2 => if ((4 : Int32)) ≤ v2 then (some (v1, w)) else (if (w.1 11 1) ≤ v2 then (some (v1, w)) else (gd (inb v2 4) (if (w.1 (b + 3) v2.toNatClampNeg) = ((-9 : Int32)) then (b_X3_caught_39 (b_X3_caught_4 b n) b w v2 ((0 : Int32)) v1) else (b_X3_caught_39 (b_X3_caught_4 b n) b w v2 (((1 : Int32)) <<< (v2 &&& 31)) v1))))
def b_X3_caught_0 (b : Nat) (w : Wd) : Option (Int32 × Wd) := b_X3_caught_4 b LF w ((0 : Int32)) ((0 : Int32))
def f_X3_caught (b : Nat) (w : Wd) : Option (Int32 × Wd) := b_X3_caught_0 b w 
set_option maxHeartbeats 4000000 in
set_option maxRecDepth 100000 in
theorem w_X3_caught_39 {X : Cx} {rz : Int32} {wz : Wd} (O : Ok X cX3_caught RX3 ((some .int)) wsX3_caught (0) (0) 3) {b : Nat} (h_b : scb b = true) (n_b : b + 3 < g_N X.1) {kb4 : Wd → Int32 → Int32 → Option (Int32 × Wd)} (hk4 : ∀ {w : Wd} {v1 : Int32} {v2 : Int32}, kb4 w v1 v2 = some (rz, wz) → Wk X w 4 [(0, .ref (g_ad X.1 b)), (1, .int v1), (2, .int v2)] []) (ho : Ro X (some (.int rz), wz)) {w : Wd} {v2 : Int32} {s0 : Int32} {s1 : Int32} (h : b_X3_caught_39 kb4 b w v2 s0 s1 = some (rz, wz)) : Wk X w 39 [(0, .ref (g_ad X.1 b)), (2, .int v2)] [.int s0, .int s1] := by
  have q_b := scb_lt h_b
  unfold b_X3_caught_39 at h
  refine k_ior O dX3_caught_39 ?_
  refine k_topi (fun x1 ex1 => ?_)
  have h := nm_use h x1 ex1
  refine k_istore_n (lv' := [(1, .int x1), (0, .ref (g_ad X.1 b)), (2, .int v2)]) O dX3_caught_40 rfl (by decide) rfl ?_
  obtain ⟨x2, ex2⟩ : ∃ z : Int32, z = v2 + (1 : Int32) := ⟨_, rfl⟩
  have h := nm_use h x2 ex2
  refine k_iinc (lv' := [(2, .int x2), (1, .int x1), (0, .ref (g_ad X.1 b))]) O dX3_caught_41 2 rfl (by rw [ex2]; rfl) (by decide) rfl ?_
  refine k_goto O 4 dX3_caught_44 (by decide) ?_
  exact k_sub [2, 1, 0] rfl (hk4 h)
set_option maxHeartbeats 4000000 in
set_option maxRecDepth 100000 in
theorem w_X3_caught_4 {X : Cx} {rz : Int32} {wz : Wd} (O : Ok X cX3_caught RX3 ((some .int)) wsX3_caught (0) (0) 3) {b : Nat} (h_b : scb b = true) (n_b : b + 3 < g_N X.1) (ho : Ro X (some (.int rz), wz)) (n : Nat) : ∀ {w : Wd} {v1 : Int32} {v2 : Int32}, b_X3_caught_4 b n w v1 v2 = some (rz, wz) → Wk X w 4 [(0, .ref (g_ad X.1 b)), (1, .int v1), (2, .int v2)] [] := by
  have q_b := scb_lt h_b
  induction n with
  | zero => intro w v1 v2 h; exact nomatch (show (none : Option (Int32 × Wd)) = some _ from h)
  | succ n ih =>
    intro w v1 v2 h
    rw [b_X3_caught_4] at h
    refine k_iload_n O dX3_caught_4 2 rfl ?_
    refine k_iconst O dX3_caught_5 (v := 4) (by decide) ?_
    refine k_icmp_ge O 47 dX3_caught_6 (by decide) (fun c1 => ?_) (fun c1 => ?_)
    · have h := ite_t c1 h
      refine k_iload_n O dX3_caught_47 1 rfl ?_
      exact k_iret O dX3_caught_48 (rt_int h ho)
    · have h := ite_f c1 h
      refine k_iload_n O dX3_caught_9 2 rfl ?_
      refine k_aload_n O dX3_caught_10 0 rfl ?_
      refine k_get O (v := .ref (g_ad X.1 11)) (k := b) (by omega) (E_sc h_b) rfl 0 (by decide) (fun _ h9 => List.mem_cons_of_mem _ (List.mem_append_left _ (List.mem_append_right _ h9))) (List.mem_of_getElem? (i := 1) rfl) rfl dX3_caught_11 ?_
      refine k_get O (v := .int (w.1 11 1)) (k := 11) (by omega) (E_pl (by decide)) rfl 1 (by decide) (fun _ h9 => List.mem_cons_of_mem _ (List.mem_append_right _ h9)) (List.mem_of_getElem? (i := 2) rfl) rfl dX3_caught_14 ?_
      refine k_icmp_ge O 47 dX3_caught_17 (by decide) (fun c2 => ?_) (fun c2 => ?_)
      · have h := ite_t c2 h
        refine k_iload_n O dX3_caught_47 1 rfl ?_
        exact k_iret O dX3_caught_48 (rt_int h ho)
      · have h := ite_f c2 h
        refine k_iload_n O dX3_caught_20 1 rfl ?_
        refine k_aload_n O dX3_caught_21 0 rfl ?_
        refine k_get O (v := .ref (g_ad X.1 (b + 3))) (k := b) (by omega) (E_sc h_b) rfl 6 (by decide) (fun _ h9 => List.mem_cons_of_mem _ (List.mem_append_left _ (List.mem_append_right _ h9))) (List.mem_of_getElem? (i := 3) rfl) rfl dX3_caught_22 ?_
        refine k_iload_n O dX3_caught_25 2 rfl ?_
        obtain ⟨g3, h⟩ := gd_some h
        refine k_iald O (k := (b + 3)) (by omega) (E_sc3 h_b) g3 dX3_caught_26 ?_
        refine k_bipush O dX3_caught_27 (v := -9) (by decide) ?_
        refine k_icmp_ne O 36 dX3_caught_29 (by decide) (fun c4 => ?_) (fun c4 => ?_)
        · have h := ite_f c4 h
          refine k_iconst O dX3_caught_36 (v := 1) (by decide) ?_
          refine k_iload_n O dX3_caught_37 2 rfl ?_
          refine k_ishl O dX3_caught_38 ?_
          exact k_sub [0, 2] rfl (w_X3_caught_39 O h_b n_b (fun {_} {_} {_} h9 => ih h9) ho h)
        · have h := ite_t c4 h
          refine k_iconst O dX3_caught_32 (v := 0) (by decide) ?_
          refine k_goto O 39 dX3_caught_33 (by decide) ?_
          exact k_sub [0, 2] rfl (w_X3_caught_39 O h_b n_b (fun {_} {_} {_} h9 => ih h9) ho h)
set_option maxHeartbeats 4000000 in
set_option maxRecDepth 100000 in
theorem w_X3_caught_0 {X : Cx} {rz : Int32} {wz : Wd} (O : Ok X cX3_caught RX3 ((some .int)) wsX3_caught (0) (0) 3) {b : Nat} (h_b : scb b = true) (n_b : b + 3 < g_N X.1) (ho : Ro X (some (.int rz), wz)) {w : Wd} (h : b_X3_caught_0 b w  = some (rz, wz)) : Wk X w 0 [(0, .ref (g_ad X.1 b))] [] := by
  have q_b := scb_lt h_b
  unfold b_X3_caught_0 at h
  refine k_iconst O dX3_caught_0 (v := 0) (by decide) ?_
  refine k_istore_n (lv' := [(1, .int ((0 : Int32))), (0, .ref (g_ad X.1 b))]) O dX3_caught_1 rfl (by decide) rfl ?_
  refine k_iconst O dX3_caught_2 (v := 0) (by decide) ?_
  refine k_istore_n (lv' := [(2, .int ((0 : Int32))), (1, .int ((0 : Int32))), (0, .ref (g_ad X.1 b))]) O dX3_caught_3 rfl (by decide) rfl ?_
  exact k_sub [2, 1, 0] rfl (w_X3_caught_4 O h_b n_b ho LF h)
theorem c_X3_caught (l : Launch) (G : Gl) {b : Nat} (h_b : scb b = true) (n_b : b + 3 < g_N G) {w wz : Wd} {rz : Int32} (h : f_X3_caught b w  = some (rz, wz)) : Ct l yX3_caught wsX3_caught (0) (0) G [.ref (g_ad G b)] w (some (.int rz), wz) := by
  refine Ct.start (by decide) rfl rfl rfl (Nat.le_of_ble_eq_true rfl) (fun X hG ho hl O => ?_)
  subst hG
  subst hl
  exact k_sub [0] rfl (w_X3_caught_0 O h_b n_b ho h)
def b_X3_spring_132 (kb49 : Wd → Int32 → Int32 → Option (Wd)) (b : Nat) (w : Wd) (v1 : Int32) (v2 : Int32) : Option (Wd) := nm (v2 + (1 : Int32)) (fun x1 => kb49 w v1 x1)
def b_X3_spring_98 (kb49 : Wd → Int32 → Int32 → Option (Wd)) (b : Nat) (w : Wd) (v1 : Int32) (v2 : Int32) (v3 : Int32) (s0 : Int32) : Option (Wd) := if s0 = 0 then (b_X3_spring_132 kb49 b w v1 v2) else (bd (f_X3_isFree b w v2) (fun r4 w3 => if r4 = 0 then (b_X3_spring_132 kb49 b w3 v1 v2) else (bd (f_X1_catches 11 w3 v3 v2) (fun r8 w7 => if r8 = 0 then (b_X3_spring_132 kb49 b w7 v1 v2) else (gd (inb v2 4) (nm (up w7 (b + 3) v2.toNatClampNeg v3) (fun w11 => b_X3_spring_132 kb49 b w11 v1 v2)))))))
def b_X3_spring_97 (kb49 : Wd → Int32 → Int32 → Option (Wd)) (b : Nat) (w : Wd) (v1 : Int32) (v2 : Int32) (v3 : Int32) : Option (Wd) := b_X3_spring_98 kb49 b w v1 v2 v3 ((0 : Int32))
def b_X3_spring_49 (b : Nat) : Nat → Wd → Int32 → Int32 → Option (Wd)
  | 0, _, _, _ => none
  | n + 1, w, v1, v2 => if ((4 : Int32)) ≤ v2 then (some w) else (if (w.1 11 1) ≤ v2 then (some w) else (gd (inb v2 4) (bd (f_X1_trapOn 11 w (w.1 (b + 2) v2.toNatClampNeg)) (fun r6 w5 => if r6 = ((-9 : Int32)) then (b_X3_spring_97 (b_X3_spring_49 b n) b w5 v1 v2 r6) else (if ((v1 >>> (r6 &&& 31)) &&& ((1 : Int32))) = 0 then (b_X3_spring_97 (b_X3_spring_49 b n) b w5 v1 v2 r6) else (b_X3_spring_98 (b_X3_spring_49 b n) b w5 v1 v2 r6 ((1 : Int32))))))))
def b_X3_spring_26 (b : Nat) : Nat → Wd → Int32 → Int32 → Option (Wd)
  | 0, _, _, _ => none
  | n + 1, w, v1, v2 => if ((2 : Int32)) ≤ v2 then (b_X3_spring_49 b LF w v1 ((0 : Int32))) else (gd (inb v2 2) (gd (inb v2 2) (nm (up w (b + 1) v2.toNatClampNeg ((w.1 (b + 1) v2.toNatClampNeg) ||| v1)) (fun w4 => nm (v2 + (1 : Int32)) (fun x5 => b_X3_spring_26 b n w4 v1 x5)))))
def b_X3_spring_0 (b : Nat) (w : Wd) (v1 : Int32) : Option (Wd) := nm (up w b 1 ((w.1 b 1) &&& (v1 ^^^ ((-1 : Int32))))) (fun w1 => nm (up w1 b 2 ((w1.1 b 2) &&& (v1 ^^^ ((-1 : Int32))))) (fun w2 => b_X3_spring_26 b LF w2 v1 ((0 : Int32))))
def f_X3_spring (b : Nat) (w : Wd) (v1 : Int32) : Option (Wd) := b_X3_spring_0 b w v1
set_option maxHeartbeats 4000000 in
set_option maxRecDepth 100000 in
theorem w_X3_spring_132 {X : Cx} {wz : Wd} (O : Ok X cX3_spring RX3 none wsX3_spring (2) (44) 5) {b : Nat} (h_b : scb b = true) (n_b : b + 3 < g_N X.1) {kb49 : Wd → Int32 → Int32 → Option (Wd)} (hk49 : ∀ {w : Wd} {v1 : Int32} {v2 : Int32}, kb49 w v1 v2 = some wz → Wk X w 49 [(0, .ref (g_ad X.1 b)), (1, .int v1), (2, .int v2)] []) (ho : Ro X (none, wz)) {w : Wd} {v1 : Int32} {v2 : Int32} (h : b_X3_spring_132 kb49 b w v1 v2 = some wz) : Wk X w 132 [(0, .ref (g_ad X.1 b)), (1, .int v1), (2, .int v2)] [] := by
  have q_b := scb_lt h_b
  unfold b_X3_spring_132 at h
  obtain ⟨x1, ex1⟩ : ∃ z : Int32, z = v2 + (1 : Int32) := ⟨_, rfl⟩
  have h := nm_use h x1 ex1
  refine k_iinc (lv' := [(2, .int x1), (0, .ref (g_ad X.1 b)), (1, .int v1)]) O dX3_spring_132 2 rfl (by rw [ex1]; rfl) (by decide) rfl ?_
  refine k_goto O 49 dX3_spring_135 (by decide) ?_
  exact k_sub [1, 2, 0] rfl (hk49 h)
set_option maxHeartbeats 4000000 in
set_option maxRecDepth 100000 in
theorem w_X3_spring_98 {X : Cx} {wz : Wd} (O : Ok X cX3_spring RX3 none wsX3_spring (2) (44) 5) {b : Nat} (h_b : scb b = true) (n_b : b + 3 < g_N X.1) {kb49 : Wd → Int32 → Int32 → Option (Wd)} (hk49 : ∀ {w : Wd} {v1 : Int32} {v2 : Int32}, kb49 w v1 v2 = some wz → Wk X w 49 [(0, .ref (g_ad X.1 b)), (1, .int v1), (2, .int v2)] []) (ho : Ro X (none, wz)) {w : Wd} {v1 : Int32} {v2 : Int32} {v3 : Int32} {s0 : Int32} (h : b_X3_spring_98 kb49 b w v1 v2 v3 s0 = some wz) : Wk X w 98 [(0, .ref (g_ad X.1 b)), (1, .int v1), (2, .int v2), (3, .int v3)] [.int s0] := by
  have q_b := scb_lt h_b
  unfold b_X3_spring_98 at h
  refine k_istore (lv' := [(4, .int s0), (0, .ref (g_ad X.1 b)), (1, .int v1), (2, .int v2), (3, .int v3)]) O dX3_spring_98 (by decide) rfl ?_
  refine k_iload O dX3_spring_100 0 rfl ?_
  refine k_if_eq O 132 dX3_spring_102 (by decide) (fun c1 => ?_) (fun c1 => ?_)
  · have h := ite_t c1 h
    exact k_sub [1, 2, 3] rfl (w_X3_spring_132 O h_b n_b hk49 ho h)
  · have h := ite_f c1 h
    refine k_aload_n O dX3_spring_105 1 rfl ?_
    refine k_iload_n O dX3_spring_106 3 rfl ?_
    obtain ⟨r4, w3, hc2, h⟩ := bd_some h
    refine k_callVi O (As := [.int v2]) (rest := []) (k := b) (c_X3_isFree (x_l X) X.1 h_b (by omega) hc2) gX3_spring_X3_isFree rfl hd_X3_isFree (by decide) (by omega) (E_sc h_b) rfl rfl rfl rfl rfl (Nat.le_of_ble_eq_true rfl) dX3_spring_107 ?_
    refine k_if_eq O 132 dX3_spring_110 (by decide) (fun c5 => ?_) (fun c5 => ?_)
    · have h := ite_t c5 h
      exact k_sub [1, 2, 3] rfl (w_X3_spring_132 O h_b n_b hk49 ho h)
    · have h := ite_f c5 h
      refine k_aload_n O dX3_spring_113 1 rfl ?_
      refine k_get O (v := .ref (g_ad X.1 11)) (k := b) (by omega) (E_sc h_b) rfl 0 (by decide) (fun _ h9 => List.mem_cons_of_mem _ (List.mem_append_left _ (List.mem_append_right _ h9))) (List.mem_of_getElem? (i := 4) rfl) rfl dX3_spring_114 ?_
      refine k_iload_n O dX3_spring_117 4 rfl ?_
      refine k_iload_n O dX3_spring_118 3 rfl ?_
      obtain ⟨r8, w7, hc6, h⟩ := bd_some h
      refine k_callVi O (As := [.int v3, .int v2]) (rest := []) (k := 11) (c_X1_catches (x_l X) X.1 (by decide) (by omega) hc6) gX3_spring_X1_catches rfl hd_X1_catches (by decide) (by omega) (E_pl (by decide)) rfl rfl rfl rfl rfl (Nat.le_of_ble_eq_true rfl) dX3_spring_119 ?_
      refine k_if_eq O 132 dX3_spring_122 (by decide) (fun c9 => ?_) (fun c9 => ?_)
      · have h := ite_t c9 h
        exact k_sub [1, 2, 3] rfl (w_X3_spring_132 O h_b n_b hk49 ho h)
      · have h := ite_f c9 h
        refine k_aload_n O dX3_spring_125 1 rfl ?_
        refine k_get O (v := .ref (g_ad X.1 (b + 3))) (k := b) (by omega) (E_sc h_b) rfl 6 (by decide) (fun _ h9 => List.mem_cons_of_mem _ (List.mem_append_left _ (List.mem_append_right _ h9))) (List.mem_of_getElem? (i := 7) rfl) rfl dX3_spring_126 ?_
        refine k_iload_n O dX3_spring_129 3 rfl ?_
        refine k_iload_n O dX3_spring_130 4 rfl ?_
        obtain ⟨g10, h⟩ := gd_some h
        refine k_iast O (k := (b + 3)) (by omega) (E_sc3 h_b) (fun _ => (E_sc3 h_b)) g10 dX3_spring_131 ?_
        refine k_nw (fun w11 ew11 => ?_)
        have h := nm_use h w11 ew11
        exact k_sub [1, 2, 3] rfl (w_X3_spring_132 O h_b n_b hk49 ho h)
set_option maxHeartbeats 4000000 in
set_option maxRecDepth 100000 in
theorem w_X3_spring_97 {X : Cx} {wz : Wd} (O : Ok X cX3_spring RX3 none wsX3_spring (2) (44) 5) {b : Nat} (h_b : scb b = true) (n_b : b + 3 < g_N X.1) {kb49 : Wd → Int32 → Int32 → Option (Wd)} (hk49 : ∀ {w : Wd} {v1 : Int32} {v2 : Int32}, kb49 w v1 v2 = some wz → Wk X w 49 [(0, .ref (g_ad X.1 b)), (1, .int v1), (2, .int v2)] []) (ho : Ro X (none, wz)) {w : Wd} {v1 : Int32} {v2 : Int32} {v3 : Int32} (h : b_X3_spring_97 kb49 b w v1 v2 v3 = some wz) : Wk X w 97 [(0, .ref (g_ad X.1 b)), (1, .int v1), (2, .int v2), (3, .int v3)] [] := by
  have q_b := scb_lt h_b
  unfold b_X3_spring_97 at h
  refine k_iconst O dX3_spring_97 (v := 0) (by decide) ?_
  exact k_sub [0, 1, 2, 3] rfl (w_X3_spring_98 O h_b n_b hk49 ho h)
set_option maxHeartbeats 4000000 in
set_option maxRecDepth 100000 in
theorem w_X3_spring_49 {X : Cx} {wz : Wd} (O : Ok X cX3_spring RX3 none wsX3_spring (2) (44) 5) {b : Nat} (h_b : scb b = true) (n_b : b + 3 < g_N X.1) (ho : Ro X (none, wz)) (n : Nat) : ∀ {w : Wd} {v1 : Int32} {v2 : Int32}, b_X3_spring_49 b n w v1 v2 = some wz → Wk X w 49 [(0, .ref (g_ad X.1 b)), (1, .int v1), (2, .int v2)] [] := by
  have q_b := scb_lt h_b
  induction n with
  | zero => intro w v1 v2 h; exact nomatch (show (none : Option (Wd)) = some _ from h)
  | succ n ih =>
    intro w v1 v2 h
    rw [b_X3_spring_49] at h
    refine k_iload_n O dX3_spring_49 2 rfl ?_
    refine k_iconst O dX3_spring_50 (v := 4) (by decide) ?_
    refine k_icmp_ge O 138 dX3_spring_51 (by decide) (fun c1 => ?_) (fun c1 => ?_)
    · have h := ite_t c1 h
      exact k_vret O dX3_spring_138 (rt_void h ho)
    · have h := ite_f c1 h
      refine k_iload_n O dX3_spring_54 2 rfl ?_
      refine k_aload_n O dX3_spring_55 0 rfl ?_
      refine k_get O (v := .ref (g_ad X.1 11)) (k := b) (by omega) (E_sc h_b) rfl 0 (by decide) (fun _ h9 => List.mem_cons_of_mem _ (List.mem_append_left _ (List.mem_append_right _ h9))) (List.mem_of_getElem? (i := 4) rfl) rfl dX3_spring_56 ?_
      refine k_get O (v := .int (w.1 11 1)) (k := 11) (by omega) (E_pl (by decide)) rfl 1 (by decide) (fun _ h9 => List.mem_cons_of_mem _ (List.mem_append_right _ h9)) (List.mem_of_getElem? (i := 5) rfl) rfl dX3_spring_59 ?_
      refine k_icmp_ge O 138 dX3_spring_62 (by decide) (fun c2 => ?_) (fun c2 => ?_)
      · have h := ite_t c2 h
        exact k_vret O dX3_spring_138 (rt_void h ho)
      · have h := ite_f c2 h
        refine k_aload_n O dX3_spring_65 0 rfl ?_
        refine k_get O (v := .ref (g_ad X.1 11)) (k := b) (by omega) (E_sc h_b) rfl 0 (by decide) (fun _ h9 => List.mem_cons_of_mem _ (List.mem_append_left _ (List.mem_append_right _ h9))) (List.mem_of_getElem? (i := 4) rfl) rfl dX3_spring_66 ?_
        refine k_aload_n O dX3_spring_69 0 rfl ?_
        refine k_get O (v := .ref (g_ad X.1 (b + 2))) (k := b) (by omega) (E_sc h_b) rfl 5 (by decide) (fun _ h9 => List.mem_cons_of_mem _ (List.mem_append_left _ (List.mem_append_right _ h9))) (List.mem_of_getElem? (i := 6) rfl) rfl dX3_spring_70 ?_
        refine k_iload_n O dX3_spring_73 2 rfl ?_
        obtain ⟨g3, h⟩ := gd_some h
        refine k_iald O (k := (b + 2)) (by omega) (E_sc2 h_b) g3 dX3_spring_74 ?_
        obtain ⟨r6, w5, hc4, h⟩ := bd_some h
        refine k_callVi O (As := [.int (w.1 (b + 2) v2.toNatClampNeg)]) (rest := []) (k := 11) (c_X1_trapOn (x_l X) X.1 (by decide) (by omega) hc4) gX3_spring_X1_trapOn rfl hd_X1_trapOn (by decide) (by omega) (E_pl (by decide)) rfl rfl rfl rfl rfl (Nat.le_of_ble_eq_true rfl) dX3_spring_75 ?_
        refine k_istore_n (lv' := [(3, .int r6), (0, .ref (g_ad X.1 b)), (1, .int v1), (2, .int v2)]) O dX3_spring_78 rfl (by decide) rfl ?_
        refine k_iload_n O dX3_spring_79 0 rfl ?_
        refine k_bipush O dX3_spring_80 (v := -9) (by decide) ?_
        refine k_icmp_eq O 97 dX3_spring_82 (by decide) (fun c7 => ?_) (fun c7 => ?_)
        · have h := ite_t c7 h
          exact k_sub [1, 2, 3, 0] rfl (w_X3_spring_97 O h_b n_b (fun {_} {_} {_} h9 => ih h9) ho h)
        · have h := ite_f c7 h
          refine k_iload_n O dX3_spring_85 2 rfl ?_
          refine k_iload_n O dX3_spring_86 0 rfl ?_
          refine k_ishr O dX3_spring_87 ?_
          refine k_iconst O dX3_spring_88 (v := 1) (by decide) ?_
          refine k_iand O dX3_spring_89 ?_
          refine k_if_eq O 97 dX3_spring_90 (by decide) (fun c8 => ?_) (fun c8 => ?_)
          · have h := ite_t c8 h
            exact k_sub [1, 2, 3, 0] rfl (w_X3_spring_97 O h_b n_b (fun {_} {_} {_} h9 => ih h9) ho h)
          · have h := ite_f c8 h
            refine k_iconst O dX3_spring_93 (v := 1) (by decide) ?_
            refine k_goto O 98 dX3_spring_94 (by decide) ?_
            exact k_sub [1, 2, 3, 0] rfl (w_X3_spring_98 O h_b n_b (fun {_} {_} {_} h9 => ih h9) ho h)
set_option maxHeartbeats 4000000 in
set_option maxRecDepth 100000 in
theorem w_X3_spring_26 {X : Cx} {wz : Wd} (O : Ok X cX3_spring RX3 none wsX3_spring (2) (44) 5) {b : Nat} (h_b : scb b = true) (n_b : b + 3 < g_N X.1) (ho : Ro X (none, wz)) (n : Nat) : ∀ {w : Wd} {v1 : Int32} {v2 : Int32}, b_X3_spring_26 b n w v1 v2 = some wz → Wk X w 26 [(0, .ref (g_ad X.1 b)), (1, .int v1), (2, .int v2)] [] := by
  have q_b := scb_lt h_b
  induction n with
  | zero => intro w v1 v2 h; exact nomatch (show (none : Option (Wd)) = some _ from h)
  | succ n ih =>
    intro w v1 v2 h
    rw [b_X3_spring_26] at h
    refine k_iload_n O dX3_spring_26 2 rfl ?_
    refine k_iconst O dX3_spring_27 (v := 2) (by decide) ?_
    refine k_icmp_ge O 47 dX3_spring_28 (by decide) (fun c1 => ?_) (fun c1 => ?_)
    · have h := ite_t c1 h
      refine k_iconst O dX3_spring_47 (v := 0) (by decide) ?_
      refine k_istore_n (lv' := [(2, .int ((0 : Int32))), (0, .ref (g_ad X.1 b)), (1, .int v1)]) O dX3_spring_48 rfl (by decide) rfl ?_
      exact k_sub [1, 2, 0] rfl (w_X3_spring_49 O h_b n_b ho LF h)
    · have h := ite_f c1 h
      refine k_aload_n O dX3_spring_31 0 rfl ?_
      refine k_get O (v := .ref (g_ad X.1 (b + 1))) (k := b) (by omega) (E_sc h_b) rfl 4 (by decide) (fun _ h9 => List.mem_cons_of_mem _ (List.mem_append_left _ (List.mem_append_right _ h9))) (List.mem_of_getElem? (i := 3) rfl) rfl dX3_spring_32 ?_
      refine k_iload_n O dX3_spring_35 2 rfl ?_
      refine k_dup2 O dX3_spring_36 rfl rfl ?_
      obtain ⟨g2, h⟩ := gd_some h
      refine k_iald O (k := (b + 1)) (by omega) (E_sc1 h_b) g2 dX3_spring_37 ?_
      refine k_iload_n O dX3_spring_38 1 rfl ?_
      refine k_ior O dX3_spring_39 ?_
      obtain ⟨g3, h⟩ := gd_some h
      refine k_iast O (k := (b + 1)) (by omega) (E_sc1 h_b) (fun _ => (E_sc1 h_b)) g3 dX3_spring_40 ?_
      refine k_nw (fun w4 ew4 => ?_)
      have h := nm_use h w4 ew4
      obtain ⟨x5, ex5⟩ : ∃ z : Int32, z = v2 + (1 : Int32) := ⟨_, rfl⟩
      have h := nm_use h x5 ex5
      refine k_iinc (lv' := [(2, .int x5), (0, .ref (g_ad X.1 b)), (1, .int v1)]) O dX3_spring_41 2 rfl (by rw [ex5]; rfl) (by decide) rfl ?_
      refine k_goto O 26 dX3_spring_44 (by decide) ?_
      exact k_sub [1, 2, 0] rfl (ih h)
set_option maxHeartbeats 4000000 in
set_option maxRecDepth 100000 in
theorem w_X3_spring_0 {X : Cx} {wz : Wd} (O : Ok X cX3_spring RX3 none wsX3_spring (2) (44) 5) {b : Nat} (h_b : scb b = true) (n_b : b + 3 < g_N X.1) (ho : Ro X (none, wz)) {w : Wd} {v1 : Int32} (h : b_X3_spring_0 b w v1 = some wz) : Wk X w 0 [(0, .ref (g_ad X.1 b)), (1, .int v1)] [] := by
  have q_b := scb_lt h_b
  unfold b_X3_spring_0 at h
  refine k_aload_n O dX3_spring_0 0 rfl ?_
  refine k_dup O dX3_spring_1 rfl ?_
  refine k_get O (v := .int (w.1 b 1)) (k := b) (by omega) (E_sc h_b) rfl 1 (by decide) (fun _ h9 => List.mem_cons_of_mem _ (List.mem_append_left _ (List.mem_append_right _ h9))) (List.mem_of_getElem? (i := 1) rfl) rfl dX3_spring_2 ?_
  refine k_iload_n O dX3_spring_5 1 rfl ?_
  refine k_iconst O dX3_spring_6 (v := -1) (by decide) ?_
  refine k_ixor O dX3_spring_7 ?_
  refine k_iand O dX3_spring_8 ?_
  refine k_puti O (k := b) tyX3 tyX3_ok nmX3 (by omega) (E_sc h_b) rfl 1 (by decide) (fun _ h9 => List.mem_cons_of_mem _ (List.mem_append_left _ (List.mem_append_right _ h9))) (List.mem_of_getElem? (i := 1) rfl) rfl rfl rfl (Nat.le_of_ble_eq_true rfl) ((E_sc h_b).trans rfl) dX3_spring_9 ?_
  refine k_nw (fun w1 ew1 => ?_)
  have h := nm_use h w1 ew1
  refine k_aload_n O dX3_spring_12 0 rfl ?_
  refine k_dup O dX3_spring_13 rfl ?_
  refine k_get O (v := .int (w1.1 b 2)) (k := b) (by omega) (E_sc h_b) rfl 2 (by decide) (fun _ h9 => List.mem_cons_of_mem _ (List.mem_append_left _ (List.mem_append_right _ h9))) (List.mem_of_getElem? (i := 2) rfl) rfl dX3_spring_14 ?_
  refine k_iload_n O dX3_spring_17 1 rfl ?_
  refine k_iconst O dX3_spring_18 (v := -1) (by decide) ?_
  refine k_ixor O dX3_spring_19 ?_
  refine k_iand O dX3_spring_20 ?_
  refine k_puti O (k := b) tyX3 tyX3_ok nmX3 (by omega) (E_sc h_b) rfl 2 (by decide) (fun _ h9 => List.mem_cons_of_mem _ (List.mem_append_left _ (List.mem_append_right _ h9))) (List.mem_of_getElem? (i := 2) rfl) rfl rfl rfl (Nat.le_of_ble_eq_true rfl) ((E_sc h_b).trans rfl) dX3_spring_21 ?_
  refine k_nw (fun w2 ew2 => ?_)
  have h := nm_use h w2 ew2
  refine k_iconst O dX3_spring_24 (v := 0) (by decide) ?_
  refine k_istore_n (lv' := [(2, .int ((0 : Int32))), (0, .ref (g_ad X.1 b)), (1, .int v1)]) O dX3_spring_25 rfl (by decide) rfl ?_
  exact k_sub [1, 2, 0] rfl (w_X3_spring_26 O h_b n_b ho LF h)
theorem c_X3_spring (l : Launch) (G : Gl) {b : Nat} (h_b : scb b = true) (n_b : b + 3 < g_N G) {w wz : Wd} {v1 : Int32} (h : f_X3_spring b w v1 = some wz) : Ct l yX3_spring wsX3_spring (2) (44) G [.ref (g_ad G b), .int v1] w (none, wz) := by
  refine Ct.start (by decide) rfl rfl rfl (Nat.le_of_ble_eq_true rfl) (fun X hG ho hl O => ?_)
  subst hG
  subst hl
  exact k_sub [0, 1] rfl (w_X3_spring_0 O h_b n_b ho h)
def b_X3_walk_0 (b : Nat) (w : Wd) (v1 : Int32) (v2 : Int32) : Option (Int32 × Wd) := bd (f_X1_hasWalker 11 w v1) (fun r3 w2 => if r3 = 0 then (some ((0 : Int32), w2)) else (gd (inb v1 4) (nm (up w2 (b + 2) v1.toNatClampNeg v2) (fun w6 => bd (f_X1_trapOn 11 w6 v2) (fun r9 w8 => bd (f_X1_hasTrap 11 w8 r9) (fun r12 w11 => if r12 = 0 then (some ((0 : Int32), w11)) else (bd (f_X3_ready b w11) (fun r16 w15 => if ((r16 >>> (r9 &&& 31)) &&& ((1 : Int32))) = 0 then (some ((0 : Int32), w15)) else (bd (f_X1_onlyWakes 11 w15 r9 (w15.1 b 2)) (fun r20 w19 => if r20 = 0 then (bd (f_X3_ready b w19) (fun r24 w23 => bd (f_X1_spread 11 w23 (((1 : Int32)) <<< (r9 &&& 31)) r24) (fun r27 w26 => bv (f_X3_spring b w26 r27) (fun w29 => some (r27, w29))))) else (nm (up w19 b 2 ((w19.1 b 2) ||| (((1 : Int32)) <<< (r9 &&& 31)))) (fun w30 => some ((0 : Int32), w30)))))))))))))
def f_X3_walk (b : Nat) (w : Wd) (v1 : Int32) (v2 : Int32) : Option (Int32 × Wd) := b_X3_walk_0 b w v1 v2
set_option maxHeartbeats 4000000 in
set_option maxRecDepth 100000 in
theorem w_X3_walk_0 {X : Cx} {rz : Int32} {wz : Wd} (O : Ok X cX3_walk RX3 ((some .int)) wsX3_walk (3) (68) 5) {b : Nat} (h_b : scb b = true) (n_b : b + 3 < g_N X.1) (ho : Ro X (some (.int rz), wz)) {w : Wd} {v1 : Int32} {v2 : Int32} (h : b_X3_walk_0 b w v1 v2 = some (rz, wz)) : Wk X w 0 [(0, .ref (g_ad X.1 b)), (1, .int v1), (2, .int v2)] [] := by
  have q_b := scb_lt h_b
  unfold b_X3_walk_0 at h
  refine k_aload_n O dX3_walk_0 0 rfl ?_
  refine k_get O (v := .ref (g_ad X.1 11)) (k := b) (by omega) (E_sc h_b) rfl 0 (by decide) (fun _ h9 => List.mem_cons_of_mem _ (List.mem_append_left _ (List.mem_append_right _ h9))) (List.mem_of_getElem? (i := 1) rfl) rfl dX3_walk_1 ?_
  refine k_iload_n O dX3_walk_4 1 rfl ?_
  obtain ⟨r3, w2, hc1, h⟩ := bd_some h
  refine k_callVi O (As := [.int v1]) (rest := []) (k := 11) (c_X1_hasWalker (x_l X) X.1 (by decide) (by omega) hc1) gX3_walk_X1_hasWalker rfl hd_X1_hasWalker (by decide) (by omega) (E_pl (by decide)) rfl rfl rfl rfl rfl (Nat.le_of_ble_eq_true rfl) dX3_walk_5 ?_
  refine k_if_ne O 13 dX3_walk_8 (by decide) (fun c4 => ?_) (fun c4 => ?_)
  · have h := ite_f c4 h
    refine k_aload_n O dX3_walk_13 0 rfl ?_
    refine k_get O (v := .ref (g_ad X.1 (b + 2))) (k := b) (by omega) (E_sc h_b) rfl 5 (by decide) (fun _ h9 => List.mem_cons_of_mem _ (List.mem_append_left _ (List.mem_append_right _ h9))) (List.mem_of_getElem? (i := 2) rfl) rfl dX3_walk_14 ?_
    refine k_iload_n O dX3_walk_17 1 rfl ?_
    refine k_iload_n O dX3_walk_18 2 rfl ?_
    obtain ⟨g5, h⟩ := gd_some h
    refine k_iast O (k := (b + 2)) (by omega) (E_sc2 h_b) (fun _ => (E_sc2 h_b)) g5 dX3_walk_19 ?_
    refine k_nw (fun w6 ew6 => ?_)
    have h := nm_use h w6 ew6
    refine k_aload_n O dX3_walk_20 0 rfl ?_
    refine k_get O (v := .ref (g_ad X.1 11)) (k := b) (by omega) (E_sc h_b) rfl 0 (by decide) (fun _ h9 => List.mem_cons_of_mem _ (List.mem_append_left _ (List.mem_append_right _ h9))) (List.mem_of_getElem? (i := 1) rfl) rfl dX3_walk_21 ?_
    refine k_iload_n O dX3_walk_24 2 rfl ?_
    obtain ⟨r9, w8, hc7, h⟩ := bd_some h
    refine k_callVi O (As := [.int v2]) (rest := []) (k := 11) (c_X1_trapOn (x_l X) X.1 (by decide) (by omega) hc7) gX3_walk_X1_trapOn rfl hd_X1_trapOn (by decide) (by omega) (E_pl (by decide)) rfl rfl rfl rfl rfl (Nat.le_of_ble_eq_true rfl) dX3_walk_25 ?_
    refine k_istore_n (lv' := [(3, .int r9), (0, .ref (g_ad X.1 b)), (1, .int v1), (2, .int v2)]) O dX3_walk_28 rfl (by decide) rfl ?_
    refine k_aload_n O dX3_walk_29 1 rfl ?_
    refine k_get O (v := .ref (g_ad X.1 11)) (k := b) (by omega) (E_sc h_b) rfl 0 (by decide) (fun _ h9 => List.mem_cons_of_mem _ (List.mem_append_left _ (List.mem_append_right _ h9))) (List.mem_of_getElem? (i := 1) rfl) rfl dX3_walk_30 ?_
    refine k_iload_n O dX3_walk_33 0 rfl ?_
    obtain ⟨r12, w11, hc10, h⟩ := bd_some h
    refine k_callVi O (As := [.int r9]) (rest := []) (k := 11) (c_X1_hasTrap (x_l X) X.1 (by decide) (by omega) hc10) gX3_walk_X1_hasTrap rfl hd_X1_hasTrap (by decide) (by omega) (E_pl (by decide)) rfl rfl rfl rfl rfl (Nat.le_of_ble_eq_true rfl) dX3_walk_34 ?_
    refine k_if_eq O 51 dX3_walk_37 (by decide) (fun c13 => ?_) (fun c13 => ?_)
    · have h := ite_t c13 h
      refine k_iconst O dX3_walk_51 (v := 0) (by decide) ?_
      exact k_iret O dX3_walk_52 (rt_int h ho)
    · have h := ite_f c13 h
      refine k_aload_n O dX3_walk_40 1 rfl ?_
      obtain ⟨r16, w15, hc14, h⟩ := bd_some h
      refine k_callVi O (As := []) (rest := []) (k := b) (c_X3_ready (x_l X) X.1 h_b (by omega) hc14) gX3_walk_X3_ready rfl hd_X3_ready (by decide) (by omega) (E_sc h_b) rfl rfl rfl rfl rfl (Nat.le_of_ble_eq_true rfl) dX3_walk_41 ?_
      refine k_iload_n O dX3_walk_44 0 rfl ?_
      refine k_ishr O dX3_walk_45 ?_
      refine k_iconst O dX3_walk_46 (v := 1) (by decide) ?_
      refine k_iand O dX3_walk_47 ?_
      refine k_if_ne O 53 dX3_walk_48 (by decide) (fun c17 => ?_) (fun c17 => ?_)
      · have h := ite_f c17 h
        refine k_aload_n O dX3_walk_53 1 rfl ?_
        refine k_get O (v := .ref (g_ad X.1 11)) (k := b) (by omega) (E_sc h_b) rfl 0 (by decide) (fun _ h9 => List.mem_cons_of_mem _ (List.mem_append_left _ (List.mem_append_right _ h9))) (List.mem_of_getElem? (i := 1) rfl) rfl dX3_walk_54 ?_
        refine k_iload_n O dX3_walk_57 0 rfl ?_
        refine k_aload_n O dX3_walk_58 1 rfl ?_
        refine k_get O (v := .int (w15.1 b 2)) (k := b) (by omega) (E_sc h_b) rfl 2 (by decide) (fun _ h9 => List.mem_cons_of_mem _ (List.mem_append_left _ (List.mem_append_right _ h9))) (List.mem_of_getElem? (i := 3) rfl) rfl dX3_walk_59 ?_
        obtain ⟨r20, w19, hc18, h⟩ := bd_some h
        refine k_callVi O (As := [.int r9, .int (w15.1 b 2)]) (rest := []) (k := 11) (c_X1_onlyWakes (x_l X) X.1 (by decide) (by omega) hc18) gX3_walk_X1_onlyWakes rfl hd_X1_onlyWakes (by decide) (by omega) (E_pl (by decide)) rfl rfl rfl rfl rfl (Nat.le_of_ble_eq_true rfl) dX3_walk_62 ?_
        refine k_if_eq O 82 dX3_walk_65 (by decide) (fun c21 => ?_) (fun c21 => ?_)
        · have h := ite_t c21 h
          refine k_aload_n O dX3_walk_82 1 rfl ?_
          refine k_get O (v := .ref (g_ad X.1 11)) (k := b) (by omega) (E_sc h_b) rfl 0 (by decide) (fun _ h9 => List.mem_cons_of_mem _ (List.mem_append_left _ (List.mem_append_right _ h9))) (List.mem_of_getElem? (i := 1) rfl) rfl dX3_walk_83 ?_
          refine k_iconst O dX3_walk_86 (v := 1) (by decide) ?_
          refine k_iload_n O dX3_walk_87 0 rfl ?_
          refine k_ishl O dX3_walk_88 ?_
          refine k_aload_n O dX3_walk_89 1 rfl ?_
          obtain ⟨r24, w23, hc22, h⟩ := bd_some h
          refine k_callVi O (As := []) (rest := [.int (((1 : Int32)) <<< (r9 &&& 31)), .ref (g_ad X.1 11)]) (k := b) (c_X3_ready (x_l X) X.1 h_b (by omega) hc22) gX3_walk_X3_ready rfl hd_X3_ready (by decide) (by omega) (E_sc h_b) rfl rfl rfl rfl rfl (Nat.le_of_ble_eq_true rfl) dX3_walk_90 ?_
          obtain ⟨r27, w26, hc25, h⟩ := bd_some h
          refine k_callVi O (As := [.int (((1 : Int32)) <<< (r9 &&& 31)), .int r24]) (rest := []) (k := 11) (c_X1_spread (x_l X) X.1 (by decide) (by omega) hc25) gX3_walk_X1_spread rfl hd_X1_spread (by decide) (by omega) (E_pl (by decide)) rfl rfl rfl rfl rfl (Nat.le_of_ble_eq_true rfl) dX3_walk_93 ?_
          refine k_istore (lv' := [(4, .int r27), (3, .int r9), (0, .ref (g_ad X.1 b)), (1, .int v1), (2, .int v2)]) O dX3_walk_96 (by decide) rfl ?_
          refine k_aload_n O dX3_walk_98 2 rfl ?_
          refine k_iload O dX3_walk_99 0 rfl ?_
          obtain ⟨w29, hc28, h⟩ := bv_some h
          refine k_callVv O (As := [.int r27]) (rest := []) (k := b) (c_X3_spring (x_l X) X.1 h_b (by omega) hc28) gX3_walk_X3_spring rfl hd_X3_spring (by decide) (by omega) (E_sc h_b) rfl rfl rfl rfl rfl (Nat.le_of_ble_eq_true rfl) dX3_walk_101 ?_
          refine k_iload O dX3_walk_104 0 rfl ?_
          exact k_iret O dX3_walk_106 (rt_int h ho)
        · have h := ite_f c21 h
          refine k_aload_n O dX3_walk_68 1 rfl ?_
          refine k_dup O dX3_walk_69 rfl ?_
          refine k_get O (v := .int (w19.1 b 2)) (k := b) (by omega) (E_sc h_b) rfl 2 (by decide) (fun _ h9 => List.mem_cons_of_mem _ (List.mem_append_left _ (List.mem_append_right _ h9))) (List.mem_of_getElem? (i := 3) rfl) rfl dX3_walk_70 ?_
          refine k_iconst O dX3_walk_73 (v := 1) (by decide) ?_
          refine k_iload_n O dX3_walk_74 0 rfl ?_
          refine k_ishl O dX3_walk_75 ?_
          refine k_ior O dX3_walk_76 ?_
          refine k_puti O (k := b) tyX3 tyX3_ok nmX3 (by omega) (E_sc h_b) rfl 2 (by decide) (fun _ h9 => List.mem_cons_of_mem _ (List.mem_append_left _ (List.mem_append_right _ h9))) (List.mem_of_getElem? (i := 3) rfl) rfl rfl rfl (Nat.le_of_ble_eq_true rfl) ((E_sc h_b).trans rfl) dX3_walk_77 ?_
          refine k_nw (fun w30 ew30 => ?_)
          have h := nm_use h w30 ew30
          refine k_iconst O dX3_walk_80 (v := 0) (by decide) ?_
          exact k_iret O dX3_walk_81 (rt_int h ho)
      · have h := ite_t c17 h
        refine k_iconst O dX3_walk_51 (v := 0) (by decide) ?_
        exact k_iret O dX3_walk_52 (rt_int h ho)
  · have h := ite_t c4 h
    refine k_iconst O dX3_walk_11 (v := 0) (by decide) ?_
    exact k_iret O dX3_walk_12 (rt_int h ho)
theorem c_X3_walk (l : Launch) (G : Gl) {b : Nat} (h_b : scb b = true) (n_b : b + 3 < g_N G) {w wz : Wd} {v1 : Int32} {v2 : Int32} {rz : Int32} (h : f_X3_walk b w v1 v2 = some (rz, wz)) : Ct l yX3_walk wsX3_walk (3) (68) G [.ref (g_ad G b), .int v1, .int v2] w (some (.int rz), wz) := by
  refine Ct.start (by decide) rfl rfl rfl (Nat.le_of_ble_eq_true rfl) (fun X hG ho hl O => ?_)
  subst hG
  subst hl
  exact k_sub [0, 1, 2] rfl (w_X3_walk_0 O h_b n_b ho h)
