def b_X8_in_0 (w : Wd) (v0 : Int64) (v2 : Int64) (v4 : Int64) : Option (Int32 × Wd) := if (lg_cmp v0 v2) < 0 then (some ((0 : Int32), w)) else (if 0 < (lg_cmp v0 v4) then (some ((0 : Int32), w)) else (some ((1 : Int32), w)))
def f_X8_in (w : Wd) (v0 : Int64) (v2 : Int64) (v4 : Int64) : Option (Int32 × Wd) := b_X8_in_0 w v0 v2 v4
set_option maxHeartbeats 4000000 in
set_option maxRecDepth 100000 in
theorem w_X8_in_0 {X : Cx} {rz : Int32} {wz : Wd} (O : Ok X cX8_in RX8 ((some .boolean)) wsX8_in (0) (0) 6) (ho : Ro X (some (.int rz), wz)) {w : Wd} {v0 : Int64} {v2 : Int64} {v4 : Int64} (h : b_X8_in_0 w v0 v2 v4 = some (rz, wz)) : Wk X w 0 [(0, .long v0), (2, .long v2), (4, .long v4)] [] := by
  unfold b_X8_in_0 at h
  refine k_lload_n O dX8_in_0 0 rfl ?_
  refine k_lload_n O dX8_in_1 1 rfl ?_
  refine k_lcmp O dX8_in_2 ?_
  refine k_if_lt O 17 dX8_in_3 (by decide) (fun c1 => ?_) (fun c1 => ?_)
  · have h := ite_t c1 h
    refine k_iconst O dX8_in_17 (v := 0) (by decide) ?_
    exact k_zret O (by decide) dX8_in_18 (rt_int h ho)
  · have h := ite_f c1 h
    refine k_lload_n O dX8_in_6 0 rfl ?_
    refine k_lload O dX8_in_7 2 rfl ?_
    refine k_lcmp O dX8_in_9 ?_
    refine k_if_gt O 17 dX8_in_10 (by decide) (fun c2 => ?_) (fun c2 => ?_)
    · have h := ite_t c2 h
      refine k_iconst O dX8_in_17 (v := 0) (by decide) ?_
      exact k_zret O (by decide) dX8_in_18 (rt_int h ho)
    · have h := ite_f c2 h
      refine k_iconst O dX8_in_13 (v := 1) (by decide) ?_
      refine k_goto O 18 dX8_in_14 (by decide) ?_
      exact k_zret O (by decide) dX8_in_18 (rt_int h ho)
theorem c_X8_in (l : Launch) (G : Gl) {w wz : Wd} {v0 : Int64} {v2 : Int64} {v4 : Int64} {rz : Int32} (h : f_X8_in w v0 v2 v4 = some (rz, wz)) : Ct l yX8_in wsX8_in (0) (0) G [.long v0, .long v2, .long v4] w (some (.int rz), wz) := by
  refine Ct.start (by decide) rfl rfl rfl (Nat.le_of_ble_eq_true rfl) (fun X hG ho hl O => ?_)
  subst hG
  subst hl
  exact k_sub [0, 1, 2] rfl (w_X8_in_0 O ho h)
def b_X8_write_34 : Nat → Wd → Int64 → Int32 → Option (Int32 × Wd)
  | 0, _, _, _ => none
  | n + 1, w, v2, v4 => if v4 < 0 then (some (w.1 105 16, w)) else (gd (inb (w.1 105 16) 64) (nm (up w 114 (w.1 105 16).toNatClampNeg ((((v2 >>> (((((8 : Int32)) * v4)).toInt64 &&& 63)) &&& ((255 : Int64)))).toInt32)) (fun w3 => nm (up w3 105 16 ((w3.1 105 16) + ((1 : Int32)))) (fun w4 => nm (v4 + (-1 : Int32)) (fun x5 => b_X8_write_34 n w4 v2 x5)))))
def b_X8_write_0 (w : Wd) (v1 : Int32) (v2 : Int64) : Option (Int32 × Wd) := bd (f_X8_in w ((v1).toInt64) ((1 : Int64)) ((8 : Int64))) (fun r3 w2 => if r3 = 0 then (some ((-2 : Int32), w2)) else (if ((w2.1 105 16) + v1) ≤ ((64 : Int32)) then (nm (v1 - ((1 : Int32))) (fun x6 => b_X8_write_34 LF w2 v2 x6)) else (some ((-4 : Int32), w2))))
def f_X8_write (w : Wd) (v1 : Int32) (v2 : Int64) : Option (Int32 × Wd) := b_X8_write_0 w v1 v2
set_option maxHeartbeats 4000000 in
set_option maxRecDepth 100000 in
theorem w_X8_write_34 {X : Cx} {rz : Int32} {wz : Wd} (O : Ok X cX8_write RX8 ((some .int)) wsX8_write (1) (25) 5) (hN : 121 ≤ g_N X.1) (ho : Ro X (some (.int rz), wz)) (n : Nat) : ∀ {w : Wd} {v2 : Int64} {v4 : Int32}, b_X8_write_34 n w v2 v4 = some (rz, wz) → Wk X w 34 [(0, .ref (g_ad X.1 105)), (2, .long v2), (4, .int v4)] [] := by
  induction n with
  | zero => intro w v2 v4 h; exact nomatch (show (none : Option (Int32 × Wd)) = some _ from h)
  | succ n ih =>
    intro w v2 v4 h
    rw [b_X8_write_34] at h
    refine k_iload O dX8_write_34 2 rfl ?_
    refine k_if_lt O 76 dX8_write_36 (by decide) (fun c1 => ?_) (fun c1 => ?_)
    · have h := ite_t c1 h
      refine k_aload_n O dX8_write_76 0 rfl ?_
      refine k_get O (v := .int (w.1 105 16)) (k := 105) (by omega) E_105 rfl 16 (by decide) (fun _ h9 => List.mem_cons_of_mem _ (List.mem_append_right _ h9)) (List.mem_of_getElem? (i := 2) rfl) rfl dX8_write_77 ?_
      exact k_iret O dX8_write_80 (rt_int h ho)
    · have h := ite_f c1 h
      refine k_aload_n O dX8_write_39 0 rfl ?_
      refine k_get O (v := .ref (g_ad X.1 114)) (k := 105) (by omega) E_105 rfl 15 (by decide) (fun _ h9 => List.mem_cons_of_mem _ (List.mem_append_right _ h9)) (List.mem_of_getElem? (i := 3) rfl) rfl dX8_write_40 ?_
      refine k_aload_n O dX8_write_43 0 rfl ?_
      refine k_get O (v := .int (w.1 105 16)) (k := 105) (by omega) E_105 rfl 16 (by decide) (fun _ h9 => List.mem_cons_of_mem _ (List.mem_append_right _ h9)) (List.mem_of_getElem? (i := 2) rfl) rfl dX8_write_44 ?_
      refine k_lload_n O dX8_write_47 1 rfl ?_
      refine k_bipush O dX8_write_48 (v := 8) (by decide) ?_
      refine k_iload O dX8_write_50 2 rfl ?_
      refine k_imul O dX8_write_52 ?_
      refine k_lshr O dX8_write_53 ?_
      refine k_ldc2 O dX8_write_54 (List.mem_of_getElem? (i := 4) rfl) ?_
      refine k_land O dX8_write_57 ?_
      refine k_l2i O dX8_write_58 ?_
      obtain ⟨g2, h⟩ := gd_some h
      refine k_iast O (k := 114) (by omega) E_114 (fun _ => E_114) g2 dX8_write_59 ?_
      refine k_nw (fun w3 ew3 => ?_)
      have h := nm_use h w3 ew3
      refine k_aload_n O dX8_write_60 0 rfl ?_
      refine k_dup O dX8_write_61 rfl ?_
      refine k_get O (v := .int (w3.1 105 16)) (k := 105) (by omega) E_105 rfl 16 (by decide) (fun _ h9 => List.mem_cons_of_mem _ (List.mem_append_right _ h9)) (List.mem_of_getElem? (i := 2) rfl) rfl dX8_write_62 ?_
      refine k_iconst O dX8_write_65 (v := 1) (by decide) ?_
      refine k_iadd O dX8_write_66 ?_
      refine k_puti O (k := 105) tyX8 tyX8_ok nmX8 (by omega) E_105 rfl 16 (by decide) (fun _ h9 => List.mem_cons_of_mem _ (List.mem_append_right _ h9)) (List.mem_of_getElem? (i := 2) rfl) rfl rfl rfl (Nat.le_of_ble_eq_true rfl) (E_105.trans rfl) dX8_write_67 ?_
      refine k_nw (fun w4 ew4 => ?_)
      have h := nm_use h w4 ew4
      obtain ⟨x5, ex5⟩ : ∃ z : Int32, z = v4 + (-1 : Int32) := ⟨_, rfl⟩
      have h := nm_use h x5 ex5
      refine k_iinc (lv' := [(4, .int x5), (0, .ref (g_ad X.1 105)), (2, .long v2)]) O dX8_write_70 2 rfl (by rw [ex5]; rfl) (by decide) rfl ?_
      refine k_goto O 34 dX8_write_73 (by decide) ?_
      exact k_sub [1, 2, 0] rfl (ih h)
set_option maxHeartbeats 4000000 in
set_option maxRecDepth 100000 in
theorem w_X8_write_0 {X : Cx} {rz : Int32} {wz : Wd} (O : Ok X cX8_write RX8 ((some .int)) wsX8_write (1) (25) 5) (hN : 121 ≤ g_N X.1) (ho : Ro X (some (.int rz), wz)) {w : Wd} {v1 : Int32} {v2 : Int64} (h : b_X8_write_0 w v1 v2 = some (rz, wz)) : Wk X w 0 [(0, .ref (g_ad X.1 105)), (1, .int v1), (2, .long v2)] [] := by
  unfold b_X8_write_0 at h
  refine k_iload_n O dX8_write_0 1 rfl ?_
  refine k_i2l O dX8_write_1 ?_
  refine k_lconst O dX8_write_2 (v := 1) (by decide) ?_
  refine k_ldc2 O dX8_write_3 (List.mem_of_getElem? (i := 1) rfl) ?_
  obtain ⟨r3, w2, hc1, h⟩ := bd_some h
  refine k_callSi O (As := [.long ((v1).toInt64), .long ((1 : Int64)), .long ((8 : Int64))]) (rest := []) (c_X8_in (x_l X) X.1 hc1) gX8_write_X8_in rfl hd_X8_in (by decide) rfl rfl (Nat.le_of_ble_eq_true rfl) dX8_write_6 ?_
  refine k_if_ne O 15 dX8_write_9 (by decide) (fun c4 => ?_) (fun c4 => ?_)
  · have h := ite_f c4 h
    refine k_aload_n O dX8_write_15 0 rfl ?_
    refine k_get O (v := .int (w2.1 105 16)) (k := 105) (by omega) E_105 rfl 16 (by decide) (fun _ h9 => List.mem_cons_of_mem _ (List.mem_append_right _ h9)) (List.mem_of_getElem? (i := 2) rfl) rfl dX8_write_16 ?_
    refine k_iload_n O dX8_write_19 1 rfl ?_
    refine k_iadd O dX8_write_20 ?_
    refine k_bipush O dX8_write_21 (v := 64) (by decide) ?_
    refine k_icmp_le O 29 dX8_write_23 (by decide) (fun c5 => ?_) (fun c5 => ?_)
    · have h := ite_t c5 h
      refine k_iload_n O dX8_write_29 1 rfl ?_
      refine k_iconst O dX8_write_30 (v := 1) (by decide) ?_
      refine k_isub O dX8_write_31 ?_
      refine k_topi (fun x6 ex6 => ?_)
      have h := nm_use h x6 ex6
      refine k_istore (lv' := [(4, .int x6), (0, .ref (g_ad X.1 105)), (1, .int v1), (2, .long v2)]) O dX8_write_32 (by decide) rfl ?_
      exact k_sub [1, 3, 0] rfl (w_X8_write_34 O hN ho LF h)
    · have h := ite_f c5 h
      refine k_bipush O dX8_write_26 (v := -4) (by decide) ?_
      exact k_iret O dX8_write_28 (rt_int h ho)
  · have h := ite_t c4 h
    refine k_bipush O dX8_write_12 (v := -2) (by decide) ?_
    exact k_iret O dX8_write_14 (rt_int h ho)
theorem c_X8_write (l : Launch) (G : Gl) (hN : 121 ≤ g_N G) {w wz : Wd} {v1 : Int32} {v2 : Int64} {rz : Int32} (h : f_X8_write w v1 v2 = some (rz, wz)) : Ct l yX8_write wsX8_write (1) (25) G [.ref (g_ad G 105), .int v1, .long v2] w (some (.int rz), wz) := by
  refine Ct.start (by decide) rfl rfl rfl (Nat.le_of_ble_eq_true rfl) (fun X hG ho hl O => ?_)
  subst hG
  subst hl
  exact k_sub [0, 1, 2] rfl (w_X8_write_0 O hN ho h)
def b_X8_wipe_0 (w : Wd) : Option (Int32 × Wd) := nm (w.1 105 16) (fun x1 => nm (up w 105 16 ((0 : Int32))) (fun w2 => some (x1, w2)))
def f_X8_wipe (w : Wd) : Option (Int32 × Wd) := b_X8_wipe_0 w 
set_option maxHeartbeats 4000000 in
set_option maxRecDepth 100000 in
theorem w_X8_wipe_0 {X : Cx} {rz : Int32} {wz : Wd} (O : Ok X cX8_wipe RX8 ((some .int)) wsX8_wipe (0) (0) 2) (hN : 121 ≤ g_N X.1) (ho : Ro X (some (.int rz), wz)) {w : Wd} (h : b_X8_wipe_0 w  = some (rz, wz)) : Wk X w 0 [(0, .ref (g_ad X.1 105))] [] := by
  unfold b_X8_wipe_0 at h
  refine k_aload_n O dX8_wipe_0 0 rfl ?_
  refine k_get O (v := .int (w.1 105 16)) (k := 105) (by omega) E_105 rfl 16 (by decide) (fun _ h9 => List.mem_cons_of_mem _ (List.mem_append_right _ h9)) (List.mem_of_getElem? (i := 1) rfl) rfl dX8_wipe_1 ?_
  refine k_topi (fun x1 ex1 => ?_)
  have h := nm_use h x1 ex1
  refine k_istore_n (lv' := [(1, .int x1), (0, .ref (g_ad X.1 105))]) O dX8_wipe_4 rfl (by decide) rfl ?_
  refine k_aload_n O dX8_wipe_5 1 rfl ?_
  refine k_iconst O dX8_wipe_6 (v := 0) (by decide) ?_
  refine k_puti O (k := 105) tyX8 tyX8_ok nmX8 (by omega) E_105 rfl 16 (by decide) (fun _ h9 => List.mem_cons_of_mem _ (List.mem_append_right _ h9)) (List.mem_of_getElem? (i := 1) rfl) rfl rfl rfl (Nat.le_of_ble_eq_true rfl) (E_105.trans rfl) dX8_wipe_7 ?_
  refine k_nw (fun w2 ew2 => ?_)
  have h := nm_use h w2 ew2
  refine k_iload_n O dX8_wipe_10 0 rfl ?_
  exact k_iret O dX8_wipe_11 (rt_int h ho)
theorem c_X8_wipe (l : Launch) (G : Gl) (hN : 121 ≤ g_N G) {w wz : Wd} {rz : Int32} (h : f_X8_wipe w  = some (rz, wz)) : Ct l yX8_wipe wsX8_wipe (0) (0) G [.ref (g_ad G 105)] w (some (.int rz), wz) := by
  refine Ct.start (by decide) rfl rfl rfl (Nat.le_of_ble_eq_true rfl) (fun X hG ho hl O => ?_)
  subst hG
  subst hl
  exact k_sub [0] rfl (w_X8_wipe_0 O hN ho h)
def b_X8_fail_0 (w : Wd) : Option (Wd) := if (w.1 105 18) = ((-9 : Int32)) then (nm (up w 105 18 (w.1 105 17)) (fun w3 => some w3)) else (nm (up w 105 18 (w.1 105 18)) (fun w2 => some w2))
def f_X8_fail (w : Wd) : Option (Wd) := b_X8_fail_0 w 
set_option maxHeartbeats 4000000 in
set_option maxRecDepth 100000 in
theorem w_X8_fail_0 {X : Cx} {wz : Wd} (O : Ok X cX8_fail RX8 none wsX8_fail (0) (0) 1) (hN : 121 ≤ g_N X.1) (ho : Ro X (none, wz)) {w : Wd} (h : b_X8_fail_0 w  = some wz) : Wk X w 0 [(0, .ref (g_ad X.1 105))] [] := by
  unfold b_X8_fail_0 at h
  refine k_aload_n O dX8_fail_0 0 rfl ?_
  refine k_aload_n O dX8_fail_1 0 rfl ?_
  refine k_get O (v := .int (w.1 105 18)) (k := 105) (by omega) E_105 rfl 18 (by decide) (fun _ h9 => List.mem_cons_of_mem _ (List.mem_append_right _ h9)) (List.mem_of_getElem? (i := 1) rfl) rfl dX8_fail_2 ?_
  refine k_bipush O dX8_fail_5 (v := -9) (by decide) ?_
  refine k_icmp_ne O 17 dX8_fail_7 (by decide) (fun c1 => ?_) (fun c1 => ?_)
  · have h := ite_f c1 h
    refine k_aload_n O dX8_fail_17 0 rfl ?_
    refine k_get O (v := .int (w.1 105 18)) (k := 105) (by omega) E_105 rfl 18 (by decide) (fun _ h9 => List.mem_cons_of_mem _ (List.mem_append_right _ h9)) (List.mem_of_getElem? (i := 1) rfl) rfl dX8_fail_18 ?_
    refine k_puti O (k := 105) tyX8 tyX8_ok nmX8 (by omega) E_105 rfl 18 (by decide) (fun _ h9 => List.mem_cons_of_mem _ (List.mem_append_right _ h9)) (List.mem_of_getElem? (i := 1) rfl) rfl rfl rfl (Nat.le_of_ble_eq_true rfl) (E_105.trans rfl) dX8_fail_21 ?_
    refine k_nw (fun w2 ew2 => ?_)
    have h := nm_use h w2 ew2
    exact k_vret O dX8_fail_24 (rt_void h ho)
  · have h := ite_t c1 h
    refine k_aload_n O dX8_fail_10 0 rfl ?_
    refine k_get O (v := .int (w.1 105 17)) (k := 105) (by omega) E_105 rfl 17 (by decide) (fun _ h9 => List.mem_cons_of_mem _ (List.mem_append_right _ h9)) (List.mem_of_getElem? (i := 2) rfl) rfl dX8_fail_11 ?_
    refine k_goto O 21 dX8_fail_14 (by decide) ?_
    refine k_puti O (k := 105) tyX8 tyX8_ok nmX8 (by omega) E_105 rfl 18 (by decide) (fun _ h9 => List.mem_cons_of_mem _ (List.mem_append_right _ h9)) (List.mem_of_getElem? (i := 1) rfl) rfl rfl rfl (Nat.le_of_ble_eq_true rfl) (E_105.trans rfl) dX8_fail_21 ?_
    refine k_nw (fun w3 ew3 => ?_)
    have h := nm_use h w3 ew3
    exact k_vret O dX8_fail_24 (rt_void h ho)
theorem c_X8_fail (l : Launch) (G : Gl) (hN : 121 ≤ g_N G) {w wz : Wd} (h : f_X8_fail w  = some wz) : Ct l yX8_fail wsX8_fail (0) (0) G [.ref (g_ad G 105)] w (none, wz) := by
  refine Ct.start (by decide) rfl rfl rfl (Nat.le_of_ble_eq_true rfl) (fun X hG ho hl O => ?_)
  subst hG
  subst hl
  exact k_sub [0] rfl (w_X8_fail_0 O hN ho h)
def b_X8_figure_57 (w : Wd) : Option (Int32 × Wd) := bv (f_X8_fail w) (fun w2 => some ((0 : Int32), w2))
def b_X8_figure_36 (w : Wd) (v1 : Int32) (s0 : Int32) : Option (Int32 × Wd) := bd (f_X8_in w ((s0).toInt64) ((0 : Int64)) ((9 : Int64))) (fun r3 w2 => if r3 = 0 then (b_X8_figure_57 w2) else (if ((v1 >>> (s0 &&& 31)) &&& ((1 : Int32))) = 0 then (b_X8_figure_57 w2) else (nm (up w2 105 17 ((w2.1 105 17) + ((1 : Int32)))) (fun w6 => some (s0, w6)))))
def b_X8_figure_35 (w : Wd) (v1 : Int32) : Option (Int32 × Wd) := b_X8_figure_36 w v1 ((-1 : Int32))
def b_X8_figure_0 (w : Wd) (v1 : Int32) : Option (Int32 × Wd) := if (w.1 105 18) = ((-9 : Int32)) then (if (w.1 105 16) ≤ (w.1 105 17) then (b_X8_figure_35 w v1) else (gd (inb (w.1 105 17) 64) (b_X8_figure_36 w v1 ((w.1 114 (w.1 105 17).toNatClampNeg) - ((48 : Int32)))))) else (b_X8_figure_35 w v1)
def f_X8_figure (w : Wd) (v1 : Int32) : Option (Int32 × Wd) := b_X8_figure_0 w v1
set_option maxHeartbeats 4000000 in
set_option maxRecDepth 100000 in
theorem w_X8_figure_57 {X : Cx} {rz : Int32} {wz : Wd} (O : Ok X cX8_figure RX8 ((some .int)) wsX8_figure (1) (25) 3) (hN : 121 ≤ g_N X.1) (ho : Ro X (some (.int rz), wz)) {w : Wd} (h : b_X8_figure_57 w  = some (rz, wz)) : Wk X w 57 [(0, .ref (g_ad X.1 105))] [] := by
  unfold b_X8_figure_57 at h
  refine k_aload_n O dX8_figure_57 0 rfl ?_
  obtain ⟨w2, hc1, h⟩ := bv_some h
  refine k_callVv O (As := []) (rest := []) (k := 105) (c_X8_fail (x_l X) X.1 hN hc1) gX8_figure_X8_fail rfl hd_X8_fail (by decide) (by omega) E_105 rfl rfl rfl rfl rfl (Nat.le_of_ble_eq_true rfl) dX8_figure_58 ?_
  refine k_iconst O dX8_figure_61 (v := 0) (by decide) ?_
  exact k_iret O dX8_figure_62 (rt_int h ho)
set_option maxHeartbeats 4000000 in
set_option maxRecDepth 100000 in
theorem w_X8_figure_36 {X : Cx} {rz : Int32} {wz : Wd} (O : Ok X cX8_figure RX8 ((some .int)) wsX8_figure (1) (25) 3) (hN : 121 ≤ g_N X.1) (ho : Ro X (some (.int rz), wz)) {w : Wd} {v1 : Int32} {s0 : Int32} (h : b_X8_figure_36 w v1 s0 = some (rz, wz)) : Wk X w 36 [(0, .ref (g_ad X.1 105)), (1, .int v1)] [.int s0] := by
  unfold b_X8_figure_36 at h
  refine k_istore_n (lv' := [(2, .int s0), (0, .ref (g_ad X.1 105)), (1, .int v1)]) O dX8_figure_36 rfl (by decide) rfl ?_
  refine k_iload_n O dX8_figure_37 0 rfl ?_
  refine k_i2l O dX8_figure_38 ?_
  refine k_lconst O dX8_figure_39 (v := 0) (by decide) ?_
  refine k_ldc2 O dX8_figure_40 (List.mem_of_getElem? (i := 5) rfl) ?_
  obtain ⟨r3, w2, hc1, h⟩ := bd_some h
  refine k_callSi O (As := [.long ((s0).toInt64), .long ((0 : Int64)), .long ((9 : Int64))]) (rest := []) (c_X8_in (x_l X) X.1 hc1) gX8_figure_X8_in rfl hd_X8_in (by decide) rfl rfl (Nat.le_of_ble_eq_true rfl) dX8_figure_43 ?_
  refine k_if_eq O 57 dX8_figure_46 (by decide) (fun c4 => ?_) (fun c4 => ?_)
  · have h := ite_t c4 h
    exact k_sub [1] rfl (w_X8_figure_57 O hN ho h)
  · have h := ite_f c4 h
    refine k_iload_n O dX8_figure_49 2 rfl ?_
    refine k_iload_n O dX8_figure_50 0 rfl ?_
    refine k_ishr O dX8_figure_51 ?_
    refine k_iconst O dX8_figure_52 (v := 1) (by decide) ?_
    refine k_iand O dX8_figure_53 ?_
    refine k_if_ne O 63 dX8_figure_54 (by decide) (fun c5 => ?_) (fun c5 => ?_)
    · have h := ite_f c5 h
      refine k_aload_n O dX8_figure_63 1 rfl ?_
      refine k_dup O dX8_figure_64 rfl ?_
      refine k_get O (v := .int (w2.1 105 17)) (k := 105) (by omega) E_105 rfl 17 (by decide) (fun _ h9 => List.mem_cons_of_mem _ (List.mem_append_right _ h9)) (List.mem_of_getElem? (i := 2) rfl) rfl dX8_figure_65 ?_
      refine k_iconst O dX8_figure_68 (v := 1) (by decide) ?_
      refine k_iadd O dX8_figure_69 ?_
      refine k_puti O (k := 105) tyX8 tyX8_ok nmX8 (by omega) E_105 rfl 17 (by decide) (fun _ h9 => List.mem_cons_of_mem _ (List.mem_append_right _ h9)) (List.mem_of_getElem? (i := 2) rfl) rfl rfl rfl (Nat.le_of_ble_eq_true rfl) (E_105.trans rfl) dX8_figure_70 ?_
      refine k_nw (fun w6 ew6 => ?_)
      have h := nm_use h w6 ew6
      refine k_iload_n O dX8_figure_73 0 rfl ?_
      exact k_iret O dX8_figure_74 (rt_int h ho)
    · have h := ite_t c5 h
      exact k_sub [1] rfl (w_X8_figure_57 O hN ho h)
set_option maxHeartbeats 4000000 in
set_option maxRecDepth 100000 in
theorem w_X8_figure_35 {X : Cx} {rz : Int32} {wz : Wd} (O : Ok X cX8_figure RX8 ((some .int)) wsX8_figure (1) (25) 3) (hN : 121 ≤ g_N X.1) (ho : Ro X (some (.int rz), wz)) {w : Wd} {v1 : Int32} (h : b_X8_figure_35 w v1 = some (rz, wz)) : Wk X w 35 [(0, .ref (g_ad X.1 105)), (1, .int v1)] [] := by
  unfold b_X8_figure_35 at h
  refine k_iconst O dX8_figure_35 (v := -1) (by decide) ?_
  exact k_sub [0, 1] rfl (w_X8_figure_36 O hN ho h)
set_option maxHeartbeats 4000000 in
set_option maxRecDepth 100000 in
theorem w_X8_figure_0 {X : Cx} {rz : Int32} {wz : Wd} (O : Ok X cX8_figure RX8 ((some .int)) wsX8_figure (1) (25) 3) (hN : 121 ≤ g_N X.1) (ho : Ro X (some (.int rz), wz)) {w : Wd} {v1 : Int32} (h : b_X8_figure_0 w v1 = some (rz, wz)) : Wk X w 0 [(0, .ref (g_ad X.1 105)), (1, .int v1)] [] := by
  unfold b_X8_figure_0 at h
  refine k_aload_n O dX8_figure_0 0 rfl ?_
  refine k_get O (v := .int (w.1 105 18)) (k := 105) (by omega) E_105 rfl 18 (by decide) (fun _ h9 => List.mem_cons_of_mem _ (List.mem_append_right _ h9)) (List.mem_of_getElem? (i := 1) rfl) rfl dX8_figure_1 ?_
  refine k_bipush O dX8_figure_4 (v := -9) (by decide) ?_
  refine k_icmp_ne O 35 dX8_figure_6 (by decide) (fun c1 => ?_) (fun c1 => ?_)
  · have h := ite_f c1 h
    exact k_sub [0, 1] rfl (w_X8_figure_35 O hN ho h)
  · have h := ite_t c1 h
    refine k_aload_n O dX8_figure_9 0 rfl ?_
    refine k_get O (v := .int (w.1 105 17)) (k := 105) (by omega) E_105 rfl 17 (by decide) (fun _ h9 => List.mem_cons_of_mem _ (List.mem_append_right _ h9)) (List.mem_of_getElem? (i := 2) rfl) rfl dX8_figure_10 ?_
    refine k_aload_n O dX8_figure_13 0 rfl ?_
    refine k_get O (v := .int (w.1 105 16)) (k := 105) (by omega) E_105 rfl 16 (by decide) (fun _ h9 => List.mem_cons_of_mem _ (List.mem_append_right _ h9)) (List.mem_of_getElem? (i := 3) rfl) rfl dX8_figure_14 ?_
    refine k_icmp_ge O 35 dX8_figure_17 (by decide) (fun c2 => ?_) (fun c2 => ?_)
    · have h := ite_t c2 h
      exact k_sub [0, 1] rfl (w_X8_figure_35 O hN ho h)
    · have h := ite_f c2 h
      refine k_aload_n O dX8_figure_20 0 rfl ?_
      refine k_get O (v := .ref (g_ad X.1 114)) (k := 105) (by omega) E_105 rfl 15 (by decide) (fun _ h9 => List.mem_cons_of_mem _ (List.mem_append_right _ h9)) (List.mem_of_getElem? (i := 4) rfl) rfl dX8_figure_21 ?_
      refine k_aload_n O dX8_figure_24 0 rfl ?_
      refine k_get O (v := .int (w.1 105 17)) (k := 105) (by omega) E_105 rfl 17 (by decide) (fun _ h9 => List.mem_cons_of_mem _ (List.mem_append_right _ h9)) (List.mem_of_getElem? (i := 2) rfl) rfl dX8_figure_25 ?_
      obtain ⟨g3, h⟩ := gd_some h
      refine k_iald O (k := 114) (by omega) E_114 g3 dX8_figure_28 ?_
      refine k_bipush O dX8_figure_29 (v := 48) (by decide) ?_
      refine k_isub O dX8_figure_31 ?_
      refine k_goto O 36 dX8_figure_32 (by decide) ?_
      exact k_sub [0, 1] rfl (w_X8_figure_36 O hN ho h)
theorem c_X8_figure (l : Launch) (G : Gl) (hN : 121 ≤ g_N G) {w wz : Wd} {v1 : Int32} {rz : Int32} (h : f_X8_figure w v1 = some (rz, wz)) : Ct l yX8_figure wsX8_figure (1) (25) G [.ref (g_ad G 105), .int v1] w (some (.int rz), wz) := by
  refine Ct.start (by decide) rfl rfl rfl (Nat.le_of_ble_eq_true rfl) (fun X hG ho hl O => ?_)
  subst hG
  subst hl
  exact k_sub [0, 1] rfl (w_X8_figure_0 O hN ho h)
def b_X8_cell_52 (w : Wd) (s0 : Int32) (s2 : Int32) : Option (Int32 × Wd) := bd (f_X8_figure w s0) (fun r3 w2 => some (s2 + r3, w2))
def b_X8_cell_26 (w : Wd) (v1 : Int32) (s0 : Int32) (s1 : Int32) : Option (Int32 × Wd) := bd (f_X8_figure w (s1 ||| s0)) (fun r3 w2 => if r3 = 0 then (b_X8_cell_52 w2 (v1 &&& ((1023 : Int32))) (((10 : Int32)) * r3)) else (b_X8_cell_52 w2 (v1 >>> (((10 : Int32)) &&& 31)) (((10 : Int32)) * r3)))
def b_X8_cell_14 (w : Wd) (v1 : Int32) (s0 : Int32) : Option (Int32 × Wd) := if (v1 >>> (((10 : Int32)) &&& 31)) = 0 then (b_X8_cell_26 w v1 ((0 : Int32)) s0) else (b_X8_cell_26 w v1 ((2 : Int32)) s0)
def b_X8_cell_0 (w : Wd) (v1 : Int32) : Option (Int32 × Wd) := if (v1 &&& ((1023 : Int32))) = 0 then (b_X8_cell_14 w v1 ((0 : Int32))) else (b_X8_cell_14 w v1 ((1 : Int32)))
def f_X8_cell (w : Wd) (v1 : Int32) : Option (Int32 × Wd) := b_X8_cell_0 w v1
set_option maxHeartbeats 4000000 in
set_option maxRecDepth 100000 in
theorem w_X8_cell_52 {X : Cx} {rz : Int32} {wz : Wd} (O : Ok X cX8_cell RX8 ((some .int)) wsX8_cell (2) (47) 3) (hN : 121 ≤ g_N X.1) (ho : Ro X (some (.int rz), wz)) {w : Wd} {s0 : Int32} {s2 : Int32} (h : b_X8_cell_52 w s0 s2 = some (rz, wz)) : Wk X w 52 [] [.int s0, .ref (g_ad X.1 105), .int s2] := by
  unfold b_X8_cell_52 at h
  obtain ⟨r3, w2, hc1, h⟩ := bd_some h
  refine k_callVi O (As := [.int s0]) (rest := [.int s2]) (k := 105) (c_X8_figure (x_l X) X.1 hN hc1) gX8_cell_X8_figure rfl hd_X8_figure (by decide) (by omega) E_105 rfl rfl rfl rfl rfl (Nat.le_of_ble_eq_true rfl) dX8_cell_52 ?_
  refine k_iadd O dX8_cell_55 ?_
  exact k_iret O dX8_cell_56 (rt_int h ho)
set_option maxHeartbeats 4000000 in
set_option maxRecDepth 100000 in
theorem w_X8_cell_26 {X : Cx} {rz : Int32} {wz : Wd} (O : Ok X cX8_cell RX8 ((some .int)) wsX8_cell (2) (47) 3) (hN : 121 ≤ g_N X.1) (ho : Ro X (some (.int rz), wz)) {w : Wd} {v1 : Int32} {s0 : Int32} {s1 : Int32} (h : b_X8_cell_26 w v1 s0 s1 = some (rz, wz)) : Wk X w 26 [(0, .ref (g_ad X.1 105)), (1, .int v1)] [.int s0, .int s1, .ref (g_ad X.1 105)] := by
  unfold b_X8_cell_26 at h
  refine k_ior O dX8_cell_26 ?_
  obtain ⟨r3, w2, hc1, h⟩ := bd_some h
  refine k_callVi O (As := [.int (s1 ||| s0)]) (rest := []) (k := 105) (c_X8_figure (x_l X) X.1 hN hc1) gX8_cell_X8_figure rfl hd_X8_figure (by decide) (by omega) E_105 rfl rfl rfl rfl rfl (Nat.le_of_ble_eq_true rfl) dX8_cell_27 ?_
  refine k_istore_n (lv' := [(2, .int r3), (0, .ref (g_ad X.1 105)), (1, .int v1)]) O dX8_cell_30 rfl (by decide) rfl ?_
  refine k_bipush O dX8_cell_31 (v := 10) (by decide) ?_
  refine k_iload_n O dX8_cell_33 0 rfl ?_
  refine k_imul O dX8_cell_34 ?_
  refine k_aload_n O dX8_cell_35 1 rfl ?_
  refine k_iload_n O dX8_cell_36 0 rfl ?_
  refine k_if_ne O 48 dX8_cell_37 (by decide) (fun c4 => ?_) (fun c4 => ?_)
  · have h := ite_f c4 h
    refine k_iload_n O dX8_cell_48 2 rfl ?_
    refine k_bipush O dX8_cell_49 (v := 10) (by decide) ?_
    refine k_ishr O dX8_cell_51 ?_
    exact k_sub [] rfl (w_X8_cell_52 O hN ho h)
  · have h := ite_t c4 h
    refine k_iload_n O dX8_cell_40 2 rfl ?_
    refine k_sipush O dX8_cell_41 (v := 1023) (by decide) ?_
    refine k_iand O dX8_cell_44 ?_
    refine k_goto O 52 dX8_cell_45 (by decide) ?_
    exact k_sub [] rfl (w_X8_cell_52 O hN ho h)
set_option maxHeartbeats 4000000 in
set_option maxRecDepth 100000 in
theorem w_X8_cell_14 {X : Cx} {rz : Int32} {wz : Wd} (O : Ok X cX8_cell RX8 ((some .int)) wsX8_cell (2) (47) 3) (hN : 121 ≤ g_N X.1) (ho : Ro X (some (.int rz), wz)) {w : Wd} {v1 : Int32} {s0 : Int32} (h : b_X8_cell_14 w v1 s0 = some (rz, wz)) : Wk X w 14 [(0, .ref (g_ad X.1 105)), (1, .int v1)] [.int s0, .ref (g_ad X.1 105)] := by
  unfold b_X8_cell_14 at h
  refine k_iload_n O dX8_cell_14 1 rfl ?_
  refine k_bipush O dX8_cell_15 (v := 10) (by decide) ?_
  refine k_ishr O dX8_cell_17 ?_
  refine k_if_eq O 25 dX8_cell_18 (by decide) (fun c1 => ?_) (fun c1 => ?_)
  · have h := ite_t c1 h
    refine k_iconst O dX8_cell_25 (v := 0) (by decide) ?_
    exact k_sub [0, 1] rfl (w_X8_cell_26 O hN ho h)
  · have h := ite_f c1 h
    refine k_iconst O dX8_cell_21 (v := 2) (by decide) ?_
    refine k_goto O 26 dX8_cell_22 (by decide) ?_
    exact k_sub [0, 1] rfl (w_X8_cell_26 O hN ho h)
set_option maxHeartbeats 4000000 in
set_option maxRecDepth 100000 in
theorem w_X8_cell_0 {X : Cx} {rz : Int32} {wz : Wd} (O : Ok X cX8_cell RX8 ((some .int)) wsX8_cell (2) (47) 3) (hN : 121 ≤ g_N X.1) (ho : Ro X (some (.int rz), wz)) {w : Wd} {v1 : Int32} (h : b_X8_cell_0 w v1 = some (rz, wz)) : Wk X w 0 [(0, .ref (g_ad X.1 105)), (1, .int v1)] [] := by
  unfold b_X8_cell_0 at h
  refine k_aload_n O dX8_cell_0 0 rfl ?_
  refine k_iload_n O dX8_cell_1 1 rfl ?_
  refine k_sipush O dX8_cell_2 (v := 1023) (by decide) ?_
  refine k_iand O dX8_cell_5 ?_
  refine k_if_eq O 13 dX8_cell_6 (by decide) (fun c1 => ?_) (fun c1 => ?_)
  · have h := ite_t c1 h
    refine k_iconst O dX8_cell_13 (v := 0) (by decide) ?_
    exact k_sub [0, 1] rfl (w_X8_cell_14 O hN ho h)
  · have h := ite_f c1 h
    refine k_iconst O dX8_cell_9 (v := 1) (by decide) ?_
    refine k_goto O 14 dX8_cell_10 (by decide) ?_
    exact k_sub [0, 1] rfl (w_X8_cell_14 O hN ho h)
theorem c_X8_cell (l : Launch) (G : Gl) (hN : 121 ≤ g_N G) {w wz : Wd} {v1 : Int32} {rz : Int32} (h : f_X8_cell w v1 = some (rz, wz)) : Ct l yX8_cell wsX8_cell (2) (47) G [.ref (g_ad G 105), .int v1] w (some (.int rz), wz) := by
  refine Ct.start (by decide) rfl rfl rfl (Nat.le_of_ble_eq_true rfl) (fun X hG ho hl O => ?_)
  subst hG
  subst hl
  exact k_sub [0, 1] rfl (w_X8_cell_0 O hN ho h)
def b_X8_freeCells_6 : Nat → Wd → Int32 → Int32 → Option (Int32 × Wd)
  | 0, _, _, _ => none
  | n + 1, w, v1, v2 => if (w.1 105 2) ≤ v2 then (some (v1, w)) else (gd (inb (((4 : Int32)) * v2) 24) (nm (v1 &&& ((((1 : Int32)) <<< ((w.1 106 (((4 : Int32)) * v2).toNatClampNeg) &&& 31)) ^^^ ((-1 : Int32)))) (fun x3 => nm (v2 + (1 : Int32)) (fun x4 => b_X8_freeCells_6 n w x3 x4))))
def b_X8_freeCells_0 (w : Wd) : Option (Int32 × Wd) := b_X8_freeCells_6 LF w ((4095 : Int32)) ((0 : Int32))
def f_X8_freeCells (w : Wd) : Option (Int32 × Wd) := b_X8_freeCells_0 w 
set_option maxHeartbeats 4000000 in
set_option maxRecDepth 100000 in
theorem w_X8_freeCells_6 {X : Cx} {rz : Int32} {wz : Wd} (O : Ok X cX8_freeCells RX8 ((some .int)) wsX8_freeCells (0) (0) 3) (hN : 121 ≤ g_N X.1) (ho : Ro X (some (.int rz), wz)) (n : Nat) : ∀ {w : Wd} {v1 : Int32} {v2 : Int32}, b_X8_freeCells_6 n w v1 v2 = some (rz, wz) → Wk X w 6 [(0, .ref (g_ad X.1 105)), (1, .int v1), (2, .int v2)] [] := by
  induction n with
  | zero => intro w v1 v2 h; exact nomatch (show (none : Option (Int32 × Wd)) = some _ from h)
  | succ n ih =>
    intro w v1 v2 h
    rw [b_X8_freeCells_6] at h
    refine k_iload_n O dX8_freeCells_6 2 rfl ?_
    refine k_aload_n O dX8_freeCells_7 0 rfl ?_
    refine k_get O (v := .int (w.1 105 2)) (k := 105) (by omega) E_105 rfl 2 (by decide) (fun _ h9 => List.mem_cons_of_mem _ (List.mem_append_right _ h9)) (List.mem_of_getElem? (i := 1) rfl) rfl dX8_freeCells_8 ?_
    refine k_icmp_ge O 35 dX8_freeCells_11 (by decide) (fun c1 => ?_) (fun c1 => ?_)
    · have h := ite_t c1 h
      refine k_iload_n O dX8_freeCells_35 1 rfl ?_
      exact k_iret O dX8_freeCells_36 (rt_int h ho)
    · have h := ite_f c1 h
      refine k_iload_n O dX8_freeCells_14 1 rfl ?_
      refine k_iconst O dX8_freeCells_15 (v := 1) (by decide) ?_
      refine k_aload_n O dX8_freeCells_16 0 rfl ?_
      refine k_get O (v := .ref (g_ad X.1 106)) (k := 105) (by omega) E_105 rfl 0 (by decide) (fun _ h9 => List.mem_cons_of_mem _ (List.mem_append_right _ h9)) (List.mem_of_getElem? (i := 2) rfl) rfl dX8_freeCells_17 ?_
      refine k_iconst O dX8_freeCells_20 (v := 4) (by decide) ?_
      refine k_iload_n O dX8_freeCells_21 2 rfl ?_
      refine k_imul O dX8_freeCells_22 ?_
      obtain ⟨g2, h⟩ := gd_some h
      refine k_iald O (k := 106) (by omega) E_106 g2 dX8_freeCells_23 ?_
      refine k_ishl O dX8_freeCells_24 ?_
      refine k_iconst O dX8_freeCells_25 (v := -1) (by decide) ?_
      refine k_ixor O dX8_freeCells_26 ?_
      refine k_iand O dX8_freeCells_27 ?_
      refine k_topi (fun x3 ex3 => ?_)
      have h := nm_use h x3 ex3
      refine k_istore_n (lv' := [(1, .int x3), (0, .ref (g_ad X.1 105)), (2, .int v2)]) O dX8_freeCells_28 rfl (by decide) rfl ?_
      obtain ⟨x4, ex4⟩ : ∃ z : Int32, z = v2 + (1 : Int32) := ⟨_, rfl⟩
      have h := nm_use h x4 ex4
      refine k_iinc (lv' := [(2, .int x4), (1, .int x3), (0, .ref (g_ad X.1 105))]) O dX8_freeCells_29 2 rfl (by rw [ex4]; rfl) (by decide) rfl ?_
      refine k_goto O 6 dX8_freeCells_32 (by decide) ?_
      exact k_sub [2, 1, 0] rfl (ih h)
set_option maxHeartbeats 4000000 in
set_option maxRecDepth 100000 in
theorem w_X8_freeCells_0 {X : Cx} {rz : Int32} {wz : Wd} (O : Ok X cX8_freeCells RX8 ((some .int)) wsX8_freeCells (0) (0) 3) (hN : 121 ≤ g_N X.1) (ho : Ro X (some (.int rz), wz)) {w : Wd} (h : b_X8_freeCells_0 w  = some (rz, wz)) : Wk X w 0 [(0, .ref (g_ad X.1 105))] [] := by
  unfold b_X8_freeCells_0 at h
  refine k_sipush O dX8_freeCells_0 (v := 4095) (by decide) ?_
  refine k_istore_n (lv' := [(1, .int ((4095 : Int32))), (0, .ref (g_ad X.1 105))]) O dX8_freeCells_3 rfl (by decide) rfl ?_
  refine k_iconst O dX8_freeCells_4 (v := 0) (by decide) ?_
  refine k_istore_n (lv' := [(2, .int ((0 : Int32))), (1, .int ((4095 : Int32))), (0, .ref (g_ad X.1 105))]) O dX8_freeCells_5 rfl (by decide) rfl ?_
  exact k_sub [2, 1, 0] rfl (w_X8_freeCells_6 O hN ho LF h)
theorem c_X8_freeCells (l : Launch) (G : Gl) (hN : 121 ≤ g_N G) {w wz : Wd} {rz : Int32} (h : f_X8_freeCells w  = some (rz, wz)) : Ct l yX8_freeCells wsX8_freeCells (0) (0) G [.ref (g_ad G 105)] w (some (.int rz), wz) := by
  refine Ct.start (by decide) rfl rfl rfl (Nat.le_of_ble_eq_true rfl) (fun X hG ho hl O => ?_)
  subst hG
  subst hl
  exact k_sub [0] rfl (w_X8_freeCells_0 O hN ho h)
def b_X8_openWires_0 (w : Wd) (v1 : Int32) : Option (Int32 × Wd) := gd (inb ((((4 : Int32)) * v1) + ((3 : Int32))) 24) (some ((((((1 : Int32)) <<< ((w.1 105 2) &&& 31)) - ((1 : Int32))) &&& ((((1 : Int32)) <<< (v1 &&& 31)) ^^^ ((-1 : Int32)))) &&& ((w.1 106 ((((4 : Int32)) * v1) + ((3 : Int32))).toNatClampNeg) ^^^ ((-1 : Int32))), w))
def f_X8_openWires (w : Wd) (v1 : Int32) : Option (Int32 × Wd) := b_X8_openWires_0 w v1
set_option maxHeartbeats 4000000 in
set_option maxRecDepth 100000 in
theorem w_X8_openWires_0 {X : Cx} {rz : Int32} {wz : Wd} (O : Ok X cX8_openWires RX8 ((some .int)) wsX8_openWires (0) (0) 2) (hN : 121 ≤ g_N X.1) (ho : Ro X (some (.int rz), wz)) {w : Wd} {v1 : Int32} (h : b_X8_openWires_0 w v1 = some (rz, wz)) : Wk X w 0 [(0, .ref (g_ad X.1 105)), (1, .int v1)] [] := by
  unfold b_X8_openWires_0 at h
  refine k_iconst O dX8_openWires_0 (v := 1) (by decide) ?_
  refine k_aload_n O dX8_openWires_1 0 rfl ?_
  refine k_get O (v := .int (w.1 105 2)) (k := 105) (by omega) E_105 rfl 2 (by decide) (fun _ h9 => List.mem_cons_of_mem _ (List.mem_append_right _ h9)) (List.mem_of_getElem? (i := 1) rfl) rfl dX8_openWires_2 ?_
  refine k_ishl O dX8_openWires_5 ?_
  refine k_iconst O dX8_openWires_6 (v := 1) (by decide) ?_
  refine k_isub O dX8_openWires_7 ?_
  refine k_iconst O dX8_openWires_8 (v := 1) (by decide) ?_
  refine k_iload_n O dX8_openWires_9 1 rfl ?_
  refine k_ishl O dX8_openWires_10 ?_
  refine k_iconst O dX8_openWires_11 (v := -1) (by decide) ?_
  refine k_ixor O dX8_openWires_12 ?_
  refine k_iand O dX8_openWires_13 ?_
  refine k_aload_n O dX8_openWires_14 0 rfl ?_
  refine k_get O (v := .ref (g_ad X.1 106)) (k := 105) (by omega) E_105 rfl 0 (by decide) (fun _ h9 => List.mem_cons_of_mem _ (List.mem_append_right _ h9)) (List.mem_of_getElem? (i := 2) rfl) rfl dX8_openWires_15 ?_
  refine k_iconst O dX8_openWires_18 (v := 4) (by decide) ?_
  refine k_iload_n O dX8_openWires_19 1 rfl ?_
  refine k_imul O dX8_openWires_20 ?_
  refine k_iconst O dX8_openWires_21 (v := 3) (by decide) ?_
  refine k_iadd O dX8_openWires_22 ?_
  obtain ⟨g1, h⟩ := gd_some h
  refine k_iald O (k := 106) (by omega) E_106 g1 dX8_openWires_23 ?_
  refine k_iconst O dX8_openWires_24 (v := -1) (by decide) ?_
  refine k_ixor O dX8_openWires_25 ?_
  refine k_iand O dX8_openWires_26 ?_
  exact k_iret O dX8_openWires_27 (rt_int h ho)
theorem c_X8_openWires (l : Launch) (G : Gl) (hN : 121 ≤ g_N G) {w wz : Wd} {v1 : Int32} {rz : Int32} (h : f_X8_openWires w v1 = some (rz, wz)) : Ct l yX8_openWires wsX8_openWires (0) (0) G [.ref (g_ad G 105), .int v1] w (some (.int rz), wz) := by
  refine Ct.start (by decide) rfl rfl rfl (Nat.le_of_ble_eq_true rfl) (fun X hG ho hl O => ?_)
  subst hG
  subst hl
  exact k_sub [0, 1] rfl (w_X8_openWires_0 O hN ho h)
def b_X8_begins_28 (kb4 : Wd → Int32 → Int32 → Option (Int32 × Wd)) (w : Wd) (v2 : Int32) (s0 : Int32) (s1 : Int32) : Option (Int32 × Wd) := nm (s1 ||| s0) (fun x1 => nm (v2 + (1 : Int32)) (fun x2 => kb4 w x1 x2))
def b_X8_begins_4 : Nat → Wd → Int32 → Int32 → Option (Int32 × Wd)
  | 0, _, _, _ => none
  | n + 1, w, v1, v2 => if (w.1 105 2) ≤ v2 then (some (v1, w)) else (bd (f_X8_openWires w v2) (fun r4 w3 => if r4 = 0 then (b_X8_begins_28 (b_X8_begins_4 n) w3 v2 ((0 : Int32)) v1) else (b_X8_begins_28 (b_X8_begins_4 n) w3 v2 (((1 : Int32)) <<< (v2 &&& 31)) v1)))
def b_X8_begins_0 (w : Wd) : Option (Int32 × Wd) := b_X8_begins_4 LF w ((0 : Int32)) ((0 : Int32))
def f_X8_begins (w : Wd) : Option (Int32 × Wd) := b_X8_begins_0 w 
set_option maxHeartbeats 4000000 in
set_option maxRecDepth 100000 in
theorem w_X8_begins_28 {X : Cx} {rz : Int32} {wz : Wd} (O : Ok X cX8_begins RX8 ((some .int)) wsX8_begins (1) (21) 3) (hN : 121 ≤ g_N X.1) {kb4 : Wd → Int32 → Int32 → Option (Int32 × Wd)} (hk4 : ∀ {w : Wd} {v1 : Int32} {v2 : Int32}, kb4 w v1 v2 = some (rz, wz) → Wk X w 4 [(0, .ref (g_ad X.1 105)), (1, .int v1), (2, .int v2)] []) (ho : Ro X (some (.int rz), wz)) {w : Wd} {v2 : Int32} {s0 : Int32} {s1 : Int32} (h : b_X8_begins_28 kb4 w v2 s0 s1 = some (rz, wz)) : Wk X w 28 [(0, .ref (g_ad X.1 105)), (2, .int v2)] [.int s0, .int s1] := by
  unfold b_X8_begins_28 at h
  refine k_ior O dX8_begins_28 ?_
  refine k_topi (fun x1 ex1 => ?_)
  have h := nm_use h x1 ex1
  refine k_istore_n (lv' := [(1, .int x1), (0, .ref (g_ad X.1 105)), (2, .int v2)]) O dX8_begins_29 rfl (by decide) rfl ?_
  obtain ⟨x2, ex2⟩ : ∃ z : Int32, z = v2 + (1 : Int32) := ⟨_, rfl⟩
  have h := nm_use h x2 ex2
  refine k_iinc (lv' := [(2, .int x2), (1, .int x1), (0, .ref (g_ad X.1 105))]) O dX8_begins_30 2 rfl (by rw [ex2]; rfl) (by decide) rfl ?_
  refine k_goto O 4 dX8_begins_33 (by decide) ?_
  exact k_sub [2, 1, 0] rfl (hk4 h)
set_option maxHeartbeats 4000000 in
set_option maxRecDepth 100000 in
theorem w_X8_begins_4 {X : Cx} {rz : Int32} {wz : Wd} (O : Ok X cX8_begins RX8 ((some .int)) wsX8_begins (1) (21) 3) (hN : 121 ≤ g_N X.1) (ho : Ro X (some (.int rz), wz)) (n : Nat) : ∀ {w : Wd} {v1 : Int32} {v2 : Int32}, b_X8_begins_4 n w v1 v2 = some (rz, wz) → Wk X w 4 [(0, .ref (g_ad X.1 105)), (1, .int v1), (2, .int v2)] [] := by
  induction n with
  | zero => intro w v1 v2 h; exact nomatch (show (none : Option (Int32 × Wd)) = some _ from h)
  | succ n ih =>
    intro w v1 v2 h
    rw [b_X8_begins_4] at h
    refine k_iload_n O dX8_begins_4 2 rfl ?_
    refine k_aload_n O dX8_begins_5 0 rfl ?_
    refine k_get O (v := .int (w.1 105 2)) (k := 105) (by omega) E_105 rfl 2 (by decide) (fun _ h9 => List.mem_cons_of_mem _ (List.mem_append_right _ h9)) (List.mem_of_getElem? (i := 1) rfl) rfl dX8_begins_6 ?_
    refine k_icmp_ge O 36 dX8_begins_9 (by decide) (fun c1 => ?_) (fun c1 => ?_)
    · have h := ite_t c1 h
      refine k_iload_n O dX8_begins_36 1 rfl ?_
      exact k_iret O dX8_begins_37 (rt_int h ho)
    · have h := ite_f c1 h
      refine k_iload_n O dX8_begins_12 1 rfl ?_
      refine k_aload_n O dX8_begins_13 0 rfl ?_
      refine k_iload_n O dX8_begins_14 2 rfl ?_
      obtain ⟨r4, w3, hc2, h⟩ := bd_some h
      refine k_callVi O (As := [.int v2]) (rest := [.int v1]) (k := 105) (c_X8_openWires (x_l X) X.1 hN hc2) gX8_begins_X8_openWires rfl hd_X8_openWires (by decide) (by omega) E_105 rfl rfl rfl rfl rfl (Nat.le_of_ble_eq_true rfl) dX8_begins_15 ?_
      refine k_if_eq O 27 dX8_begins_18 (by decide) (fun c5 => ?_) (fun c5 => ?_)
      · have h := ite_t c5 h
        refine k_iconst O dX8_begins_27 (v := 0) (by decide) ?_
        exact k_sub [0, 2] rfl (w_X8_begins_28 O hN (fun {_} {_} {_} h9 => ih h9) ho h)
      · have h := ite_f c5 h
        refine k_iconst O dX8_begins_21 (v := 1) (by decide) ?_
        refine k_iload_n O dX8_begins_22 2 rfl ?_
        refine k_ishl O dX8_begins_23 ?_
        refine k_goto O 28 dX8_begins_24 (by decide) ?_
        exact k_sub [0, 2] rfl (w_X8_begins_28 O hN (fun {_} {_} {_} h9 => ih h9) ho h)
set_option maxHeartbeats 4000000 in
set_option maxRecDepth 100000 in
theorem w_X8_begins_0 {X : Cx} {rz : Int32} {wz : Wd} (O : Ok X cX8_begins RX8 ((some .int)) wsX8_begins (1) (21) 3) (hN : 121 ≤ g_N X.1) (ho : Ro X (some (.int rz), wz)) {w : Wd} (h : b_X8_begins_0 w  = some (rz, wz)) : Wk X w 0 [(0, .ref (g_ad X.1 105))] [] := by
  unfold b_X8_begins_0 at h
  refine k_iconst O dX8_begins_0 (v := 0) (by decide) ?_
  refine k_istore_n (lv' := [(1, .int ((0 : Int32))), (0, .ref (g_ad X.1 105))]) O dX8_begins_1 rfl (by decide) rfl ?_
  refine k_iconst O dX8_begins_2 (v := 0) (by decide) ?_
  refine k_istore_n (lv' := [(2, .int ((0 : Int32))), (1, .int ((0 : Int32))), (0, .ref (g_ad X.1 105))]) O dX8_begins_3 rfl (by decide) rfl ?_
  exact k_sub [2, 1, 0] rfl (w_X8_begins_4 O hN ho LF h)
theorem c_X8_begins (l : Launch) (G : Gl) (hN : 121 ≤ g_N G) {w wz : Wd} {rz : Int32} (h : f_X8_begins w  = some (rz, wz)) : Ct l yX8_begins wsX8_begins (1) (21) G [.ref (g_ad G 105)] w (some (.int rz), wz) := by
  refine Ct.start (by decide) rfl rfl rfl (Nat.le_of_ble_eq_true rfl) (fun X hG ho hl O => ?_)
  subst hG
  subst hl
  exact k_sub [0] rfl (w_X8_begins_0 O hN ho h)
def b_X8_shuttable_13 : Nat → Wd → Int32 → Int32 → Option (Int32 × Wd)
  | 0, _, _, _ => none
  | n + 1, w, v1, v2 => if (w.1 105 3) ≤ v2 then (some (v1, w)) else (gd (inb (((2 : Int32)) * v2) 8) (nm (v1 &&& ((((1 : Int32)) <<< ((w.1 107 (((2 : Int32)) * v2).toNatClampNeg) &&& 31)) ^^^ ((-1 : Int32)))) (fun x3 => nm (v2 + (1 : Int32)) (fun x4 => b_X8_shuttable_13 n w x3 x4))))
def b_X8_shuttable_0 (w : Wd) : Option (Int32 × Wd) := nm (((4095 : Int32)) &&& ((w.1 105 4) ^^^ ((-1 : Int32)))) (fun x1 => b_X8_shuttable_13 LF w x1 ((0 : Int32)))
def f_X8_shuttable (w : Wd) : Option (Int32 × Wd) := b_X8_shuttable_0 w 
set_option maxHeartbeats 4000000 in
set_option maxRecDepth 100000 in
theorem w_X8_shuttable_13 {X : Cx} {rz : Int32} {wz : Wd} (O : Ok X cX8_shuttable RX8 ((some .int)) wsX8_shuttable (0) (0) 3) (hN : 121 ≤ g_N X.1) (ho : Ro X (some (.int rz), wz)) (n : Nat) : ∀ {w : Wd} {v1 : Int32} {v2 : Int32}, b_X8_shuttable_13 n w v1 v2 = some (rz, wz) → Wk X w 13 [(0, .ref (g_ad X.1 105)), (1, .int v1), (2, .int v2)] [] := by
  induction n with
  | zero => intro w v1 v2 h; exact nomatch (show (none : Option (Int32 × Wd)) = some _ from h)
  | succ n ih =>
    intro w v1 v2 h
    rw [b_X8_shuttable_13] at h
    refine k_iload_n O dX8_shuttable_13 2 rfl ?_
    refine k_aload_n O dX8_shuttable_14 0 rfl ?_
    refine k_get O (v := .int (w.1 105 3)) (k := 105) (by omega) E_105 rfl 3 (by decide) (fun _ h9 => List.mem_cons_of_mem _ (List.mem_append_right _ h9)) (List.mem_of_getElem? (i := 2) rfl) rfl dX8_shuttable_15 ?_
    refine k_icmp_ge O 42 dX8_shuttable_18 (by decide) (fun c1 => ?_) (fun c1 => ?_)
    · have h := ite_t c1 h
      refine k_iload_n O dX8_shuttable_42 1 rfl ?_
      exact k_iret O dX8_shuttable_43 (rt_int h ho)
    · have h := ite_f c1 h
      refine k_iload_n O dX8_shuttable_21 1 rfl ?_
      refine k_iconst O dX8_shuttable_22 (v := 1) (by decide) ?_
      refine k_aload_n O dX8_shuttable_23 0 rfl ?_
      refine k_get O (v := .ref (g_ad X.1 107)) (k := 105) (by omega) E_105 rfl 1 (by decide) (fun _ h9 => List.mem_cons_of_mem _ (List.mem_append_right _ h9)) (List.mem_of_getElem? (i := 3) rfl) rfl dX8_shuttable_24 ?_
      refine k_iconst O dX8_shuttable_27 (v := 2) (by decide) ?_
      refine k_iload_n O dX8_shuttable_28 2 rfl ?_
      refine k_imul O dX8_shuttable_29 ?_
      obtain ⟨g2, h⟩ := gd_some h
      refine k_iald O (k := 107) (by omega) E_107 g2 dX8_shuttable_30 ?_
      refine k_ishl O dX8_shuttable_31 ?_
      refine k_iconst O dX8_shuttable_32 (v := -1) (by decide) ?_
      refine k_ixor O dX8_shuttable_33 ?_
      refine k_iand O dX8_shuttable_34 ?_
      refine k_topi (fun x3 ex3 => ?_)
      have h := nm_use h x3 ex3
      refine k_istore_n (lv' := [(1, .int x3), (0, .ref (g_ad X.1 105)), (2, .int v2)]) O dX8_shuttable_35 rfl (by decide) rfl ?_
      obtain ⟨x4, ex4⟩ : ∃ z : Int32, z = v2 + (1 : Int32) := ⟨_, rfl⟩
      have h := nm_use h x4 ex4
      refine k_iinc (lv' := [(2, .int x4), (1, .int x3), (0, .ref (g_ad X.1 105))]) O dX8_shuttable_36 2 rfl (by rw [ex4]; rfl) (by decide) rfl ?_
      refine k_goto O 13 dX8_shuttable_39 (by decide) ?_
      exact k_sub [2, 1, 0] rfl (ih h)
set_option maxHeartbeats 4000000 in
set_option maxRecDepth 100000 in
theorem w_X8_shuttable_0 {X : Cx} {rz : Int32} {wz : Wd} (O : Ok X cX8_shuttable RX8 ((some .int)) wsX8_shuttable (0) (0) 3) (hN : 121 ≤ g_N X.1) (ho : Ro X (some (.int rz), wz)) {w : Wd} (h : b_X8_shuttable_0 w  = some (rz, wz)) : Wk X w 0 [(0, .ref (g_ad X.1 105))] [] := by
  unfold b_X8_shuttable_0 at h
  refine k_sipush O dX8_shuttable_0 (v := 4095) (by decide) ?_
  refine k_aload_n O dX8_shuttable_3 0 rfl ?_
  refine k_get O (v := .int (w.1 105 4)) (k := 105) (by omega) E_105 rfl 4 (by decide) (fun _ h9 => List.mem_cons_of_mem _ (List.mem_append_right _ h9)) (List.mem_of_getElem? (i := 1) rfl) rfl dX8_shuttable_4 ?_
  refine k_iconst O dX8_shuttable_7 (v := -1) (by decide) ?_
  refine k_ixor O dX8_shuttable_8 ?_
  refine k_iand O dX8_shuttable_9 ?_
  refine k_topi (fun x1 ex1 => ?_)
  have h := nm_use h x1 ex1
  refine k_istore_n (lv' := [(1, .int x1), (0, .ref (g_ad X.1 105))]) O dX8_shuttable_10 rfl (by decide) rfl ?_
  refine k_iconst O dX8_shuttable_11 (v := 0) (by decide) ?_
  refine k_istore_n (lv' := [(2, .int ((0 : Int32))), (1, .int x1), (0, .ref (g_ad X.1 105))]) O dX8_shuttable_12 rfl (by decide) rfl ?_
  exact k_sub [2, 1, 0] rfl (w_X8_shuttable_13 O hN ho LF h)
theorem c_X8_shuttable (l : Launch) (G : Gl) (hN : 121 ≤ g_N G) {w wz : Wd} {rz : Int32} (h : f_X8_shuttable w  = some (rz, wz)) : Ct l yX8_shuttable wsX8_shuttable (0) (0) G [.ref (g_ad G 105)] w (some (.int rz), wz) := by
  refine Ct.start (by decide) rfl rfl rfl (Nat.le_of_ble_eq_true rfl) (fun X hG ho hl O => ?_)
  subst hG
  subst hl
  exact k_sub [0] rfl (w_X8_shuttable_0 O hN ho h)
def b_X8_readPart_399 (w : Wd) : Option (Wd) := bv (f_X8_fail w) (fun w2 => some w2)
def b_X8_readPart_392 (w : Wd) (s0 : Int32) (s1 : Int32) : Option (Wd) := nm (up w 105 3 (s1 + s0)) (fun w1 => some w1)
def b_X8_readPart_372 (w : Wd) (s0 : Int32) (s1 : Int32) : Option (Wd) := gd (inb s1 8) (nm (up w 107 s1.toNatClampNeg s0) (fun w2 => if (w2.1 105 18) = ((-9 : Int32)) then (b_X8_readPart_392 w2 ((1 : Int32)) (w2.1 105 3)) else (b_X8_readPart_392 w2 ((0 : Int32)) (w2.1 105 3))))
def b_X8_readPart_342 (w : Wd) (v2 : Int32) (s0 : Int32) (s1 : Int32) : Option (Wd) := nm (up w 105 17 (s1 + s0)) (fun w1 => if v2 = 0 then (bd (f_X8_figure w1 ((3 : Int32))) (fun r5 w4 => b_X8_readPart_372 w4 r5 ((((2 : Int32)) * (w1.1 105 3)) + ((1 : Int32))))) else (b_X8_readPart_372 w1 ((-9 : Int32)) ((((2 : Int32)) * (w1.1 105 3)) + ((1 : Int32)))))
def b_X8_readPart_327 (w : Wd) (s0 : Int32) : Option (Wd) := if s0 = 0 then (b_X8_readPart_342 w s0 ((0 : Int32)) (w.1 105 17)) else (b_X8_readPart_342 w s0 ((1 : Int32)) (w.1 105 17))
def b_X8_readPart_326 (w : Wd) : Option (Wd) := b_X8_readPart_327 w ((0 : Int32))
def b_X8_readPart_229 (w : Wd) (v1 : Int32) : Option (Wd) := if v1 = ((71 : Int32)) then (if ((4 : Int32)) ≤ (w.1 105 3) then (b_X8_readPart_399 w) else (if (w.1 105 4) = ((4095 : Int32)) then (b_X8_readPart_399 w) else (nm (up w 105 17 ((w.1 105 17) + ((1 : Int32)))) (fun w4 => bd (f_X8_cell w4 (((4095 : Int32)) &&& ((w4.1 105 4) ^^^ ((-1 : Int32))))) (fun r7 w6 => gd (inb (((2 : Int32)) * (w4.1 105 3)) 8) (nm (up w6 107 (((2 : Int32)) * (w4.1 105 3)).toNatClampNeg r7) (fun w9 => if (w9.1 105 18) = ((-9 : Int32)) then (if (w9.1 105 16) ≤ (w9.1 105 17) then (b_X8_readPart_326 w9) else (gd (inb (w9.1 105 17) 64) (if (w9.1 114 (w9.1 105 17).toNatClampNeg) = ((45 : Int32)) then (b_X8_readPart_327 w9 ((1 : Int32))) else (b_X8_readPart_326 w9)))) else (b_X8_readPart_326 w9)))))))) else (b_X8_readPart_399 w)
def b_X8_readPart_222 (w : Wd) (s0 : Int32) (s1 : Int32) : Option (Wd) := nm (up w 105 4 (s1 ||| s0)) (fun w1 => some w1)
def b_X8_readPart_169 (w : Wd) (v1 : Int32) : Option (Wd) := if v1 = ((88 : Int32)) then (bd (f_X8_shuttable w) (fun r4 w3 => if r4 = 0 then (b_X8_readPart_229 w3 v1) else (nm (up w3 105 17 ((w3.1 105 17) + ((1 : Int32)))) (fun w6 => bd (f_X8_shuttable w6) (fun r9 w8 => bd (f_X8_cell w8 r9) (fun r12 w11 => if (w11.1 105 18) = ((-9 : Int32)) then (b_X8_readPart_222 w11 (((1 : Int32)) <<< (r12 &&& 31)) (w11.1 105 4)) else (b_X8_readPart_222 w11 ((0 : Int32)) (w11.1 105 4)))))))) else (b_X8_readPart_229 w v1)
def b_X8_readPart_164 (w : Wd) (s0 : Int32) (s1 : Int32) (s2 : Int32) : Option (Wd) := gd (inb s2 24) (nm (up w 106 s2.toNatClampNeg (s1 ||| s0)) (fun w2 => some w2))
def b_X8_readPart_95 (w : Wd) (v1 : Int32) : Option (Wd) := if v1 = ((87 : Int32)) then (bd (f_X8_begins w) (fun r4 w3 => if r4 = 0 then (b_X8_readPart_169 w3 v1) else (nm (up w3 105 17 ((w3.1 105 17) + ((1 : Int32)))) (fun w6 => bd (f_X8_begins w6) (fun r9 w8 => bd (f_X8_figure w8 r9) (fun r12 w11 => bd (f_X8_openWires w11 r12) (fun r15 w14 => bd (f_X8_figure w14 r15) (fun r18 w17 => gd (inb ((((4 : Int32)) * r12) + ((3 : Int32))) 24) (if (w17.1 105 18) = ((-9 : Int32)) then (b_X8_readPart_164 w17 (((1 : Int32)) <<< (r18 &&& 31)) (w17.1 106 ((((4 : Int32)) * r12) + ((3 : Int32))).toNatClampNeg) ((((4 : Int32)) * r12) + ((3 : Int32)))) else (b_X8_readPart_164 w17 ((0 : Int32)) (w17.1 106 ((((4 : Int32)) * r12) + ((3 : Int32))).toNatClampNeg) ((((4 : Int32)) * r12) + ((3 : Int32))))))))))))) else (b_X8_readPart_169 w v1)
def b_X8_readPart_0 (w : Wd) (v1 : Int32) : Option (Wd) := if v1 = ((84 : Int32)) then (if ((6 : Int32)) ≤ (w.1 105 2) then (b_X8_readPart_95 w v1) else (nm (up w 105 17 ((w.1 105 17) + ((1 : Int32)))) (fun w3 => nm (((4 : Int32)) * (w3.1 105 2)) (fun x4 => bd (f_X8_freeCells w3) (fun r7 w6 => bd (f_X8_cell w6 r7) (fun r10 w9 => gd (inb x4 24) (nm (up w9 106 x4.toNatClampNeg r10) (fun w12 => bd (f_X8_figure w12 ((3 : Int32))) (fun r15 w14 => gd (inb (x4 + ((1 : Int32))) 24) (nm (up w14 106 (x4 + ((1 : Int32))).toNatClampNeg r15) (fun w17 => bd (f_X8_figure w17 ((31 : Int32))) (fun r20 w19 => gd (inb (x4 + ((2 : Int32))) 24) (nm (up w19 106 (x4 + ((2 : Int32))).toNatClampNeg r20) (fun w22 => gd (inb (x4 + ((3 : Int32))) 24) (nm (up w22 106 (x4 + ((3 : Int32))).toNatClampNeg ((0 : Int32))) (fun w24 => nm (up w24 105 2 ((w24.1 105 2) + ((1 : Int32)))) (fun w25 => some w25))))))))))))))))) else (b_X8_readPart_95 w v1)
def f_X8_readPart (w : Wd) (v1 : Int32) : Option (Wd) := b_X8_readPart_0 w v1
set_option maxHeartbeats 4000000 in
set_option maxRecDepth 100000 in
theorem w_X8_readPart_399 {X : Cx} {wz : Wd} (O : Ok X cX8_readPart RX8 none wsX8_readPart (3) (69) 4) (hN : 121 ≤ g_N X.1) (ho : Ro X (none, wz)) {w : Wd} (h : b_X8_readPart_399 w  = some wz) : Wk X w 399 [(0, .ref (g_ad X.1 105))] [] := by
  unfold b_X8_readPart_399 at h
  refine k_aload_n O dX8_readPart_399 0 rfl ?_
  obtain ⟨w2, hc1, h⟩ := bv_some h
  refine k_callVv O (As := []) (rest := []) (k := 105) (c_X8_fail (x_l X) X.1 hN hc1) gX8_readPart_X8_fail rfl hd_X8_fail (by decide) (by omega) E_105 rfl rfl rfl rfl rfl (Nat.le_of_ble_eq_true rfl) dX8_readPart_400 ?_
  exact k_vret O dX8_readPart_403 (rt_void h ho)
set_option maxHeartbeats 4000000 in
set_option maxRecDepth 100000 in
theorem w_X8_readPart_392 {X : Cx} {wz : Wd} (O : Ok X cX8_readPart RX8 none wsX8_readPart (3) (69) 4) (hN : 121 ≤ g_N X.1) (ho : Ro X (none, wz)) {w : Wd} {s0 : Int32} {s1 : Int32} (h : b_X8_readPart_392 w s0 s1 = some wz) : Wk X w 392 [] [.int s0, .int s1, .ref (g_ad X.1 105)] := by
  unfold b_X8_readPart_392 at h
  refine k_iadd O dX8_readPart_392 ?_
  refine k_puti O (k := 105) tyX8 tyX8_ok nmX8 (by omega) E_105 rfl 3 (by decide) (fun _ h9 => List.mem_cons_of_mem _ (List.mem_append_right _ h9)) (List.mem_of_getElem? (i := 6) rfl) rfl rfl rfl (Nat.le_of_ble_eq_true rfl) (E_105.trans rfl) dX8_readPart_393 ?_
  refine k_nw (fun w1 ew1 => ?_)
  have h := nm_use h w1 ew1
  refine k_goto O 403 dX8_readPart_396 (by decide) ?_
  exact k_vret O dX8_readPart_403 (rt_void h ho)
set_option maxHeartbeats 4000000 in
set_option maxRecDepth 100000 in
theorem w_X8_readPart_372 {X : Cx} {wz : Wd} (O : Ok X cX8_readPart RX8 none wsX8_readPart (3) (69) 4) (hN : 121 ≤ g_N X.1) (ho : Ro X (none, wz)) {w : Wd} {s0 : Int32} {s1 : Int32} (h : b_X8_readPart_372 w s0 s1 = some wz) : Wk X w 372 [(0, .ref (g_ad X.1 105))] [.int s0, .int s1, .ref (g_ad X.1 107)] := by
  unfold b_X8_readPart_372 at h
  obtain ⟨g1, h⟩ := gd_some h
  refine k_iast O (k := 107) (by omega) E_107 (fun _ => E_107) g1 dX8_readPart_372 ?_
  refine k_nw (fun w2 ew2 => ?_)
  have h := nm_use h w2 ew2
  refine k_aload_n O dX8_readPart_373 0 rfl ?_
  refine k_dup O dX8_readPart_374 rfl ?_
  refine k_get O (v := .int (w2.1 105 3)) (k := 105) (by omega) E_105 rfl 3 (by decide) (fun _ h9 => List.mem_cons_of_mem _ (List.mem_append_right _ h9)) (List.mem_of_getElem? (i := 6) rfl) rfl dX8_readPart_375 ?_
  refine k_aload_n O dX8_readPart_378 0 rfl ?_
  refine k_get O (v := .int (w2.1 105 18)) (k := 105) (by omega) E_105 rfl 18 (by decide) (fun _ h9 => List.mem_cons_of_mem _ (List.mem_append_right _ h9)) (List.mem_of_getElem? (i := 4) rfl) rfl dX8_readPart_379 ?_
  refine k_bipush O dX8_readPart_382 (v := -9) (by decide) ?_
  refine k_icmp_ne O 391 dX8_readPart_384 (by decide) (fun c3 => ?_) (fun c3 => ?_)
  · have h := ite_f c3 h
    refine k_iconst O dX8_readPart_391 (v := 0) (by decide) ?_
    exact k_sub [] rfl (w_X8_readPart_392 O hN ho h)
  · have h := ite_t c3 h
    refine k_iconst O dX8_readPart_387 (v := 1) (by decide) ?_
    refine k_goto O 392 dX8_readPart_388 (by decide) ?_
    exact k_sub [] rfl (w_X8_readPart_392 O hN ho h)
set_option maxHeartbeats 4000000 in
set_option maxRecDepth 100000 in
theorem w_X8_readPart_342 {X : Cx} {wz : Wd} (O : Ok X cX8_readPart RX8 none wsX8_readPart (3) (69) 4) (hN : 121 ≤ g_N X.1) (ho : Ro X (none, wz)) {w : Wd} {v2 : Int32} {s0 : Int32} {s1 : Int32} (h : b_X8_readPart_342 w v2 s0 s1 = some wz) : Wk X w 342 [(0, .ref (g_ad X.1 105)), (2, .int v2)] [.int s0, .int s1, .ref (g_ad X.1 105)] := by
  unfold b_X8_readPart_342 at h
  refine k_iadd O dX8_readPart_342 ?_
  refine k_puti O (k := 105) tyX8 tyX8_ok nmX8 (by omega) E_105 rfl 17 (by decide) (fun _ h9 => List.mem_cons_of_mem _ (List.mem_append_right _ h9)) (List.mem_of_getElem? (i := 2) rfl) rfl rfl rfl (Nat.le_of_ble_eq_true rfl) (E_105.trans rfl) dX8_readPart_343 ?_
  refine k_nw (fun w1 ew1 => ?_)
  have h := nm_use h w1 ew1
  refine k_aload_n O dX8_readPart_346 0 rfl ?_
  refine k_get O (v := .ref (g_ad X.1 107)) (k := 105) (by omega) E_105 rfl 1 (by decide) (fun _ h9 => List.mem_cons_of_mem _ (List.mem_append_right _ h9)) (List.mem_of_getElem? (i := 7) rfl) rfl dX8_readPart_347 ?_
  refine k_iconst O dX8_readPart_350 (v := 2) (by decide) ?_
  refine k_aload_n O dX8_readPart_351 0 rfl ?_
  refine k_get O (v := .int (w1.1 105 3)) (k := 105) (by omega) E_105 rfl 3 (by decide) (fun _ h9 => List.mem_cons_of_mem _ (List.mem_append_right _ h9)) (List.mem_of_getElem? (i := 6) rfl) rfl dX8_readPart_352 ?_
  refine k_imul O dX8_readPart_355 ?_
  refine k_iconst O dX8_readPart_356 (v := 1) (by decide) ?_
  refine k_iadd O dX8_readPart_357 ?_
  refine k_iload_n O dX8_readPart_358 1 rfl ?_
  refine k_if_eq O 367 dX8_readPart_359 (by decide) (fun c2 => ?_) (fun c2 => ?_)
  · have h := ite_t c2 h
    refine k_aload_n O dX8_readPart_367 0 rfl ?_
    refine k_iconst O dX8_readPart_368 (v := 3) (by decide) ?_
    obtain ⟨r5, w4, hc3, h⟩ := bd_some h
    refine k_callVi O (As := [.int ((3 : Int32))]) (rest := [.int ((((2 : Int32)) * (w1.1 105 3)) + ((1 : Int32))), .ref (g_ad X.1 107)]) (k := 105) (c_X8_figure (x_l X) X.1 hN hc3) gX8_readPart_X8_figure rfl hd_X8_figure (by decide) (by omega) E_105 rfl rfl rfl rfl rfl (Nat.le_of_ble_eq_true rfl) dX8_readPart_369 ?_
    exact k_sub [0] rfl (w_X8_readPart_372 O hN ho h)
  · have h := ite_f c2 h
    refine k_bipush O dX8_readPart_362 (v := -9) (by decide) ?_
    refine k_goto O 372 dX8_readPart_364 (by decide) ?_
    exact k_sub [0] rfl (w_X8_readPart_372 O hN ho h)
set_option maxHeartbeats 4000000 in
set_option maxRecDepth 100000 in
theorem w_X8_readPart_327 {X : Cx} {wz : Wd} (O : Ok X cX8_readPart RX8 none wsX8_readPart (3) (69) 4) (hN : 121 ≤ g_N X.1) (ho : Ro X (none, wz)) {w : Wd} {s0 : Int32} (h : b_X8_readPart_327 w s0 = some wz) : Wk X w 327 [(0, .ref (g_ad X.1 105))] [.int s0] := by
  unfold b_X8_readPart_327 at h
  refine k_istore_n (lv' := [(2, .int s0), (0, .ref (g_ad X.1 105))]) O dX8_readPart_327 rfl (by decide) rfl ?_
  refine k_aload_n O dX8_readPart_328 1 rfl ?_
  refine k_dup O dX8_readPart_329 rfl ?_
  refine k_get O (v := .int (w.1 105 17)) (k := 105) (by omega) E_105 rfl 17 (by decide) (fun _ h9 => List.mem_cons_of_mem _ (List.mem_append_right _ h9)) (List.mem_of_getElem? (i := 2) rfl) rfl dX8_readPart_330 ?_
  refine k_iload_n O dX8_readPart_333 0 rfl ?_
  refine k_if_eq O 341 dX8_readPart_334 (by decide) (fun c1 => ?_) (fun c1 => ?_)
  · have h := ite_t c1 h
    refine k_iconst O dX8_readPart_341 (v := 0) (by decide) ?_
    exact k_sub [1, 0] rfl (w_X8_readPart_342 O hN ho h)
  · have h := ite_f c1 h
    refine k_iconst O dX8_readPart_337 (v := 1) (by decide) ?_
    refine k_goto O 342 dX8_readPart_338 (by decide) ?_
    exact k_sub [1, 0] rfl (w_X8_readPart_342 O hN ho h)
set_option maxHeartbeats 4000000 in
set_option maxRecDepth 100000 in
theorem w_X8_readPart_326 {X : Cx} {wz : Wd} (O : Ok X cX8_readPart RX8 none wsX8_readPart (3) (69) 4) (hN : 121 ≤ g_N X.1) (ho : Ro X (none, wz)) {w : Wd} (h : b_X8_readPart_326 w  = some wz) : Wk X w 326 [(0, .ref (g_ad X.1 105))] [] := by
  unfold b_X8_readPart_326 at h
  refine k_iconst O dX8_readPart_326 (v := 0) (by decide) ?_
  exact k_sub [0] rfl (w_X8_readPart_327 O hN ho h)
set_option maxHeartbeats 4000000 in
set_option maxRecDepth 100000 in
theorem w_X8_readPart_229 {X : Cx} {wz : Wd} (O : Ok X cX8_readPart RX8 none wsX8_readPart (3) (69) 4) (hN : 121 ≤ g_N X.1) (ho : Ro X (none, wz)) {w : Wd} {v1 : Int32} (h : b_X8_readPart_229 w v1 = some wz) : Wk X w 229 [(0, .ref (g_ad X.1 105)), (1, .int v1)] [] := by
  unfold b_X8_readPart_229 at h
  refine k_iload_n O dX8_readPart_229 1 rfl ?_
  refine k_bipush O dX8_readPart_230 (v := 71) (by decide) ?_
  refine k_icmp_ne O 399 dX8_readPart_232 (by decide) (fun c1 => ?_) (fun c1 => ?_)
  · have h := ite_f c1 h
    exact k_sub [0] rfl (w_X8_readPart_399 O hN ho h)
  · have h := ite_t c1 h
    refine k_aload_n O dX8_readPart_235 0 rfl ?_
    refine k_get O (v := .int (w.1 105 3)) (k := 105) (by omega) E_105 rfl 3 (by decide) (fun _ h9 => List.mem_cons_of_mem _ (List.mem_append_right _ h9)) (List.mem_of_getElem? (i := 6) rfl) rfl dX8_readPart_236 ?_
    refine k_iconst O dX8_readPart_239 (v := 4) (by decide) ?_
    refine k_icmp_ge O 399 dX8_readPart_240 (by decide) (fun c2 => ?_) (fun c2 => ?_)
    · have h := ite_t c2 h
      exact k_sub [0] rfl (w_X8_readPart_399 O hN ho h)
    · have h := ite_f c2 h
      refine k_aload_n O dX8_readPart_243 0 rfl ?_
      refine k_get O (v := .int (w.1 105 4)) (k := 105) (by omega) E_105 rfl 4 (by decide) (fun _ h9 => List.mem_cons_of_mem _ (List.mem_append_right _ h9)) (List.mem_of_getElem? (i := 5) rfl) rfl dX8_readPart_244 ?_
      refine k_sipush O dX8_readPart_247 (v := 4095) (by decide) ?_
      refine k_icmp_eq O 399 dX8_readPart_250 (by decide) (fun c3 => ?_) (fun c3 => ?_)
      · have h := ite_t c3 h
        exact k_sub [0] rfl (w_X8_readPart_399 O hN ho h)
      · have h := ite_f c3 h
        refine k_aload_n O dX8_readPart_253 0 rfl ?_
        refine k_dup O dX8_readPart_254 rfl ?_
        refine k_get O (v := .int (w.1 105 17)) (k := 105) (by omega) E_105 rfl 17 (by decide) (fun _ h9 => List.mem_cons_of_mem _ (List.mem_append_right _ h9)) (List.mem_of_getElem? (i := 2) rfl) rfl dX8_readPart_255 ?_
        refine k_iconst O dX8_readPart_258 (v := 1) (by decide) ?_
        refine k_iadd O dX8_readPart_259 ?_
        refine k_puti O (k := 105) tyX8 tyX8_ok nmX8 (by omega) E_105 rfl 17 (by decide) (fun _ h9 => List.mem_cons_of_mem _ (List.mem_append_right _ h9)) (List.mem_of_getElem? (i := 2) rfl) rfl rfl rfl (Nat.le_of_ble_eq_true rfl) (E_105.trans rfl) dX8_readPart_260 ?_
        refine k_nw (fun w4 ew4 => ?_)
        have h := nm_use h w4 ew4
        refine k_aload_n O dX8_readPart_263 0 rfl ?_
        refine k_get O (v := .ref (g_ad X.1 107)) (k := 105) (by omega) E_105 rfl 1 (by decide) (fun _ h9 => List.mem_cons_of_mem _ (List.mem_append_right _ h9)) (List.mem_of_getElem? (i := 7) rfl) rfl dX8_readPart_264 ?_
        refine k_iconst O dX8_readPart_267 (v := 2) (by decide) ?_
        refine k_aload_n O dX8_readPart_268 0 rfl ?_
        refine k_get O (v := .int (w4.1 105 3)) (k := 105) (by omega) E_105 rfl 3 (by decide) (fun _ h9 => List.mem_cons_of_mem _ (List.mem_append_right _ h9)) (List.mem_of_getElem? (i := 6) rfl) rfl dX8_readPart_269 ?_
        refine k_imul O dX8_readPart_272 ?_
        refine k_aload_n O dX8_readPart_273 0 rfl ?_
        refine k_sipush O dX8_readPart_274 (v := 4095) (by decide) ?_
        refine k_aload_n O dX8_readPart_277 0 rfl ?_
        refine k_get O (v := .int (w4.1 105 4)) (k := 105) (by omega) E_105 rfl 4 (by decide) (fun _ h9 => List.mem_cons_of_mem _ (List.mem_append_right _ h9)) (List.mem_of_getElem? (i := 5) rfl) rfl dX8_readPart_278 ?_
        refine k_iconst O dX8_readPart_281 (v := -1) (by decide) ?_
        refine k_ixor O dX8_readPart_282 ?_
        refine k_iand O dX8_readPart_283 ?_
        obtain ⟨r7, w6, hc5, h⟩ := bd_some h
        refine k_callVi O (As := [.int (((4095 : Int32)) &&& ((w4.1 105 4) ^^^ ((-1 : Int32))))]) (rest := [.int (((2 : Int32)) * (w4.1 105 3)), .ref (g_ad X.1 107)]) (k := 105) (c_X8_cell (x_l X) X.1 hN hc5) gX8_readPart_X8_cell rfl hd_X8_cell (by decide) (by omega) E_105 rfl rfl rfl rfl rfl (Nat.le_of_ble_eq_true rfl) dX8_readPart_284 ?_
        obtain ⟨g8, h⟩ := gd_some h
        refine k_iast O (k := 107) (by omega) E_107 (fun _ => E_107) g8 dX8_readPart_287 ?_
        refine k_nw (fun w9 ew9 => ?_)
        have h := nm_use h w9 ew9
        refine k_aload_n O dX8_readPart_288 0 rfl ?_
        refine k_get O (v := .int (w9.1 105 18)) (k := 105) (by omega) E_105 rfl 18 (by decide) (fun _ h9 => List.mem_cons_of_mem _ (List.mem_append_right _ h9)) (List.mem_of_getElem? (i := 4) rfl) rfl dX8_readPart_289 ?_
        refine k_bipush O dX8_readPart_292 (v := -9) (by decide) ?_
        refine k_icmp_ne O 326 dX8_readPart_294 (by decide) (fun c10 => ?_) (fun c10 => ?_)
        · have h := ite_f c10 h
          exact k_sub [0] rfl (w_X8_readPart_326 O hN ho h)
        · have h := ite_t c10 h
          refine k_aload_n O dX8_readPart_297 0 rfl ?_
          refine k_get O (v := .int (w9.1 105 17)) (k := 105) (by omega) E_105 rfl 17 (by decide) (fun _ h9 => List.mem_cons_of_mem _ (List.mem_append_right _ h9)) (List.mem_of_getElem? (i := 2) rfl) rfl dX8_readPart_298 ?_
          refine k_aload_n O dX8_readPart_301 0 rfl ?_
          refine k_get O (v := .int (w9.1 105 16)) (k := 105) (by omega) E_105 rfl 16 (by decide) (fun _ h9 => List.mem_cons_of_mem _ (List.mem_append_right _ h9)) (List.mem_of_getElem? (i := 8) rfl) rfl dX8_readPart_302 ?_
          refine k_icmp_ge O 326 dX8_readPart_305 (by decide) (fun c11 => ?_) (fun c11 => ?_)
          · have h := ite_t c11 h
            exact k_sub [0] rfl (w_X8_readPart_326 O hN ho h)
          · have h := ite_f c11 h
            refine k_aload_n O dX8_readPart_308 0 rfl ?_
            refine k_get O (v := .ref (g_ad X.1 114)) (k := 105) (by omega) E_105 rfl 15 (by decide) (fun _ h9 => List.mem_cons_of_mem _ (List.mem_append_right _ h9)) (List.mem_of_getElem? (i := 9) rfl) rfl dX8_readPart_309 ?_
            refine k_aload_n O dX8_readPart_312 0 rfl ?_
            refine k_get O (v := .int (w9.1 105 17)) (k := 105) (by omega) E_105 rfl 17 (by decide) (fun _ h9 => List.mem_cons_of_mem _ (List.mem_append_right _ h9)) (List.mem_of_getElem? (i := 2) rfl) rfl dX8_readPart_313 ?_
            obtain ⟨g12, h⟩ := gd_some h
            refine k_iald O (k := 114) (by omega) E_114 g12 dX8_readPart_316 ?_
            refine k_bipush O dX8_readPart_317 (v := 45) (by decide) ?_
            refine k_icmp_ne O 326 dX8_readPart_319 (by decide) (fun c13 => ?_) (fun c13 => ?_)
            · have h := ite_f c13 h
              exact k_sub [0] rfl (w_X8_readPart_326 O hN ho h)
            · have h := ite_t c13 h
              refine k_iconst O dX8_readPart_322 (v := 1) (by decide) ?_
              refine k_goto O 327 dX8_readPart_323 (by decide) ?_
              exact k_sub [0] rfl (w_X8_readPart_327 O hN ho h)
set_option maxHeartbeats 4000000 in
set_option maxRecDepth 100000 in
theorem w_X8_readPart_222 {X : Cx} {wz : Wd} (O : Ok X cX8_readPart RX8 none wsX8_readPart (3) (69) 4) (hN : 121 ≤ g_N X.1) (ho : Ro X (none, wz)) {w : Wd} {s0 : Int32} {s1 : Int32} (h : b_X8_readPart_222 w s0 s1 = some wz) : Wk X w 222 [] [.int s0, .int s1, .ref (g_ad X.1 105)] := by
  unfold b_X8_readPart_222 at h
  refine k_ior O dX8_readPart_222 ?_
  refine k_puti O (k := 105) tyX8 tyX8_ok nmX8 (by omega) E_105 rfl 4 (by decide) (fun _ h9 => List.mem_cons_of_mem _ (List.mem_append_right _ h9)) (List.mem_of_getElem? (i := 5) rfl) rfl rfl rfl (Nat.le_of_ble_eq_true rfl) (E_105.trans rfl) dX8_readPart_223 ?_
  refine k_nw (fun w1 ew1 => ?_)
  have h := nm_use h w1 ew1
  refine k_goto O 403 dX8_readPart_226 (by decide) ?_
  exact k_vret O dX8_readPart_403 (rt_void h ho)
set_option maxHeartbeats 4000000 in
set_option maxRecDepth 100000 in
theorem w_X8_readPart_169 {X : Cx} {wz : Wd} (O : Ok X cX8_readPart RX8 none wsX8_readPart (3) (69) 4) (hN : 121 ≤ g_N X.1) (ho : Ro X (none, wz)) {w : Wd} {v1 : Int32} (h : b_X8_readPart_169 w v1 = some wz) : Wk X w 169 [(0, .ref (g_ad X.1 105)), (1, .int v1)] [] := by
  unfold b_X8_readPart_169 at h
  refine k_iload_n O dX8_readPart_169 1 rfl ?_
  refine k_bipush O dX8_readPart_170 (v := 88) (by decide) ?_
  refine k_icmp_ne O 229 dX8_readPart_172 (by decide) (fun c1 => ?_) (fun c1 => ?_)
  · have h := ite_f c1 h
    exact k_sub [0, 1] rfl (w_X8_readPart_229 O hN ho h)
  · have h := ite_t c1 h
    refine k_aload_n O dX8_readPart_175 0 rfl ?_
    obtain ⟨r4, w3, hc2, h⟩ := bd_some h
    refine k_callVi O (As := []) (rest := []) (k := 105) (c_X8_shuttable (x_l X) X.1 hN hc2) gX8_readPart_X8_shuttable rfl hd_X8_shuttable (by decide) (by omega) E_105 rfl rfl rfl rfl rfl (Nat.le_of_ble_eq_true rfl) dX8_readPart_176 ?_
    refine k_if_eq O 229 dX8_readPart_179 (by decide) (fun c5 => ?_) (fun c5 => ?_)
    · have h := ite_t c5 h
      exact k_sub [0, 1] rfl (w_X8_readPart_229 O hN ho h)
    · have h := ite_f c5 h
      refine k_aload_n O dX8_readPart_182 0 rfl ?_
      refine k_dup O dX8_readPart_183 rfl ?_
      refine k_get O (v := .int (w3.1 105 17)) (k := 105) (by omega) E_105 rfl 17 (by decide) (fun _ h9 => List.mem_cons_of_mem _ (List.mem_append_right _ h9)) (List.mem_of_getElem? (i := 2) rfl) rfl dX8_readPart_184 ?_
      refine k_iconst O dX8_readPart_187 (v := 1) (by decide) ?_
      refine k_iadd O dX8_readPart_188 ?_
      refine k_puti O (k := 105) tyX8 tyX8_ok nmX8 (by omega) E_105 rfl 17 (by decide) (fun _ h9 => List.mem_cons_of_mem _ (List.mem_append_right _ h9)) (List.mem_of_getElem? (i := 2) rfl) rfl rfl rfl (Nat.le_of_ble_eq_true rfl) (E_105.trans rfl) dX8_readPart_189 ?_
      refine k_nw (fun w6 ew6 => ?_)
      have h := nm_use h w6 ew6
      refine k_aload_n O dX8_readPart_192 0 rfl ?_
      refine k_aload_n O dX8_readPart_193 0 rfl ?_
      obtain ⟨r9, w8, hc7, h⟩ := bd_some h
      refine k_callVi O (As := []) (rest := [.ref (g_ad X.1 105)]) (k := 105) (c_X8_shuttable (x_l X) X.1 hN hc7) gX8_readPart_X8_shuttable rfl hd_X8_shuttable (by decide) (by omega) E_105 rfl rfl rfl rfl rfl (Nat.le_of_ble_eq_true rfl) dX8_readPart_194 ?_
      obtain ⟨r12, w11, hc10, h⟩ := bd_some h
      refine k_callVi O (As := [.int r9]) (rest := []) (k := 105) (c_X8_cell (x_l X) X.1 hN hc10) gX8_readPart_X8_cell rfl hd_X8_cell (by decide) (by omega) E_105 rfl rfl rfl rfl rfl (Nat.le_of_ble_eq_true rfl) dX8_readPart_197 ?_
      refine k_istore_n (lv' := [(2, .int r12), (0, .ref (g_ad X.1 105)), (1, .int v1)]) O dX8_readPart_200 rfl (by decide) rfl ?_
      refine k_aload_n O dX8_readPart_201 1 rfl ?_
      refine k_dup O dX8_readPart_202 rfl ?_
      refine k_get O (v := .int (w11.1 105 4)) (k := 105) (by omega) E_105 rfl 4 (by decide) (fun _ h9 => List.mem_cons_of_mem _ (List.mem_append_right _ h9)) (List.mem_of_getElem? (i := 5) rfl) rfl dX8_readPart_203 ?_
      refine k_aload_n O dX8_readPart_206 1 rfl ?_
      refine k_get O (v := .int (w11.1 105 18)) (k := 105) (by omega) E_105 rfl 18 (by decide) (fun _ h9 => List.mem_cons_of_mem _ (List.mem_append_right _ h9)) (List.mem_of_getElem? (i := 4) rfl) rfl dX8_readPart_207 ?_
      refine k_bipush O dX8_readPart_210 (v := -9) (by decide) ?_
      refine k_icmp_ne O 221 dX8_readPart_212 (by decide) (fun c13 => ?_) (fun c13 => ?_)
      · have h := ite_f c13 h
        refine k_iconst O dX8_readPart_221 (v := 0) (by decide) ?_
        exact k_sub [] rfl (w_X8_readPart_222 O hN ho h)
      · have h := ite_t c13 h
        refine k_iconst O dX8_readPart_215 (v := 1) (by decide) ?_
        refine k_iload_n O dX8_readPart_216 0 rfl ?_
        refine k_ishl O dX8_readPart_217 ?_
        refine k_goto O 222 dX8_readPart_218 (by decide) ?_
        exact k_sub [] rfl (w_X8_readPart_222 O hN ho h)
set_option maxHeartbeats 4000000 in
set_option maxRecDepth 100000 in
theorem w_X8_readPart_164 {X : Cx} {wz : Wd} (O : Ok X cX8_readPart RX8 none wsX8_readPart (3) (69) 4) (hN : 121 ≤ g_N X.1) (ho : Ro X (none, wz)) {w : Wd} {s0 : Int32} {s1 : Int32} {s2 : Int32} (h : b_X8_readPart_164 w s0 s1 s2 = some wz) : Wk X w 164 [] [.int s0, .int s1, .int s2, .ref (g_ad X.1 106)] := by
  unfold b_X8_readPart_164 at h
  refine k_ior O dX8_readPart_164 ?_
  obtain ⟨g1, h⟩ := gd_some h
  refine k_iast O (k := 106) (by omega) E_106 (fun _ => E_106) g1 dX8_readPart_165 ?_
  refine k_nw (fun w2 ew2 => ?_)
  have h := nm_use h w2 ew2
  refine k_goto O 403 dX8_readPart_166 (by decide) ?_
  exact k_vret O dX8_readPart_403 (rt_void h ho)
set_option maxHeartbeats 4000000 in
set_option maxRecDepth 100000 in
theorem w_X8_readPart_95 {X : Cx} {wz : Wd} (O : Ok X cX8_readPart RX8 none wsX8_readPart (3) (69) 4) (hN : 121 ≤ g_N X.1) (ho : Ro X (none, wz)) {w : Wd} {v1 : Int32} (h : b_X8_readPart_95 w v1 = some wz) : Wk X w 95 [(0, .ref (g_ad X.1 105)), (1, .int v1)] [] := by
  unfold b_X8_readPart_95 at h
  refine k_iload_n O dX8_readPart_95 1 rfl ?_
  refine k_bipush O dX8_readPart_96 (v := 87) (by decide) ?_
  refine k_icmp_ne O 169 dX8_readPart_98 (by decide) (fun c1 => ?_) (fun c1 => ?_)
  · have h := ite_f c1 h
    exact k_sub [0, 1] rfl (w_X8_readPart_169 O hN ho h)
  · have h := ite_t c1 h
    refine k_aload_n O dX8_readPart_101 0 rfl ?_
    obtain ⟨r4, w3, hc2, h⟩ := bd_some h
    refine k_callVi O (As := []) (rest := []) (k := 105) (c_X8_begins (x_l X) X.1 hN hc2) gX8_readPart_X8_begins rfl hd_X8_begins (by decide) (by omega) E_105 rfl rfl rfl rfl rfl (Nat.le_of_ble_eq_true rfl) dX8_readPart_102 ?_
    refine k_if_eq O 169 dX8_readPart_105 (by decide) (fun c5 => ?_) (fun c5 => ?_)
    · have h := ite_t c5 h
      exact k_sub [0, 1] rfl (w_X8_readPart_169 O hN ho h)
    · have h := ite_f c5 h
      refine k_aload_n O dX8_readPart_108 0 rfl ?_
      refine k_dup O dX8_readPart_109 rfl ?_
      refine k_get O (v := .int (w3.1 105 17)) (k := 105) (by omega) E_105 rfl 17 (by decide) (fun _ h9 => List.mem_cons_of_mem _ (List.mem_append_right _ h9)) (List.mem_of_getElem? (i := 2) rfl) rfl dX8_readPart_110 ?_
      refine k_iconst O dX8_readPart_113 (v := 1) (by decide) ?_
      refine k_iadd O dX8_readPart_114 ?_
      refine k_puti O (k := 105) tyX8 tyX8_ok nmX8 (by omega) E_105 rfl 17 (by decide) (fun _ h9 => List.mem_cons_of_mem _ (List.mem_append_right _ h9)) (List.mem_of_getElem? (i := 2) rfl) rfl rfl rfl (Nat.le_of_ble_eq_true rfl) (E_105.trans rfl) dX8_readPart_115 ?_
      refine k_nw (fun w6 ew6 => ?_)
      have h := nm_use h w6 ew6
      refine k_aload_n O dX8_readPart_118 0 rfl ?_
      refine k_aload_n O dX8_readPart_119 0 rfl ?_
      obtain ⟨r9, w8, hc7, h⟩ := bd_some h
      refine k_callVi O (As := []) (rest := [.ref (g_ad X.1 105)]) (k := 105) (c_X8_begins (x_l X) X.1 hN hc7) gX8_readPart_X8_begins rfl hd_X8_begins (by decide) (by omega) E_105 rfl rfl rfl rfl rfl (Nat.le_of_ble_eq_true rfl) dX8_readPart_120 ?_
      obtain ⟨r12, w11, hc10, h⟩ := bd_some h
      refine k_callVi O (As := [.int r9]) (rest := []) (k := 105) (c_X8_figure (x_l X) X.1 hN hc10) gX8_readPart_X8_figure rfl hd_X8_figure (by decide) (by omega) E_105 rfl rfl rfl rfl rfl (Nat.le_of_ble_eq_true rfl) dX8_readPart_123 ?_
      refine k_istore_n (lv' := [(2, .int r12), (0, .ref (g_ad X.1 105)), (1, .int v1)]) O dX8_readPart_126 rfl (by decide) rfl ?_
      refine k_aload_n O dX8_readPart_127 1 rfl ?_
      refine k_aload_n O dX8_readPart_128 1 rfl ?_
      refine k_iload_n O dX8_readPart_129 0 rfl ?_
      obtain ⟨r15, w14, hc13, h⟩ := bd_some h
      refine k_callVi O (As := [.int r12]) (rest := [.ref (g_ad X.1 105)]) (k := 105) (c_X8_openWires (x_l X) X.1 hN hc13) gX8_readPart_X8_openWires rfl hd_X8_openWires (by decide) (by omega) E_105 rfl rfl rfl rfl rfl (Nat.le_of_ble_eq_true rfl) dX8_readPart_130 ?_
      obtain ⟨r18, w17, hc16, h⟩ := bd_some h
      refine k_callVi O (As := [.int r15]) (rest := []) (k := 105) (c_X8_figure (x_l X) X.1 hN hc16) gX8_readPart_X8_figure rfl hd_X8_figure (by decide) (by omega) E_105 rfl rfl rfl rfl rfl (Nat.le_of_ble_eq_true rfl) dX8_readPart_133 ?_
      refine k_istore_n (lv' := [(3, .int r18), (2, .int r12), (0, .ref (g_ad X.1 105)), (1, .int v1)]) O dX8_readPart_136 rfl (by decide) rfl ?_
      refine k_aload_n O dX8_readPart_137 2 rfl ?_
      refine k_get O (v := .ref (g_ad X.1 106)) (k := 105) (by omega) E_105 rfl 0 (by decide) (fun _ h9 => List.mem_cons_of_mem _ (List.mem_append_right _ h9)) (List.mem_of_getElem? (i := 3) rfl) rfl dX8_readPart_138 ?_
      refine k_iconst O dX8_readPart_141 (v := 4) (by decide) ?_
      refine k_iload_n O dX8_readPart_142 1 rfl ?_
      refine k_imul O dX8_readPart_143 ?_
      refine k_iconst O dX8_readPart_144 (v := 3) (by decide) ?_
      refine k_iadd O dX8_readPart_145 ?_
      refine k_dup2 O dX8_readPart_146 rfl rfl ?_
      obtain ⟨g19, h⟩ := gd_some h
      refine k_iald O (k := 106) (by omega) E_106 g19 dX8_readPart_147 ?_
      refine k_aload_n O dX8_readPart_148 2 rfl ?_
      refine k_get O (v := .int (w17.1 105 18)) (k := 105) (by omega) E_105 rfl 18 (by decide) (fun _ h9 => List.mem_cons_of_mem _ (List.mem_append_right _ h9)) (List.mem_of_getElem? (i := 4) rfl) rfl dX8_readPart_149 ?_
      refine k_bipush O dX8_readPart_152 (v := -9) (by decide) ?_
      refine k_icmp_ne O 163 dX8_readPart_154 (by decide) (fun c20 => ?_) (fun c20 => ?_)
      · have h := ite_f c20 h
        refine k_iconst O dX8_readPart_163 (v := 0) (by decide) ?_
        exact k_sub [] rfl (w_X8_readPart_164 O hN ho h)
      · have h := ite_t c20 h
        refine k_iconst O dX8_readPart_157 (v := 1) (by decide) ?_
        refine k_iload_n O dX8_readPart_158 0 rfl ?_
        refine k_ishl O dX8_readPart_159 ?_
        refine k_goto O 164 dX8_readPart_160 (by decide) ?_
        exact k_sub [] rfl (w_X8_readPart_164 O hN ho h)
set_option maxHeartbeats 4000000 in
set_option maxRecDepth 100000 in
theorem w_X8_readPart_0 {X : Cx} {wz : Wd} (O : Ok X cX8_readPart RX8 none wsX8_readPart (3) (69) 4) (hN : 121 ≤ g_N X.1) (ho : Ro X (none, wz)) {w : Wd} {v1 : Int32} (h : b_X8_readPart_0 w v1 = some wz) : Wk X w 0 [(0, .ref (g_ad X.1 105)), (1, .int v1)] [] := by
  unfold b_X8_readPart_0 at h
  refine k_iload_n O dX8_readPart_0 1 rfl ?_
  refine k_bipush O dX8_readPart_1 (v := 84) (by decide) ?_
  refine k_icmp_ne O 95 dX8_readPart_3 (by decide) (fun c1 => ?_) (fun c1 => ?_)
  · have h := ite_f c1 h
    exact k_sub [0, 1] rfl (w_X8_readPart_95 O hN ho h)
  · have h := ite_t c1 h
    refine k_aload_n O dX8_readPart_6 0 rfl ?_
    refine k_get O (v := .int (w.1 105 2)) (k := 105) (by omega) E_105 rfl 2 (by decide) (fun _ h9 => List.mem_cons_of_mem _ (List.mem_append_right _ h9)) (List.mem_of_getElem? (i := 1) rfl) rfl dX8_readPart_7 ?_
    refine k_bipush O dX8_readPart_10 (v := 6) (by decide) ?_
    refine k_icmp_ge O 95 dX8_readPart_12 (by decide) (fun c2 => ?_) (fun c2 => ?_)
    · have h := ite_t c2 h
      exact k_sub [0, 1] rfl (w_X8_readPart_95 O hN ho h)
    · have h := ite_f c2 h
      refine k_aload_n O dX8_readPart_15 0 rfl ?_
      refine k_dup O dX8_readPart_16 rfl ?_
      refine k_get O (v := .int (w.1 105 17)) (k := 105) (by omega) E_105 rfl 17 (by decide) (fun _ h9 => List.mem_cons_of_mem _ (List.mem_append_right _ h9)) (List.mem_of_getElem? (i := 2) rfl) rfl dX8_readPart_17 ?_
      refine k_iconst O dX8_readPart_20 (v := 1) (by decide) ?_
      refine k_iadd O dX8_readPart_21 ?_
      refine k_puti O (k := 105) tyX8 tyX8_ok nmX8 (by omega) E_105 rfl 17 (by decide) (fun _ h9 => List.mem_cons_of_mem _ (List.mem_append_right _ h9)) (List.mem_of_getElem? (i := 2) rfl) rfl rfl rfl (Nat.le_of_ble_eq_true rfl) (E_105.trans rfl) dX8_readPart_22 ?_
      refine k_nw (fun w3 ew3 => ?_)
      have h := nm_use h w3 ew3
      refine k_iconst O dX8_readPart_25 (v := 4) (by decide) ?_
      refine k_aload_n O dX8_readPart_26 0 rfl ?_
      refine k_get O (v := .int (w3.1 105 2)) (k := 105) (by omega) E_105 rfl 2 (by decide) (fun _ h9 => List.mem_cons_of_mem _ (List.mem_append_right _ h9)) (List.mem_of_getElem? (i := 1) rfl) rfl dX8_readPart_27 ?_
      refine k_imul O dX8_readPart_30 ?_
      refine k_topi (fun x4 ex4 => ?_)
      have h := nm_use h x4 ex4
      refine k_istore_n (lv' := [(2, .int x4), (0, .ref (g_ad X.1 105)), (1, .int v1)]) O dX8_readPart_31 rfl (by decide) rfl ?_
      refine k_aload_n O dX8_readPart_32 1 rfl ?_
      refine k_get O (v := .ref (g_ad X.1 106)) (k := 105) (by omega) E_105 rfl 0 (by decide) (fun _ h9 => List.mem_cons_of_mem _ (List.mem_append_right _ h9)) (List.mem_of_getElem? (i := 3) rfl) rfl dX8_readPart_33 ?_
      refine k_iload_n O dX8_readPart_36 0 rfl ?_
      refine k_aload_n O dX8_readPart_37 1 rfl ?_
      refine k_aload_n O dX8_readPart_38 1 rfl ?_
      obtain ⟨r7, w6, hc5, h⟩ := bd_some h
      refine k_callVi O (As := []) (rest := [.ref (g_ad X.1 105), .int x4, .ref (g_ad X.1 106)]) (k := 105) (c_X8_freeCells (x_l X) X.1 hN hc5) gX8_readPart_X8_freeCells rfl hd_X8_freeCells (by decide) (by omega) E_105 rfl rfl rfl rfl rfl (Nat.le_of_ble_eq_true rfl) dX8_readPart_39 ?_
      obtain ⟨r10, w9, hc8, h⟩ := bd_some h
      refine k_callVi O (As := [.int r7]) (rest := [.int x4, .ref (g_ad X.1 106)]) (k := 105) (c_X8_cell (x_l X) X.1 hN hc8) gX8_readPart_X8_cell rfl hd_X8_cell (by decide) (by omega) E_105 rfl rfl rfl rfl rfl (Nat.le_of_ble_eq_true rfl) dX8_readPart_42 ?_
      obtain ⟨g11, h⟩ := gd_some h
      refine k_iast O (k := 106) (by omega) E_106 (fun _ => E_106) g11 dX8_readPart_45 ?_
      refine k_nw (fun w12 ew12 => ?_)
      have h := nm_use h w12 ew12
      refine k_aload_n O dX8_readPart_46 1 rfl ?_
      refine k_get O (v := .ref (g_ad X.1 106)) (k := 105) (by omega) E_105 rfl 0 (by decide) (fun _ h9 => List.mem_cons_of_mem _ (List.mem_append_right _ h9)) (List.mem_of_getElem? (i := 3) rfl) rfl dX8_readPart_47 ?_
      refine k_iload_n O dX8_readPart_50 0 rfl ?_
      refine k_iconst O dX8_readPart_51 (v := 1) (by decide) ?_
      refine k_iadd O dX8_readPart_52 ?_
      refine k_aload_n O dX8_readPart_53 1 rfl ?_
      refine k_iconst O dX8_readPart_54 (v := 3) (by decide) ?_
      obtain ⟨r15, w14, hc13, h⟩ := bd_some h
      refine k_callVi O (As := [.int ((3 : Int32))]) (rest := [.int (x4 + ((1 : Int32))), .ref (g_ad X.1 106)]) (k := 105) (c_X8_figure (x_l X) X.1 hN hc13) gX8_readPart_X8_figure rfl hd_X8_figure (by decide) (by omega) E_105 rfl rfl rfl rfl rfl (Nat.le_of_ble_eq_true rfl) dX8_readPart_55 ?_
      obtain ⟨g16, h⟩ := gd_some h
      refine k_iast O (k := 106) (by omega) E_106 (fun _ => E_106) g16 dX8_readPart_58 ?_
      refine k_nw (fun w17 ew17 => ?_)
      have h := nm_use h w17 ew17
      refine k_aload_n O dX8_readPart_59 1 rfl ?_
      refine k_get O (v := .ref (g_ad X.1 106)) (k := 105) (by omega) E_105 rfl 0 (by decide) (fun _ h9 => List.mem_cons_of_mem _ (List.mem_append_right _ h9)) (List.mem_of_getElem? (i := 3) rfl) rfl dX8_readPart_60 ?_
      refine k_iload_n O dX8_readPart_63 0 rfl ?_
      refine k_iconst O dX8_readPart_64 (v := 2) (by decide) ?_
      refine k_iadd O dX8_readPart_65 ?_
      refine k_aload_n O dX8_readPart_66 1 rfl ?_
      refine k_bipush O dX8_readPart_67 (v := 31) (by decide) ?_
      obtain ⟨r20, w19, hc18, h⟩ := bd_some h
      refine k_callVi O (As := [.int ((31 : Int32))]) (rest := [.int (x4 + ((2 : Int32))), .ref (g_ad X.1 106)]) (k := 105) (c_X8_figure (x_l X) X.1 hN hc18) gX8_readPart_X8_figure rfl hd_X8_figure (by decide) (by omega) E_105 rfl rfl rfl rfl rfl (Nat.le_of_ble_eq_true rfl) dX8_readPart_69 ?_
      obtain ⟨g21, h⟩ := gd_some h
      refine k_iast O (k := 106) (by omega) E_106 (fun _ => E_106) g21 dX8_readPart_72 ?_
      refine k_nw (fun w22 ew22 => ?_)
      have h := nm_use h w22 ew22
      refine k_aload_n O dX8_readPart_73 1 rfl ?_
      refine k_get O (v := .ref (g_ad X.1 106)) (k := 105) (by omega) E_105 rfl 0 (by decide) (fun _ h9 => List.mem_cons_of_mem _ (List.mem_append_right _ h9)) (List.mem_of_getElem? (i := 3) rfl) rfl dX8_readPart_74 ?_
      refine k_iload_n O dX8_readPart_77 0 rfl ?_
      refine k_iconst O dX8_readPart_78 (v := 3) (by decide) ?_
      refine k_iadd O dX8_readPart_79 ?_
      refine k_iconst O dX8_readPart_80 (v := 0) (by decide) ?_
      obtain ⟨g23, h⟩ := gd_some h
      refine k_iast O (k := 106) (by omega) E_106 (fun _ => E_106) g23 dX8_readPart_81 ?_
      refine k_nw (fun w24 ew24 => ?_)
      have h := nm_use h w24 ew24
      refine k_aload_n O dX8_readPart_82 1 rfl ?_
      refine k_dup O dX8_readPart_83 rfl ?_
      refine k_get O (v := .int (w24.1 105 2)) (k := 105) (by omega) E_105 rfl 2 (by decide) (fun _ h9 => List.mem_cons_of_mem _ (List.mem_append_right _ h9)) (List.mem_of_getElem? (i := 1) rfl) rfl dX8_readPart_84 ?_
      refine k_iconst O dX8_readPart_87 (v := 1) (by decide) ?_
      refine k_iadd O dX8_readPart_88 ?_
      refine k_puti O (k := 105) tyX8 tyX8_ok nmX8 (by omega) E_105 rfl 2 (by decide) (fun _ h9 => List.mem_cons_of_mem _ (List.mem_append_right _ h9)) (List.mem_of_getElem? (i := 1) rfl) rfl rfl rfl (Nat.le_of_ble_eq_true rfl) (E_105.trans rfl) dX8_readPart_89 ?_
      refine k_nw (fun w25 ew25 => ?_)
      have h := nm_use h w25 ew25
      refine k_goto O 403 dX8_readPart_92 (by decide) ?_
      exact k_vret O dX8_readPart_403 (rt_void h ho)
theorem c_X8_readPart (l : Launch) (G : Gl) (hN : 121 ≤ g_N G) {w wz : Wd} {v1 : Int32} (h : f_X8_readPart w v1 = some wz) : Ct l yX8_readPart wsX8_readPart (3) (69) G [.ref (g_ad G 105), .int v1] w (none, wz) := by
  refine Ct.start (by decide) rfl rfl rfl (Nat.le_of_ble_eq_true rfl) (fun X hG ho hl O => ?_)
  subst hG
  subst hl
  exact k_sub [0, 1] rfl (w_X8_readPart_0 O hN ho h)
def b_X8_readText_51 : Nat → Wd → Option (Int32 × Wd)
  | 0, _ => none
  | n + 1, w => if (w.1 105 18) = ((-9 : Int32)) then (if (w.1 105 16) ≤ (w.1 105 17) then (some (w.1 105 18, w)) else (gd (inb (w.1 105 17) 64) (bv (f_X8_readPart w (w.1 114 (w.1 105 17).toNatClampNeg)) (fun w5 => b_X8_readText_51 n w5)))) else (some (w.1 105 18, w))
def b_X8_readText_0 (w : Wd) : Option (Int32 × Wd) := nm (up w 105 17 ((0 : Int32))) (fun w1 => nm (up w1 105 18 ((-9 : Int32))) (fun w2 => nm (up w2 105 2 ((0 : Int32))) (fun w3 => nm (up w3 105 3 ((0 : Int32))) (fun w4 => nm (up w4 105 4 ((0 : Int32))) (fun w5 => if (w5.1 105 16) = 0 then (some ((0 : Int32), w5)) else (if (w5.1 114 ((0 : Int32)).toNatClampNeg) = ((70 : Int32)) then (nm (up w5 105 17 ((1 : Int32))) (fun w8 => b_X8_readText_51 LF w8)) else (some ((0 : Int32), w5))))))))
def f_X8_readText (w : Wd) : Option (Int32 × Wd) := b_X8_readText_0 w 
set_option maxHeartbeats 4000000 in
set_option maxRecDepth 100000 in
theorem w_X8_readText_51 {X : Cx} {rz : Int32} {wz : Wd} (O : Ok X cX8_readText RX8 ((some .int)) wsX8_readText (4) (92) 1) (hN : 121 ≤ g_N X.1) (ho : Ro X (some (.int rz), wz)) (n : Nat) : ∀ {w : Wd}, b_X8_readText_51 n w  = some (rz, wz) → Wk X w 51 [(0, .ref (g_ad X.1 105))] [] := by
  induction n with
  | zero => intro w  h; exact nomatch (show (none : Option (Int32 × Wd)) = some _ from h)
  | succ n ih =>
    intro w  h
    rw [b_X8_readText_51] at h
    refine k_aload_n O dX8_readText_51 0 rfl ?_
    refine k_get O (v := .int (w.1 105 18)) (k := 105) (by omega) E_105 rfl 18 (by decide) (fun _ h9 => List.mem_cons_of_mem _ (List.mem_append_right _ h9)) (List.mem_of_getElem? (i := 2) rfl) rfl dX8_readText_52 ?_
    refine k_bipush O dX8_readText_55 (v := -9) (by decide) ?_
    refine k_icmp_ne O 87 dX8_readText_57 (by decide) (fun c1 => ?_) (fun c1 => ?_)
    · have h := ite_f c1 h
      refine k_aload_n O dX8_readText_87 0 rfl ?_
      refine k_get O (v := .int (w.1 105 18)) (k := 105) (by omega) E_105 rfl 18 (by decide) (fun _ h9 => List.mem_cons_of_mem _ (List.mem_append_right _ h9)) (List.mem_of_getElem? (i := 2) rfl) rfl dX8_readText_88 ?_
      exact k_iret O dX8_readText_91 (rt_int h ho)
    · have h := ite_t c1 h
      refine k_aload_n O dX8_readText_60 0 rfl ?_
      refine k_get O (v := .int (w.1 105 17)) (k := 105) (by omega) E_105 rfl 17 (by decide) (fun _ h9 => List.mem_cons_of_mem _ (List.mem_append_right _ h9)) (List.mem_of_getElem? (i := 1) rfl) rfl dX8_readText_61 ?_
      refine k_aload_n O dX8_readText_64 0 rfl ?_
      refine k_get O (v := .int (w.1 105 16)) (k := 105) (by omega) E_105 rfl 16 (by decide) (fun _ h9 => List.mem_cons_of_mem _ (List.mem_append_right _ h9)) (List.mem_of_getElem? (i := 6) rfl) rfl dX8_readText_65 ?_
      refine k_icmp_ge O 87 dX8_readText_68 (by decide) (fun c2 => ?_) (fun c2 => ?_)
      · have h := ite_t c2 h
        refine k_aload_n O dX8_readText_87 0 rfl ?_
        refine k_get O (v := .int (w.1 105 18)) (k := 105) (by omega) E_105 rfl 18 (by decide) (fun _ h9 => List.mem_cons_of_mem _ (List.mem_append_right _ h9)) (List.mem_of_getElem? (i := 2) rfl) rfl dX8_readText_88 ?_
        exact k_iret O dX8_readText_91 (rt_int h ho)
      · have h := ite_f c2 h
        refine k_aload_n O dX8_readText_71 0 rfl ?_
        refine k_aload_n O dX8_readText_72 0 rfl ?_
        refine k_get O (v := .ref (g_ad X.1 114)) (k := 105) (by omega) E_105 rfl 15 (by decide) (fun _ h9 => List.mem_cons_of_mem _ (List.mem_append_right _ h9)) (List.mem_of_getElem? (i := 7) rfl) rfl dX8_readText_73 ?_
        refine k_aload_n O dX8_readText_76 0 rfl ?_
        refine k_get O (v := .int (w.1 105 17)) (k := 105) (by omega) E_105 rfl 17 (by decide) (fun _ h9 => List.mem_cons_of_mem _ (List.mem_append_right _ h9)) (List.mem_of_getElem? (i := 1) rfl) rfl dX8_readText_77 ?_
        obtain ⟨g3, h⟩ := gd_some h
        refine k_iald O (k := 114) (by omega) E_114 g3 dX8_readText_80 ?_
        obtain ⟨w5, hc4, h⟩ := bv_some h
        refine k_callVv O (As := [.int (w.1 114 (w.1 105 17).toNatClampNeg)]) (rest := []) (k := 105) (c_X8_readPart (x_l X) X.1 hN hc4) gX8_readText_X8_readPart rfl hd_X8_readPart (by decide) (by omega) E_105 rfl rfl rfl rfl rfl (Nat.le_of_ble_eq_true rfl) dX8_readText_81 ?_
        refine k_goto O 51 dX8_readText_84 (by decide) ?_
        exact ih h
set_option maxHeartbeats 4000000 in
set_option maxRecDepth 100000 in
theorem w_X8_readText_0 {X : Cx} {rz : Int32} {wz : Wd} (O : Ok X cX8_readText RX8 ((some .int)) wsX8_readText (4) (92) 1) (hN : 121 ≤ g_N X.1) (ho : Ro X (some (.int rz), wz)) {w : Wd} (h : b_X8_readText_0 w  = some (rz, wz)) : Wk X w 0 [(0, .ref (g_ad X.1 105))] [] := by
  unfold b_X8_readText_0 at h
  refine k_aload_n O dX8_readText_0 0 rfl ?_
  refine k_iconst O dX8_readText_1 (v := 0) (by decide) ?_
  refine k_puti O (k := 105) tyX8 tyX8_ok nmX8 (by omega) E_105 rfl 17 (by decide) (fun _ h9 => List.mem_cons_of_mem _ (List.mem_append_right _ h9)) (List.mem_of_getElem? (i := 1) rfl) rfl rfl rfl (Nat.le_of_ble_eq_true rfl) (E_105.trans rfl) dX8_readText_2 ?_
  refine k_nw (fun w1 ew1 => ?_)
  have h := nm_use h w1 ew1
  refine k_aload_n O dX8_readText_5 0 rfl ?_
  refine k_bipush O dX8_readText_6 (v := -9) (by decide) ?_
  refine k_puti O (k := 105) tyX8 tyX8_ok nmX8 (by omega) E_105 rfl 18 (by decide) (fun _ h9 => List.mem_cons_of_mem _ (List.mem_append_right _ h9)) (List.mem_of_getElem? (i := 2) rfl) rfl rfl rfl (Nat.le_of_ble_eq_true rfl) (E_105.trans rfl) dX8_readText_8 ?_
  refine k_nw (fun w2 ew2 => ?_)
  have h := nm_use h w2 ew2
  refine k_aload_n O dX8_readText_11 0 rfl ?_
  refine k_iconst O dX8_readText_12 (v := 0) (by decide) ?_
  refine k_puti O (k := 105) tyX8 tyX8_ok nmX8 (by omega) E_105 rfl 2 (by decide) (fun _ h9 => List.mem_cons_of_mem _ (List.mem_append_right _ h9)) (List.mem_of_getElem? (i := 3) rfl) rfl rfl rfl (Nat.le_of_ble_eq_true rfl) (E_105.trans rfl) dX8_readText_13 ?_
  refine k_nw (fun w3 ew3 => ?_)
  have h := nm_use h w3 ew3
  refine k_aload_n O dX8_readText_16 0 rfl ?_
  refine k_iconst O dX8_readText_17 (v := 0) (by decide) ?_
  refine k_puti O (k := 105) tyX8 tyX8_ok nmX8 (by omega) E_105 rfl 3 (by decide) (fun _ h9 => List.mem_cons_of_mem _ (List.mem_append_right _ h9)) (List.mem_of_getElem? (i := 4) rfl) rfl rfl rfl (Nat.le_of_ble_eq_true rfl) (E_105.trans rfl) dX8_readText_18 ?_
  refine k_nw (fun w4 ew4 => ?_)
  have h := nm_use h w4 ew4
  refine k_aload_n O dX8_readText_21 0 rfl ?_
  refine k_iconst O dX8_readText_22 (v := 0) (by decide) ?_
  refine k_puti O (k := 105) tyX8 tyX8_ok nmX8 (by omega) E_105 rfl 4 (by decide) (fun _ h9 => List.mem_cons_of_mem _ (List.mem_append_right _ h9)) (List.mem_of_getElem? (i := 5) rfl) rfl rfl rfl (Nat.le_of_ble_eq_true rfl) (E_105.trans rfl) dX8_readText_23 ?_
  refine k_nw (fun w5 ew5 => ?_)
  have h := nm_use h w5 ew5
  refine k_aload_n O dX8_readText_26 0 rfl ?_
  refine k_get O (v := .int (w5.1 105 16)) (k := 105) (by omega) E_105 rfl 16 (by decide) (fun _ h9 => List.mem_cons_of_mem _ (List.mem_append_right _ h9)) (List.mem_of_getElem? (i := 6) rfl) rfl dX8_readText_27 ?_
  refine k_if_eq O 44 dX8_readText_30 (by decide) (fun c6 => ?_) (fun c6 => ?_)
  · have h := ite_t c6 h
    refine k_iconst O dX8_readText_44 (v := 0) (by decide) ?_
    exact k_iret O dX8_readText_45 (rt_int h ho)
  · have h := ite_f c6 h
    refine k_aload_n O dX8_readText_33 0 rfl ?_
    refine k_get O (v := .ref (g_ad X.1 114)) (k := 105) (by omega) E_105 rfl 15 (by decide) (fun _ h9 => List.mem_cons_of_mem _ (List.mem_append_right _ h9)) (List.mem_of_getElem? (i := 7) rfl) rfl dX8_readText_34 ?_
    refine k_iconst O dX8_readText_37 (v := 0) (by decide) ?_
    refine k_iald O (k := 114) (by omega) E_114 (by decide) dX8_readText_38 ?_
    refine k_bipush O dX8_readText_39 (v := 70) (by decide) ?_
    refine k_icmp_eq O 46 dX8_readText_41 (by decide) (fun c7 => ?_) (fun c7 => ?_)
    · have h := ite_t c7 h
      refine k_aload_n O dX8_readText_46 0 rfl ?_
      refine k_iconst O dX8_readText_47 (v := 1) (by decide) ?_
      refine k_puti O (k := 105) tyX8 tyX8_ok nmX8 (by omega) E_105 rfl 17 (by decide) (fun _ h9 => List.mem_cons_of_mem _ (List.mem_append_right _ h9)) (List.mem_of_getElem? (i := 1) rfl) rfl rfl rfl (Nat.le_of_ble_eq_true rfl) (E_105.trans rfl) dX8_readText_48 ?_
      refine k_nw (fun w8 ew8 => ?_)
      have h := nm_use h w8 ew8
      exact k_sub [0] rfl (w_X8_readText_51 O hN ho LF h)
    · have h := ite_f c7 h
      refine k_iconst O dX8_readText_44 (v := 0) (by decide) ?_
      exact k_iret O dX8_readText_45 (rt_int h ho)
theorem c_X8_readText (l : Launch) (G : Gl) (hN : 121 ≤ g_N G) {w wz : Wd} {rz : Int32} (h : f_X8_readText w  = some (rz, wz)) : Ct l yX8_readText wsX8_readText (4) (92) G [.ref (g_ad G 105)] w (some (.int rz), wz) := by
  refine Ct.start (by decide) rfl rfl rfl (Nat.le_of_ble_eq_true rfl) (fun X hG ho hl O => ?_)
  subst hG
  subst hl
  exact k_sub [0] rfl (w_X8_readText_0 O hN ho h)
def b_X8_fault_0 (w : Wd) : Option (Int32 × Wd) := bd (f_X8_readText w) (fun r3 w2 => some (r3, w2))
def f_X8_fault (w : Wd) : Option (Int32 × Wd) := b_X8_fault_0 w 
set_option maxHeartbeats 4000000 in
set_option maxRecDepth 100000 in
theorem w_X8_fault_0 {X : Cx} {rz : Int32} {wz : Wd} (O : Ok X cX8_fault RX8 ((some .int)) wsX8_fault (5) (112) 1) (hN : 121 ≤ g_N X.1) (ho : Ro X (some (.int rz), wz)) {w : Wd} (h : b_X8_fault_0 w  = some (rz, wz)) : Wk X w 0 [(0, .ref (g_ad X.1 105))] [] := by
  unfold b_X8_fault_0 at h
  refine k_aload_n O dX8_fault_0 0 rfl ?_
  obtain ⟨r3, w2, hc1, h⟩ := bd_some h
  refine k_callVi O (As := []) (rest := []) (k := 105) (c_X8_readText (x_l X) X.1 hN hc1) gX8_fault_X8_readText rfl hd_X8_readText (by decide) (by omega) E_105 rfl rfl rfl rfl rfl (Nat.le_of_ble_eq_true rfl) dX8_fault_1 ?_
  exact k_iret O dX8_fault_4 (rt_int h ho)
theorem c_X8_fault (l : Launch) (G : Gl) (hN : 121 ≤ g_N G) {w wz : Wd} {rz : Int32} (h : f_X8_fault w  = some (rz, wz)) : Ct l yX8_fault wsX8_fault (5) (112) G [.ref (g_ad G 105)] w (some (.int rz), wz) := by
  refine Ct.start (by decide) rfl rfl rfl (Nat.le_of_ble_eq_true rfl) (fun X hG ho hl O => ?_)
  subst hG
  subst hl
  exact k_sub [0] rfl (w_X8_fault_0 O hN ho h)
def b_X8_wood_246 (kb175 : Wd → Int32 → Option (Int32 × Wd)) (w : Wd) (v1 : Int32) (s0 : Int32) (s1 : Int32) : Option (Int32 × Wd) := gd (inb s1 4) (nm (up w 112 s1.toNatClampNeg s0) (fun w2 => nm (v1 + (1 : Int32)) (fun x3 => kb175 w2 x3)))
def b_X8_wood_207 (kb175 : Wd → Int32 → Option (Int32 × Wd)) (w : Wd) (v1 : Int32) (s0 : Int32) (s1 : Int32) : Option (Int32 × Wd) := gd (inb s1 72) (nm (up w 113 s1.toNatClampNeg s0) (fun w2 => gd (inb (((8 : Int32)) + v1) 72) (nm (up w2 113 (((8 : Int32)) + v1).toNatClampNeg ((-9 : Int32))) (fun w4 => if (w4.1 105 11) ≤ v1 then (b_X8_wood_246 kb175 w4 v1 ((0 : Int32)) v1) else (gd (inb ((((2 : Int32)) * v1) + ((1 : Int32))) 8) (b_X8_wood_246 kb175 w4 v1 (w4.1 107 ((((2 : Int32)) * v1) + ((1 : Int32))).toNatClampNeg) v1))))))
def b_X8_wood_175 : Nat → Wd → Int32 → Option (Int32 × Wd)
  | 0, _, _ => none
  | n + 1, w, v1 => if ((4 : Int32)) ≤ v1 then (nm (up w 105 19 ((0 : Int32))) (fun w2 => nm (up w2 119 ((0 : Int32)).toNatClampNeg ((0 : Int32))) (fun w3 => nm (up w3 119 ((1 : Int32)).toNatClampNeg ((0 : Int32))) (fun w4 => some ((((10 : Int32)) * (w4.1 105 10)) + (w4.1 105 11), w4))))) else (if (w.1 105 11) ≤ v1 then (b_X8_wood_207 (b_X8_wood_175 n) w v1 ((0 : Int32)) (((4 : Int32)) + v1)) else (gd (inb (((2 : Int32)) * v1) 8) (b_X8_wood_207 (b_X8_wood_175 n) w v1 (w.1 107 (((2 : Int32)) * v1).toNatClampNeg) (((4 : Int32)) + v1))))
def b_X8_wood_78 : Nat → Wd → Int32 → Option (Int32 × Wd)
  | 0, _, _ => none
  | n + 1, w, v1 => if (w.1 105 10) ≤ v1 then (b_X8_wood_175 LF w ((0 : Int32))) else (gd (inb (((4 : Int32)) * v1) 24) (gd (inb v1 7) (nm (up w 108 v1.toNatClampNeg (w.1 106 (((4 : Int32)) * v1).toNatClampNeg)) (fun w4 => gd (inb ((((4 : Int32)) * v1) + ((1 : Int32))) 24) (gd (inb v1 7) (nm (up w4 109 v1.toNatClampNeg (w4.1 106 ((((4 : Int32)) * v1) + ((1 : Int32))).toNatClampNeg)) (fun w7 => gd (inb ((((4 : Int32)) * v1) + ((2 : Int32))) 24) (gd (inb v1 7) (nm (up w7 110 v1.toNatClampNeg (w7.1 106 ((((4 : Int32)) * v1) + ((2 : Int32))).toNatClampNeg)) (fun w10 => gd (inb ((((4 : Int32)) * v1) + ((3 : Int32))) 24) (gd (inb v1 7) (nm (up w10 111 v1.toNatClampNeg (w10.1 106 ((((4 : Int32)) * v1) + ((3 : Int32))).toNatClampNeg)) (fun w13 => gd (inb v1 7) (gd (inb (((2 : Int32)) + (w13.1 109 v1.toNatClampNeg)) 72) (gd (inb (((2 : Int32)) + (w13.1 109 v1.toNatClampNeg)) 72) (nm (up w13 113 (((2 : Int32)) + (w13.1 109 v1.toNatClampNeg)).toNatClampNeg ((w13.1 113 (((2 : Int32)) + (w13.1 109 v1.toNatClampNeg)).toNatClampNeg) ||| (((1 : Int32)) <<< (v1 &&& 31)))) (fun w17 => nm (v1 + (1 : Int32)) (fun x18 => b_X8_wood_78 n w17 x18))))))))))))))))))
def b_X8_wood_0 (w : Wd) : Option (Int32 × Wd) := bd (f_X8_readText w) (fun r3 w2 => if r3 = ((-9 : Int32)) then (nm (up w2 105 10 (w2.1 105 2)) (fun w5 => nm (up w5 105 11 (w5.1 105 3)) (fun w6 => nm (up w6 105 12 (w6.1 105 4)) (fun w7 => nm (up w7 105 13 ((0 : Int32))) (fun w8 => nm (up w8 113 ((0 : Int32)).toNatClampNeg ((((1 : Int32)) <<< ((w8.1 105 10) &&& 31)) - ((1 : Int32)))) (fun w9 => nm (up w9 113 ((1 : Int32)).toNatClampNeg ((0 : Int32))) (fun w10 => nm (up w10 113 ((2 : Int32)).toNatClampNeg ((0 : Int32))) (fun w11 => nm (up w11 113 ((3 : Int32)).toNatClampNeg ((0 : Int32))) (fun w12 => b_X8_wood_78 LF w12 ((0 : Int32))))))))))) else (some ((-3 : Int32), w2)))
def f_X8_wood (w : Wd) : Option (Int32 × Wd) := b_X8_wood_0 w 
set_option maxHeartbeats 4000000 in
set_option maxRecDepth 100000 in
theorem w_X8_wood_246 {X : Cx} {rz : Int32} {wz : Wd} (O : Ok X cX8_wood RX8 ((some .int)) wsX8_wood (5) (112) 2) (hN : 121 ≤ g_N X.1) {kb175 : Wd → Int32 → Option (Int32 × Wd)} (hk175 : ∀ {w : Wd} {v1 : Int32}, kb175 w v1 = some (rz, wz) → Wk X w 175 [(0, .ref (g_ad X.1 105)), (1, .int v1)] []) (ho : Ro X (some (.int rz), wz)) {w : Wd} {v1 : Int32} {s0 : Int32} {s1 : Int32} (h : b_X8_wood_246 kb175 w v1 s0 s1 = some (rz, wz)) : Wk X w 246 [(0, .ref (g_ad X.1 105)), (1, .int v1)] [.int s0, .int s1, .ref (g_ad X.1 112)] := by
  unfold b_X8_wood_246 at h
  obtain ⟨g1, h⟩ := gd_some h
  refine k_iast O (k := 112) (by omega) E_112 (fun _ => E_112) g1 dX8_wood_246 ?_
  refine k_nw (fun w2 ew2 => ?_)
  have h := nm_use h w2 ew2
  obtain ⟨x3, ex3⟩ : ∃ z : Int32, z = v1 + (1 : Int32) := ⟨_, rfl⟩
  have h := nm_use h x3 ex3
  refine k_iinc (lv' := [(1, .int x3), (0, .ref (g_ad X.1 105))]) O dX8_wood_247 1 rfl (by rw [ex3]; rfl) (by decide) rfl ?_
  refine k_goto O 175 dX8_wood_250 (by decide) ?_
  exact k_sub [1, 0] rfl (hk175 h)
set_option maxHeartbeats 4000000 in
set_option maxRecDepth 100000 in
theorem w_X8_wood_207 {X : Cx} {rz : Int32} {wz : Wd} (O : Ok X cX8_wood RX8 ((some .int)) wsX8_wood (5) (112) 2) (hN : 121 ≤ g_N X.1) {kb175 : Wd → Int32 → Option (Int32 × Wd)} (hk175 : ∀ {w : Wd} {v1 : Int32}, kb175 w v1 = some (rz, wz) → Wk X w 175 [(0, .ref (g_ad X.1 105)), (1, .int v1)] []) (ho : Ro X (some (.int rz), wz)) {w : Wd} {v1 : Int32} {s0 : Int32} {s1 : Int32} (h : b_X8_wood_207 kb175 w v1 s0 s1 = some (rz, wz)) : Wk X w 207 [(0, .ref (g_ad X.1 105)), (1, .int v1)] [.int s0, .int s1, .ref (g_ad X.1 113)] := by
  unfold b_X8_wood_207 at h
  obtain ⟨g1, h⟩ := gd_some h
  refine k_iast O (k := 113) (by omega) E_113 (fun _ => E_113) g1 dX8_wood_207 ?_
  refine k_nw (fun w2 ew2 => ?_)
  have h := nm_use h w2 ew2
  refine k_aload_n O dX8_wood_208 0 rfl ?_
  refine k_get O (v := .ref (g_ad X.1 113)) (k := 105) (by omega) E_105 rfl 14 (by decide) (fun _ h9 => List.mem_cons_of_mem _ (List.mem_append_right _ h9)) (List.mem_of_getElem? (i := 8) rfl) rfl dX8_wood_209 ?_
  refine k_bipush O dX8_wood_212 (v := 8) (by decide) ?_
  refine k_iload_n O dX8_wood_214 1 rfl ?_
  refine k_iadd O dX8_wood_215 ?_
  refine k_bipush O dX8_wood_216 (v := -9) (by decide) ?_
  obtain ⟨g3, h⟩ := gd_some h
  refine k_iast O (k := 113) (by omega) E_113 (fun _ => E_113) g3 dX8_wood_218 ?_
  refine k_nw (fun w4 ew4 => ?_)
  have h := nm_use h w4 ew4
  refine k_aload_n O dX8_wood_219 0 rfl ?_
  refine k_get O (v := .ref (g_ad X.1 112)) (k := 105) (by omega) E_105 rfl 9 (by decide) (fun _ h9 => List.mem_cons_of_mem _ (List.mem_append_right _ h9)) (List.mem_of_getElem? (i := 15) rfl) rfl dX8_wood_220 ?_
  refine k_iload_n O dX8_wood_223 1 rfl ?_
  refine k_iload_n O dX8_wood_224 1 rfl ?_
  refine k_aload_n O dX8_wood_225 0 rfl ?_
  refine k_get O (v := .int (w4.1 105 11)) (k := 105) (by omega) E_105 rfl 11 (by decide) (fun _ h9 => List.mem_cons_of_mem _ (List.mem_append_right _ h9)) (List.mem_of_getElem? (i := 4) rfl) rfl dX8_wood_226 ?_
  refine k_icmp_ge O 245 dX8_wood_229 (by decide) (fun c5 => ?_) (fun c5 => ?_)
  · have h := ite_t c5 h
    refine k_iconst O dX8_wood_245 (v := 0) (by decide) ?_
    exact k_sub [0, 1] rfl (w_X8_wood_246 O hN hk175 ho h)
  · have h := ite_f c5 h
    refine k_aload_n O dX8_wood_232 0 rfl ?_
    refine k_get O (v := .ref (g_ad X.1 107)) (k := 105) (by omega) E_105 rfl 1 (by decide) (fun _ h9 => List.mem_cons_of_mem _ (List.mem_append_right _ h9)) (List.mem_of_getElem? (i := 14) rfl) rfl dX8_wood_233 ?_
    refine k_iconst O dX8_wood_236 (v := 2) (by decide) ?_
    refine k_iload_n O dX8_wood_237 1 rfl ?_
    refine k_imul O dX8_wood_238 ?_
    refine k_iconst O dX8_wood_239 (v := 1) (by decide) ?_
    refine k_iadd O dX8_wood_240 ?_
    obtain ⟨g6, h⟩ := gd_some h
    refine k_iald O (k := 107) (by omega) E_107 g6 dX8_wood_241 ?_
    refine k_goto O 246 dX8_wood_242 (by decide) ?_
    exact k_sub [0, 1] rfl (w_X8_wood_246 O hN hk175 ho h)
set_option maxHeartbeats 4000000 in
set_option maxRecDepth 100000 in
theorem w_X8_wood_175 {X : Cx} {rz : Int32} {wz : Wd} (O : Ok X cX8_wood RX8 ((some .int)) wsX8_wood (5) (112) 2) (hN : 121 ≤ g_N X.1) (ho : Ro X (some (.int rz), wz)) (n : Nat) : ∀ {w : Wd} {v1 : Int32}, b_X8_wood_175 n w v1 = some (rz, wz) → Wk X w 175 [(0, .ref (g_ad X.1 105)), (1, .int v1)] [] := by
  induction n with
  | zero => intro w v1 h; exact nomatch (show (none : Option (Int32 × Wd)) = some _ from h)
  | succ n ih =>
    intro w v1 h
    rw [b_X8_wood_175] at h
    refine k_iload_n O dX8_wood_175 1 rfl ?_
    refine k_iconst O dX8_wood_176 (v := 4) (by decide) ?_
    refine k_icmp_ge O 253 dX8_wood_177 (by decide) (fun c1 => ?_) (fun c1 => ?_)
    · have h := ite_t c1 h
      refine k_aload_n O dX8_wood_253 0 rfl ?_
      refine k_iconst O dX8_wood_254 (v := 0) (by decide) ?_
      refine k_puti O (k := 105) tyX8 tyX8_ok nmX8 (by omega) E_105 rfl 19 (by decide) (fun _ h9 => List.mem_cons_of_mem _ (List.mem_append_right _ h9)) (List.mem_of_getElem? (i := 16) rfl) rfl rfl rfl (Nat.le_of_ble_eq_true rfl) (E_105.trans rfl) dX8_wood_255 ?_
      refine k_nw (fun w2 ew2 => ?_)
      have h := nm_use h w2 ew2
      refine k_aload_n O dX8_wood_258 0 rfl ?_
      refine k_get O (v := .ref (g_ad X.1 119)) (k := 105) (by omega) E_105 rfl 26 (by decide) (fun _ h9 => List.mem_cons_of_mem _ (List.mem_append_right _ h9)) (List.mem_of_getElem? (i := 17) rfl) rfl dX8_wood_259 ?_
      refine k_iconst O dX8_wood_262 (v := 0) (by decide) ?_
      refine k_iconst O dX8_wood_263 (v := 0) (by decide) ?_
      refine k_zast O (k := 119) (by omega) E_119 (fun _ => E_119) (by decide) (by decide) dX8_wood_264 ?_
      refine k_nw (fun w3 ew3 => ?_)
      have h := nm_use h w3 ew3
      refine k_aload_n O dX8_wood_265 0 rfl ?_
      refine k_get O (v := .ref (g_ad X.1 119)) (k := 105) (by omega) E_105 rfl 26 (by decide) (fun _ h9 => List.mem_cons_of_mem _ (List.mem_append_right _ h9)) (List.mem_of_getElem? (i := 17) rfl) rfl dX8_wood_266 ?_
      refine k_iconst O dX8_wood_269 (v := 1) (by decide) ?_
      refine k_iconst O dX8_wood_270 (v := 0) (by decide) ?_
      refine k_zast O (k := 119) (by omega) E_119 (fun _ => E_119) (by decide) (by decide) dX8_wood_271 ?_
      refine k_nw (fun w4 ew4 => ?_)
      have h := nm_use h w4 ew4
      refine k_bipush O dX8_wood_272 (v := 10) (by decide) ?_
      refine k_aload_n O dX8_wood_274 0 rfl ?_
      refine k_get O (v := .int (w4.1 105 10)) (k := 105) (by omega) E_105 rfl 10 (by decide) (fun _ h9 => List.mem_cons_of_mem _ (List.mem_append_right _ h9)) (List.mem_of_getElem? (i := 2) rfl) rfl dX8_wood_275 ?_
      refine k_imul O dX8_wood_278 ?_
      refine k_aload_n O dX8_wood_279 0 rfl ?_
      refine k_get O (v := .int (w4.1 105 11)) (k := 105) (by omega) E_105 rfl 11 (by decide) (fun _ h9 => List.mem_cons_of_mem _ (List.mem_append_right _ h9)) (List.mem_of_getElem? (i := 4) rfl) rfl dX8_wood_280 ?_
      refine k_iadd O dX8_wood_283 ?_
      exact k_iret O dX8_wood_284 (rt_int h ho)
    · have h := ite_f c1 h
      refine k_aload_n O dX8_wood_180 0 rfl ?_
      refine k_get O (v := .ref (g_ad X.1 113)) (k := 105) (by omega) E_105 rfl 14 (by decide) (fun _ h9 => List.mem_cons_of_mem _ (List.mem_append_right _ h9)) (List.mem_of_getElem? (i := 8) rfl) rfl dX8_wood_181 ?_
      refine k_iconst O dX8_wood_184 (v := 4) (by decide) ?_
      refine k_iload_n O dX8_wood_185 1 rfl ?_
      refine k_iadd O dX8_wood_186 ?_
      refine k_iload_n O dX8_wood_187 1 rfl ?_
      refine k_aload_n O dX8_wood_188 0 rfl ?_
      refine k_get O (v := .int (w.1 105 11)) (k := 105) (by omega) E_105 rfl 11 (by decide) (fun _ h9 => List.mem_cons_of_mem _ (List.mem_append_right _ h9)) (List.mem_of_getElem? (i := 4) rfl) rfl dX8_wood_189 ?_
      refine k_icmp_ge O 206 dX8_wood_192 (by decide) (fun c5 => ?_) (fun c5 => ?_)
      · have h := ite_t c5 h
        refine k_iconst O dX8_wood_206 (v := 0) (by decide) ?_
        exact k_sub [0, 1] rfl (w_X8_wood_207 O hN (fun {_} {_} h9 => ih h9) ho h)
      · have h := ite_f c5 h
        refine k_aload_n O dX8_wood_195 0 rfl ?_
        refine k_get O (v := .ref (g_ad X.1 107)) (k := 105) (by omega) E_105 rfl 1 (by decide) (fun _ h9 => List.mem_cons_of_mem _ (List.mem_append_right _ h9)) (List.mem_of_getElem? (i := 14) rfl) rfl dX8_wood_196 ?_
        refine k_iconst O dX8_wood_199 (v := 2) (by decide) ?_
        refine k_iload_n O dX8_wood_200 1 rfl ?_
        refine k_imul O dX8_wood_201 ?_
        obtain ⟨g6, h⟩ := gd_some h
        refine k_iald O (k := 107) (by omega) E_107 g6 dX8_wood_202 ?_
        refine k_goto O 207 dX8_wood_203 (by decide) ?_
        exact k_sub [0, 1] rfl (w_X8_wood_207 O hN (fun {_} {_} h9 => ih h9) ho h)
set_option maxHeartbeats 4000000 in
set_option maxRecDepth 100000 in
theorem w_X8_wood_78 {X : Cx} {rz : Int32} {wz : Wd} (O : Ok X cX8_wood RX8 ((some .int)) wsX8_wood (5) (112) 2) (hN : 121 ≤ g_N X.1) (ho : Ro X (some (.int rz), wz)) (n : Nat) : ∀ {w : Wd} {v1 : Int32}, b_X8_wood_78 n w v1 = some (rz, wz) → Wk X w 78 [(0, .ref (g_ad X.1 105)), (1, .int v1)] [] := by
  induction n with
  | zero => intro w v1 h; exact nomatch (show (none : Option (Int32 × Wd)) = some _ from h)
  | succ n ih =>
    intro w v1 h
    rw [b_X8_wood_78] at h
    refine k_iload_n O dX8_wood_78 1 rfl ?_
    refine k_aload_n O dX8_wood_79 0 rfl ?_
    refine k_get O (v := .int (w.1 105 10)) (k := 105) (by omega) E_105 rfl 10 (by decide) (fun _ h9 => List.mem_cons_of_mem _ (List.mem_append_right _ h9)) (List.mem_of_getElem? (i := 2) rfl) rfl dX8_wood_80 ?_
    refine k_icmp_ge O 173 dX8_wood_83 (by decide) (fun c1 => ?_) (fun c1 => ?_)
    · have h := ite_t c1 h
      refine k_iconst O dX8_wood_173 (v := 0) (by decide) ?_
      refine k_istore_n (lv' := [(1, .int ((0 : Int32))), (0, .ref (g_ad X.1 105))]) O dX8_wood_174 rfl (by decide) rfl ?_
      exact k_sub [1, 0] rfl (w_X8_wood_175 O hN ho LF h)
    · have h := ite_f c1 h
      refine k_aload_n O dX8_wood_86 0 rfl ?_
      refine k_get O (v := .ref (g_ad X.1 108)) (k := 105) (by omega) E_105 rfl 5 (by decide) (fun _ h9 => List.mem_cons_of_mem _ (List.mem_append_right _ h9)) (List.mem_of_getElem? (i := 9) rfl) rfl dX8_wood_87 ?_
      refine k_iload_n O dX8_wood_90 1 rfl ?_
      refine k_aload_n O dX8_wood_91 0 rfl ?_
      refine k_get O (v := .ref (g_ad X.1 106)) (k := 105) (by omega) E_105 rfl 0 (by decide) (fun _ h9 => List.mem_cons_of_mem _ (List.mem_append_right _ h9)) (List.mem_of_getElem? (i := 10) rfl) rfl dX8_wood_92 ?_
      refine k_iconst O dX8_wood_95 (v := 4) (by decide) ?_
      refine k_iload_n O dX8_wood_96 1 rfl ?_
      refine k_imul O dX8_wood_97 ?_
      obtain ⟨g2, h⟩ := gd_some h
      refine k_iald O (k := 106) (by omega) E_106 g2 dX8_wood_98 ?_
      obtain ⟨g3, h⟩ := gd_some h
      refine k_iast O (k := 108) (by omega) E_108 (fun _ => E_108) g3 dX8_wood_99 ?_
      refine k_nw (fun w4 ew4 => ?_)
      have h := nm_use h w4 ew4
      refine k_aload_n O dX8_wood_100 0 rfl ?_
      refine k_get O (v := .ref (g_ad X.1 109)) (k := 105) (by omega) E_105 rfl 6 (by decide) (fun _ h9 => List.mem_cons_of_mem _ (List.mem_append_right _ h9)) (List.mem_of_getElem? (i := 11) rfl) rfl dX8_wood_101 ?_
      refine k_iload_n O dX8_wood_104 1 rfl ?_
      refine k_aload_n O dX8_wood_105 0 rfl ?_
      refine k_get O (v := .ref (g_ad X.1 106)) (k := 105) (by omega) E_105 rfl 0 (by decide) (fun _ h9 => List.mem_cons_of_mem _ (List.mem_append_right _ h9)) (List.mem_of_getElem? (i := 10) rfl) rfl dX8_wood_106 ?_
      refine k_iconst O dX8_wood_109 (v := 4) (by decide) ?_
      refine k_iload_n O dX8_wood_110 1 rfl ?_
      refine k_imul O dX8_wood_111 ?_
      refine k_iconst O dX8_wood_112 (v := 1) (by decide) ?_
      refine k_iadd O dX8_wood_113 ?_
      obtain ⟨g5, h⟩ := gd_some h
      refine k_iald O (k := 106) (by omega) E_106 g5 dX8_wood_114 ?_
      obtain ⟨g6, h⟩ := gd_some h
      refine k_iast O (k := 109) (by omega) E_109 (fun _ => E_109) g6 dX8_wood_115 ?_
      refine k_nw (fun w7 ew7 => ?_)
      have h := nm_use h w7 ew7
      refine k_aload_n O dX8_wood_116 0 rfl ?_
      refine k_get O (v := .ref (g_ad X.1 110)) (k := 105) (by omega) E_105 rfl 7 (by decide) (fun _ h9 => List.mem_cons_of_mem _ (List.mem_append_right _ h9)) (List.mem_of_getElem? (i := 12) rfl) rfl dX8_wood_117 ?_
      refine k_iload_n O dX8_wood_120 1 rfl ?_
      refine k_aload_n O dX8_wood_121 0 rfl ?_
      refine k_get O (v := .ref (g_ad X.1 106)) (k := 105) (by omega) E_105 rfl 0 (by decide) (fun _ h9 => List.mem_cons_of_mem _ (List.mem_append_right _ h9)) (List.mem_of_getElem? (i := 10) rfl) rfl dX8_wood_122 ?_
      refine k_iconst O dX8_wood_125 (v := 4) (by decide) ?_
      refine k_iload_n O dX8_wood_126 1 rfl ?_
      refine k_imul O dX8_wood_127 ?_
      refine k_iconst O dX8_wood_128 (v := 2) (by decide) ?_
      refine k_iadd O dX8_wood_129 ?_
      obtain ⟨g8, h⟩ := gd_some h
      refine k_iald O (k := 106) (by omega) E_106 g8 dX8_wood_130 ?_
      obtain ⟨g9, h⟩ := gd_some h
      refine k_iast O (k := 110) (by omega) E_110 (fun _ => E_110) g9 dX8_wood_131 ?_
      refine k_nw (fun w10 ew10 => ?_)
      have h := nm_use h w10 ew10
      refine k_aload_n O dX8_wood_132 0 rfl ?_
      refine k_get O (v := .ref (g_ad X.1 111)) (k := 105) (by omega) E_105 rfl 8 (by decide) (fun _ h9 => List.mem_cons_of_mem _ (List.mem_append_right _ h9)) (List.mem_of_getElem? (i := 13) rfl) rfl dX8_wood_133 ?_
      refine k_iload_n O dX8_wood_136 1 rfl ?_
      refine k_aload_n O dX8_wood_137 0 rfl ?_
      refine k_get O (v := .ref (g_ad X.1 106)) (k := 105) (by omega) E_105 rfl 0 (by decide) (fun _ h9 => List.mem_cons_of_mem _ (List.mem_append_right _ h9)) (List.mem_of_getElem? (i := 10) rfl) rfl dX8_wood_138 ?_
      refine k_iconst O dX8_wood_141 (v := 4) (by decide) ?_
      refine k_iload_n O dX8_wood_142 1 rfl ?_
      refine k_imul O dX8_wood_143 ?_
      refine k_iconst O dX8_wood_144 (v := 3) (by decide) ?_
      refine k_iadd O dX8_wood_145 ?_
      obtain ⟨g11, h⟩ := gd_some h
      refine k_iald O (k := 106) (by omega) E_106 g11 dX8_wood_146 ?_
      obtain ⟨g12, h⟩ := gd_some h
      refine k_iast O (k := 111) (by omega) E_111 (fun _ => E_111) g12 dX8_wood_147 ?_
      refine k_nw (fun w13 ew13 => ?_)
      have h := nm_use h w13 ew13
      refine k_aload_n O dX8_wood_148 0 rfl ?_
      refine k_get O (v := .ref (g_ad X.1 113)) (k := 105) (by omega) E_105 rfl 14 (by decide) (fun _ h9 => List.mem_cons_of_mem _ (List.mem_append_right _ h9)) (List.mem_of_getElem? (i := 8) rfl) rfl dX8_wood_149 ?_
      refine k_iconst O dX8_wood_152 (v := 2) (by decide) ?_
      refine k_aload_n O dX8_wood_153 0 rfl ?_
      refine k_get O (v := .ref (g_ad X.1 109)) (k := 105) (by omega) E_105 rfl 6 (by decide) (fun _ h9 => List.mem_cons_of_mem _ (List.mem_append_right _ h9)) (List.mem_of_getElem? (i := 11) rfl) rfl dX8_wood_154 ?_
      refine k_iload_n O dX8_wood_157 1 rfl ?_
      obtain ⟨g14, h⟩ := gd_some h
      refine k_iald O (k := 109) (by omega) E_109 g14 dX8_wood_158 ?_
      refine k_iadd O dX8_wood_159 ?_
      refine k_dup2 O dX8_wood_160 rfl rfl ?_
      obtain ⟨g15, h⟩ := gd_some h
      refine k_iald O (k := 113) (by omega) E_113 g15 dX8_wood_161 ?_
      refine k_iconst O dX8_wood_162 (v := 1) (by decide) ?_
      refine k_iload_n O dX8_wood_163 1 rfl ?_
      refine k_ishl O dX8_wood_164 ?_
      refine k_ior O dX8_wood_165 ?_
      obtain ⟨g16, h⟩ := gd_some h
      refine k_iast O (k := 113) (by omega) E_113 (fun _ => E_113) g16 dX8_wood_166 ?_
      refine k_nw (fun w17 ew17 => ?_)
      have h := nm_use h w17 ew17
      obtain ⟨x18, ex18⟩ : ∃ z : Int32, z = v1 + (1 : Int32) := ⟨_, rfl⟩
      have h := nm_use h x18 ex18
      refine k_iinc (lv' := [(1, .int x18), (0, .ref (g_ad X.1 105))]) O dX8_wood_167 1 rfl (by rw [ex18]; rfl) (by decide) rfl ?_
      refine k_goto O 78 dX8_wood_170 (by decide) ?_
      exact k_sub [1, 0] rfl (ih h)
set_option maxHeartbeats 4000000 in
set_option maxRecDepth 100000 in
theorem w_X8_wood_0 {X : Cx} {rz : Int32} {wz : Wd} (O : Ok X cX8_wood RX8 ((some .int)) wsX8_wood (5) (112) 2) (hN : 121 ≤ g_N X.1) (ho : Ro X (some (.int rz), wz)) {w : Wd} (h : b_X8_wood_0 w  = some (rz, wz)) : Wk X w 0 [(0, .ref (g_ad X.1 105))] [] := by
  unfold b_X8_wood_0 at h
  refine k_aload_n O dX8_wood_0 0 rfl ?_
  obtain ⟨r3, w2, hc1, h⟩ := bd_some h
  refine k_callVi O (As := []) (rest := []) (k := 105) (c_X8_readText (x_l X) X.1 hN hc1) gX8_wood_X8_readText rfl hd_X8_readText (by decide) (by omega) E_105 rfl rfl rfl rfl rfl (Nat.le_of_ble_eq_true rfl) dX8_wood_1 ?_
  refine k_bipush O dX8_wood_4 (v := -9) (by decide) ?_
  refine k_icmp_eq O 12 dX8_wood_6 (by decide) (fun c4 => ?_) (fun c4 => ?_)
  · have h := ite_t c4 h
    refine k_aload_n O dX8_wood_12 0 rfl ?_
    refine k_aload_n O dX8_wood_13 0 rfl ?_
    refine k_get O (v := .int (w2.1 105 2)) (k := 105) (by omega) E_105 rfl 2 (by decide) (fun _ h9 => List.mem_cons_of_mem _ (List.mem_append_right _ h9)) (List.mem_of_getElem? (i := 1) rfl) rfl dX8_wood_14 ?_
    refine k_puti O (k := 105) tyX8 tyX8_ok nmX8 (by omega) E_105 rfl 10 (by decide) (fun _ h9 => List.mem_cons_of_mem _ (List.mem_append_right _ h9)) (List.mem_of_getElem? (i := 2) rfl) rfl rfl rfl (Nat.le_of_ble_eq_true rfl) (E_105.trans rfl) dX8_wood_17 ?_
    refine k_nw (fun w5 ew5 => ?_)
    have h := nm_use h w5 ew5
    refine k_aload_n O dX8_wood_20 0 rfl ?_
    refine k_aload_n O dX8_wood_21 0 rfl ?_
    refine k_get O (v := .int (w5.1 105 3)) (k := 105) (by omega) E_105 rfl 3 (by decide) (fun _ h9 => List.mem_cons_of_mem _ (List.mem_append_right _ h9)) (List.mem_of_getElem? (i := 3) rfl) rfl dX8_wood_22 ?_
    refine k_puti O (k := 105) tyX8 tyX8_ok nmX8 (by omega) E_105 rfl 11 (by decide) (fun _ h9 => List.mem_cons_of_mem _ (List.mem_append_right _ h9)) (List.mem_of_getElem? (i := 4) rfl) rfl rfl rfl (Nat.le_of_ble_eq_true rfl) (E_105.trans rfl) dX8_wood_25 ?_
    refine k_nw (fun w6 ew6 => ?_)
    have h := nm_use h w6 ew6
    refine k_aload_n O dX8_wood_28 0 rfl ?_
    refine k_aload_n O dX8_wood_29 0 rfl ?_
    refine k_get O (v := .int (w6.1 105 4)) (k := 105) (by omega) E_105 rfl 4 (by decide) (fun _ h9 => List.mem_cons_of_mem _ (List.mem_append_right _ h9)) (List.mem_of_getElem? (i := 5) rfl) rfl dX8_wood_30 ?_
    refine k_puti O (k := 105) tyX8 tyX8_ok nmX8 (by omega) E_105 rfl 12 (by decide) (fun _ h9 => List.mem_cons_of_mem _ (List.mem_append_right _ h9)) (List.mem_of_getElem? (i := 6) rfl) rfl rfl rfl (Nat.le_of_ble_eq_true rfl) (E_105.trans rfl) dX8_wood_33 ?_
    refine k_nw (fun w7 ew7 => ?_)
    have h := nm_use h w7 ew7
    refine k_aload_n O dX8_wood_36 0 rfl ?_
    refine k_iconst O dX8_wood_37 (v := 0) (by decide) ?_
    refine k_puti O (k := 105) tyX8 tyX8_ok nmX8 (by omega) E_105 rfl 13 (by decide) (fun _ h9 => List.mem_cons_of_mem _ (List.mem_append_right _ h9)) (List.mem_of_getElem? (i := 7) rfl) rfl (by decide) (by decide) (Nat.le_of_ble_eq_true rfl) (E_105.trans rfl) dX8_wood_38 ?_
    refine k_nw (fun w8 ew8 => ?_)
    have h := nm_use h w8 ew8
    refine k_aload_n O dX8_wood_41 0 rfl ?_
    refine k_get O (v := .ref (g_ad X.1 113)) (k := 105) (by omega) E_105 rfl 14 (by decide) (fun _ h9 => List.mem_cons_of_mem _ (List.mem_append_right _ h9)) (List.mem_of_getElem? (i := 8) rfl) rfl dX8_wood_42 ?_
    refine k_iconst O dX8_wood_45 (v := 0) (by decide) ?_
    refine k_iconst O dX8_wood_46 (v := 1) (by decide) ?_
    refine k_aload_n O dX8_wood_47 0 rfl ?_
    refine k_get O (v := .int (w8.1 105 10)) (k := 105) (by omega) E_105 rfl 10 (by decide) (fun _ h9 => List.mem_cons_of_mem _ (List.mem_append_right _ h9)) (List.mem_of_getElem? (i := 2) rfl) rfl dX8_wood_48 ?_
    refine k_ishl O dX8_wood_51 ?_
    refine k_iconst O dX8_wood_52 (v := 1) (by decide) ?_
    refine k_isub O dX8_wood_53 ?_
    refine k_iast O (k := 113) (by omega) E_113 (fun _ => E_113) (by decide) dX8_wood_54 ?_
    refine k_nw (fun w9 ew9 => ?_)
    have h := nm_use h w9 ew9
    refine k_aload_n O dX8_wood_55 0 rfl ?_
    refine k_get O (v := .ref (g_ad X.1 113)) (k := 105) (by omega) E_105 rfl 14 (by decide) (fun _ h9 => List.mem_cons_of_mem _ (List.mem_append_right _ h9)) (List.mem_of_getElem? (i := 8) rfl) rfl dX8_wood_56 ?_
    refine k_iconst O dX8_wood_59 (v := 1) (by decide) ?_
    refine k_iconst O dX8_wood_60 (v := 0) (by decide) ?_
    refine k_iast O (k := 113) (by omega) E_113 (fun _ => E_113) (by decide) dX8_wood_61 ?_
    refine k_nw (fun w10 ew10 => ?_)
    have h := nm_use h w10 ew10
    refine k_aload_n O dX8_wood_62 0 rfl ?_
    refine k_get O (v := .ref (g_ad X.1 113)) (k := 105) (by omega) E_105 rfl 14 (by decide) (fun _ h9 => List.mem_cons_of_mem _ (List.mem_append_right _ h9)) (List.mem_of_getElem? (i := 8) rfl) rfl dX8_wood_63 ?_
    refine k_iconst O dX8_wood_66 (v := 2) (by decide) ?_
    refine k_iconst O dX8_wood_67 (v := 0) (by decide) ?_
    refine k_iast O (k := 113) (by omega) E_113 (fun _ => E_113) (by decide) dX8_wood_68 ?_
    refine k_nw (fun w11 ew11 => ?_)
    have h := nm_use h w11 ew11
    refine k_aload_n O dX8_wood_69 0 rfl ?_
    refine k_get O (v := .ref (g_ad X.1 113)) (k := 105) (by omega) E_105 rfl 14 (by decide) (fun _ h9 => List.mem_cons_of_mem _ (List.mem_append_right _ h9)) (List.mem_of_getElem? (i := 8) rfl) rfl dX8_wood_70 ?_
    refine k_iconst O dX8_wood_73 (v := 3) (by decide) ?_
    refine k_iconst O dX8_wood_74 (v := 0) (by decide) ?_
    refine k_iast O (k := 113) (by omega) E_113 (fun _ => E_113) (by decide) dX8_wood_75 ?_
    refine k_nw (fun w12 ew12 => ?_)
    have h := nm_use h w12 ew12
    refine k_iconst O dX8_wood_76 (v := 0) (by decide) ?_
    refine k_istore_n (lv' := [(1, .int ((0 : Int32))), (0, .ref (g_ad X.1 105))]) O dX8_wood_77 rfl (by decide) rfl ?_
    exact k_sub [1, 0] rfl (w_X8_wood_78 O hN ho LF h)
  · have h := ite_f c4 h
    refine k_bipush O dX8_wood_9 (v := -3) (by decide) ?_
    exact k_iret O dX8_wood_11 (rt_int h ho)
theorem c_X8_wood (l : Launch) (G : Gl) (hN : 121 ≤ g_N G) {w wz : Wd} {rz : Int32} (h : f_X8_wood w  = some (rz, wz)) : Ct l yX8_wood wsX8_wood (5) (112) G [.ref (g_ad G 105)] w (some (.int rz), wz) := by
  refine Ct.start (by decide) rfl rfl rfl (Nat.le_of_ble_eq_true rfl) (fun X hG ho hl O => ?_)
  subst hG
  subst hl
  exact k_sub [0] rfl (w_X8_wood_0 O hN ho h)
def b_X8_isTrap_0 (w : Wd) (v1 : Int32) : Option (Int32 × Wd) := bd (f_X8_in w ((v1).toInt64) ((0 : Int64)) ((((w.1 105 10) - ((1 : Int32)))).toInt64)) (fun r3 w2 => gd (bb r3) (some (r3, w2)))
def f_X8_isTrap (w : Wd) (v1 : Int32) : Option (Int32 × Wd) := b_X8_isTrap_0 w v1
set_option maxHeartbeats 4000000 in
set_option maxRecDepth 100000 in
theorem w_X8_isTrap_0 {X : Cx} {rz : Int32} {wz : Wd} (O : Ok X cX8_isTrap RX8 ((some .boolean)) wsX8_isTrap (1) (25) 2) (hN : 121 ≤ g_N X.1) (ho : Ro X (some (.int rz), wz)) {w : Wd} {v1 : Int32} (h : b_X8_isTrap_0 w v1 = some (rz, wz)) : Wk X w 0 [(0, .ref (g_ad X.1 105)), (1, .int v1)] [] := by
  unfold b_X8_isTrap_0 at h
  refine k_iload_n O dX8_isTrap_0 1 rfl ?_
  refine k_i2l O dX8_isTrap_1 ?_
  refine k_lconst O dX8_isTrap_2 (v := 0) (by decide) ?_
  refine k_aload_n O dX8_isTrap_3 0 rfl ?_
  refine k_get O (v := .int (w.1 105 10)) (k := 105) (by omega) E_105 rfl 10 (by decide) (fun _ h9 => List.mem_cons_of_mem _ (List.mem_append_right _ h9)) (List.mem_of_getElem? (i := 1) rfl) rfl dX8_isTrap_4 ?_
  refine k_iconst O dX8_isTrap_7 (v := 1) (by decide) ?_
  refine k_isub O dX8_isTrap_8 ?_
  refine k_i2l O dX8_isTrap_9 ?_
  obtain ⟨r3, w2, hc1, h⟩ := bd_some h
  refine k_callSi O (As := [.long ((v1).toInt64), .long ((0 : Int64)), .long ((((w.1 105 10) - ((1 : Int32)))).toInt64)]) (rest := []) (c_X8_in (x_l X) X.1 hc1) gX8_isTrap_X8_in rfl hd_X8_in (by decide) rfl rfl (Nat.le_of_ble_eq_true rfl) dX8_isTrap_10 ?_
  obtain ⟨g4, h⟩ := gd_some h
  exact k_zret O (bb_nar g4) dX8_isTrap_13 (rt_int h ho)
theorem c_X8_isTrap (l : Launch) (G : Gl) (hN : 121 ≤ g_N G) {w wz : Wd} {v1 : Int32} {rz : Int32} (h : f_X8_isTrap w v1 = some (rz, wz)) : Ct l yX8_isTrap wsX8_isTrap (1) (25) G [.ref (g_ad G 105), .int v1] w (some (.int rz), wz) := by
  refine Ct.start (by decide) rfl rfl rfl (Nat.le_of_ble_eq_true rfl) (fun X hG ho hl O => ?_)
  subst hG
  subst hl
  exact k_sub [0, 1] rfl (w_X8_isTrap_0 O hN ho h)
def b_X8_isWalker_0 (w : Wd) (v1 : Int32) : Option (Int32 × Wd) := bd (f_X8_in w ((v1).toInt64) ((0 : Int64)) ((((w.1 105 11) - ((1 : Int32)))).toInt64)) (fun r3 w2 => gd (bb r3) (some (r3, w2)))
def f_X8_isWalker (w : Wd) (v1 : Int32) : Option (Int32 × Wd) := b_X8_isWalker_0 w v1
set_option maxHeartbeats 4000000 in
set_option maxRecDepth 100000 in
theorem w_X8_isWalker_0 {X : Cx} {rz : Int32} {wz : Wd} (O : Ok X cX8_isWalker RX8 ((some .boolean)) wsX8_isWalker (1) (25) 2) (hN : 121 ≤ g_N X.1) (ho : Ro X (some (.int rz), wz)) {w : Wd} {v1 : Int32} (h : b_X8_isWalker_0 w v1 = some (rz, wz)) : Wk X w 0 [(0, .ref (g_ad X.1 105)), (1, .int v1)] [] := by
  unfold b_X8_isWalker_0 at h
  refine k_iload_n O dX8_isWalker_0 1 rfl ?_
  refine k_i2l O dX8_isWalker_1 ?_
  refine k_lconst O dX8_isWalker_2 (v := 0) (by decide) ?_
  refine k_aload_n O dX8_isWalker_3 0 rfl ?_
  refine k_get O (v := .int (w.1 105 11)) (k := 105) (by omega) E_105 rfl 11 (by decide) (fun _ h9 => List.mem_cons_of_mem _ (List.mem_append_right _ h9)) (List.mem_of_getElem? (i := 1) rfl) rfl dX8_isWalker_4 ?_
  refine k_iconst O dX8_isWalker_7 (v := 1) (by decide) ?_
  refine k_isub O dX8_isWalker_8 ?_
  refine k_i2l O dX8_isWalker_9 ?_
  obtain ⟨r3, w2, hc1, h⟩ := bd_some h
  refine k_callSi O (As := [.long ((v1).toInt64), .long ((0 : Int64)), .long ((((w.1 105 11) - ((1 : Int32)))).toInt64)]) (rest := []) (c_X8_in (x_l X) X.1 hc1) gX8_isWalker_X8_in rfl hd_X8_in (by decide) rfl rfl (Nat.le_of_ble_eq_true rfl) dX8_isWalker_10 ?_
  obtain ⟨g4, h⟩ := gd_some h
  exact k_zret O (bb_nar g4) dX8_isWalker_13 (rt_int h ho)
theorem c_X8_isWalker (l : Launch) (G : Gl) (hN : 121 ≤ g_N G) {w wz : Wd} {v1 : Int32} {rz : Int32} (h : f_X8_isWalker w v1 = some (rz, wz)) : Ct l yX8_isWalker wsX8_isWalker (1) (25) G [.ref (g_ad G 105), .int v1] w (some (.int rz), wz) := by
  refine Ct.start (by decide) rfl rfl rfl (Nat.le_of_ble_eq_true rfl) (fun X hG ho hl O => ?_)
  subst hG
  subst hl
  exact k_sub [0, 1] rfl (w_X8_isWalker_0 O hN ho h)
def b_X8_isCell_0 (w : Wd) (v0 : Int32) : Option (Int32 × Wd) := bd (f_X8_in w ((v0).toInt64) ((0 : Int64)) ((11 : Int64))) (fun r3 w2 => gd (bb r3) (some (r3, w2)))
def f_X8_isCell (w : Wd) (v0 : Int32) : Option (Int32 × Wd) := b_X8_isCell_0 w v0
set_option maxHeartbeats 4000000 in
set_option maxRecDepth 100000 in
theorem w_X8_isCell_0 {X : Cx} {rz : Int32} {wz : Wd} (O : Ok X cX8_isCell RX8 ((some .boolean)) wsX8_isCell (1) (25) 1) (ho : Ro X (some (.int rz), wz)) {w : Wd} {v0 : Int32} (h : b_X8_isCell_0 w v0 = some (rz, wz)) : Wk X w 0 [(0, .int v0)] [] := by
  unfold b_X8_isCell_0 at h
  refine k_iload_n O dX8_isCell_0 0 rfl ?_
  refine k_i2l O dX8_isCell_1 ?_
  refine k_lconst O dX8_isCell_2 (v := 0) (by decide) ?_
  refine k_ldc2 O dX8_isCell_3 (List.mem_of_getElem? (i := 1) rfl) ?_
  obtain ⟨r3, w2, hc1, h⟩ := bd_some h
  refine k_callSi O (As := [.long ((v0).toInt64), .long ((0 : Int64)), .long ((11 : Int64))]) (rest := []) (c_X8_in (x_l X) X.1 hc1) gX8_isCell_X8_in rfl hd_X8_in (by decide) rfl rfl (Nat.le_of_ble_eq_true rfl) dX8_isCell_6 ?_
  obtain ⟨g4, h⟩ := gd_some h
  exact k_zret O (bb_nar g4) dX8_isCell_9 (rt_int h ho)
theorem c_X8_isCell (l : Launch) (G : Gl) {w wz : Wd} {v0 : Int32} {rz : Int32} (h : f_X8_isCell w v0 = some (rz, wz)) : Ct l yX8_isCell wsX8_isCell (1) (25) G [.int v0] w (some (.int rz), wz) := by
  refine Ct.start (by decide) rfl rfl rfl (Nat.le_of_ble_eq_true rfl) (fun X hG ho hl O => ?_)
  subst hG
  subst hl
  exact k_sub [0] rfl (w_X8_isCell_0 O ho h)
def b_X8_trap_0 (w : Wd) (v1 : Int32) (v2 : Int32) : Option (Int32 × Wd) := bd (f_X8_isTrap w v1) (fun r3 w2 => if r3 = 0 then (some ((-1 : Int32), w2)) else (if v2 = (0 : Int32) then (gd (inb v1 7) (some (w2.1 108 v1.toNatClampNeg, w2))) else (if v2 = (1 : Int32) then (gd (inb v1 7) (some (w2.1 109 v1.toNatClampNeg, w2))) else (if v2 = (2 : Int32) then (gd (inb v1 7) (some (w2.1 110 v1.toNatClampNeg, w2))) else (if v2 = (3 : Int32) then (gd (inb v1 7) (some (w2.1 111 v1.toNatClampNeg, w2))) else (if v2 = (4 : Int32) then (some (((w2.1 113 ((0 : Int32)).toNatClampNeg) >>> (v1 &&& 31)) &&& ((1 : Int32)), w2)) else (if v2 = (5 : Int32) then (some (((w2.1 113 ((1 : Int32)).toNatClampNeg) >>> (v1 &&& 31)) &&& ((1 : Int32)), w2)) else (if v2 = (6 : Int32) then (some ((((w2.1 113 ((2 : Int32)).toNatClampNeg) >>> (v1 &&& 31)) &&& ((1 : Int32))) + (((2 : Int32)) * (((w2.1 113 ((3 : Int32)).toNatClampNeg) >>> (v1 &&& 31)) &&& ((1 : Int32)))), w2)) else (some ((-2 : Int32), w2))))))))))
def f_X8_trap (w : Wd) (v1 : Int32) (v2 : Int32) : Option (Int32 × Wd) := b_X8_trap_0 w v1 v2
set_option maxHeartbeats 4000000 in
set_option maxRecDepth 100000 in
theorem w_X8_trap_0 {X : Cx} {rz : Int32} {wz : Wd} (O : Ok X cX8_trap RX8 ((some .int)) wsX8_trap (2) (46) 3) (hN : 121 ≤ g_N X.1) (ho : Ro X (some (.int rz), wz)) {w : Wd} {v1 : Int32} {v2 : Int32} (h : b_X8_trap_0 w v1 v2 = some (rz, wz)) : Wk X w 0 [(0, .ref (g_ad X.1 105)), (1, .int v1), (2, .int v2)] [] := by
  unfold b_X8_trap_0 at h
  refine k_aload_n O dX8_trap_0 0 rfl ?_
  refine k_iload_n O dX8_trap_1 1 rfl ?_
  obtain ⟨r3, w2, hc1, h⟩ := bd_some h
  refine k_callVi O (As := [.int v1]) (rest := []) (k := 105) (c_X8_isTrap (x_l X) X.1 hN hc1) gX8_trap_X8_isTrap rfl hd_X8_isTrap (by decide) (by omega) E_105 rfl rfl rfl rfl rfl (Nat.le_of_ble_eq_true rfl) dX8_trap_2 ?_
  refine k_if_ne O 10 dX8_trap_5 (by decide) (fun c4 => ?_) (fun c4 => ?_)
  · have h := ite_f c4 h
    refine k_iload_n O dX8_trap_10 2 rfl ?_
    refine (Decidable.em (v2 = (0 : Int32))).elim (fun c5 => ?_) (fun c5 => ?_)
    · have h := ite_t c5 h
      refine k_tabIn O 52 dX8_trap_11 (by rw [c5]; decide) (by rw [c5]; decide) (off := 41) (by rw [c5]; try rfl) (by decide) ?_
      refine k_aload_n O dX8_trap_52 0 rfl ?_
      refine k_get O (v := .ref (g_ad X.1 108)) (k := 105) (by omega) E_105 rfl 5 (by decide) (fun _ h9 => List.mem_cons_of_mem _ (List.mem_append_right _ h9)) (List.mem_of_getElem? (i := 1) rfl) rfl dX8_trap_53 ?_
      refine k_iload_n O dX8_trap_56 1 rfl ?_
      obtain ⟨g6, h⟩ := gd_some h
      refine k_iald O (k := 108) (by omega) E_108 g6 dX8_trap_57 ?_
      exact k_iret O dX8_trap_58 (rt_int h ho)
    · have h := ite_f c5 h
      refine (Decidable.em (v2 = (1 : Int32))).elim (fun c7 => ?_) (fun c7 => ?_)
      · have h := ite_t c7 h
        refine k_tabIn O 59 dX8_trap_11 (by rw [c7]; decide) (by rw [c7]; decide) (off := 48) (by rw [c7]; try rfl) (by decide) ?_
        refine k_aload_n O dX8_trap_59 0 rfl ?_
        refine k_get O (v := .ref (g_ad X.1 109)) (k := 105) (by omega) E_105 rfl 6 (by decide) (fun _ h9 => List.mem_cons_of_mem _ (List.mem_append_right _ h9)) (List.mem_of_getElem? (i := 2) rfl) rfl dX8_trap_60 ?_
        refine k_iload_n O dX8_trap_63 1 rfl ?_
        obtain ⟨g8, h⟩ := gd_some h
        refine k_iald O (k := 109) (by omega) E_109 g8 dX8_trap_64 ?_
        exact k_iret O dX8_trap_65 (rt_int h ho)
      · have h := ite_f c7 h
        refine (Decidable.em (v2 = (2 : Int32))).elim (fun c9 => ?_) (fun c9 => ?_)
        · have h := ite_t c9 h
          refine k_tabIn O 66 dX8_trap_11 (by rw [c9]; decide) (by rw [c9]; decide) (off := 55) (by rw [c9]; try rfl) (by decide) ?_
          refine k_aload_n O dX8_trap_66 0 rfl ?_
          refine k_get O (v := .ref (g_ad X.1 110)) (k := 105) (by omega) E_105 rfl 7 (by decide) (fun _ h9 => List.mem_cons_of_mem _ (List.mem_append_right _ h9)) (List.mem_of_getElem? (i := 3) rfl) rfl dX8_trap_67 ?_
          refine k_iload_n O dX8_trap_70 1 rfl ?_
          obtain ⟨g10, h⟩ := gd_some h
          refine k_iald O (k := 110) (by omega) E_110 g10 dX8_trap_71 ?_
          exact k_iret O dX8_trap_72 (rt_int h ho)
        · have h := ite_f c9 h
          refine (Decidable.em (v2 = (3 : Int32))).elim (fun c11 => ?_) (fun c11 => ?_)
          · have h := ite_t c11 h
            refine k_tabIn O 73 dX8_trap_11 (by rw [c11]; decide) (by rw [c11]; decide) (off := 62) (by rw [c11]; try rfl) (by decide) ?_
            refine k_aload_n O dX8_trap_73 0 rfl ?_
            refine k_get O (v := .ref (g_ad X.1 111)) (k := 105) (by omega) E_105 rfl 8 (by decide) (fun _ h9 => List.mem_cons_of_mem _ (List.mem_append_right _ h9)) (List.mem_of_getElem? (i := 4) rfl) rfl dX8_trap_74 ?_
            refine k_iload_n O dX8_trap_77 1 rfl ?_
            obtain ⟨g12, h⟩ := gd_some h
            refine k_iald O (k := 111) (by omega) E_111 g12 dX8_trap_78 ?_
            exact k_iret O dX8_trap_79 (rt_int h ho)
          · have h := ite_f c11 h
            refine (Decidable.em (v2 = (4 : Int32))).elim (fun c13 => ?_) (fun c13 => ?_)
            · have h := ite_t c13 h
              refine k_tabIn O 80 dX8_trap_11 (by rw [c13]; decide) (by rw [c13]; decide) (off := 69) (by rw [c13]; try rfl) (by decide) ?_
              refine k_aload_n O dX8_trap_80 0 rfl ?_
              refine k_get O (v := .ref (g_ad X.1 113)) (k := 105) (by omega) E_105 rfl 14 (by decide) (fun _ h9 => List.mem_cons_of_mem _ (List.mem_append_right _ h9)) (List.mem_of_getElem? (i := 5) rfl) rfl dX8_trap_81 ?_
              refine k_iconst O dX8_trap_84 (v := 0) (by decide) ?_
              refine k_iald O (k := 113) (by omega) E_113 (by decide) dX8_trap_85 ?_
              refine k_iload_n O dX8_trap_86 1 rfl ?_
              refine k_ishr O dX8_trap_87 ?_
              refine k_iconst O dX8_trap_88 (v := 1) (by decide) ?_
              refine k_iand O dX8_trap_89 ?_
              exact k_iret O dX8_trap_90 (rt_int h ho)
            · have h := ite_f c13 h
              refine (Decidable.em (v2 = (5 : Int32))).elim (fun c14 => ?_) (fun c14 => ?_)
              · have h := ite_t c14 h
                refine k_tabIn O 91 dX8_trap_11 (by rw [c14]; decide) (by rw [c14]; decide) (off := 80) (by rw [c14]; try rfl) (by decide) ?_
                refine k_aload_n O dX8_trap_91 0 rfl ?_
                refine k_get O (v := .ref (g_ad X.1 113)) (k := 105) (by omega) E_105 rfl 14 (by decide) (fun _ h9 => List.mem_cons_of_mem _ (List.mem_append_right _ h9)) (List.mem_of_getElem? (i := 5) rfl) rfl dX8_trap_92 ?_
                refine k_iconst O dX8_trap_95 (v := 1) (by decide) ?_
                refine k_iald O (k := 113) (by omega) E_113 (by decide) dX8_trap_96 ?_
                refine k_iload_n O dX8_trap_97 1 rfl ?_
                refine k_ishr O dX8_trap_98 ?_
                refine k_iconst O dX8_trap_99 (v := 1) (by decide) ?_
                refine k_iand O dX8_trap_100 ?_
                exact k_iret O dX8_trap_101 (rt_int h ho)
              · have h := ite_f c14 h
                refine (Decidable.em (v2 = (6 : Int32))).elim (fun c15 => ?_) (fun c15 => ?_)
                · have h := ite_t c15 h
                  refine k_tabIn O 102 dX8_trap_11 (by rw [c15]; decide) (by rw [c15]; decide) (off := 91) (by rw [c15]; try rfl) (by decide) ?_
                  refine k_aload_n O dX8_trap_102 0 rfl ?_
                  refine k_get O (v := .ref (g_ad X.1 113)) (k := 105) (by omega) E_105 rfl 14 (by decide) (fun _ h9 => List.mem_cons_of_mem _ (List.mem_append_right _ h9)) (List.mem_of_getElem? (i := 5) rfl) rfl dX8_trap_103 ?_
                  refine k_iconst O dX8_trap_106 (v := 2) (by decide) ?_
                  refine k_iald O (k := 113) (by omega) E_113 (by decide) dX8_trap_107 ?_
                  refine k_iload_n O dX8_trap_108 1 rfl ?_
                  refine k_ishr O dX8_trap_109 ?_
                  refine k_iconst O dX8_trap_110 (v := 1) (by decide) ?_
                  refine k_iand O dX8_trap_111 ?_
                  refine k_iconst O dX8_trap_112 (v := 2) (by decide) ?_
                  refine k_aload_n O dX8_trap_113 0 rfl ?_
                  refine k_get O (v := .ref (g_ad X.1 113)) (k := 105) (by omega) E_105 rfl 14 (by decide) (fun _ h9 => List.mem_cons_of_mem _ (List.mem_append_right _ h9)) (List.mem_of_getElem? (i := 5) rfl) rfl dX8_trap_114 ?_
                  refine k_iconst O dX8_trap_117 (v := 3) (by decide) ?_
                  refine k_iald O (k := 113) (by omega) E_113 (by decide) dX8_trap_118 ?_
                  refine k_iload_n O dX8_trap_119 1 rfl ?_
                  refine k_ishr O dX8_trap_120 ?_
                  refine k_iconst O dX8_trap_121 (v := 1) (by decide) ?_
                  refine k_iand O dX8_trap_122 ?_
                  refine k_imul O dX8_trap_123 ?_
                  refine k_iadd O dX8_trap_124 ?_
                  exact k_iret O dX8_trap_125 (rt_int h ho)
                · have h := ite_f c15 h
                  refine k_tabOut O 126 dX8_trap_11 (by have nc5 := lv_neT c5 (a := 0) (by decide); have nc7 := lv_neT c7 (a := 1) (by decide); have nc9 := lv_neT c9 (a := 2) (by decide); have nc11 := lv_neT c11 (a := 3) (by decide); have nc13 := lv_neT c13 (a := 4) (by decide); have nc14 := lv_neT c14 (a := 5) (by decide); have nc15 := lv_neT c15 (a := 6) (by decide); omega) (by decide) ?_
                  refine k_bipush O dX8_trap_126 (v := -2) (by decide) ?_
                  exact k_iret O dX8_trap_128 (rt_int h ho)
  · have h := ite_t c4 h
    refine k_iconst O dX8_trap_8 (v := -1) (by decide) ?_
    exact k_iret O dX8_trap_9 (rt_int h ho)
theorem c_X8_trap (l : Launch) (G : Gl) (hN : 121 ≤ g_N G) {w wz : Wd} {v1 : Int32} {v2 : Int32} {rz : Int32} (h : f_X8_trap w v1 v2 = some (rz, wz)) : Ct l yX8_trap wsX8_trap (2) (46) G [.ref (g_ad G 105), .int v1, .int v2] w (some (.int rz), wz) := by
  refine Ct.start (by decide) rfl rfl rfl (Nat.le_of_ble_eq_true rfl) (fun X hG ho hl O => ?_)
  subst hG
  subst hl
  exact k_sub [0, 1, 2] rfl (w_X8_trap_0 O hN ho h)
def b_X8_walker_0 (w : Wd) (v1 : Int32) (v2 : Int32) : Option (Int32 × Wd) := bd (f_X8_isWalker w v1) (fun r3 w2 => if r3 = 0 then (some ((-1 : Int32), w2)) else (if v2 = (0 : Int32) then (gd (inb (((4 : Int32)) + v1) 72) (some (w2.1 113 (((4 : Int32)) + v1).toNatClampNeg, w2))) else (if v2 = (1 : Int32) then (gd (inb v1 4) (some (w2.1 112 v1.toNatClampNeg, w2))) else (if v2 = (2 : Int32) then (gd (inb (((8 : Int32)) + v1) 72) (if (w2.1 113 (((8 : Int32)) + v1).toNatClampNeg) = ((-9 : Int32)) then (some ((0 : Int32), w2)) else (some ((1 : Int32), w2)))) else (if v2 = (3 : Int32) then (gd (inb (((8 : Int32)) + v1) 72) (some (w2.1 113 (((8 : Int32)) + v1).toNatClampNeg, w2))) else (some ((-2 : Int32), w2)))))))
def f_X8_walker (w : Wd) (v1 : Int32) (v2 : Int32) : Option (Int32 × Wd) := b_X8_walker_0 w v1 v2
set_option maxHeartbeats 4000000 in
set_option maxRecDepth 100000 in
theorem w_X8_walker_0 {X : Cx} {rz : Int32} {wz : Wd} (O : Ok X cX8_walker RX8 ((some .int)) wsX8_walker (2) (46) 3) (hN : 121 ≤ g_N X.1) (ho : Ro X (some (.int rz), wz)) {w : Wd} {v1 : Int32} {v2 : Int32} (h : b_X8_walker_0 w v1 v2 = some (rz, wz)) : Wk X w 0 [(0, .ref (g_ad X.1 105)), (1, .int v1), (2, .int v2)] [] := by
  unfold b_X8_walker_0 at h
  refine k_aload_n O dX8_walker_0 0 rfl ?_
  refine k_iload_n O dX8_walker_1 1 rfl ?_
  obtain ⟨r3, w2, hc1, h⟩ := bd_some h
  refine k_callVi O (As := [.int v1]) (rest := []) (k := 105) (c_X8_isWalker (x_l X) X.1 hN hc1) gX8_walker_X8_isWalker rfl hd_X8_isWalker (by decide) (by omega) E_105 rfl rfl rfl rfl rfl (Nat.le_of_ble_eq_true rfl) dX8_walker_2 ?_
  refine k_if_ne O 10 dX8_walker_5 (by decide) (fun c4 => ?_) (fun c4 => ?_)
  · have h := ite_f c4 h
    refine k_iload_n O dX8_walker_10 2 rfl ?_
    refine (Decidable.em (v2 = (0 : Int32))).elim (fun c5 => ?_) (fun c5 => ?_)
    · have h := ite_t c5 h
      refine k_tabIn O 40 dX8_walker_11 (by rw [c5]; decide) (by rw [c5]; decide) (off := 29) (by rw [c5]; try rfl) (by decide) ?_
      refine k_aload_n O dX8_walker_40 0 rfl ?_
      refine k_get O (v := .ref (g_ad X.1 113)) (k := 105) (by omega) E_105 rfl 14 (by decide) (fun _ h9 => List.mem_cons_of_mem _ (List.mem_append_right _ h9)) (List.mem_of_getElem? (i := 1) rfl) rfl dX8_walker_41 ?_
      refine k_iconst O dX8_walker_44 (v := 4) (by decide) ?_
      refine k_iload_n O dX8_walker_45 1 rfl ?_
      refine k_iadd O dX8_walker_46 ?_
      obtain ⟨g6, h⟩ := gd_some h
      refine k_iald O (k := 113) (by omega) E_113 g6 dX8_walker_47 ?_
      exact k_iret O dX8_walker_48 (rt_int h ho)
    · have h := ite_f c5 h
      refine (Decidable.em (v2 = (1 : Int32))).elim (fun c7 => ?_) (fun c7 => ?_)
      · have h := ite_t c7 h
        refine k_tabIn O 49 dX8_walker_11 (by rw [c7]; decide) (by rw [c7]; decide) (off := 38) (by rw [c7]; try rfl) (by decide) ?_
        refine k_aload_n O dX8_walker_49 0 rfl ?_
        refine k_get O (v := .ref (g_ad X.1 112)) (k := 105) (by omega) E_105 rfl 9 (by decide) (fun _ h9 => List.mem_cons_of_mem _ (List.mem_append_right _ h9)) (List.mem_of_getElem? (i := 2) rfl) rfl dX8_walker_50 ?_
        refine k_iload_n O dX8_walker_53 1 rfl ?_
        obtain ⟨g8, h⟩ := gd_some h
        refine k_iald O (k := 112) (by omega) E_112 g8 dX8_walker_54 ?_
        exact k_iret O dX8_walker_55 (rt_int h ho)
      · have h := ite_f c7 h
        refine (Decidable.em (v2 = (2 : Int32))).elim (fun c9 => ?_) (fun c9 => ?_)
        · have h := ite_t c9 h
          refine k_tabIn O 56 dX8_walker_11 (by rw [c9]; decide) (by rw [c9]; decide) (off := 45) (by rw [c9]; try rfl) (by decide) ?_
          refine k_aload_n O dX8_walker_56 0 rfl ?_
          refine k_get O (v := .ref (g_ad X.1 113)) (k := 105) (by omega) E_105 rfl 14 (by decide) (fun _ h9 => List.mem_cons_of_mem _ (List.mem_append_right _ h9)) (List.mem_of_getElem? (i := 1) rfl) rfl dX8_walker_57 ?_
          refine k_bipush O dX8_walker_60 (v := 8) (by decide) ?_
          refine k_iload_n O dX8_walker_62 1 rfl ?_
          refine k_iadd O dX8_walker_63 ?_
          obtain ⟨g10, h⟩ := gd_some h
          refine k_iald O (k := 113) (by omega) E_113 g10 dX8_walker_64 ?_
          refine k_bipush O dX8_walker_65 (v := -9) (by decide) ?_
          refine k_icmp_ne O 74 dX8_walker_67 (by decide) (fun c11 => ?_) (fun c11 => ?_)
          · have h := ite_f c11 h
            refine k_iconst O dX8_walker_74 (v := 1) (by decide) ?_
            exact k_iret O dX8_walker_75 (rt_int h ho)
          · have h := ite_t c11 h
            refine k_iconst O dX8_walker_70 (v := 0) (by decide) ?_
            refine k_goto O 75 dX8_walker_71 (by decide) ?_
            exact k_iret O dX8_walker_75 (rt_int h ho)
        · have h := ite_f c9 h
          refine (Decidable.em (v2 = (3 : Int32))).elim (fun c12 => ?_) (fun c12 => ?_)
          · have h := ite_t c12 h
            refine k_tabIn O 76 dX8_walker_11 (by rw [c12]; decide) (by rw [c12]; decide) (off := 65) (by rw [c12]; try rfl) (by decide) ?_
            refine k_aload_n O dX8_walker_76 0 rfl ?_
            refine k_get O (v := .ref (g_ad X.1 113)) (k := 105) (by omega) E_105 rfl 14 (by decide) (fun _ h9 => List.mem_cons_of_mem _ (List.mem_append_right _ h9)) (List.mem_of_getElem? (i := 1) rfl) rfl dX8_walker_77 ?_
            refine k_bipush O dX8_walker_80 (v := 8) (by decide) ?_
            refine k_iload_n O dX8_walker_82 1 rfl ?_
            refine k_iadd O dX8_walker_83 ?_
            obtain ⟨g13, h⟩ := gd_some h
            refine k_iald O (k := 113) (by omega) E_113 g13 dX8_walker_84 ?_
            exact k_iret O dX8_walker_85 (rt_int h ho)
          · have h := ite_f c12 h
            refine k_tabOut O 86 dX8_walker_11 (by have nc5 := lv_neT c5 (a := 0) (by decide); have nc7 := lv_neT c7 (a := 1) (by decide); have nc9 := lv_neT c9 (a := 2) (by decide); have nc12 := lv_neT c12 (a := 3) (by decide); omega) (by decide) ?_
            refine k_bipush O dX8_walker_86 (v := -2) (by decide) ?_
            exact k_iret O dX8_walker_88 (rt_int h ho)
  · have h := ite_t c4 h
    refine k_iconst O dX8_walker_8 (v := -1) (by decide) ?_
    exact k_iret O dX8_walker_9 (rt_int h ho)
theorem c_X8_walker (l : Launch) (G : Gl) (hN : 121 ≤ g_N G) {w wz : Wd} {v1 : Int32} {v2 : Int32} {rz : Int32} (h : f_X8_walker w v1 v2 = some (rz, wz)) : Ct l yX8_walker wsX8_walker (2) (46) G [.ref (g_ad G 105), .int v1, .int v2] w (some (.int rz), wz) := by
  refine Ct.start (by decide) rfl rfl rfl (Nat.le_of_ble_eq_true rfl) (fun X hG ho hl O => ?_)
  subst hG
  subst hl
  exact k_sub [0, 1, 2] rfl (w_X8_walker_0 O hN ho h)
