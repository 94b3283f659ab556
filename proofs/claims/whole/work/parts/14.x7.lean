def b_X7_write_0 (w : Wd) (v1 : Int32) (v2 : Int64) : Option (Int32 × Wd) := if v1 < ((1 : Int32)) then (some ((-2 : Int32), w)) else (if v1 ≤ ((8 : Int32)) then (if ((w.1 1 1) + v1) ≤ ((64 : Int32)) then (bd (f_X5_append w v1 v2) (fun r6 w5 => some (r6, w5))) else (some ((-4 : Int32), w))) else (some ((-2 : Int32), w)))
def f_X7_write (w : Wd) (v1 : Int32) (v2 : Int64) : Option (Int32 × Wd) := b_X7_write_0 w v1 v2
set_option maxHeartbeats 4000000 in
set_option maxRecDepth 100000 in
theorem w_X7_write_0 {X : Cx} {rz : Int32} {wz : Wd} (O : Ok X cX7_write RX7 ((some .int)) wsX7_write (1) (24) 4) (hN : 105 ≤ g_N X.1) (hz : g_mz X.1 = none) (ho : Ro X (some (.int rz), wz)) {w : Wd} {v1 : Int32} {v2 : Int64} (h : b_X7_write_0 w v1 v2 = some (rz, wz)) : Wk X w 0 [(0, .ref (g_ad X.1 0)), (1, .int v1), (2, .long v2)] [] := by
  unfold b_X7_write_0 at h
  refine k_iload_n O dX7_write_0 1 rfl ?_
  refine k_iconst O dX7_write_1 (v := 1) (by decide) ?_
  refine k_icmp_lt O 11 dX7_write_2 (by decide) (fun c1 => ?_) (fun c1 => ?_)
  · have h := ite_t c1 h
    refine k_bipush O dX7_write_11 (v := -2) (by decide) ?_
    exact k_iret O dX7_write_13 (rt_int h ho)
  · have h := ite_f c1 h
    refine k_iload_n O dX7_write_5 1 rfl ?_
    refine k_bipush O dX7_write_6 (v := 8) (by decide) ?_
    refine k_icmp_le O 14 dX7_write_8 (by decide) (fun c2 => ?_) (fun c2 => ?_)
    · have h := ite_t c2 h
      refine k_aload_n O dX7_write_14 0 rfl ?_
      refine k_get O (v := .ref (g_ad X.1 1)) (k := 0) (by omega) (E_0 hz) rfl 0 (by decide) (fun _ h9 => List.mem_cons_of_mem _ (List.mem_append_left _ (List.mem_append_right _ h9))) (List.mem_of_getElem? (i := 1) rfl) rfl dX7_write_15 ?_
      refine k_get O (v := .int (w.1 1 1)) (k := 1) (by omega) E_1 rfl 1 (by decide) (fun _ h9 => List.mem_cons_of_mem _ (List.mem_append_right _ h9)) (List.mem_of_getElem? (i := 2) rfl) rfl dX7_write_18 ?_
      refine k_iload_n O dX7_write_21 1 rfl ?_
      refine k_iadd O dX7_write_22 ?_
      refine k_bipush O dX7_write_23 (v := 64) (by decide) ?_
      refine k_icmp_le O 31 dX7_write_25 (by decide) (fun c3 => ?_) (fun c3 => ?_)
      · have h := ite_t c3 h
        refine k_aload_n O dX7_write_31 0 rfl ?_
        refine k_get O (v := .ref (g_ad X.1 1)) (k := 0) (by omega) (E_0 hz) rfl 0 (by decide) (fun _ h9 => List.mem_cons_of_mem _ (List.mem_append_left _ (List.mem_append_right _ h9))) (List.mem_of_getElem? (i := 1) rfl) rfl dX7_write_32 ?_
        refine k_iload_n O dX7_write_35 1 rfl ?_
        refine k_lload_n O dX7_write_36 2 rfl ?_
        obtain ⟨r6, w5, hc4, h⟩ := bd_some h
        refine k_callVi O (As := [.int v1, .long v2]) (rest := []) (k := 1) (c_X5_append (x_l X) X.1 hN hc4) gX7_write_X5_append rfl hd_X5_append (by decide) (by omega) E_1 rfl rfl rfl rfl rfl (Nat.le_of_ble_eq_true rfl) dX7_write_37 ?_
        exact k_iret O dX7_write_40 (rt_int h ho)
      · have h := ite_f c3 h
        refine k_bipush O dX7_write_28 (v := -4) (by decide) ?_
        exact k_iret O dX7_write_30 (rt_int h ho)
    · have h := ite_f c2 h
      refine k_bipush O dX7_write_11 (v := -2) (by decide) ?_
      exact k_iret O dX7_write_13 (rt_int h ho)
theorem c_X7_write (l : Launch) (G : Gl) (hN : 105 ≤ g_N G) (hz : g_mz G = none) {w wz : Wd} {v1 : Int32} {v2 : Int64} {rz : Int32} (h : f_X7_write w v1 v2 = some (rz, wz)) : Ct l yX7_write wsX7_write (1) (24) G [.ref (g_ad G 0), .int v1, .long v2] w (some (.int rz), wz) := by
  refine Ct.start (by decide) rfl rfl rfl (Nat.le_of_ble_eq_true rfl) (fun X hG ho hl O => ?_)
  subst hG
  subst hl
  exact k_sub [0, 1, 2] rfl (w_X7_write_0 O hN hz ho h)
def b_X7_wipe_0 (w : Wd) : Option (Int32 × Wd) := nm (w.1 1 1) (fun x1 => nm (up w 1 1 ((0 : Int32))) (fun w2 => some (x1, w2)))
def f_X7_wipe (w : Wd) : Option (Int32 × Wd) := b_X7_wipe_0 w 
set_option maxHeartbeats 4000000 in
set_option maxRecDepth 100000 in
theorem w_X7_wipe_0 {X : Cx} {rz : Int32} {wz : Wd} (O : Ok X cX7_wipe RX7 ((some .int)) wsX7_wipe (0) (0) 2) (hN : 105 ≤ g_N X.1) (hz : g_mz X.1 = none) (ho : Ro X (some (.int rz), wz)) {w : Wd} (h : b_X7_wipe_0 w  = some (rz, wz)) : Wk X w 0 [(0, .ref (g_ad X.1 0))] [] := by
  unfold b_X7_wipe_0 at h
  refine k_aload_n O dX7_wipe_0 0 rfl ?_
  refine k_get O (v := .ref (g_ad X.1 1)) (k := 0) (by omega) (E_0 hz) rfl 0 (by decide) (fun _ h9 => List.mem_cons_of_mem _ (List.mem_append_left _ (List.mem_append_right _ h9))) (List.mem_of_getElem? (i := 1) rfl) rfl dX7_wipe_1 ?_
  refine k_get O (v := .int (w.1 1 1)) (k := 1) (by omega) E_1 rfl 1 (by decide) (fun _ h9 => List.mem_cons_of_mem _ (List.mem_append_right _ h9)) (List.mem_of_getElem? (i := 2) rfl) rfl dX7_wipe_4 ?_
  refine k_topi (fun x1 ex1 => ?_)
  have h := nm_use h x1 ex1
  refine k_istore_n (lv' := [(1, .int x1), (0, .ref (g_ad X.1 0))]) O dX7_wipe_7 rfl (by decide) rfl ?_
  refine k_aload_n O dX7_wipe_8 1 rfl ?_
  refine k_get O (v := .ref (g_ad X.1 1)) (k := 0) (by omega) (E_0 hz) rfl 0 (by decide) (fun _ h9 => List.mem_cons_of_mem _ (List.mem_append_left _ (List.mem_append_right _ h9))) (List.mem_of_getElem? (i := 1) rfl) rfl dX7_wipe_9 ?_
  refine k_iconst O dX7_wipe_12 (v := 0) (by decide) ?_
  refine k_puti O (k := 1) tyX5 tyX5_ok nmX5 (by omega) E_1 rfl 1 (by decide) (fun _ h9 => List.mem_cons_of_mem _ (List.mem_append_right _ h9)) (List.mem_of_getElem? (i := 2) rfl) rfl rfl rfl (Nat.le_of_ble_eq_true rfl) (E_1.trans rfl) dX7_wipe_13 ?_
  refine k_nw (fun w2 ew2 => ?_)
  have h := nm_use h w2 ew2
  refine k_iload_n O dX7_wipe_16 0 rfl ?_
  exact k_iret O dX7_wipe_17 (rt_int h ho)
theorem c_X7_wipe (l : Launch) (G : Gl) (hN : 105 ≤ g_N G) (hz : g_mz G = none) {w wz : Wd} {rz : Int32} (h : f_X7_wipe w  = some (rz, wz)) : Ct l yX7_wipe wsX7_wipe (0) (0) G [.ref (g_ad G 0)] w (some (.int rz), wz) := by
  refine Ct.start (by decide) rfl rfl rfl (Nat.le_of_ble_eq_true rfl) (fun X hG ho hl O => ?_)
  subst hG
  subst hl
  exact k_sub [0] rfl (w_X7_wipe_0 O hN hz ho h)
def b_X7_fault_0 (w : Wd) : Option (Int32 × Wd) := bd (f_X2_read 3 w) (fun r3 w2 => some (r3, w2))
def f_X7_fault (w : Wd) : Option (Int32 × Wd) := b_X7_fault_0 w 
set_option maxHeartbeats 4000000 in
set_option maxRecDepth 100000 in
theorem w_X7_fault_0 {X : Cx} {rz : Int32} {wz : Wd} (O : Ok X cX7_fault RX7 ((some .int)) wsX7_fault (6) (129) 1) (hN : 105 ≤ g_N X.1) (hz : g_mz X.1 = none) (ho : Ro X (some (.int rz), wz)) {w : Wd} (h : b_X7_fault_0 w  = some (rz, wz)) : Wk X w 0 [(0, .ref (g_ad X.1 0))] [] := by
  unfold b_X7_fault_0 at h
  refine k_aload_n O dX7_fault_0 0 rfl ?_
  refine k_get O (v := .ref (g_ad X.1 10)) (k := 0) (by omega) (E_0 hz) rfl 1 (by decide) (fun _ h9 => List.mem_cons_of_mem _ (List.mem_append_left _ (List.mem_append_left _ (List.mem_append_left _ (List.mem_append_right _ h9))))) (List.mem_of_getElem? (i := 1) rfl) rfl dX7_fault_1 ?_
  refine k_aload_n O dX7_fault_4 0 rfl ?_
  refine k_get O (v := .ref (g_ad X.1 1)) (k := 0) (by omega) (E_0 hz) rfl 0 (by decide) (fun _ h9 => List.mem_cons_of_mem _ (List.mem_append_left _ (List.mem_append_left _ (List.mem_append_left _ (List.mem_append_right _ h9))))) (List.mem_of_getElem? (i := 2) rfl) rfl dX7_fault_5 ?_
  refine k_aload_n O dX7_fault_8 0 rfl ?_
  refine k_get O (v := .ref (g_ad X.1 3)) (k := 0) (by omega) (E_0 hz) rfl 2 (by decide) (fun _ h9 => List.mem_cons_of_mem _ (List.mem_append_left _ (List.mem_append_left _ (List.mem_append_left _ (List.mem_append_right _ h9))))) (List.mem_of_getElem? (i := 3) rfl) rfl dX7_fault_9 ?_
  obtain ⟨r3, w2, hc1, h⟩ := bd_some h
  refine k_callVi O (As := [.ref (g_ad X.1 1), .ref (g_ad X.1 3)]) (rest := []) (k := 10) (c_X2_read (x_l X) X.1 (by decide) (by omega) hN hc1) gX7_fault_X2_read rfl hd_X2_read (by decide) (by omega) E_10 rfl rfl rfl rfl rfl (Nat.le_of_ble_eq_true rfl) dX7_fault_12 ?_
  exact k_iret O dX7_fault_15 (rt_int h ho)
theorem c_X7_fault (l : Launch) (G : Gl) (hN : 105 ≤ g_N G) (hz : g_mz G = none) {w wz : Wd} {rz : Int32} (h : f_X7_fault w  = some (rz, wz)) : Ct l yX7_fault wsX7_fault (6) (129) G [.ref (g_ad G 0)] w (some (.int rz), wz) := by
  refine Ct.start (by decide) rfl rfl rfl (Nat.le_of_ble_eq_true rfl) (fun X hG ho hl O => ?_)
  subst hG
  subst hl
  exact k_sub [0] rfl (w_X7_fault_0 O hN hz ho h)
def b_X7_wood_55 : Nat → Wd → Int32 → Option (Int32 × Wd)
  | 0, _, _ => none
  | n + 1, w, v1 => if ((2 : Int32)) ≤ v1 then (some ((((10 : Int32)) * (w.1 11 0)) + (w.1 11 1), w)) else (gd (inb v1 2) (nm (up w 104 v1.toNatClampNeg ((0 : Int32))) (fun w3 => nm (v1 + (1 : Int32)) (fun x4 => b_X7_wood_55 n w3 x4))))
def b_X7_wood_0 (w : Wd) : Option (Int32 × Wd) := bd (f_X2_read 3 w) (fun r3 w2 => if r3 = ((-9 : Int32)) then (bd (f_X2_read 11 w2) (fun r7 w6 => bv (f_X3_begin 18 w6) (fun w9 => bv (f_X0_forget w9) (fun w11 => b_X7_wood_55 LF w11 ((0 : Int32)))))) else (some ((-3 : Int32), w2)))
def f_X7_wood (w : Wd) : Option (Int32 × Wd) := b_X7_wood_0 w 
set_option maxHeartbeats 4000000 in
set_option maxRecDepth 100000 in
theorem w_X7_wood_55 {X : Cx} {rz : Int32} {wz : Wd} (O : Ok X cX7_wood RX7 ((some .int)) wsX7_wood (6) (129) 2) (hN : 105 ≤ g_N X.1) (hz : g_mz X.1 = none) (ho : Ro X (some (.int rz), wz)) (n : Nat) : ∀ {w : Wd} {v1 : Int32}, b_X7_wood_55 n w v1 = some (rz, wz) → Wk X w 55 [(0, .ref (g_ad X.1 0)), (1, .int v1)] [] := by
  induction n with
  | zero => intro w v1 h; exact nomatch (show (none : Option (Int32 × Wd)) = some _ from h)
  | succ n ih =>
    intro w v1 h
    rw [b_X7_wood_55] at h
    refine k_iload_n O dX7_wood_55 1 rfl ?_
    refine k_iconst O dX7_wood_56 (v := 2) (by decide) ?_
    refine k_icmp_ge O 73 dX7_wood_57 (by decide) (fun c1 => ?_) (fun c1 => ?_)
    · have h := ite_t c1 h
      refine k_bipush O dX7_wood_73 (v := 10) (by decide) ?_
      refine k_aload_n O dX7_wood_75 0 rfl ?_
      refine k_get O (v := .ref (g_ad X.1 11)) (k := 0) (by omega) (E_0 hz) rfl 3 (by decide) (fun _ h9 => List.mem_cons_of_mem _ (List.mem_append_left _ (List.mem_append_left _ (List.mem_append_left _ (List.mem_append_left _ (List.mem_append_left _ (List.mem_append_right _ h9))))))) (List.mem_of_getElem? (i := 4) rfl) rfl dX7_wood_76 ?_
      refine k_get O (v := .int (w.1 11 0)) (k := 11) (by omega) (E_pl (by decide)) rfl 0 (by decide) (fun _ h9 => List.mem_cons_of_mem _ (List.mem_append_left _ (List.mem_append_left _ (List.mem_append_left _ (List.mem_append_left _ (List.mem_append_right _ h9)))))) (List.mem_of_getElem? (i := 8) rfl) rfl dX7_wood_79 ?_
      refine k_imul O dX7_wood_82 ?_
      refine k_aload_n O dX7_wood_83 0 rfl ?_
      refine k_get O (v := .ref (g_ad X.1 11)) (k := 0) (by omega) (E_0 hz) rfl 3 (by decide) (fun _ h9 => List.mem_cons_of_mem _ (List.mem_append_left _ (List.mem_append_left _ (List.mem_append_left _ (List.mem_append_left _ (List.mem_append_left _ (List.mem_append_right _ h9))))))) (List.mem_of_getElem? (i := 4) rfl) rfl dX7_wood_84 ?_
      refine k_get O (v := .int (w.1 11 1)) (k := 11) (by omega) (E_pl (by decide)) rfl 1 (by decide) (fun _ h9 => List.mem_cons_of_mem _ (List.mem_append_left _ (List.mem_append_left _ (List.mem_append_left _ (List.mem_append_left _ (List.mem_append_right _ h9)))))) (List.mem_of_getElem? (i := 9) rfl) rfl dX7_wood_87 ?_
      refine k_iadd O dX7_wood_90 ?_
      exact k_iret O dX7_wood_91 (rt_int h ho)
    · have h := ite_f c1 h
      refine k_aload_n O dX7_wood_60 0 rfl ?_
      refine k_get O (v := .ref (g_ad X.1 104)) (k := 0) (by omega) (E_0 hz) rfl 10 (by decide) (fun _ h9 => List.mem_cons_of_mem _ (List.mem_append_left _ (List.mem_append_left _ (List.mem_append_left _ (List.mem_append_left _ (List.mem_append_left _ (List.mem_append_right _ h9))))))) (List.mem_of_getElem? (i := 7) rfl) rfl dX7_wood_61 ?_
      refine k_iload_n O dX7_wood_64 1 rfl ?_
      refine k_iconst O dX7_wood_65 (v := 0) (by decide) ?_
      obtain ⟨g2, h⟩ := gd_some h
      refine k_zast O (k := 104) (by omega) E_104 (fun _ => E_104) g2 (by decide) dX7_wood_66 ?_
      refine k_nw (fun w3 ew3 => ?_)
      have h := nm_use h w3 ew3
      obtain ⟨x4, ex4⟩ : ∃ z : Int32, z = v1 + (1 : Int32) := ⟨_, rfl⟩
      have h := nm_use h x4 ex4
      refine k_iinc (lv' := [(1, .int x4), (0, .ref (g_ad X.1 0))]) O dX7_wood_67 1 rfl (by rw [ex4]; rfl) (by decide) rfl ?_
      refine k_goto O 55 dX7_wood_70 (by decide) ?_
      exact k_sub [1, 0] rfl (ih h)
set_option maxHeartbeats 4000000 in
set_option maxRecDepth 100000 in
theorem w_X7_wood_0 {X : Cx} {rz : Int32} {wz : Wd} (O : Ok X cX7_wood RX7 ((some .int)) wsX7_wood (6) (129) 2) (hN : 105 ≤ g_N X.1) (hz : g_mz X.1 = none) (ho : Ro X (some (.int rz), wz)) {w : Wd} (h : b_X7_wood_0 w  = some (rz, wz)) : Wk X w 0 [(0, .ref (g_ad X.1 0))] [] := by
  unfold b_X7_wood_0 at h
  refine k_aload_n O dX7_wood_0 0 rfl ?_
  refine k_get O (v := .ref (g_ad X.1 10)) (k := 0) (by omega) (E_0 hz) rfl 1 (by decide) (fun _ h9 => List.mem_cons_of_mem _ (List.mem_append_left _ (List.mem_append_left _ (List.mem_append_left _ (List.mem_append_left _ (List.mem_append_left _ (List.mem_append_right _ h9))))))) (List.mem_of_getElem? (i := 1) rfl) rfl dX7_wood_1 ?_
  refine k_aload_n O dX7_wood_4 0 rfl ?_
  refine k_get O (v := .ref (g_ad X.1 1)) (k := 0) (by omega) (E_0 hz) rfl 0 (by decide) (fun _ h9 => List.mem_cons_of_mem _ (List.mem_append_left _ (List.mem_append_left _ (List.mem_append_left _ (List.mem_append_left _ (List.mem_append_left _ (List.mem_append_right _ h9))))))) (List.mem_of_getElem? (i := 2) rfl) rfl dX7_wood_5 ?_
  refine k_aload_n O dX7_wood_8 0 rfl ?_
  refine k_get O (v := .ref (g_ad X.1 3)) (k := 0) (by omega) (E_0 hz) rfl 2 (by decide) (fun _ h9 => List.mem_cons_of_mem _ (List.mem_append_left _ (List.mem_append_left _ (List.mem_append_left _ (List.mem_append_left _ (List.mem_append_left _ (List.mem_append_right _ h9))))))) (List.mem_of_getElem? (i := 3) rfl) rfl dX7_wood_9 ?_
  obtain ⟨r3, w2, hc1, h⟩ := bd_some h
  refine k_callVi O (As := [.ref (g_ad X.1 1), .ref (g_ad X.1 3)]) (rest := []) (k := 10) (c_X2_read (x_l X) X.1 (by decide) (by omega) hN hc1) gX7_wood_X2_read rfl hd_X2_read (by decide) (by omega) E_10 rfl rfl rfl rfl rfl (Nat.le_of_ble_eq_true rfl) dX7_wood_12 ?_
  refine k_bipush O dX7_wood_15 (v := -9) (by decide) ?_
  refine k_icmp_eq O 23 dX7_wood_17 (by decide) (fun c4 => ?_) (fun c4 => ?_)
  · have h := ite_t c4 h
    refine k_aload_n O dX7_wood_23 0 rfl ?_
    refine k_get O (v := .ref (g_ad X.1 10)) (k := 0) (by omega) (E_0 hz) rfl 1 (by decide) (fun _ h9 => List.mem_cons_of_mem _ (List.mem_append_left _ (List.mem_append_left _ (List.mem_append_left _ (List.mem_append_left _ (List.mem_append_left _ (List.mem_append_right _ h9))))))) (List.mem_of_getElem? (i := 1) rfl) rfl dX7_wood_24 ?_
    refine k_aload_n O dX7_wood_27 0 rfl ?_
    refine k_get O (v := .ref (g_ad X.1 1)) (k := 0) (by omega) (E_0 hz) rfl 0 (by decide) (fun _ h9 => List.mem_cons_of_mem _ (List.mem_append_left _ (List.mem_append_left _ (List.mem_append_left _ (List.mem_append_left _ (List.mem_append_left _ (List.mem_append_right _ h9))))))) (List.mem_of_getElem? (i := 2) rfl) rfl dX7_wood_28 ?_
    refine k_aload_n O dX7_wood_31 0 rfl ?_
    refine k_get O (v := .ref (g_ad X.1 11)) (k := 0) (by omega) (E_0 hz) rfl 3 (by decide) (fun _ h9 => List.mem_cons_of_mem _ (List.mem_append_left _ (List.mem_append_left _ (List.mem_append_left _ (List.mem_append_left _ (List.mem_append_left _ (List.mem_append_right _ h9))))))) (List.mem_of_getElem? (i := 4) rfl) rfl dX7_wood_32 ?_
    obtain ⟨r7, w6, hc5, h⟩ := bd_some h
    refine k_callVi O (As := [.ref (g_ad X.1 1), .ref (g_ad X.1 11)]) (rest := []) (k := 10) (c_X2_read (x_l X) X.1 (by decide) (by omega) hN hc5) gX7_wood_X2_read rfl hd_X2_read (by decide) (by omega) E_10 rfl rfl rfl rfl rfl (Nat.le_of_ble_eq_true rfl) dX7_wood_35 ?_
    refine k_pop O dX7_wood_38 rfl ?_
    refine k_aload_n O dX7_wood_39 0 rfl ?_
    refine k_get O (v := .ref (g_ad X.1 18)) (k := 0) (by omega) (E_0 hz) rfl 4 (by decide) (fun _ h9 => List.mem_cons_of_mem _ (List.mem_append_left _ (List.mem_append_left _ (List.mem_append_left _ (List.mem_append_left _ (List.mem_append_left _ (List.mem_append_right _ h9))))))) (List.mem_of_getElem? (i := 5) rfl) rfl dX7_wood_40 ?_
    obtain ⟨w9, hc8, h⟩ := bv_some h
    refine k_callVv O (As := []) (rest := []) (k := 18) (c_X3_begin (x_l X) X.1 (by decide) (by omega) hc8) gX7_wood_X3_begin rfl hd_X3_begin (by decide) (by omega) (E_sc (by decide)) rfl rfl rfl rfl rfl (Nat.le_of_ble_eq_true rfl) dX7_wood_43 ?_
    refine k_aload_n O dX7_wood_46 0 rfl ?_
    refine k_get O (v := .ref (g_ad X.1 26)) (k := 0) (by omega) (E_0 hz) rfl 6 (by decide) (fun _ h9 => List.mem_cons_of_mem _ (List.mem_append_left _ (List.mem_append_left _ (List.mem_append_left _ (List.mem_append_left _ (List.mem_append_left _ (List.mem_append_right _ h9))))))) (List.mem_of_getElem? (i := 6) rfl) rfl dX7_wood_47 ?_
    obtain ⟨w11, hc10, h⟩ := bv_some h
    refine k_callVv O (As := []) (rest := []) (k := 26) (c_X0_forget (x_l X) X.1 hN hc10) gX7_wood_X0_forget rfl hd_X0_forget (by decide) (by omega) E_26 rfl rfl rfl rfl rfl (Nat.le_of_ble_eq_true rfl) dX7_wood_50 ?_
    refine k_iconst O dX7_wood_53 (v := 0) (by decide) ?_
    refine k_istore_n (lv' := [(1, .int ((0 : Int32))), (0, .ref (g_ad X.1 0))]) O dX7_wood_54 rfl (by decide) rfl ?_
    exact k_sub [1, 0] rfl (w_X7_wood_55 O hN hz ho LF h)
  · have h := ite_f c4 h
    refine k_bipush O dX7_wood_20 (v := -3) (by decide) ?_
    exact k_iret O dX7_wood_22 (rt_int h ho)
theorem c_X7_wood (l : Launch) (G : Gl) (hN : 105 ≤ g_N G) (hz : g_mz G = none) {w wz : Wd} {rz : Int32} (h : f_X7_wood w  = some (rz, wz)) : Ct l yX7_wood wsX7_wood (6) (129) G [.ref (g_ad G 0)] w (some (.int rz), wz) := by
  refine Ct.start (by decide) rfl rfl rfl (Nat.le_of_ble_eq_true rfl) (fun X hG ho hl O => ?_)
  subst hG
  subst hl
  exact k_sub [0] rfl (w_X7_wood_0 O hN hz ho h)
def b_X7_trap_0 (w : Wd) (v1 : Int32) (v2 : Int32) : Option (Int32 × Wd) := bd (f_X1_hasTrap 11 w v1) (fun r3 w2 => if r3 = 0 then (some ((-1 : Int32), w2)) else (if v2 = (0 : Int32) then (gd (inb v1 6) (some (w2.1 12 v1.toNatClampNeg, w2))) else (if v2 = (1 : Int32) then (gd (inb v1 6) (some (w2.1 13 v1.toNatClampNeg, w2))) else (if v2 = (2 : Int32) then (gd (inb v1 6) (some (w2.1 14 v1.toNatClampNeg, w2))) else (if v2 = (3 : Int32) then (gd (inb v1 6) (some (w2.1 15 v1.toNatClampNeg, w2))) else (if v2 = (4 : Int32) then (some (((w2.1 18 1) >>> (v1 &&& 31)) &&& ((1 : Int32)), w2)) else (if v2 = (5 : Int32) then (some (((w2.1 18 2) >>> (v1 &&& 31)) &&& ((1 : Int32)), w2)) else (if v2 = (6 : Int32) then (some ((((w2.1 19 ((0 : Int32)).toNatClampNeg) >>> (v1 &&& 31)) &&& ((1 : Int32))) ||| ((((w2.1 19 ((1 : Int32)).toNatClampNeg) >>> (v1 &&& 31)) &&& ((1 : Int32))) <<< (((1 : Int32)) &&& 31)), w2)) else (some ((-2 : Int32), w2))))))))))
def f_X7_trap (w : Wd) (v1 : Int32) (v2 : Int32) : Option (Int32 × Wd) := b_X7_trap_0 w v1 v2
set_option maxHeartbeats 4000000 in
set_option maxRecDepth 100000 in
theorem w_X7_trap_0 {X : Cx} {rz : Int32} {wz : Wd} (O : Ok X cX7_trap RX7 ((some .int)) wsX7_trap (1) (21) 3) (hN : 105 ≤ g_N X.1) (hz : g_mz X.1 = none) (ho : Ro X (some (.int rz), wz)) {w : Wd} {v1 : Int32} {v2 : Int32} (h : b_X7_trap_0 w v1 v2 = some (rz, wz)) : Wk X w 0 [(0, .ref (g_ad X.1 0)), (1, .int v1), (2, .int v2)] [] := by
  unfold b_X7_trap_0 at h
  refine k_aload_n O dX7_trap_0 0 rfl ?_
  refine k_get O (v := .ref (g_ad X.1 11)) (k := 0) (by omega) (E_0 hz) rfl 3 (by decide) (fun _ h9 => List.mem_cons_of_mem _ (List.mem_append_left _ (List.mem_append_left _ (List.mem_append_right _ h9)))) (List.mem_of_getElem? (i := 1) rfl) rfl dX7_trap_1 ?_
  refine k_iload_n O dX7_trap_4 1 rfl ?_
  obtain ⟨r3, w2, hc1, h⟩ := bd_some h
  refine k_callVi O (As := [.int v1]) (rest := []) (k := 11) (c_X1_hasTrap (x_l X) X.1 (by decide) (by omega) hc1) gX7_trap_X1_hasTrap rfl hd_X1_hasTrap (by decide) (by omega) (E_pl (by decide)) rfl rfl rfl rfl rfl (Nat.le_of_ble_eq_true rfl) dX7_trap_5 ?_
  refine k_if_ne O 13 dX7_trap_8 (by decide) (fun c4 => ?_) (fun c4 => ?_)
  · have h := ite_f c4 h
    refine k_iload_n O dX7_trap_13 2 rfl ?_
    refine (Decidable.em (v2 = (0 : Int32))).elim (fun c5 => ?_) (fun c5 => ?_)
    · have h := ite_t c5 h
      refine k_tabIn O 56 dX7_trap_14 (by rw [c5]; decide) (by rw [c5]; decide) (off := 42) (by rw [c5]; try rfl) (by decide) ?_
      refine k_aload_n O dX7_trap_56 0 rfl ?_
      refine k_get O (v := .ref (g_ad X.1 11)) (k := 0) (by omega) (E_0 hz) rfl 3 (by decide) (fun _ h9 => List.mem_cons_of_mem _ (List.mem_append_left _ (List.mem_append_left _ (List.mem_append_right _ h9)))) (List.mem_of_getElem? (i := 1) rfl) rfl dX7_trap_57 ?_
      refine k_get O (v := .ref (g_ad X.1 12)) (k := 11) (by omega) (E_pl (by decide)) rfl 6 (by decide) (fun _ h9 => List.mem_cons_of_mem _ (List.mem_append_left _ (List.mem_append_right _ h9))) (List.mem_of_getElem? (i := 2) rfl) rfl dX7_trap_60 ?_
      refine k_iload_n O dX7_trap_63 1 rfl ?_
      obtain ⟨g6, h⟩ := gd_some h
      refine k_iald O (k := 12) (by omega) (E_pl1 (by decide)) g6 dX7_trap_64 ?_
      exact k_iret O dX7_trap_65 (rt_int h ho)
    · have h := ite_f c5 h
      refine (Decidable.em (v2 = (1 : Int32))).elim (fun c7 => ?_) (fun c7 => ?_)
      · have h := ite_t c7 h
        refine k_tabIn O 66 dX7_trap_14 (by rw [c7]; decide) (by rw [c7]; decide) (off := 52) (by rw [c7]; try rfl) (by decide) ?_
        refine k_aload_n O dX7_trap_66 0 rfl ?_
        refine k_get O (v := .ref (g_ad X.1 11)) (k := 0) (by omega) (E_0 hz) rfl 3 (by decide) (fun _ h9 => List.mem_cons_of_mem _ (List.mem_append_left _ (List.mem_append_left _ (List.mem_append_right _ h9)))) (List.mem_of_getElem? (i := 1) rfl) rfl dX7_trap_67 ?_
        refine k_get O (v := .ref (g_ad X.1 13)) (k := 11) (by omega) (E_pl (by decide)) rfl 7 (by decide) (fun _ h9 => List.mem_cons_of_mem _ (List.mem_append_left _ (List.mem_append_right _ h9))) (List.mem_of_getElem? (i := 3) rfl) rfl dX7_trap_70 ?_
        refine k_iload_n O dX7_trap_73 1 rfl ?_
        obtain ⟨g8, h⟩ := gd_some h
        refine k_iald O (k := 13) (by omega) (E_pl2 (by decide)) g8 dX7_trap_74 ?_
        exact k_iret O dX7_trap_75 (rt_int h ho)
      · have h := ite_f c7 h
        refine (Decidable.em (v2 = (2 : Int32))).elim (fun c9 => ?_) (fun c9 => ?_)
        · have h := ite_t c9 h
          refine k_tabIn O 76 dX7_trap_14 (by rw [c9]; decide) (by rw [c9]; decide) (off := 62) (by rw [c9]; try rfl) (by decide) ?_
          refine k_aload_n O dX7_trap_76 0 rfl ?_
          refine k_get O (v := .ref (g_ad X.1 11)) (k := 0) (by omega) (E_0 hz) rfl 3 (by decide) (fun _ h9 => List.mem_cons_of_mem _ (List.mem_append_left _ (List.mem_append_left _ (List.mem_append_right _ h9)))) (List.mem_of_getElem? (i := 1) rfl) rfl dX7_trap_77 ?_
          refine k_get O (v := .ref (g_ad X.1 14)) (k := 11) (by omega) (E_pl (by decide)) rfl 8 (by decide) (fun _ h9 => List.mem_cons_of_mem _ (List.mem_append_left _ (List.mem_append_right _ h9))) (List.mem_of_getElem? (i := 4) rfl) rfl dX7_trap_80 ?_
          refine k_iload_n O dX7_trap_83 1 rfl ?_
          obtain ⟨g10, h⟩ := gd_some h
          refine k_iald O (k := 14) (by omega) (E_pl3 (by decide)) g10 dX7_trap_84 ?_
          exact k_iret O dX7_trap_85 (rt_int h ho)
        · have h := ite_f c9 h
          refine (Decidable.em (v2 = (3 : Int32))).elim (fun c11 => ?_) (fun c11 => ?_)
          · have h := ite_t c11 h
            refine k_tabIn O 86 dX7_trap_14 (by rw [c11]; decide) (by rw [c11]; decide) (off := 72) (by rw [c11]; try rfl) (by decide) ?_
            refine k_aload_n O dX7_trap_86 0 rfl ?_
            refine k_get O (v := .ref (g_ad X.1 11)) (k := 0) (by omega) (E_0 hz) rfl 3 (by decide) (fun _ h9 => List.mem_cons_of_mem _ (List.mem_append_left _ (List.mem_append_left _ (List.mem_append_right _ h9)))) (List.mem_of_getElem? (i := 1) rfl) rfl dX7_trap_87 ?_
            refine k_get O (v := .ref (g_ad X.1 15)) (k := 11) (by omega) (E_pl (by decide)) rfl 9 (by decide) (fun _ h9 => List.mem_cons_of_mem _ (List.mem_append_left _ (List.mem_append_right _ h9))) (List.mem_of_getElem? (i := 5) rfl) rfl dX7_trap_90 ?_
            refine k_iload_n O dX7_trap_93 1 rfl ?_
            obtain ⟨g12, h⟩ := gd_some h
            refine k_iald O (k := 15) (by omega) (E_pl4 (by decide)) g12 dX7_trap_94 ?_
            exact k_iret O dX7_trap_95 (rt_int h ho)
          · have h := ite_f c11 h
            refine (Decidable.em (v2 = (4 : Int32))).elim (fun c13 => ?_) (fun c13 => ?_)
            · have h := ite_t c13 h
              refine k_tabIn O 96 dX7_trap_14 (by rw [c13]; decide) (by rw [c13]; decide) (off := 82) (by rw [c13]; try rfl) (by decide) ?_
              refine k_aload_n O dX7_trap_96 0 rfl ?_
              refine k_get O (v := .ref (g_ad X.1 18)) (k := 0) (by omega) (E_0 hz) rfl 4 (by decide) (fun _ h9 => List.mem_cons_of_mem _ (List.mem_append_left _ (List.mem_append_left _ (List.mem_append_right _ h9)))) (List.mem_of_getElem? (i := 6) rfl) rfl dX7_trap_97 ?_
              refine k_get O (v := .int (w2.1 18 1)) (k := 18) (by omega) (E_sc (by decide)) rfl 1 (by decide) (fun _ h9 => List.mem_cons_of_mem _ (List.mem_append_right _ h9)) (List.mem_of_getElem? (i := 7) rfl) rfl dX7_trap_100 ?_
              refine k_iload_n O dX7_trap_103 1 rfl ?_
              refine k_ishr O dX7_trap_104 ?_
              refine k_iconst O dX7_trap_105 (v := 1) (by decide) ?_
              refine k_iand O dX7_trap_106 ?_
              exact k_iret O dX7_trap_107 (rt_int h ho)
            · have h := ite_f c13 h
              refine (Decidable.em (v2 = (5 : Int32))).elim (fun c14 => ?_) (fun c14 => ?_)
              · have h := ite_t c14 h
                refine k_tabIn O 108 dX7_trap_14 (by rw [c14]; decide) (by rw [c14]; decide) (off := 94) (by rw [c14]; try rfl) (by decide) ?_
                refine k_aload_n O dX7_trap_108 0 rfl ?_
                refine k_get O (v := .ref (g_ad X.1 18)) (k := 0) (by omega) (E_0 hz) rfl 4 (by decide) (fun _ h9 => List.mem_cons_of_mem _ (List.mem_append_left _ (List.mem_append_left _ (List.mem_append_right _ h9)))) (List.mem_of_getElem? (i := 6) rfl) rfl dX7_trap_109 ?_
                refine k_get O (v := .int (w2.1 18 2)) (k := 18) (by omega) (E_sc (by decide)) rfl 2 (by decide) (fun _ h9 => List.mem_cons_of_mem _ (List.mem_append_right _ h9)) (List.mem_of_getElem? (i := 8) rfl) rfl dX7_trap_112 ?_
                refine k_iload_n O dX7_trap_115 1 rfl ?_
                refine k_ishr O dX7_trap_116 ?_
                refine k_iconst O dX7_trap_117 (v := 1) (by decide) ?_
                refine k_iand O dX7_trap_118 ?_
                exact k_iret O dX7_trap_119 (rt_int h ho)
              · have h := ite_f c14 h
                refine (Decidable.em (v2 = (6 : Int32))).elim (fun c15 => ?_) (fun c15 => ?_)
                · have h := ite_t c15 h
                  refine k_tabIn O 120 dX7_trap_14 (by rw [c15]; decide) (by rw [c15]; decide) (off := 106) (by rw [c15]; try rfl) (by decide) ?_
                  refine k_aload_n O dX7_trap_120 0 rfl ?_
                  refine k_get O (v := .ref (g_ad X.1 18)) (k := 0) (by omega) (E_0 hz) rfl 4 (by decide) (fun _ h9 => List.mem_cons_of_mem _ (List.mem_append_left _ (List.mem_append_left _ (List.mem_append_right _ h9)))) (List.mem_of_getElem? (i := 6) rfl) rfl dX7_trap_121 ?_
                  refine k_get O (v := .ref (g_ad X.1 19)) (k := 18) (by omega) (E_sc (by decide)) rfl 4 (by decide) (fun _ h9 => List.mem_cons_of_mem _ (List.mem_append_right _ h9)) (List.mem_of_getElem? (i := 9) rfl) rfl dX7_trap_124 ?_
                  refine k_iconst O dX7_trap_127 (v := 0) (by decide) ?_
                  refine k_iald O (k := 19) (by omega) (E_sc1 (by decide)) (by decide) dX7_trap_128 ?_
                  refine k_iload_n O dX7_trap_129 1 rfl ?_
                  refine k_ishr O dX7_trap_130 ?_
                  refine k_iconst O dX7_trap_131 (v := 1) (by decide) ?_
                  refine k_iand O dX7_trap_132 ?_
                  refine k_aload_n O dX7_trap_133 0 rfl ?_
                  refine k_get O (v := .ref (g_ad X.1 18)) (k := 0) (by omega) (E_0 hz) rfl 4 (by decide) (fun _ h9 => List.mem_cons_of_mem _ (List.mem_append_left _ (List.mem_append_left _ (List.mem_append_right _ h9)))) (List.mem_of_getElem? (i := 6) rfl) rfl dX7_trap_134 ?_
                  refine k_get O (v := .ref (g_ad X.1 19)) (k := 18) (by omega) (E_sc (by decide)) rfl 4 (by decide) (fun _ h9 => List.mem_cons_of_mem _ (List.mem_append_right _ h9)) (List.mem_of_getElem? (i := 9) rfl) rfl dX7_trap_137 ?_
                  refine k_iconst O dX7_trap_140 (v := 1) (by decide) ?_
                  refine k_iald O (k := 19) (by omega) (E_sc1 (by decide)) (by decide) dX7_trap_141 ?_
                  refine k_iload_n O dX7_trap_142 1 rfl ?_
                  refine k_ishr O dX7_trap_143 ?_
                  refine k_iconst O dX7_trap_144 (v := 1) (by decide) ?_
                  refine k_iand O dX7_trap_145 ?_
                  refine k_iconst O dX7_trap_146 (v := 1) (by decide) ?_
                  refine k_ishl O dX7_trap_147 ?_
                  refine k_ior O dX7_trap_148 ?_
                  exact k_iret O dX7_trap_149 (rt_int h ho)
                · have h := ite_f c15 h
                  refine k_tabOut O 150 dX7_trap_14 (by have nc5 := lv_neT c5 (a := 0) (by decide); have nc7 := lv_neT c7 (a := 1) (by decide); have nc9 := lv_neT c9 (a := 2) (by decide); have nc11 := lv_neT c11 (a := 3) (by decide); have nc13 := lv_neT c13 (a := 4) (by decide); have nc14 := lv_neT c14 (a := 5) (by decide); have nc15 := lv_neT c15 (a := 6) (by decide); omega) (by decide) ?_
                  refine k_bipush O dX7_trap_150 (v := -2) (by decide) ?_
                  exact k_iret O dX7_trap_152 (rt_int h ho)
  · have h := ite_t c4 h
    refine k_iconst O dX7_trap_11 (v := -1) (by decide) ?_
    exact k_iret O dX7_trap_12 (rt_int h ho)
theorem c_X7_trap (l : Launch) (G : Gl) (hN : 105 ≤ g_N G) (hz : g_mz G = none) {w wz : Wd} {v1 : Int32} {v2 : Int32} {rz : Int32} (h : f_X7_trap w v1 v2 = some (rz, wz)) : Ct l yX7_trap wsX7_trap (1) (21) G [.ref (g_ad G 0), .int v1, .int v2] w (some (.int rz), wz) := by
  refine Ct.start (by decide) rfl rfl rfl (Nat.le_of_ble_eq_true rfl) (fun X hG ho hl O => ?_)
  subst hG
  subst hl
  exact k_sub [0, 1, 2] rfl (w_X7_trap_0 O hN hz ho h)
def b_X7_walker_0 (w : Wd) (v1 : Int32) (v2 : Int32) : Option (Int32 × Wd) := bd (f_X1_hasWalker 11 w v1) (fun r3 w2 => if r3 = 0 then (some ((-1 : Int32), w2)) else (if v2 = (0 : Int32) then (gd (inb v1 4) (some (w2.1 20 v1.toNatClampNeg, w2))) else (if v2 = (1 : Int32) then (gd (inb v1 4) (some (w2.1 17 v1.toNatClampNeg, w2))) else (if v2 = (2 : Int32) then (bd (f_X3_isFree 18 w2 v1) (fun r12 w11 => if r12 = 0 then (some ((1 : Int32), w11)) else (some ((0 : Int32), w11)))) else (if v2 = (3 : Int32) then (gd (inb v1 4) (some (w2.1 21 v1.toNatClampNeg, w2))) else (some ((-2 : Int32), w2)))))))
def f_X7_walker (w : Wd) (v1 : Int32) (v2 : Int32) : Option (Int32 × Wd) := b_X7_walker_0 w v1 v2
set_option maxHeartbeats 4000000 in
set_option maxRecDepth 100000 in
theorem w_X7_walker_0 {X : Cx} {rz : Int32} {wz : Wd} (O : Ok X cX7_walker RX7 ((some .int)) wsX7_walker (2) (42) 3) (hN : 105 ≤ g_N X.1) (hz : g_mz X.1 = none) (ho : Ro X (some (.int rz), wz)) {w : Wd} {v1 : Int32} {v2 : Int32} (h : b_X7_walker_0 w v1 v2 = some (rz, wz)) : Wk X w 0 [(0, .ref (g_ad X.1 0)), (1, .int v1), (2, .int v2)] [] := by
  unfold b_X7_walker_0 at h
  refine k_aload_n O dX7_walker_0 0 rfl ?_
  refine k_get O (v := .ref (g_ad X.1 11)) (k := 0) (by omega) (E_0 hz) rfl 3 (by decide) (fun _ h9 => List.mem_cons_of_mem _ (List.mem_append_left _ (List.mem_append_left _ (List.mem_append_right _ h9)))) (List.mem_of_getElem? (i := 1) rfl) rfl dX7_walker_1 ?_
  refine k_iload_n O dX7_walker_4 1 rfl ?_
  obtain ⟨r3, w2, hc1, h⟩ := bd_some h
  refine k_callVi O (As := [.int v1]) (rest := []) (k := 11) (c_X1_hasWalker (x_l X) X.1 (by decide) (by omega) hc1) gX7_walker_X1_hasWalker rfl hd_X1_hasWalker (by decide) (by omega) (E_pl (by decide)) rfl rfl rfl rfl rfl (Nat.le_of_ble_eq_true rfl) dX7_walker_5 ?_
  refine k_if_ne O 13 dX7_walker_8 (by decide) (fun c4 => ?_) (fun c4 => ?_)
  · have h := ite_f c4 h
    refine k_iload_n O dX7_walker_13 2 rfl ?_
    refine (Decidable.em (v2 = (0 : Int32))).elim (fun c5 => ?_) (fun c5 => ?_)
    · have h := ite_t c5 h
      refine k_tabIn O 44 dX7_walker_14 (by rw [c5]; decide) (by rw [c5]; decide) (off := 30) (by rw [c5]; try rfl) (by decide) ?_
      refine k_aload_n O dX7_walker_44 0 rfl ?_
      refine k_get O (v := .ref (g_ad X.1 18)) (k := 0) (by omega) (E_0 hz) rfl 4 (by decide) (fun _ h9 => List.mem_cons_of_mem _ (List.mem_append_left _ (List.mem_append_left _ (List.mem_append_right _ h9)))) (List.mem_of_getElem? (i := 2) rfl) rfl dX7_walker_45 ?_
      refine k_get O (v := .ref (g_ad X.1 20)) (k := 18) (by omega) (E_sc (by decide)) rfl 5 (by decide) (fun _ h9 => List.mem_cons_of_mem _ (List.mem_append_left _ (List.mem_append_right _ h9))) (List.mem_of_getElem? (i := 3) rfl) rfl dX7_walker_48 ?_
      refine k_iload_n O dX7_walker_51 1 rfl ?_
      obtain ⟨g6, h⟩ := gd_some h
      refine k_iald O (k := 20) (by omega) (E_sc2 (by decide)) g6 dX7_walker_52 ?_
      exact k_iret O dX7_walker_53 (rt_int h ho)
    · have h := ite_f c5 h
      refine (Decidable.em (v2 = (1 : Int32))).elim (fun c7 => ?_) (fun c7 => ?_)
      · have h := ite_t c7 h
        refine k_tabIn O 54 dX7_walker_14 (by rw [c7]; decide) (by rw [c7]; decide) (off := 40) (by rw [c7]; try rfl) (by decide) ?_
        refine k_aload_n O dX7_walker_54 0 rfl ?_
        refine k_get O (v := .ref (g_ad X.1 11)) (k := 0) (by omega) (E_0 hz) rfl 3 (by decide) (fun _ h9 => List.mem_cons_of_mem _ (List.mem_append_left _ (List.mem_append_left _ (List.mem_append_right _ h9)))) (List.mem_of_getElem? (i := 1) rfl) rfl dX7_walker_55 ?_
        refine k_get O (v := .ref (g_ad X.1 17)) (k := 11) (by omega) (E_pl (by decide)) rfl 11 (by decide) (fun _ h9 => List.mem_cons_of_mem _ (List.mem_append_right _ h9)) (List.mem_of_getElem? (i := 4) rfl) rfl dX7_walker_58 ?_
        refine k_iload_n O dX7_walker_61 1 rfl ?_
        obtain ⟨g8, h⟩ := gd_some h
        refine k_iald O (k := 17) (by omega) (E_pl6 (by decide)) g8 dX7_walker_62 ?_
        exact k_iret O dX7_walker_63 (rt_int h ho)
      · have h := ite_f c7 h
        refine (Decidable.em (v2 = (2 : Int32))).elim (fun c9 => ?_) (fun c9 => ?_)
        · have h := ite_t c9 h
          refine k_tabIn O 64 dX7_walker_14 (by rw [c9]; decide) (by rw [c9]; decide) (off := 50) (by rw [c9]; try rfl) (by decide) ?_
          refine k_aload_n O dX7_walker_64 0 rfl ?_
          refine k_get O (v := .ref (g_ad X.1 18)) (k := 0) (by omega) (E_0 hz) rfl 4 (by decide) (fun _ h9 => List.mem_cons_of_mem _ (List.mem_append_left _ (List.mem_append_left _ (List.mem_append_right _ h9)))) (List.mem_of_getElem? (i := 2) rfl) rfl dX7_walker_65 ?_
          refine k_iload_n O dX7_walker_68 1 rfl ?_
          obtain ⟨r12, w11, hc10, h⟩ := bd_some h
          refine k_callVi O (As := [.int v1]) (rest := []) (k := 18) (c_X3_isFree (x_l X) X.1 (by decide) (by omega) hc10) gX7_walker_X3_isFree rfl hd_X3_isFree (by decide) (by omega) (E_sc (by decide)) rfl rfl rfl rfl rfl (Nat.le_of_ble_eq_true rfl) dX7_walker_69 ?_
          refine k_if_eq O 79 dX7_walker_72 (by decide) (fun c13 => ?_) (fun c13 => ?_)
          · have h := ite_t c13 h
            refine k_iconst O dX7_walker_79 (v := 1) (by decide) ?_
            exact k_iret O dX7_walker_80 (rt_int h ho)
          · have h := ite_f c13 h
            refine k_iconst O dX7_walker_75 (v := 0) (by decide) ?_
            refine k_goto O 80 dX7_walker_76 (by decide) ?_
            exact k_iret O dX7_walker_80 (rt_int h ho)
        · have h := ite_f c9 h
          refine (Decidable.em (v2 = (3 : Int32))).elim (fun c14 => ?_) (fun c14 => ?_)
          · have h := ite_t c14 h
            refine k_tabIn O 81 dX7_walker_14 (by rw [c14]; decide) (by rw [c14]; decide) (off := 67) (by rw [c14]; try rfl) (by decide) ?_
            refine k_aload_n O dX7_walker_81 0 rfl ?_
            refine k_get O (v := .ref (g_ad X.1 18)) (k := 0) (by omega) (E_0 hz) rfl 4 (by decide) (fun _ h9 => List.mem_cons_of_mem _ (List.mem_append_left _ (List.mem_append_left _ (List.mem_append_right _ h9)))) (List.mem_of_getElem? (i := 2) rfl) rfl dX7_walker_82 ?_
            refine k_get O (v := .ref (g_ad X.1 21)) (k := 18) (by omega) (E_sc (by decide)) rfl 6 (by decide) (fun _ h9 => List.mem_cons_of_mem _ (List.mem_append_left _ (List.mem_append_right _ h9))) (List.mem_of_getElem? (i := 5) rfl) rfl dX7_walker_85 ?_
            refine k_iload_n O dX7_walker_88 1 rfl ?_
            obtain ⟨g15, h⟩ := gd_some h
            refine k_iald O (k := 21) (by omega) (E_sc3 (by decide)) g15 dX7_walker_89 ?_
            exact k_iret O dX7_walker_90 (rt_int h ho)
          · have h := ite_f c14 h
            refine k_tabOut O 91 dX7_walker_14 (by have nc5 := lv_neT c5 (a := 0) (by decide); have nc7 := lv_neT c7 (a := 1) (by decide); have nc9 := lv_neT c9 (a := 2) (by decide); have nc14 := lv_neT c14 (a := 3) (by decide); omega) (by decide) ?_
            refine k_bipush O dX7_walker_91 (v := -2) (by decide) ?_
            exact k_iret O dX7_walker_93 (rt_int h ho)
  · have h := ite_t c4 h
    refine k_iconst O dX7_walker_11 (v := -1) (by decide) ?_
    exact k_iret O dX7_walker_12 (rt_int h ho)
theorem c_X7_walker (l : Launch) (G : Gl) (hN : 105 ≤ g_N G) (hz : g_mz G = none) {w wz : Wd} {v1 : Int32} {v2 : Int32} {rz : Int32} (h : f_X7_walker w v1 v2 = some (rz, wz)) : Ct l yX7_walker wsX7_walker (2) (42) G [.ref (g_ad G 0), .int v1, .int v2] w (some (.int rz), wz) := by
  refine Ct.start (by decide) rfl rfl rfl (Nat.le_of_ble_eq_true rfl) (fun X hG ho hl O => ?_)
  subst hG
  subst hl
  exact k_sub [0, 1, 2] rfl (w_X7_walker_0 O hN hz ho h)
def b_X7_near_0 (w : Wd) (v1 : Int32) : Option (Int32 × Wd) := bd (f_X7_isCell w v1) (fun r3 w2 => if r3 = 0 then (some ((-1 : Int32), w2)) else (bd (f_X1_waysFrom 11 w2 v1) (fun r7 w6 => some (r7, w6))))
def f_X7_near (w : Wd) (v1 : Int32) : Option (Int32 × Wd) := b_X7_near_0 w v1
set_option maxHeartbeats 4000000 in
set_option maxRecDepth 100000 in
theorem w_X7_near_0 {X : Cx} {rz : Int32} {wz : Wd} (O : Ok X cX7_near RX7 ((some .int)) wsX7_near (3) (61) 2) (hN : 105 ≤ g_N X.1) (hz : g_mz X.1 = none) (ho : Ro X (some (.int rz), wz)) {w : Wd} {v1 : Int32} (h : b_X7_near_0 w v1 = some (rz, wz)) : Wk X w 0 [(0, .ref (g_ad X.1 0)), (1, .int v1)] [] := by
  unfold b_X7_near_0 at h
  refine k_iload_n O dX7_near_0 1 rfl ?_
  obtain ⟨r3, w2, hc1, h⟩ := bd_some h
  refine k_callSi O (As := [.int v1]) (rest := []) (c_X7_isCell (x_l X) X.1 hc1) gX7_near_X7_isCell rfl hd_X7_isCell (by decide) rfl rfl (Nat.le_of_ble_eq_true rfl) dX7_near_1 ?_
  refine k_if_eq O 18 dX7_near_4 (by decide) (fun c4 => ?_) (fun c4 => ?_)
  · have h := ite_t c4 h
    refine k_iconst O dX7_near_18 (v := -1) (by decide) ?_
    exact k_iret O dX7_near_19 (rt_int h ho)
  · have h := ite_f c4 h
    refine k_aload_n O dX7_near_7 0 rfl ?_
    refine k_get O (v := .ref (g_ad X.1 11)) (k := 0) (by omega) (E_0 hz) rfl 3 (by decide) (fun _ h9 => List.mem_cons_of_mem _ (List.mem_append_left _ (List.mem_append_right _ h9))) (List.mem_of_getElem? (i := 1) rfl) rfl dX7_near_8 ?_
    refine k_iload_n O dX7_near_11 1 rfl ?_
    obtain ⟨r7, w6, hc5, h⟩ := bd_some h
    refine k_callVi O (As := [.int v1]) (rest := []) (k := 11) (c_X1_waysFrom (x_l X) X.1 (by decide) (by omega) hc5) gX7_near_X1_waysFrom rfl hd_X1_waysFrom (by decide) (by omega) (E_pl (by decide)) rfl rfl rfl rfl rfl (Nat.le_of_ble_eq_true rfl) dX7_near_12 ?_
    refine k_goto O 19 dX7_near_15 (by decide) ?_
    exact k_iret O dX7_near_19 (rt_int h ho)
theorem c_X7_near (l : Launch) (G : Gl) (hN : 105 ≤ g_N G) (hz : g_mz G = none) {w wz : Wd} {v1 : Int32} {rz : Int32} (h : f_X7_near w v1 = some (rz, wz)) : Ct l yX7_near wsX7_near (3) (61) G [.ref (g_ad G 0), .int v1] w (some (.int rz), wz) := by
  refine Ct.start (by decide) rfl rfl rfl (Nat.le_of_ble_eq_true rfl) (fun X hG ho hl O => ?_)
  subst hG
  subst hl
  exact k_sub [0, 1] rfl (w_X7_near_0 O hN hz ho h)
def b_X7_frost_0 (w : Wd) (v1 : Int32) : Option (Int32 × Wd) := if v1 = (w.1 18 3) then (gd (bb v1) (nm (up w 18 3 v1) (fun w5 => some ((0 : Int32), w5)))) else (gd (bb v1) (nm (up w 18 3 v1) (fun w3 => some ((1 : Int32), w3))))
def f_X7_frost (w : Wd) (v1 : Int32) : Option (Int32 × Wd) := b_X7_frost_0 w v1
set_option maxHeartbeats 4000000 in
set_option maxRecDepth 100000 in
theorem w_X7_frost_0 {X : Cx} {rz : Int32} {wz : Wd} (O : Ok X cX7_frost RX7 ((some .int)) wsX7_frost (0) (0) 3) (hN : 105 ≤ g_N X.1) (hz : g_mz X.1 = none) (ho : Ro X (some (.int rz), wz)) {w : Wd} {v1 : Int32} (h : b_X7_frost_0 w v1 = some (rz, wz)) : Wk X w 0 [(0, .ref (g_ad X.1 0)), (1, .int v1)] [] := by
  unfold b_X7_frost_0 at h
  refine k_iload_n O dX7_frost_0 1 rfl ?_
  refine k_aload_n O dX7_frost_1 0 rfl ?_
  refine k_get O (v := .ref (g_ad X.1 18)) (k := 0) (by omega) (E_0 hz) rfl 4 (by decide) (fun _ h9 => List.mem_cons_of_mem _ (List.mem_append_left _ (List.mem_append_right _ h9))) (List.mem_of_getElem? (i := 1) rfl) rfl dX7_frost_2 ?_
  refine k_get O (v := .int (w.1 18 3)) (k := 18) (by omega) (E_sc (by decide)) rfl 3 (by decide) (fun _ h9 => List.mem_cons_of_mem _ (List.mem_append_right _ h9)) (List.mem_of_getElem? (i := 2) rfl) rfl dX7_frost_5 ?_
  refine k_icmp_ne O 15 dX7_frost_8 (by decide) (fun c1 => ?_) (fun c1 => ?_)
  · have h := ite_f c1 h
    refine k_iconst O dX7_frost_15 (v := 1) (by decide) ?_
    refine k_istore_n (lv' := [(2, .int ((1 : Int32))), (0, .ref (g_ad X.1 0)), (1, .int v1)]) O dX7_frost_16 rfl (by decide) rfl ?_
    refine k_aload_n O dX7_frost_17 1 rfl ?_
    refine k_get O (v := .ref (g_ad X.1 18)) (k := 0) (by omega) (E_0 hz) rfl 4 (by decide) (fun _ h9 => List.mem_cons_of_mem _ (List.mem_append_left _ (List.mem_append_right _ h9))) (List.mem_of_getElem? (i := 1) rfl) rfl dX7_frost_18 ?_
    refine k_iload_n O dX7_frost_21 2 rfl ?_
    obtain ⟨g2, h⟩ := gd_some h
    refine k_puti O (k := 18) tyX3 tyX3_ok nmX3 (by omega) (E_sc (by decide)) rfl 3 (by decide) (fun _ h9 => List.mem_cons_of_mem _ (List.mem_append_right _ h9)) (List.mem_of_getElem? (i := 2) rfl) rfl (bb_nar g2) (bb_fit g2) (Nat.le_of_ble_eq_true rfl) ((E_sc (by decide)).trans rfl) dX7_frost_22 ?_
    refine k_nw (fun w3 ew3 => ?_)
    have h := nm_use h w3 ew3
    refine k_iload_n O dX7_frost_25 0 rfl ?_
    exact k_iret O dX7_frost_26 (rt_int h ho)
  · have h := ite_t c1 h
    refine k_iconst O dX7_frost_11 (v := 0) (by decide) ?_
    refine k_goto O 16 dX7_frost_12 (by decide) ?_
    refine k_istore_n (lv' := [(2, .int ((0 : Int32))), (0, .ref (g_ad X.1 0)), (1, .int v1)]) O dX7_frost_16 rfl (by decide) rfl ?_
    refine k_aload_n O dX7_frost_17 1 rfl ?_
    refine k_get O (v := .ref (g_ad X.1 18)) (k := 0) (by omega) (E_0 hz) rfl 4 (by decide) (fun _ h9 => List.mem_cons_of_mem _ (List.mem_append_left _ (List.mem_append_right _ h9))) (List.mem_of_getElem? (i := 1) rfl) rfl dX7_frost_18 ?_
    refine k_iload_n O dX7_frost_21 2 rfl ?_
    obtain ⟨g4, h⟩ := gd_some h
    refine k_puti O (k := 18) tyX3 tyX3_ok nmX3 (by omega) (E_sc (by decide)) rfl 3 (by decide) (fun _ h9 => List.mem_cons_of_mem _ (List.mem_append_right _ h9)) (List.mem_of_getElem? (i := 2) rfl) rfl (bb_nar g4) (bb_fit g4) (Nat.le_of_ble_eq_true rfl) ((E_sc (by decide)).trans rfl) dX7_frost_22 ?_
    refine k_nw (fun w5 ew5 => ?_)
    have h := nm_use h w5 ew5
    refine k_iload_n O dX7_frost_25 0 rfl ?_
    exact k_iret O dX7_frost_26 (rt_int h ho)
theorem c_X7_frost (l : Launch) (G : Gl) (hN : 105 ≤ g_N G) (hz : g_mz G = none) {w wz : Wd} {v1 : Int32} {rz : Int32} (h : f_X7_frost w v1 = some (rz, wz)) : Ct l yX7_frost wsX7_frost (0) (0) G [.ref (g_ad G 0), .int v1] w (some (.int rz), wz) := by
  refine Ct.start (by decide) rfl rfl rfl (Nat.le_of_ble_eq_true rfl) (fun X hG ho hl O => ?_)
  subst hG
  subst hl
  exact k_sub [0, 1] rfl (w_X7_frost_0 O hN hz ho h)
def b_X7_step_0 (w : Wd) (v1 : Int32) (v2 : Int32) : Option (Int32 × Wd) := bd (f_X1_hasWalker 11 w v1) (fun r3 w2 => if r3 = 0 then (some ((-1 : Int32), w2)) else (bd (f_X7_isCell w2 v2) (fun r7 w6 => if r7 = 0 then (some ((-1 : Int32), w6)) else (bd (f_X3_isFree 18 w6 v1) (fun r11 w10 => if r11 = 0 then (some ((-3 : Int32), w10)) else (gd (inb v1 4) (bd (f_X1_waysFrom 11 w10 (w10.1 20 v1.toNatClampNeg)) (fun r16 w15 => if ((r16 >>> (v2 &&& 31)) &&& ((1 : Int32))) = 0 then (some ((-3 : Int32), w15)) else (bv (f_X0_remember 18 w15) (fun w19 => bd (f_X3_walk 18 w19 v1 v2) (fun r22 w21 => some (r22, w21))))))))))))
def f_X7_step (w : Wd) (v1 : Int32) (v2 : Int32) : Option (Int32 × Wd) := b_X7_step_0 w v1 v2
set_option maxHeartbeats 4000000 in
set_option maxRecDepth 100000 in
theorem w_X7_step_0 {X : Cx} {rz : Int32} {wz : Wd} (O : Ok X cX7_step RX7 ((some .int)) wsX7_step (4) (92) 3) (hN : 105 ≤ g_N X.1) (hz : g_mz X.1 = none) (ho : Ro X (some (.int rz), wz)) {w : Wd} {v1 : Int32} {v2 : Int32} (h : b_X7_step_0 w v1 v2 = some (rz, wz)) : Wk X w 0 [(0, .ref (g_ad X.1 0)), (1, .int v1), (2, .int v2)] [] := by
  unfold b_X7_step_0 at h
  refine k_aload_n O dX7_step_0 0 rfl ?_
  refine k_get O (v := .ref (g_ad X.1 11)) (k := 0) (by omega) (E_0 hz) rfl 3 (by decide) (fun _ h9 => List.mem_cons_of_mem _ (List.mem_append_left _ (List.mem_append_left _ (List.mem_append_left _ (List.mem_append_right _ h9))))) (List.mem_of_getElem? (i := 1) rfl) rfl dX7_step_1 ?_
  refine k_iload_n O dX7_step_4 1 rfl ?_
  obtain ⟨r3, w2, hc1, h⟩ := bd_some h
  refine k_callVi O (As := [.int v1]) (rest := []) (k := 11) (c_X1_hasWalker (x_l X) X.1 (by decide) (by omega) hc1) gX7_step_X1_hasWalker rfl hd_X1_hasWalker (by decide) (by omega) (E_pl (by decide)) rfl rfl rfl rfl rfl (Nat.le_of_ble_eq_true rfl) dX7_step_5 ?_
  refine k_if_eq O 18 dX7_step_8 (by decide) (fun c4 => ?_) (fun c4 => ?_)
  · have h := ite_t c4 h
    refine k_iconst O dX7_step_18 (v := -1) (by decide) ?_
    exact k_iret O dX7_step_19 (rt_int h ho)
  · have h := ite_f c4 h
    refine k_iload_n O dX7_step_11 2 rfl ?_
    obtain ⟨r7, w6, hc5, h⟩ := bd_some h
    refine k_callSi O (As := [.int v2]) (rest := []) (c_X7_isCell (x_l X) X.1 hc5) gX7_step_X7_isCell rfl hd_X7_isCell (by decide) rfl rfl (Nat.le_of_ble_eq_true rfl) dX7_step_12 ?_
    refine k_if_ne O 20 dX7_step_15 (by decide) (fun c8 => ?_) (fun c8 => ?_)
    · have h := ite_f c8 h
      refine k_aload_n O dX7_step_20 0 rfl ?_
      refine k_get O (v := .ref (g_ad X.1 18)) (k := 0) (by omega) (E_0 hz) rfl 4 (by decide) (fun _ h9 => List.mem_cons_of_mem _ (List.mem_append_left _ (List.mem_append_left _ (List.mem_append_left _ (List.mem_append_right _ h9))))) (List.mem_of_getElem? (i := 2) rfl) rfl dX7_step_21 ?_
      refine k_iload_n O dX7_step_24 1 rfl ?_
      obtain ⟨r11, w10, hc9, h⟩ := bd_some h
      refine k_callVi O (As := [.int v1]) (rest := []) (k := 18) (c_X3_isFree (x_l X) X.1 (by decide) (by omega) hc9) gX7_step_X3_isFree rfl hd_X3_isFree (by decide) (by omega) (E_sc (by decide)) rfl rfl rfl rfl rfl (Nat.le_of_ble_eq_true rfl) dX7_step_25 ?_
      refine k_if_eq O 54 dX7_step_28 (by decide) (fun c12 => ?_) (fun c12 => ?_)
      · have h := ite_t c12 h
        refine k_bipush O dX7_step_54 (v := -3) (by decide) ?_
        exact k_iret O dX7_step_56 (rt_int h ho)
      · have h := ite_f c12 h
        refine k_aload_n O dX7_step_31 0 rfl ?_
        refine k_get O (v := .ref (g_ad X.1 11)) (k := 0) (by omega) (E_0 hz) rfl 3 (by decide) (fun _ h9 => List.mem_cons_of_mem _ (List.mem_append_left _ (List.mem_append_left _ (List.mem_append_left _ (List.mem_append_right _ h9))))) (List.mem_of_getElem? (i := 1) rfl) rfl dX7_step_32 ?_
        refine k_aload_n O dX7_step_35 0 rfl ?_
        refine k_get O (v := .ref (g_ad X.1 18)) (k := 0) (by omega) (E_0 hz) rfl 4 (by decide) (fun _ h9 => List.mem_cons_of_mem _ (List.mem_append_left _ (List.mem_append_left _ (List.mem_append_left _ (List.mem_append_right _ h9))))) (List.mem_of_getElem? (i := 2) rfl) rfl dX7_step_36 ?_
        refine k_get O (v := .ref (g_ad X.1 20)) (k := 18) (by omega) (E_sc (by decide)) rfl 5 (by decide) (fun _ h9 => List.mem_cons_of_mem _ (List.mem_append_left _ (List.mem_append_left _ (List.mem_append_right _ h9)))) (List.mem_of_getElem? (i := 3) rfl) rfl dX7_step_39 ?_
        refine k_iload_n O dX7_step_42 1 rfl ?_
        obtain ⟨g13, h⟩ := gd_some h
        refine k_iald O (k := 20) (by omega) (E_sc2 (by decide)) g13 dX7_step_43 ?_
        obtain ⟨r16, w15, hc14, h⟩ := bd_some h
        refine k_callVi O (As := [.int (w10.1 20 v1.toNatClampNeg)]) (rest := []) (k := 11) (c_X1_waysFrom (x_l X) X.1 (by decide) (by omega) hc14) gX7_step_X1_waysFrom rfl hd_X1_waysFrom (by decide) (by omega) (E_pl (by decide)) rfl rfl rfl rfl rfl (Nat.le_of_ble_eq_true rfl) dX7_step_44 ?_
        refine k_iload_n O dX7_step_47 2 rfl ?_
        refine k_ishr O dX7_step_48 ?_
        refine k_iconst O dX7_step_49 (v := 1) (by decide) ?_
        refine k_iand O dX7_step_50 ?_
        refine k_if_ne O 57 dX7_step_51 (by decide) (fun c17 => ?_) (fun c17 => ?_)
        · have h := ite_f c17 h
          refine k_aload_n O dX7_step_57 0 rfl ?_
          refine k_get O (v := .ref (g_ad X.1 26)) (k := 0) (by omega) (E_0 hz) rfl 6 (by decide) (fun _ h9 => List.mem_cons_of_mem _ (List.mem_append_left _ (List.mem_append_left _ (List.mem_append_left _ (List.mem_append_right _ h9))))) (List.mem_of_getElem? (i := 4) rfl) rfl dX7_step_58 ?_
          refine k_aload_n O dX7_step_61 0 rfl ?_
          refine k_get O (v := .ref (g_ad X.1 18)) (k := 0) (by omega) (E_0 hz) rfl 4 (by decide) (fun _ h9 => List.mem_cons_of_mem _ (List.mem_append_left _ (List.mem_append_left _ (List.mem_append_left _ (List.mem_append_right _ h9))))) (List.mem_of_getElem? (i := 2) rfl) rfl dX7_step_62 ?_
          obtain ⟨w19, hc18, h⟩ := bv_some h
          refine k_callVv O (As := [.ref (g_ad X.1 18)]) (rest := []) (k := 26) (c_X0_remember (x_l X) X.1 (by decide) (by omega) hN hc18) gX7_step_X0_remember rfl hd_X0_remember (by decide) (by omega) E_26 rfl rfl rfl rfl rfl (Nat.le_of_ble_eq_true rfl) dX7_step_65 ?_
          refine k_aload_n O dX7_step_68 0 rfl ?_
          refine k_get O (v := .ref (g_ad X.1 18)) (k := 0) (by omega) (E_0 hz) rfl 4 (by decide) (fun _ h9 => List.mem_cons_of_mem _ (List.mem_append_left _ (List.mem_append_left _ (List.mem_append_left _ (List.mem_append_right _ h9))))) (List.mem_of_getElem? (i := 2) rfl) rfl dX7_step_69 ?_
          refine k_iload_n O dX7_step_72 1 rfl ?_
          refine k_iload_n O dX7_step_73 2 rfl ?_
          obtain ⟨r22, w21, hc20, h⟩ := bd_some h
          refine k_callVi O (As := [.int v1, .int v2]) (rest := []) (k := 18) (c_X3_walk (x_l X) X.1 (by decide) (by omega) hc20) gX7_step_X3_walk rfl hd_X3_walk (by decide) (by omega) (E_sc (by decide)) rfl rfl rfl rfl rfl (Nat.le_of_ble_eq_true rfl) dX7_step_74 ?_
          exact k_iret O dX7_step_77 (rt_int h ho)
        · have h := ite_t c17 h
          refine k_bipush O dX7_step_54 (v := -3) (by decide) ?_
          exact k_iret O dX7_step_56 (rt_int h ho)
    · have h := ite_t c8 h
      refine k_iconst O dX7_step_18 (v := -1) (by decide) ?_
      exact k_iret O dX7_step_19 (rt_int h ho)
theorem c_X7_step (l : Launch) (G : Gl) (hN : 105 ≤ g_N G) (hz : g_mz G = none) {w wz : Wd} {v1 : Int32} {v2 : Int32} {rz : Int32} (h : f_X7_step w v1 v2 = some (rz, wz)) : Ct l yX7_step wsX7_step (4) (92) G [.ref (g_ad G 0), .int v1, .int v2] w (some (.int rz), wz) := by
  refine Ct.start (by decide) rfl rfl rfl (Nat.le_of_ble_eq_true rfl) (fun X hG ho hl O => ?_)
  subst hG
  subst hl
  exact k_sub [0, 1, 2] rfl (w_X7_step_0 O hN hz ho h)
def b_X7_arm_0 (w : Wd) (v1 : Int32) : Option (Int32 × Wd) := bd (f_X1_hasTrap 11 w v1) (fun r3 w2 => if r3 = 0 then (some ((-1 : Int32), w2)) else (if (((w2.1 18 1) >>> (v1 &&& 31)) &&& ((1 : Int32))) = 0 then (bv (f_X0_remember 18 w2) (fun w7 => nm (up w7 18 1 ((w7.1 18 1) ||| (((1 : Int32)) <<< (v1 &&& 31)))) (fun w8 => nm (up w8 18 2 ((w8.1 18 2) &&& ((((1 : Int32)) <<< (v1 &&& 31)) ^^^ ((-1 : Int32))))) (fun w9 => gd (inb v1 6) (some (w9.1 13 v1.toNatClampNeg, w9)))))) else (some ((-3 : Int32), w2))))
def f_X7_arm (w : Wd) (v1 : Int32) : Option (Int32 × Wd) := b_X7_arm_0 w v1
set_option maxHeartbeats 4000000 in
set_option maxRecDepth 100000 in
theorem w_X7_arm_0 {X : Cx} {rz : Int32} {wz : Wd} (O : Ok X cX7_arm RX7 ((some .int)) wsX7_arm (2) (44) 2) (hN : 105 ≤ g_N X.1) (hz : g_mz X.1 = none) (ho : Ro X (some (.int rz), wz)) {w : Wd} {v1 : Int32} (h : b_X7_arm_0 w v1 = some (rz, wz)) : Wk X w 0 [(0, .ref (g_ad X.1 0)), (1, .int v1)] [] := by
  unfold b_X7_arm_0 at h
  refine k_aload_n O dX7_arm_0 0 rfl ?_
  refine k_get O (v := .ref (g_ad X.1 11)) (k := 0) (by omega) (E_0 hz) rfl 3 (by decide) (fun _ h9 => List.mem_cons_of_mem _ (List.mem_append_left _ (List.mem_append_left _ (List.mem_append_left _ (List.mem_append_right _ h9))))) (List.mem_of_getElem? (i := 1) rfl) rfl dX7_arm_1 ?_
  refine k_iload_n O dX7_arm_4 1 rfl ?_
  obtain ⟨r3, w2, hc1, h⟩ := bd_some h
  refine k_callVi O (As := [.int v1]) (rest := []) (k := 11) (c_X1_hasTrap (x_l X) X.1 (by decide) (by omega) hc1) gX7_arm_X1_hasTrap rfl hd_X1_hasTrap (by decide) (by omega) (E_pl (by decide)) rfl rfl rfl rfl rfl (Nat.le_of_ble_eq_true rfl) dX7_arm_5 ?_
  refine k_if_ne O 13 dX7_arm_8 (by decide) (fun c4 => ?_) (fun c4 => ?_)
  · have h := ite_f c4 h
    refine k_aload_n O dX7_arm_13 0 rfl ?_
    refine k_get O (v := .ref (g_ad X.1 18)) (k := 0) (by omega) (E_0 hz) rfl 4 (by decide) (fun _ h9 => List.mem_cons_of_mem _ (List.mem_append_left _ (List.mem_append_left _ (List.mem_append_left _ (List.mem_append_right _ h9))))) (List.mem_of_getElem? (i := 2) rfl) rfl dX7_arm_14 ?_
    refine k_get O (v := .int (w2.1 18 1)) (k := 18) (by omega) (E_sc (by decide)) rfl 1 (by decide) (fun _ h9 => List.mem_cons_of_mem _ (List.mem_append_left _ (List.mem_append_left _ (List.mem_append_right _ h9)))) (List.mem_of_getElem? (i := 3) rfl) rfl dX7_arm_17 ?_
    refine k_iload_n O dX7_arm_20 1 rfl ?_
    refine k_ishr O dX7_arm_21 ?_
    refine k_iconst O dX7_arm_22 (v := 1) (by decide) ?_
    refine k_iand O dX7_arm_23 ?_
    refine k_if_eq O 30 dX7_arm_24 (by decide) (fun c5 => ?_) (fun c5 => ?_)
    · have h := ite_t c5 h
      refine k_aload_n O dX7_arm_30 0 rfl ?_
      refine k_get O (v := .ref (g_ad X.1 26)) (k := 0) (by omega) (E_0 hz) rfl 6 (by decide) (fun _ h9 => List.mem_cons_of_mem _ (List.mem_append_left _ (List.mem_append_left _ (List.mem_append_left _ (List.mem_append_right _ h9))))) (List.mem_of_getElem? (i := 4) rfl) rfl dX7_arm_31 ?_
      refine k_aload_n O dX7_arm_34 0 rfl ?_
      refine k_get O (v := .ref (g_ad X.1 18)) (k := 0) (by omega) (E_0 hz) rfl 4 (by decide) (fun _ h9 => List.mem_cons_of_mem _ (List.mem_append_left _ (List.mem_append_left _ (List.mem_append_left _ (List.mem_append_right _ h9))))) (List.mem_of_getElem? (i := 2) rfl) rfl dX7_arm_35 ?_
      obtain ⟨w7, hc6, h⟩ := bv_some h
      refine k_callVv O (As := [.ref (g_ad X.1 18)]) (rest := []) (k := 26) (c_X0_remember (x_l X) X.1 (by decide) (by omega) hN hc6) gX7_arm_X0_remember rfl hd_X0_remember (by decide) (by omega) E_26 rfl rfl rfl rfl rfl (Nat.le_of_ble_eq_true rfl) dX7_arm_38 ?_
      refine k_aload_n O dX7_arm_41 0 rfl ?_
      refine k_get O (v := .ref (g_ad X.1 18)) (k := 0) (by omega) (E_0 hz) rfl 4 (by decide) (fun _ h9 => List.mem_cons_of_mem _ (List.mem_append_left _ (List.mem_append_left _ (List.mem_append_left _ (List.mem_append_right _ h9))))) (List.mem_of_getElem? (i := 2) rfl) rfl dX7_arm_42 ?_
      refine k_dup O dX7_arm_45 rfl ?_
      refine k_get O (v := .int (w7.1 18 1)) (k := 18) (by omega) (E_sc (by decide)) rfl 1 (by decide) (fun _ h9 => List.mem_cons_of_mem _ (List.mem_append_left _ (List.mem_append_left _ (List.mem_append_right _ h9)))) (List.mem_of_getElem? (i := 3) rfl) rfl dX7_arm_46 ?_
      refine k_iconst O dX7_arm_49 (v := 1) (by decide) ?_
      refine k_iload_n O dX7_arm_50 1 rfl ?_
      refine k_ishl O dX7_arm_51 ?_
      refine k_ior O dX7_arm_52 ?_
      refine k_puti O (k := 18) tyX3 tyX3_ok nmX3 (by omega) (E_sc (by decide)) rfl 1 (by decide) (fun _ h9 => List.mem_cons_of_mem _ (List.mem_append_left _ (List.mem_append_left _ (List.mem_append_right _ h9)))) (List.mem_of_getElem? (i := 3) rfl) rfl rfl rfl (Nat.le_of_ble_eq_true rfl) ((E_sc (by decide)).trans rfl) dX7_arm_53 ?_
      refine k_nw (fun w8 ew8 => ?_)
      have h := nm_use h w8 ew8
      refine k_aload_n O dX7_arm_56 0 rfl ?_
      refine k_get O (v := .ref (g_ad X.1 18)) (k := 0) (by omega) (E_0 hz) rfl 4 (by decide) (fun _ h9 => List.mem_cons_of_mem _ (List.mem_append_left _ (List.mem_append_left _ (List.mem_append_left _ (List.mem_append_right _ h9))))) (List.mem_of_getElem? (i := 2) rfl) rfl dX7_arm_57 ?_
      refine k_dup O dX7_arm_60 rfl ?_
      refine k_get O (v := .int (w8.1 18 2)) (k := 18) (by omega) (E_sc (by decide)) rfl 2 (by decide) (fun _ h9 => List.mem_cons_of_mem _ (List.mem_append_left _ (List.mem_append_left _ (List.mem_append_right _ h9)))) (List.mem_of_getElem? (i := 5) rfl) rfl dX7_arm_61 ?_
      refine k_iconst O dX7_arm_64 (v := 1) (by decide) ?_
      refine k_iload_n O dX7_arm_65 1 rfl ?_
      refine k_ishl O dX7_arm_66 ?_
      refine k_iconst O dX7_arm_67 (v := -1) (by decide) ?_
      refine k_ixor O dX7_arm_68 ?_
      refine k_iand O dX7_arm_69 ?_
      refine k_puti O (k := 18) tyX3 tyX3_ok nmX3 (by omega) (E_sc (by decide)) rfl 2 (by decide) (fun _ h9 => List.mem_cons_of_mem _ (List.mem_append_left _ (List.mem_append_left _ (List.mem_append_right _ h9)))) (List.mem_of_getElem? (i := 5) rfl) rfl rfl rfl (Nat.le_of_ble_eq_true rfl) ((E_sc (by decide)).trans rfl) dX7_arm_70 ?_
      refine k_nw (fun w9 ew9 => ?_)
      have h := nm_use h w9 ew9
      refine k_aload_n O dX7_arm_73 0 rfl ?_
      refine k_get O (v := .ref (g_ad X.1 11)) (k := 0) (by omega) (E_0 hz) rfl 3 (by decide) (fun _ h9 => List.mem_cons_of_mem _ (List.mem_append_left _ (List.mem_append_left _ (List.mem_append_left _ (List.mem_append_right _ h9))))) (List.mem_of_getElem? (i := 1) rfl) rfl dX7_arm_74 ?_
      refine k_get O (v := .ref (g_ad X.1 13)) (k := 11) (by omega) (E_pl (by decide)) rfl 7 (by decide) (fun _ h9 => List.mem_cons_of_mem _ (List.mem_append_left _ (List.mem_append_right _ h9))) (List.mem_of_getElem? (i := 6) rfl) rfl dX7_arm_77 ?_
      refine k_iload_n O dX7_arm_80 1 rfl ?_
      obtain ⟨g10, h⟩ := gd_some h
      refine k_iald O (k := 13) (by omega) (E_pl2 (by decide)) g10 dX7_arm_81 ?_
      exact k_iret O dX7_arm_82 (rt_int h ho)
    · have h := ite_f c5 h
      refine k_bipush O dX7_arm_27 (v := -3) (by decide) ?_
      exact k_iret O dX7_arm_29 (rt_int h ho)
  · have h := ite_t c4 h
    refine k_iconst O dX7_arm_11 (v := -1) (by decide) ?_
    exact k_iret O dX7_arm_12 (rt_int h ho)
theorem c_X7_arm (l : Launch) (G : Gl) (hN : 105 ≤ g_N G) (hz : g_mz G = none) {w wz : Wd} {v1 : Int32} {rz : Int32} (h : f_X7_arm w v1 = some (rz, wz)) : Ct l yX7_arm wsX7_arm (2) (44) G [.ref (g_ad G 0), .int v1] w (some (.int rz), wz) := by
  refine Ct.start (by decide) rfl rfl rfl (Nat.le_of_ble_eq_true rfl) (fun X hG ho hl O => ?_)
  subst hG
  subst hl
  exact k_sub [0, 1] rfl (w_X7_arm_0 O hN hz ho h)
def b_X7_unknownFrom_0 (w : Wd) (v1 : Int32) (v2 : Int32) : Option (Int32 × Wd) := bd (f_X7_isSide w v1) (fun r3 w2 => if r3 = 0 then (some ((0 : Int32), w2)) else (bd (f_X7_isCell w2 v2) (fun r7 w6 => if r7 = 0 then (some ((0 : Int32), w6)) else (bd (f_X7_neighbours w6 v2) (fun r11 w10 => bd (f_X1_trapsOn 11 w10 (r11 ||| (((1 : Int32)) <<< (v2 &&& 31)))) (fun r14 w13 => gd (inb v1 2) (some (r14 &&& ((w13.1 19 v1.toNatClampNeg) ^^^ ((-1 : Int32))), w13))))))))
def f_X7_unknownFrom (w : Wd) (v1 : Int32) (v2 : Int32) : Option (Int32 × Wd) := b_X7_unknownFrom_0 w v1 v2
set_option maxHeartbeats 4000000 in
set_option maxRecDepth 100000 in
theorem w_X7_unknownFrom_0 {X : Cx} {rz : Int32} {wz : Wd} (O : Ok X cX7_unknownFrom RX7 ((some .int)) wsX7_unknownFrom (2) (40) 3) (hN : 105 ≤ g_N X.1) (hz : g_mz X.1 = none) (ho : Ro X (some (.int rz), wz)) {w : Wd} {v1 : Int32} {v2 : Int32} (h : b_X7_unknownFrom_0 w v1 v2 = some (rz, wz)) : Wk X w 0 [(0, .ref (g_ad X.1 0)), (1, .int v1), (2, .int v2)] [] := by
  unfold b_X7_unknownFrom_0 at h
  refine k_iload_n O dX7_unknownFrom_0 1 rfl ?_
  obtain ⟨r3, w2, hc1, h⟩ := bd_some h
  refine k_callSi O (As := [.int v1]) (rest := []) (c_X7_isSide (x_l X) X.1 hc1) gX7_unknownFrom_X7_isSide rfl hd_X7_isSide (by decide) rfl rfl (Nat.le_of_ble_eq_true rfl) dX7_unknownFrom_1 ?_
  refine k_if_eq O 14 dX7_unknownFrom_4 (by decide) (fun c4 => ?_) (fun c4 => ?_)
  · have h := ite_t c4 h
    refine k_iconst O dX7_unknownFrom_14 (v := 0) (by decide) ?_
    exact k_iret O dX7_unknownFrom_15 (rt_int h ho)
  · have h := ite_f c4 h
    refine k_iload_n O dX7_unknownFrom_7 2 rfl ?_
    obtain ⟨r7, w6, hc5, h⟩ := bd_some h
    refine k_callSi O (As := [.int v2]) (rest := []) (c_X7_isCell (x_l X) X.1 hc5) gX7_unknownFrom_X7_isCell rfl hd_X7_isCell (by decide) rfl rfl (Nat.le_of_ble_eq_true rfl) dX7_unknownFrom_8 ?_
    refine k_if_ne O 16 dX7_unknownFrom_11 (by decide) (fun c8 => ?_) (fun c8 => ?_)
    · have h := ite_f c8 h
      refine k_aload_n O dX7_unknownFrom_16 0 rfl ?_
      refine k_get O (v := .ref (g_ad X.1 11)) (k := 0) (by omega) (E_0 hz) rfl 3 (by decide) (fun _ h9 => List.mem_cons_of_mem _ (List.mem_append_left _ (List.mem_append_left _ (List.mem_append_right _ h9)))) (List.mem_of_getElem? (i := 1) rfl) rfl dX7_unknownFrom_17 ?_
      refine k_iload_n O dX7_unknownFrom_20 2 rfl ?_
      obtain ⟨r11, w10, hc9, h⟩ := bd_some h
      refine k_callSi O (As := [.int v2]) (rest := [.ref (g_ad X.1 11)]) (c_X7_neighbours (x_l X) X.1 hc9) gX7_unknownFrom_X7_neighbours rfl hd_X7_neighbours (by decide) rfl rfl (Nat.le_of_ble_eq_true rfl) dX7_unknownFrom_21 ?_
      refine k_iconst O dX7_unknownFrom_24 (v := 1) (by decide) ?_
      refine k_iload_n O dX7_unknownFrom_25 2 rfl ?_
      refine k_ishl O dX7_unknownFrom_26 ?_
      refine k_ior O dX7_unknownFrom_27 ?_
      obtain ⟨r14, w13, hc12, h⟩ := bd_some h
      refine k_callVi O (As := [.int (r11 ||| (((1 : Int32)) <<< (v2 &&& 31)))]) (rest := []) (k := 11) (c_X1_trapsOn (x_l X) X.1 (by decide) (by omega) hc12) gX7_unknownFrom_X1_trapsOn rfl hd_X1_trapsOn (by decide) (by omega) (E_pl (by decide)) rfl rfl rfl rfl rfl (Nat.le_of_ble_eq_true rfl) dX7_unknownFrom_28 ?_
      refine k_aload_n O dX7_unknownFrom_31 0 rfl ?_
      refine k_get O (v := .ref (g_ad X.1 18)) (k := 0) (by omega) (E_0 hz) rfl 4 (by decide) (fun _ h9 => List.mem_cons_of_mem _ (List.mem_append_left _ (List.mem_append_left _ (List.mem_append_right _ h9)))) (List.mem_of_getElem? (i := 2) rfl) rfl dX7_unknownFrom_32 ?_
      refine k_get O (v := .ref (g_ad X.1 19)) (k := 18) (by omega) (E_sc (by decide)) rfl 4 (by decide) (fun _ h9 => List.mem_cons_of_mem _ (List.mem_append_left _ (List.mem_append_right _ h9))) (List.mem_of_getElem? (i := 3) rfl) rfl dX7_unknownFrom_35 ?_
      refine k_iload_n O dX7_unknownFrom_38 1 rfl ?_
      obtain ⟨g15, h⟩ := gd_some h
      refine k_iald O (k := 19) (by omega) (E_sc1 (by decide)) g15 dX7_unknownFrom_39 ?_
      refine k_iconst O dX7_unknownFrom_40 (v := -1) (by decide) ?_
      refine k_ixor O dX7_unknownFrom_41 ?_
      refine k_iand O dX7_unknownFrom_42 ?_
      exact k_iret O dX7_unknownFrom_43 (rt_int h ho)
    · have h := ite_t c8 h
      refine k_iconst O dX7_unknownFrom_14 (v := 0) (by decide) ?_
      exact k_iret O dX7_unknownFrom_15 (rt_int h ho)
theorem c_X7_unknownFrom (l : Launch) (G : Gl) (hN : 105 ≤ g_N G) (hz : g_mz G = none) {w wz : Wd} {v1 : Int32} {v2 : Int32} {rz : Int32} (h : f_X7_unknownFrom w v1 v2 = some (rz, wz)) : Ct l yX7_unknownFrom wsX7_unknownFrom (2) (40) G [.ref (g_ad G 0), .int v1, .int v2] w (some (.int rz), wz) := by
  refine Ct.start (by decide) rfl rfl rfl (Nat.le_of_ble_eq_true rfl) (fun X hG ho hl O => ?_)
  subst hG
  subst hl
  exact k_sub [0, 1, 2] rfl (w_X7_unknownFrom_0 O hN hz ho h)
def b_X7_look_0 (w : Wd) (v1 : Int32) (v2 : Int32) : Option (Int32 × Wd) := bd (f_X7_isCell w v2) (fun r3 w2 => if r3 = 0 then (some ((-1 : Int32), w2)) else (bd (f_X7_isSide w2 v1) (fun r7 w6 => if r7 = 0 then (some ((-2 : Int32), w6)) else (bd (f_X7_unknownFrom w6 v1 v2) (fun r11 w10 => bv (f_X0_remember 18 w10) (fun w13 => gd (inb v1 2) (gd (inb v1 2) (nm (up w13 19 v1.toNatClampNeg ((w13.1 19 v1.toNatClampNeg) ||| r11)) (fun w16 => some (r11, w16))))))))))
def f_X7_look (w : Wd) (v1 : Int32) (v2 : Int32) : Option (Int32 × Wd) := b_X7_look_0 w v1 v2
set_option maxHeartbeats 4000000 in
set_option maxRecDepth 100000 in
theorem w_X7_look_0 {X : Cx} {rz : Int32} {wz : Wd} (O : Ok X cX7_look RX7 ((some .int)) wsX7_look (3) (62) 4) (hN : 105 ≤ g_N X.1) (hz : g_mz X.1 = none) (ho : Ro X (some (.int rz), wz)) {w : Wd} {v1 : Int32} {v2 : Int32} (h : b_X7_look_0 w v1 v2 = some (rz, wz)) : Wk X w 0 [(0, .ref (g_ad X.1 0)), (1, .int v1), (2, .int v2)] [] := by
  unfold b_X7_look_0 at h
  refine k_iload_n O dX7_look_0 2 rfl ?_
  obtain ⟨r3, w2, hc1, h⟩ := bd_some h
  refine k_callSi O (As := [.int v2]) (rest := []) (c_X7_isCell (x_l X) X.1 hc1) gX7_look_X7_isCell rfl hd_X7_isCell (by decide) rfl rfl (Nat.le_of_ble_eq_true rfl) dX7_look_1 ?_
  refine k_if_ne O 9 dX7_look_4 (by decide) (fun c4 => ?_) (fun c4 => ?_)
  · have h := ite_f c4 h
    refine k_iload_n O dX7_look_9 1 rfl ?_
    obtain ⟨r7, w6, hc5, h⟩ := bd_some h
    refine k_callSi O (As := [.int v1]) (rest := []) (c_X7_isSide (x_l X) X.1 hc5) gX7_look_X7_isSide rfl hd_X7_isSide (by decide) rfl rfl (Nat.le_of_ble_eq_true rfl) dX7_look_10 ?_
    refine k_if_ne O 19 dX7_look_13 (by decide) (fun c8 => ?_) (fun c8 => ?_)
    · have h := ite_f c8 h
      refine k_aload_n O dX7_look_19 0 rfl ?_
      refine k_iload_n O dX7_look_20 1 rfl ?_
      refine k_iload_n O dX7_look_21 2 rfl ?_
      obtain ⟨r11, w10, hc9, h⟩ := bd_some h
      refine k_callVi O (As := [.int v1, .int v2]) (rest := []) (k := 0) (c_X7_unknownFrom (x_l X) X.1 hN hz hc9) gX7_look_X7_unknownFrom rfl hd_X7_unknownFrom (by decide) (by omega) (E_0 hz) rfl rfl rfl rfl rfl (Nat.le_of_ble_eq_true rfl) dX7_look_22 ?_
      refine k_istore_n (lv' := [(3, .int r11), (0, .ref (g_ad X.1 0)), (1, .int v1), (2, .int v2)]) O dX7_look_25 rfl (by decide) rfl ?_
      refine k_aload_n O dX7_look_26 1 rfl ?_
      refine k_get O (v := .ref (g_ad X.1 26)) (k := 0) (by omega) (E_0 hz) rfl 6 (by decide) (fun _ h9 => List.mem_cons_of_mem _ (List.mem_append_left _ (List.mem_append_left _ (List.mem_append_left _ (List.mem_append_right _ h9))))) (List.mem_of_getElem? (i := 1) rfl) rfl dX7_look_27 ?_
      refine k_aload_n O dX7_look_30 1 rfl ?_
      refine k_get O (v := .ref (g_ad X.1 18)) (k := 0) (by omega) (E_0 hz) rfl 4 (by decide) (fun _ h9 => List.mem_cons_of_mem _ (List.mem_append_left _ (List.mem_append_left _ (List.mem_append_left _ (List.mem_append_right _ h9))))) (List.mem_of_getElem? (i := 2) rfl) rfl dX7_look_31 ?_
      obtain ⟨w13, hc12, h⟩ := bv_some h
      refine k_callVv O (As := [.ref (g_ad X.1 18)]) (rest := []) (k := 26) (c_X0_remember (x_l X) X.1 (by decide) (by omega) hN hc12) gX7_look_X0_remember rfl hd_X0_remember (by decide) (by omega) E_26 rfl rfl rfl rfl rfl (Nat.le_of_ble_eq_true rfl) dX7_look_34 ?_
      refine k_aload_n O dX7_look_37 1 rfl ?_
      refine k_get O (v := .ref (g_ad X.1 18)) (k := 0) (by omega) (E_0 hz) rfl 4 (by decide) (fun _ h9 => List.mem_cons_of_mem _ (List.mem_append_left _ (List.mem_append_left _ (List.mem_append_left _ (List.mem_append_right _ h9))))) (List.mem_of_getElem? (i := 2) rfl) rfl dX7_look_38 ?_
      refine k_get O (v := .ref (g_ad X.1 19)) (k := 18) (by omega) (E_sc (by decide)) rfl 4 (by decide) (fun _ h9 => List.mem_cons_of_mem _ (List.mem_append_left _ (List.mem_append_left _ (List.mem_append_right _ h9)))) (List.mem_of_getElem? (i := 3) rfl) rfl dX7_look_41 ?_
      refine k_iload_n O dX7_look_44 2 rfl ?_
      refine k_dup2 O dX7_look_45 rfl rfl ?_
      obtain ⟨g14, h⟩ := gd_some h
      refine k_iald O (k := 19) (by omega) (E_sc1 (by decide)) g14 dX7_look_46 ?_
      refine k_iload_n O dX7_look_47 0 rfl ?_
      refine k_ior O dX7_look_48 ?_
      obtain ⟨g15, h⟩ := gd_some h
      refine k_iast O (k := 19) (by omega) (E_sc1 (by decide)) (fun _ => (E_sc1 (by decide))) g15 dX7_look_49 ?_
      refine k_nw (fun w16 ew16 => ?_)
      have h := nm_use h w16 ew16
      refine k_iload_n O dX7_look_50 0 rfl ?_
      exact k_iret O dX7_look_51 (rt_int h ho)
    · have h := ite_t c8 h
      refine k_bipush O dX7_look_16 (v := -2) (by decide) ?_
      exact k_iret O dX7_look_18 (rt_int h ho)
  · have h := ite_t c4 h
    refine k_iconst O dX7_look_7 (v := -1) (by decide) ?_
    exact k_iret O dX7_look_8 (rt_int h ho)
theorem c_X7_look (l : Launch) (G : Gl) (hN : 105 ≤ g_N G) (hz : g_mz G = none) {w wz : Wd} {v1 : Int32} {v2 : Int32} {rz : Int32} (h : f_X7_look w v1 v2 = some (rz, wz)) : Ct l yX7_look wsX7_look (3) (62) G [.ref (g_ad G 0), .int v1, .int v2] w (some (.int rz), wz) := by
  refine Ct.start (by decide) rfl rfl rfl (Nat.le_of_ble_eq_true rfl) (fun X hG ho hl O => ?_)
  subst hG
  subst hl
  exact k_sub [0, 1, 2] rfl (w_X7_look_0 O hN hz ho h)
def b_X7_free_0 (w : Wd) (v1 : Int32) : Option (Int32 × Wd) := bd (f_X1_hasWalker 11 w v1) (fun r3 w2 => if r3 = 0 then (some ((-1 : Int32), w2)) else (bd (f_X3_isFree 18 w2 v1) (fun r7 w6 => if r7 = 0 then (bv (f_X0_remember 18 w6) (fun w10 => gd (inb v1 4) (nm (w10.1 21 v1.toNatClampNeg) (fun x12 => gd (inb v1 4) (nm (up w10 21 v1.toNatClampNeg ((-9 : Int32))) (fun w14 => some (x12, w14))))))) else (some ((-3 : Int32), w6)))))
def f_X7_free (w : Wd) (v1 : Int32) : Option (Int32 × Wd) := b_X7_free_0 w v1
set_option maxHeartbeats 4000000 in
set_option maxRecDepth 100000 in
theorem w_X7_free_0 {X : Cx} {rz : Int32} {wz : Wd} (O : Ok X cX7_free RX7 ((some .int)) wsX7_free (2) (44) 3) (hN : 105 ≤ g_N X.1) (hz : g_mz X.1 = none) (ho : Ro X (some (.int rz), wz)) {w : Wd} {v1 : Int32} (h : b_X7_free_0 w v1 = some (rz, wz)) : Wk X w 0 [(0, .ref (g_ad X.1 0)), (1, .int v1)] [] := by
  unfold b_X7_free_0 at h
  refine k_aload_n O dX7_free_0 0 rfl ?_
  refine k_get O (v := .ref (g_ad X.1 11)) (k := 0) (by omega) (E_0 hz) rfl 3 (by decide) (fun _ h9 => List.mem_cons_of_mem _ (List.mem_append_left _ (List.mem_append_left _ (List.mem_append_left _ (List.mem_append_right _ h9))))) (List.mem_of_getElem? (i := 1) rfl) rfl dX7_free_1 ?_
  refine k_iload_n O dX7_free_4 1 rfl ?_
  obtain ⟨r3, w2, hc1, h⟩ := bd_some h
  refine k_callVi O (As := [.int v1]) (rest := []) (k := 11) (c_X1_hasWalker (x_l X) X.1 (by decide) (by omega) hc1) gX7_free_X1_hasWalker rfl hd_X1_hasWalker (by decide) (by omega) (E_pl (by decide)) rfl rfl rfl rfl rfl (Nat.le_of_ble_eq_true rfl) dX7_free_5 ?_
  refine k_if_ne O 13 dX7_free_8 (by decide) (fun c4 => ?_) (fun c4 => ?_)
  · have h := ite_f c4 h
    refine k_aload_n O dX7_free_13 0 rfl ?_
    refine k_get O (v := .ref (g_ad X.1 18)) (k := 0) (by omega) (E_0 hz) rfl 4 (by decide) (fun _ h9 => List.mem_cons_of_mem _ (List.mem_append_left _ (List.mem_append_left _ (List.mem_append_left _ (List.mem_append_right _ h9))))) (List.mem_of_getElem? (i := 2) rfl) rfl dX7_free_14 ?_
    refine k_iload_n O dX7_free_17 1 rfl ?_
    obtain ⟨r7, w6, hc5, h⟩ := bd_some h
    refine k_callVi O (As := [.int v1]) (rest := []) (k := 18) (c_X3_isFree (x_l X) X.1 (by decide) (by omega) hc5) gX7_free_X3_isFree rfl hd_X3_isFree (by decide) (by omega) (E_sc (by decide)) rfl rfl rfl rfl rfl (Nat.le_of_ble_eq_true rfl) dX7_free_18 ?_
    refine k_if_eq O 27 dX7_free_21 (by decide) (fun c8 => ?_) (fun c8 => ?_)
    · have h := ite_t c8 h
      refine k_aload_n O dX7_free_27 0 rfl ?_
      refine k_get O (v := .ref (g_ad X.1 26)) (k := 0) (by omega) (E_0 hz) rfl 6 (by decide) (fun _ h9 => List.mem_cons_of_mem _ (List.mem_append_left _ (List.mem_append_left _ (List.mem_append_left _ (List.mem_append_right _ h9))))) (List.mem_of_getElem? (i := 3) rfl) rfl dX7_free_28 ?_
      refine k_aload_n O dX7_free_31 0 rfl ?_
      refine k_get O (v := .ref (g_ad X.1 18)) (k := 0) (by omega) (E_0 hz) rfl 4 (by decide) (fun _ h9 => List.mem_cons_of_mem _ (List.mem_append_left _ (List.mem_append_left _ (List.mem_append_left _ (List.mem_append_right _ h9))))) (List.mem_of_getElem? (i := 2) rfl) rfl dX7_free_32 ?_
      obtain ⟨w10, hc9, h⟩ := bv_some h
      refine k_callVv O (As := [.ref (g_ad X.1 18)]) (rest := []) (k := 26) (c_X0_remember (x_l X) X.1 (by decide) (by omega) hN hc9) gX7_free_X0_remember rfl hd_X0_remember (by decide) (by omega) E_26 rfl rfl rfl rfl rfl (Nat.le_of_ble_eq_true rfl) dX7_free_35 ?_
      refine k_aload_n O dX7_free_38 0 rfl ?_
      refine k_get O (v := .ref (g_ad X.1 18)) (k := 0) (by omega) (E_0 hz) rfl 4 (by decide) (fun _ h9 => List.mem_cons_of_mem _ (List.mem_append_left _ (List.mem_append_left _ (List.mem_append_left _ (List.mem_append_right _ h9))))) (List.mem_of_getElem? (i := 2) rfl) rfl dX7_free_39 ?_
      refine k_get O (v := .ref (g_ad X.1 21)) (k := 18) (by omega) (E_sc (by decide)) rfl 6 (by decide) (fun _ h9 => List.mem_cons_of_mem _ (List.mem_append_left _ (List.mem_append_left _ (List.mem_append_right _ h9)))) (List.mem_of_getElem? (i := 4) rfl) rfl dX7_free_42 ?_
      refine k_iload_n O dX7_free_45 1 rfl ?_
      obtain ⟨g11, h⟩ := gd_some h
      refine k_iald O (k := 21) (by omega) (E_sc3 (by decide)) g11 dX7_free_46 ?_
      refine k_topi (fun x12 ex12 => ?_)
      have h := nm_use h x12 ex12
      refine k_istore_n (lv' := [(2, .int x12), (0, .ref (g_ad X.1 0)), (1, .int v1)]) O dX7_free_47 rfl (by decide) rfl ?_
      refine k_aload_n O dX7_free_48 1 rfl ?_
      refine k_get O (v := .ref (g_ad X.1 18)) (k := 0) (by omega) (E_0 hz) rfl 4 (by decide) (fun _ h9 => List.mem_cons_of_mem _ (List.mem_append_left _ (List.mem_append_left _ (List.mem_append_left _ (List.mem_append_right _ h9))))) (List.mem_of_getElem? (i := 2) rfl) rfl dX7_free_49 ?_
      refine k_get O (v := .ref (g_ad X.1 21)) (k := 18) (by omega) (E_sc (by decide)) rfl 6 (by decide) (fun _ h9 => List.mem_cons_of_mem _ (List.mem_append_left _ (List.mem_append_left _ (List.mem_append_right _ h9)))) (List.mem_of_getElem? (i := 4) rfl) rfl dX7_free_52 ?_
      refine k_iload_n O dX7_free_55 2 rfl ?_
      refine k_bipush O dX7_free_56 (v := -9) (by decide) ?_
      obtain ⟨g13, h⟩ := gd_some h
      refine k_iast O (k := 21) (by omega) (E_sc3 (by decide)) (fun _ => (E_sc3 (by decide))) g13 dX7_free_58 ?_
      refine k_nw (fun w14 ew14 => ?_)
      have h := nm_use h w14 ew14
      refine k_iload_n O dX7_free_59 0 rfl ?_
      exact k_iret O dX7_free_60 (rt_int h ho)
    · have h := ite_f c8 h
      refine k_bipush O dX7_free_24 (v := -3) (by decide) ?_
      exact k_iret O dX7_free_26 (rt_int h ho)
  · have h := ite_t c4 h
    refine k_iconst O dX7_free_11 (v := -1) (by decide) ?_
    exact k_iret O dX7_free_12 (rt_int h ho)
theorem c_X7_free (l : Launch) (G : Gl) (hN : 105 ≤ g_N G) (hz : g_mz G = none) {w wz : Wd} {v1 : Int32} {rz : Int32} (h : f_X7_free w v1 = some (rz, wz)) : Ct l yX7_free wsX7_free (2) (44) G [.ref (g_ad G 0), .int v1] w (some (.int rz), wz) := by
  refine Ct.start (by decide) rfl rfl rfl (Nat.le_of_ble_eq_true rfl) (fun X hG ho hl O => ?_)
  subst hG
  subst hl
  exact k_sub [0, 1] rfl (w_X7_free_0 O hN hz ho h)
def b_X7_undo_0 (w : Wd) : Option (Int32 × Wd) := if (w.1 26 2) = 0 then (some ((-3 : Int32), w)) else (nm (w.1 18 3) (fun x2 => bv (f_X0_takeBack 18 w) (fun w4 => gd (bb x2) (nm (up w4 18 3 x2) (fun w6 => some (w6.1 26 2, w6))))))
def f_X7_undo (w : Wd) : Option (Int32 × Wd) := b_X7_undo_0 w 
set_option maxHeartbeats 4000000 in
set_option maxRecDepth 100000 in
theorem w_X7_undo_0 {X : Cx} {rz : Int32} {wz : Wd} (O : Ok X cX7_undo RX7 ((some .int)) wsX7_undo (2) (43) 2) (hN : 105 ≤ g_N X.1) (hz : g_mz X.1 = none) (ho : Ro X (some (.int rz), wz)) {w : Wd} (h : b_X7_undo_0 w  = some (rz, wz)) : Wk X w 0 [(0, .ref (g_ad X.1 0))] [] := by
  unfold b_X7_undo_0 at h
  refine k_aload_n O dX7_undo_0 0 rfl ?_
  refine k_get O (v := .ref (g_ad X.1 26)) (k := 0) (by omega) (E_0 hz) rfl 6 (by decide) (fun _ h9 => List.mem_cons_of_mem _ (List.mem_append_left _ (List.mem_append_left _ (List.mem_append_right _ h9)))) (List.mem_of_getElem? (i := 1) rfl) rfl dX7_undo_1 ?_
  refine k_get O (v := .int (w.1 26 2)) (k := 26) (by omega) E_26 rfl 2 (by decide) (fun _ h9 => List.mem_cons_of_mem _ (List.mem_append_left _ (List.mem_append_right _ h9))) (List.mem_of_getElem? (i := 2) rfl) rfl dX7_undo_4 ?_
  refine k_if_ne O 13 dX7_undo_7 (by decide) (fun c1 => ?_) (fun c1 => ?_)
  · have h := ite_f c1 h
    refine k_aload_n O dX7_undo_13 0 rfl ?_
    refine k_get O (v := .ref (g_ad X.1 18)) (k := 0) (by omega) (E_0 hz) rfl 4 (by decide) (fun _ h9 => List.mem_cons_of_mem _ (List.mem_append_left _ (List.mem_append_left _ (List.mem_append_right _ h9)))) (List.mem_of_getElem? (i := 3) rfl) rfl dX7_undo_14 ?_
    refine k_get O (v := .int (w.1 18 3)) (k := 18) (by omega) (E_sc (by decide)) rfl 3 (by decide) (fun _ h9 => List.mem_cons_of_mem _ (List.mem_append_right _ h9)) (List.mem_of_getElem? (i := 4) rfl) rfl dX7_undo_17 ?_
    refine k_topi (fun x2 ex2 => ?_)
    have h := nm_use h x2 ex2
    refine k_istore_n (lv' := [(1, .int x2), (0, .ref (g_ad X.1 0))]) O dX7_undo_20 rfl (by decide) rfl ?_
    refine k_aload_n O dX7_undo_21 1 rfl ?_
    refine k_get O (v := .ref (g_ad X.1 26)) (k := 0) (by omega) (E_0 hz) rfl 6 (by decide) (fun _ h9 => List.mem_cons_of_mem _ (List.mem_append_left _ (List.mem_append_left _ (List.mem_append_right _ h9)))) (List.mem_of_getElem? (i := 1) rfl) rfl dX7_undo_22 ?_
    refine k_aload_n O dX7_undo_25 1 rfl ?_
    refine k_get O (v := .ref (g_ad X.1 18)) (k := 0) (by omega) (E_0 hz) rfl 4 (by decide) (fun _ h9 => List.mem_cons_of_mem _ (List.mem_append_left _ (List.mem_append_left _ (List.mem_append_right _ h9)))) (List.mem_of_getElem? (i := 3) rfl) rfl dX7_undo_26 ?_
    obtain ⟨w4, hc3, h⟩ := bv_some h
    refine k_callVv O (As := [.ref (g_ad X.1 18)]) (rest := []) (k := 26) (c_X0_takeBack (x_l X) X.1 (by decide) (by omega) hN hc3) gX7_undo_X0_takeBack rfl hd_X0_takeBack (by decide) (by omega) E_26 rfl rfl rfl rfl rfl (Nat.le_of_ble_eq_true rfl) dX7_undo_29 ?_
    refine k_aload_n O dX7_undo_32 1 rfl ?_
    refine k_get O (v := .ref (g_ad X.1 18)) (k := 0) (by omega) (E_0 hz) rfl 4 (by decide) (fun _ h9 => List.mem_cons_of_mem _ (List.mem_append_left _ (List.mem_append_left _ (List.mem_append_right _ h9)))) (List.mem_of_getElem? (i := 3) rfl) rfl dX7_undo_33 ?_
    refine k_iload_n O dX7_undo_36 0 rfl ?_
    obtain ⟨g5, h⟩ := gd_some h
    refine k_puti O (k := 18) tyX3 tyX3_ok nmX3 (by omega) (E_sc (by decide)) rfl 3 (by decide) (fun _ h9 => List.mem_cons_of_mem _ (List.mem_append_right _ h9)) (List.mem_of_getElem? (i := 4) rfl) rfl (bb_nar g5) (bb_fit g5) (Nat.le_of_ble_eq_true rfl) ((E_sc (by decide)).trans rfl) dX7_undo_37 ?_
    refine k_nw (fun w6 ew6 => ?_)
    have h := nm_use h w6 ew6
    refine k_aload_n O dX7_undo_40 1 rfl ?_
    refine k_get O (v := .ref (g_ad X.1 26)) (k := 0) (by omega) (E_0 hz) rfl 6 (by decide) (fun _ h9 => List.mem_cons_of_mem _ (List.mem_append_left _ (List.mem_append_left _ (List.mem_append_right _ h9)))) (List.mem_of_getElem? (i := 1) rfl) rfl dX7_undo_41 ?_
    refine k_get O (v := .int (w6.1 26 2)) (k := 26) (by omega) E_26 rfl 2 (by decide) (fun _ h9 => List.mem_cons_of_mem _ (List.mem_append_left _ (List.mem_append_right _ h9))) (List.mem_of_getElem? (i := 2) rfl) rfl dX7_undo_44 ?_
    exact k_iret O dX7_undo_47 (rt_int h ho)
  · have h := ite_t c1 h
    refine k_bipush O dX7_undo_10 (v := -3) (by decide) ?_
    exact k_iret O dX7_undo_12 (rt_int h ho)
theorem c_X7_undo (l : Launch) (G : Gl) (hN : 105 ≤ g_N G) (hz : g_mz G = none) {w wz : Wd} {rz : Int32} (h : f_X7_undo w  = some (rz, wz)) : Ct l yX7_undo wsX7_undo (2) (43) G [.ref (g_ad G 0)] w (some (.int rz), wz) := by
  refine Ct.start (by decide) rfl rfl rfl (Nat.le_of_ble_eq_true rfl) (fun X hG ho hl O => ?_)
  subst hG
  subst hl
  exact k_sub [0] rfl (w_X7_undo_0 O hN hz ho h)
def b_X7_sprung_0 (w : Wd) (v1 : Int32) : Option (Int32 × Wd) := bd (f_X1_hasTrap 11 w v1) (fun r3 w2 => if r3 = 0 then (some ((-1 : Int32), w2)) else (bd (f_X3_ready 18 w2) (fun r7 w6 => bd (f_X1_spread 11 w6 (((1 : Int32)) <<< (v1 &&& 31)) r7) (fun r10 w9 => some (r10, w9)))))
def f_X7_sprung (w : Wd) (v1 : Int32) : Option (Int32 × Wd) := b_X7_sprung_0 w v1
set_option maxHeartbeats 4000000 in
set_option maxRecDepth 100000 in
theorem w_X7_sprung_0 {X : Cx} {rz : Int32} {wz : Wd} (O : Ok X cX7_sprung RX7 ((some .int)) wsX7_sprung (1) (27) 2) (hN : 105 ≤ g_N X.1) (hz : g_mz X.1 = none) (ho : Ro X (some (.int rz), wz)) {w : Wd} {v1 : Int32} (h : b_X7_sprung_0 w v1 = some (rz, wz)) : Wk X w 0 [(0, .ref (g_ad X.1 0)), (1, .int v1)] [] := by
  unfold b_X7_sprung_0 at h
  refine k_aload_n O dX7_sprung_0 0 rfl ?_
  refine k_get O (v := .ref (g_ad X.1 11)) (k := 0) (by omega) (E_0 hz) rfl 3 (by decide) (fun _ h9 => List.mem_cons_of_mem _ (List.mem_append_left _ (List.mem_append_left _ (List.mem_append_right _ h9)))) (List.mem_of_getElem? (i := 1) rfl) rfl dX7_sprung_1 ?_
  refine k_iload_n O dX7_sprung_4 1 rfl ?_
  obtain ⟨r3, w2, hc1, h⟩ := bd_some h
  refine k_callVi O (As := [.int v1]) (rest := []) (k := 11) (c_X1_hasTrap (x_l X) X.1 (by decide) (by omega) hc1) gX7_sprung_X1_hasTrap rfl hd_X1_hasTrap (by decide) (by omega) (E_pl (by decide)) rfl rfl rfl rfl rfl (Nat.le_of_ble_eq_true rfl) dX7_sprung_5 ?_
  refine k_if_ne O 13 dX7_sprung_8 (by decide) (fun c4 => ?_) (fun c4 => ?_)
  · have h := ite_f c4 h
    refine k_aload_n O dX7_sprung_13 0 rfl ?_
    refine k_get O (v := .ref (g_ad X.1 11)) (k := 0) (by omega) (E_0 hz) rfl 3 (by decide) (fun _ h9 => List.mem_cons_of_mem _ (List.mem_append_left _ (List.mem_append_left _ (List.mem_append_right _ h9)))) (List.mem_of_getElem? (i := 1) rfl) rfl dX7_sprung_14 ?_
    refine k_iconst O dX7_sprung_17 (v := 1) (by decide) ?_
    refine k_iload_n O dX7_sprung_18 1 rfl ?_
    refine k_ishl O dX7_sprung_19 ?_
    refine k_aload_n O dX7_sprung_20 0 rfl ?_
    refine k_get O (v := .ref (g_ad X.1 18)) (k := 0) (by omega) (E_0 hz) rfl 4 (by decide) (fun _ h9 => List.mem_cons_of_mem _ (List.mem_append_left _ (List.mem_append_left _ (List.mem_append_right _ h9)))) (List.mem_of_getElem? (i := 2) rfl) rfl dX7_sprung_21 ?_
    obtain ⟨r7, w6, hc5, h⟩ := bd_some h
    refine k_callVi O (As := []) (rest := [.int (((1 : Int32)) <<< (v1 &&& 31)), .ref (g_ad X.1 11)]) (k := 18) (c_X3_ready (x_l X) X.1 (by decide) (by omega) hc5) gX7_sprung_X3_ready rfl hd_X3_ready (by decide) (by omega) (E_sc (by decide)) rfl rfl rfl rfl rfl (Nat.le_of_ble_eq_true rfl) dX7_sprung_24 ?_
    obtain ⟨r10, w9, hc8, h⟩ := bd_some h
    refine k_callVi O (As := [.int (((1 : Int32)) <<< (v1 &&& 31)), .int r7]) (rest := []) (k := 11) (c_X1_spread (x_l X) X.1 (by decide) (by omega) hc8) gX7_sprung_X1_spread rfl hd_X1_spread (by decide) (by omega) (E_pl (by decide)) rfl rfl rfl rfl rfl (Nat.le_of_ble_eq_true rfl) dX7_sprung_27 ?_
    exact k_iret O dX7_sprung_30 (rt_int h ho)
  · have h := ite_t c4 h
    refine k_iconst O dX7_sprung_11 (v := -1) (by decide) ?_
    exact k_iret O dX7_sprung_12 (rt_int h ho)
theorem c_X7_sprung (l : Launch) (G : Gl) (hN : 105 ≤ g_N G) (hz : g_mz G = none) {w wz : Wd} {v1 : Int32} {rz : Int32} (h : f_X7_sprung w v1 = some (rz, wz)) : Ct l yX7_sprung wsX7_sprung (1) (27) G [.ref (g_ad G 0), .int v1] w (some (.int rz), wz) := by
  refine Ct.start (by decide) rfl rfl rfl (Nat.le_of_ble_eq_true rfl) (fun X hG ho hl O => ?_)
  subst hG
  subst hl
  exact k_sub [0, 1] rfl (w_X7_sprung_0 O hN hz ho h)
def b_X7_rings_4 : Nat → Wd → Int32 → Int32 → Option (Int32 × Wd)
  | 0, _, _, _ => none
  | n + 1, w, v1, v2 => if ((6 : Int32)) ≤ v2 then (some (v1, w)) else (gd (inb v2 6) (bd (f_X1_allTraps 11 w) (fun r5 w4 => bd (f_X1_spread 11 w4 (w.1 15 v2.toNatClampNeg) r5) (fun r8 w7 => nm (v1 ||| (r8 &&& (((1 : Int32)) <<< (v2 &&& 31)))) (fun x9 => nm (v2 + (1 : Int32)) (fun x10 => b_X7_rings_4 n w7 x9 x10))))))
def b_X7_rings_0 (w : Wd) : Option (Int32 × Wd) := b_X7_rings_4 LF w ((0 : Int32)) ((0 : Int32))
def f_X7_rings (w : Wd) : Option (Int32 × Wd) := b_X7_rings_0 w 
set_option maxHeartbeats 4000000 in
set_option maxRecDepth 100000 in
theorem w_X7_rings_4 {X : Cx} {rz : Int32} {wz : Wd} (O : Ok X cX7_rings RX7 ((some .int)) wsX7_rings (1) (27) 4) (hN : 105 ≤ g_N X.1) (hz : g_mz X.1 = none) (ho : Ro X (some (.int rz), wz)) (n : Nat) : ∀ {w : Wd} {v1 : Int32} {v2 : Int32}, b_X7_rings_4 n w v1 v2 = some (rz, wz) → Wk X w 4 [(0, .ref (g_ad X.1 0)), (1, .int v1), (2, .int v2)] [] := by
  induction n with
  | zero => intro w v1 v2 h; exact nomatch (show (none : Option (Int32 × Wd)) = some _ from h)
  | succ n ih =>
    intro w v1 v2 h
    rw [b_X7_rings_4] at h
    refine k_iload_n O dX7_rings_4 2 rfl ?_
    refine k_bipush O dX7_rings_5 (v := 6) (by decide) ?_
    refine k_icmp_ge O 48 dX7_rings_7 (by decide) (fun c1 => ?_) (fun c1 => ?_)
    · have h := ite_t c1 h
      refine k_iload_n O dX7_rings_48 1 rfl ?_
      exact k_iret O dX7_rings_49 (rt_int h ho)
    · have h := ite_f c1 h
      refine k_aload_n O dX7_rings_10 0 rfl ?_
      refine k_get O (v := .ref (g_ad X.1 11)) (k := 0) (by omega) (E_0 hz) rfl 3 (by decide) (fun _ h9 => List.mem_cons_of_mem _ (List.mem_append_left _ (List.mem_append_right _ h9))) (List.mem_of_getElem? (i := 1) rfl) rfl dX7_rings_11 ?_
      refine k_aload_n O dX7_rings_14 0 rfl ?_
      refine k_get O (v := .ref (g_ad X.1 11)) (k := 0) (by omega) (E_0 hz) rfl 3 (by decide) (fun _ h9 => List.mem_cons_of_mem _ (List.mem_append_left _ (List.mem_append_right _ h9))) (List.mem_of_getElem? (i := 1) rfl) rfl dX7_rings_15 ?_
      refine k_get O (v := .ref (g_ad X.1 15)) (k := 11) (by omega) (E_pl (by decide)) rfl 9 (by decide) (fun _ h9 => List.mem_cons_of_mem _ (List.mem_append_right _ h9)) (List.mem_of_getElem? (i := 2) rfl) rfl dX7_rings_18 ?_
      refine k_iload_n O dX7_rings_21 2 rfl ?_
      obtain ⟨g2, h⟩ := gd_some h
      refine k_iald O (k := 15) (by omega) (E_pl4 (by decide)) g2 dX7_rings_22 ?_
      refine k_aload_n O dX7_rings_23 0 rfl ?_
      refine k_get O (v := .ref (g_ad X.1 11)) (k := 0) (by omega) (E_0 hz) rfl 3 (by decide) (fun _ h9 => List.mem_cons_of_mem _ (List.mem_append_left _ (List.mem_append_right _ h9))) (List.mem_of_getElem? (i := 1) rfl) rfl dX7_rings_24 ?_
      obtain ⟨r5, w4, hc3, h⟩ := bd_some h
      refine k_callVi O (As := []) (rest := [.int (w.1 15 v2.toNatClampNeg), .ref (g_ad X.1 11)]) (k := 11) (c_X1_allTraps (x_l X) X.1 (by decide) (by omega) hc3) gX7_rings_X1_allTraps rfl hd_X1_allTraps (by decide) (by omega) (E_pl (by decide)) rfl rfl rfl rfl rfl (Nat.le_of_ble_eq_true rfl) dX7_rings_27 ?_
      obtain ⟨r8, w7, hc6, h⟩ := bd_some h
      refine k_callVi O (As := [.int (w.1 15 v2.toNatClampNeg), .int r5]) (rest := []) (k := 11) (c_X1_spread (x_l X) X.1 (by decide) (by omega) hc6) gX7_rings_X1_spread rfl hd_X1_spread (by decide) (by omega) (E_pl (by decide)) rfl rfl rfl rfl rfl (Nat.le_of_ble_eq_true rfl) dX7_rings_30 ?_
      refine k_istore_n (lv' := [(3, .int r8), (0, .ref (g_ad X.1 0)), (1, .int v1), (2, .int v2)]) O dX7_rings_33 rfl (by decide) rfl ?_
      refine k_iload_n O dX7_rings_34 2 rfl ?_
      refine k_iload_n O dX7_rings_35 0 rfl ?_
      refine k_iconst O dX7_rings_36 (v := 1) (by decide) ?_
      refine k_iload_n O dX7_rings_37 3 rfl ?_
      refine k_ishl O dX7_rings_38 ?_
      refine k_iand O dX7_rings_39 ?_
      refine k_ior O dX7_rings_40 ?_
      refine k_topi (fun x9 ex9 => ?_)
      have h := nm_use h x9 ex9
      refine k_istore_n (lv' := [(1, .int x9), (3, .int r8), (0, .ref (g_ad X.1 0)), (2, .int v2)]) O dX7_rings_41 rfl (by decide) rfl ?_
      obtain ⟨x10, ex10⟩ : ∃ z : Int32, z = v2 + (1 : Int32) := ⟨_, rfl⟩
      have h := nm_use h x10 ex10
      refine k_iinc (lv' := [(2, .int x10), (1, .int x9), (3, .int r8), (0, .ref (g_ad X.1 0))]) O dX7_rings_42 3 rfl (by rw [ex10]; rfl) (by decide) rfl ?_
      refine k_goto O 4 dX7_rings_45 (by decide) ?_
      exact k_sub [3, 1, 0] rfl (ih h)
set_option maxHeartbeats 4000000 in
set_option maxRecDepth 100000 in
theorem w_X7_rings_0 {X : Cx} {rz : Int32} {wz : Wd} (O : Ok X cX7_rings RX7 ((some .int)) wsX7_rings (1) (27) 4) (hN : 105 ≤ g_N X.1) (hz : g_mz X.1 = none) (ho : Ro X (some (.int rz), wz)) {w : Wd} (h : b_X7_rings_0 w  = some (rz, wz)) : Wk X w 0 [(0, .ref (g_ad X.1 0))] [] := by
  unfold b_X7_rings_0 at h
  refine k_iconst O dX7_rings_0 (v := 0) (by decide) ?_
  refine k_istore_n (lv' := [(1, .int ((0 : Int32))), (0, .ref (g_ad X.1 0))]) O dX7_rings_1 rfl (by decide) rfl ?_
  refine k_iconst O dX7_rings_2 (v := 0) (by decide) ?_
  refine k_istore_n (lv' := [(2, .int ((0 : Int32))), (1, .int ((0 : Int32))), (0, .ref (g_ad X.1 0))]) O dX7_rings_3 rfl (by decide) rfl ?_
  exact k_sub [2, 1, 0] rfl (w_X7_rings_4 O hN hz ho LF h)
theorem c_X7_rings (l : Launch) (G : Gl) (hN : 105 ≤ g_N G) (hz : g_mz G = none) {w wz : Wd} {rz : Int32} (h : f_X7_rings w  = some (rz, wz)) : Ct l yX7_rings wsX7_rings (1) (27) G [.ref (g_ad G 0)] w (some (.int rz), wz) := by
  refine Ct.start (by decide) rfl rfl rfl (Nat.le_of_ble_eq_true rfl) (fun X hG ho hl O => ?_)
  subst hG
  subst hl
  exact k_sub [0] rfl (w_X7_rings_0 O hN hz ho h)
def b_X7_all_60 (kb18 : Wd → Int32 → Int32 → Int32 → Option (Int32 × Wd)) (w : Wd) (v1 : Int32) (v2 : Int32) (v3 : Int32) : Option (Int32 × Wd) := nm (v3 + (-1 : Int32)) (fun x1 => kb18 w v1 v2 x1)
def b_X7_all_38 (kb18 : Wd → Int32 → Int32 → Int32 → Option (Int32 × Wd)) (w : Wd) (v1 : Int32) (v2 : Int32) (v3 : Int32) (s0 : Int32) : Option (Int32 × Wd) := if s0 = 0 then (b_X7_all_60 kb18 w v1 v2 v3) else (bd (f_X1_spread 11 w v3 v1) (fun r4 w3 => if r4 = v1 then (b_X7_all_60 kb18 w3 v1 v3 v3) else (b_X7_all_60 kb18 w3 v1 v2 v3)))
def b_X7_all_18 : Nat → Wd → Int32 → Int32 → Int32 → Option (Int32 × Wd)
  | 0, _, _, _, _ => none
  | n + 1, w, v1, v2, v3 => if v3 < 0 then (some (v2, w)) else (bd (f_J6_bitCount_0f7a4 w v3) (fun r4 w3 => bd (f_J6_bitCount_0f7a4 w3 v2) (fun r7 w6 => if r7 < r4 then (b_X7_all_38 (b_X7_all_18 n) w6 v1 v2 v3 ((0 : Int32))) else (b_X7_all_38 (b_X7_all_18 n) w6 v1 v2 v3 ((1 : Int32))))))
def b_X7_all_0 (w : Wd) : Option (Int32 × Wd) := bd (f_X3_ready 18 w) (fun r3 w2 => bd (f_X1_allTraps 11 w2) (fun r6 w5 => b_X7_all_18 LF w5 r3 r3 r6))
def f_X7_all (w : Wd) : Option (Int32 × Wd) := b_X7_all_0 w 
set_option maxHeartbeats 4000000 in
set_option maxRecDepth 100000 in
theorem w_X7_all_60 {X : Cx} {rz : Int32} {wz : Wd} (O : Ok X cX7_all RX7 ((some .int)) wsX7_all (1) (27) 5) (hN : 105 ≤ g_N X.1) (hz : g_mz X.1 = none) {kb18 : Wd → Int32 → Int32 → Int32 → Option (Int32 × Wd)} (hk18 : ∀ {w : Wd} {v1 : Int32} {v2 : Int32} {v3 : Int32}, kb18 w v1 v2 v3 = some (rz, wz) → Wk X w 18 [(0, .ref (g_ad X.1 0)), (1, .int v1), (2, .int v2), (3, .int v3)] []) (ho : Ro X (some (.int rz), wz)) {w : Wd} {v1 : Int32} {v2 : Int32} {v3 : Int32} (h : b_X7_all_60 kb18 w v1 v2 v3 = some (rz, wz)) : Wk X w 60 [(0, .ref (g_ad X.1 0)), (1, .int v1), (2, .int v2), (3, .int v3)] [] := by
  unfold b_X7_all_60 at h
  obtain ⟨x1, ex1⟩ : ∃ z : Int32, z = v3 + (-1 : Int32) := ⟨_, rfl⟩
  have h := nm_use h x1 ex1
  refine k_iinc (lv' := [(3, .int x1), (0, .ref (g_ad X.1 0)), (1, .int v1), (2, .int v2)]) O dX7_all_60 3 rfl (by rw [ex1]; rfl) (by decide) rfl ?_
  refine k_goto O 18 dX7_all_63 (by decide) ?_
  exact k_sub [1, 2, 3, 0] rfl (hk18 h)
set_option maxHeartbeats 4000000 in
set_option maxRecDepth 100000 in
theorem w_X7_all_38 {X : Cx} {rz : Int32} {wz : Wd} (O : Ok X cX7_all RX7 ((some .int)) wsX7_all (1) (27) 5) (hN : 105 ≤ g_N X.1) (hz : g_mz X.1 = none) {kb18 : Wd → Int32 → Int32 → Int32 → Option (Int32 × Wd)} (hk18 : ∀ {w : Wd} {v1 : Int32} {v2 : Int32} {v3 : Int32}, kb18 w v1 v2 v3 = some (rz, wz) → Wk X w 18 [(0, .ref (g_ad X.1 0)), (1, .int v1), (2, .int v2), (3, .int v3)] []) (ho : Ro X (some (.int rz), wz)) {w : Wd} {v1 : Int32} {v2 : Int32} {v3 : Int32} {s0 : Int32} (h : b_X7_all_38 kb18 w v1 v2 v3 s0 = some (rz, wz)) : Wk X w 38 [(0, .ref (g_ad X.1 0)), (1, .int v1), (2, .int v2), (3, .int v3)] [.int s0] := by
  unfold b_X7_all_38 at h
  refine k_istore (lv' := [(4, .int s0), (0, .ref (g_ad X.1 0)), (1, .int v1), (2, .int v2), (3, .int v3)]) O dX7_all_38 (by decide) rfl ?_
  refine k_iload O dX7_all_40 0 rfl ?_
  refine k_if_eq O 60 dX7_all_42 (by decide) (fun c1 => ?_) (fun c1 => ?_)
  · have h := ite_t c1 h
    exact k_sub [1, 2, 3, 4] rfl (w_X7_all_60 O hN hz hk18 ho h)
  · have h := ite_f c1 h
    refine k_aload_n O dX7_all_45 1 rfl ?_
    refine k_get O (v := .ref (g_ad X.1 11)) (k := 0) (by omega) (E_0 hz) rfl 3 (by decide) (fun _ h9 => List.mem_cons_of_mem _ (List.mem_append_left _ (List.mem_append_left _ (List.mem_append_right _ h9)))) (List.mem_of_getElem? (i := 2) rfl) rfl dX7_all_46 ?_
    refine k_iload_n O dX7_all_49 4 rfl ?_
    refine k_iload_n O dX7_all_50 2 rfl ?_
    obtain ⟨r4, w3, hc2, h⟩ := bd_some h
    refine k_callVi O (As := [.int v3, .int v1]) (rest := []) (k := 11) (c_X1_spread (x_l X) X.1 (by decide) (by omega) hc2) gX7_all_X1_spread rfl hd_X1_spread (by decide) (by omega) (E_pl (by decide)) rfl rfl rfl rfl rfl (Nat.le_of_ble_eq_true rfl) dX7_all_51 ?_
    refine k_iload_n O dX7_all_54 2 rfl ?_
    refine k_icmp_ne O 60 dX7_all_55 (by decide) (fun c5 => ?_) (fun c5 => ?_)
    · have h := ite_f c5 h
      exact k_sub [1, 2, 3, 4] rfl (w_X7_all_60 O hN hz hk18 ho h)
    · have h := ite_t c5 h
      refine k_iload_n O dX7_all_58 4 rfl ?_
      refine k_istore_n (lv' := [(2, .int v3), (4, .int s0), (0, .ref (g_ad X.1 0)), (1, .int v1), (3, .int v3)]) O dX7_all_59 rfl (by decide) rfl ?_
      exact k_sub [2, 3, 0, 4] rfl (w_X7_all_60 O hN hz hk18 ho h)
set_option maxHeartbeats 4000000 in
set_option maxRecDepth 100000 in
theorem w_X7_all_18 {X : Cx} {rz : Int32} {wz : Wd} (O : Ok X cX7_all RX7 ((some .int)) wsX7_all (1) (27) 5) (hN : 105 ≤ g_N X.1) (hz : g_mz X.1 = none) (ho : Ro X (some (.int rz), wz)) (n : Nat) : ∀ {w : Wd} {v1 : Int32} {v2 : Int32} {v3 : Int32}, b_X7_all_18 n w v1 v2 v3 = some (rz, wz) → Wk X w 18 [(0, .ref (g_ad X.1 0)), (1, .int v1), (2, .int v2), (3, .int v3)] [] := by
  induction n with
  | zero => intro w v1 v2 v3 h; exact nomatch (show (none : Option (Int32 × Wd)) = some _ from h)
  | succ n ih =>
    intro w v1 v2 v3 h
    rw [b_X7_all_18] at h
    refine k_iload_n O dX7_all_18 3 rfl ?_
    refine k_if_lt O 66 dX7_all_19 (by decide) (fun c1 => ?_) (fun c1 => ?_)
    · have h := ite_t c1 h
      refine k_iload_n O dX7_all_66 2 rfl ?_
      exact k_iret O dX7_all_67 (rt_int h ho)
    · have h := ite_f c1 h
      refine k_iload_n O dX7_all_22 3 rfl ?_
      obtain ⟨r4, w3, hc2, h⟩ := bd_some h
      refine k_callSi O (As := [.int v3]) (rest := []) (c_J6_bitCount_0f7a4 (x_l X) X.1 hc2) gX7_all_J6_bitCount_0f7a4 rfl hd_J6_bitCount_0f7a4 (by decide) rfl rfl (Nat.le_of_ble_eq_true rfl) dX7_all_23 ?_
      refine k_iload_n O dX7_all_26 2 rfl ?_
      obtain ⟨r7, w6, hc5, h⟩ := bd_some h
      refine k_callSi O (As := [.int v2]) (rest := [.int r4]) (c_J6_bitCount_0f7a4 (x_l X) X.1 hc5) gX7_all_J6_bitCount_0f7a4 rfl hd_J6_bitCount_0f7a4 (by decide) rfl rfl (Nat.le_of_ble_eq_true rfl) dX7_all_27 ?_
      refine k_icmp_gt O 37 dX7_all_30 (by decide) (fun c8 => ?_) (fun c8 => ?_)
      · have h := ite_t c8 h
        refine k_iconst O dX7_all_37 (v := 0) (by decide) ?_
        exact k_sub [0, 1, 2, 3] rfl (w_X7_all_38 O hN hz (fun {_} {_} {_} {_} h9 => ih h9) ho h)
      · have h := ite_f c8 h
        refine k_iconst O dX7_all_33 (v := 1) (by decide) ?_
        refine k_goto O 38 dX7_all_34 (by decide) ?_
        exact k_sub [0, 1, 2, 3] rfl (w_X7_all_38 O hN hz (fun {_} {_} {_} {_} h9 => ih h9) ho h)
set_option maxHeartbeats 4000000 in
set_option maxRecDepth 100000 in
theorem w_X7_all_0 {X : Cx} {rz : Int32} {wz : Wd} (O : Ok X cX7_all RX7 ((some .int)) wsX7_all (1) (27) 5) (hN : 105 ≤ g_N X.1) (hz : g_mz X.1 = none) (ho : Ro X (some (.int rz), wz)) {w : Wd} (h : b_X7_all_0 w  = some (rz, wz)) : Wk X w 0 [(0, .ref (g_ad X.1 0))] [] := by
  unfold b_X7_all_0 at h
  refine k_aload_n O dX7_all_0 0 rfl ?_
  refine k_get O (v := .ref (g_ad X.1 18)) (k := 0) (by omega) (E_0 hz) rfl 4 (by decide) (fun _ h9 => List.mem_cons_of_mem _ (List.mem_append_left _ (List.mem_append_left _ (List.mem_append_right _ h9)))) (List.mem_of_getElem? (i := 1) rfl) rfl dX7_all_1 ?_
  obtain ⟨r3, w2, hc1, h⟩ := bd_some h
  refine k_callVi O (As := []) (rest := []) (k := 18) (c_X3_ready (x_l X) X.1 (by decide) (by omega) hc1) gX7_all_X3_ready rfl hd_X3_ready (by decide) (by omega) (E_sc (by decide)) rfl rfl rfl rfl rfl (Nat.le_of_ble_eq_true rfl) dX7_all_4 ?_
  refine k_istore_n (lv' := [(1, .int r3), (0, .ref (g_ad X.1 0))]) O dX7_all_7 rfl (by decide) rfl ?_
  refine k_iload_n O dX7_all_8 0 rfl ?_
  refine k_istore_n (lv' := [(2, .int r3), (1, .int r3), (0, .ref (g_ad X.1 0))]) O dX7_all_9 rfl (by decide) rfl ?_
  refine k_aload_n O dX7_all_10 2 rfl ?_
  refine k_get O (v := .ref (g_ad X.1 11)) (k := 0) (by omega) (E_0 hz) rfl 3 (by decide) (fun _ h9 => List.mem_cons_of_mem _ (List.mem_append_left _ (List.mem_append_left _ (List.mem_append_right _ h9)))) (List.mem_of_getElem? (i := 2) rfl) rfl dX7_all_11 ?_
  obtain ⟨r6, w5, hc4, h⟩ := bd_some h
  refine k_callVi O (As := []) (rest := []) (k := 11) (c_X1_allTraps (x_l X) X.1 (by decide) (by omega) hc4) gX7_all_X1_allTraps rfl hd_X1_allTraps (by decide) (by omega) (E_pl (by decide)) rfl rfl rfl rfl rfl (Nat.le_of_ble_eq_true rfl) dX7_all_14 ?_
  refine k_istore_n (lv' := [(3, .int r6), (2, .int r3), (1, .int r3), (0, .ref (g_ad X.1 0))]) O dX7_all_17 rfl (by decide) rfl ?_
  exact k_sub [3, 2, 1, 0] rfl (w_X7_all_18 O hN hz ho LF h)
theorem c_X7_all (l : Launch) (G : Gl) (hN : 105 ≤ g_N G) (hz : g_mz G = none) {w wz : Wd} {rz : Int32} (h : f_X7_all w  = some (rz, wz)) : Ct l yX7_all wsX7_all (1) (27) G [.ref (g_ad G 0)] w (some (.int rz), wz) := by
  refine Ct.start (by decide) rfl rfl rfl (Nat.le_of_ble_eq_true rfl) (fun X hG ho hl O => ?_)
  subst hG
  subst hl
  exact k_sub [0] rfl (w_X7_all_0 O hN hz ho h)
def b_X7_first_76 (kb24 : Wd → Int32 → Int32 → Int32 → Int32 → Option (Int32 × Wd)) (w : Wd) (v1 : Int32) (v2 : Int32) (v3 : Int32) (v4 : Int32) : Option (Int32 × Wd) := nm (v4 + (1 : Int32)) (fun x1 => kb24 w v1 v2 v3 x1)
def b_X7_first_24 : Nat → Wd → Int32 → Int32 → Int32 → Int32 → Option (Int32 × Wd)
  | 0, _, _, _, _, _ => none
  | n + 1, w, v1, v2, v3, v4 => if ((6 : Int32)) ≤ v4 then (some (v3, w)) else (bd (f_X1_hasTrap 11 w v4) (fun r4 w3 => if r4 = 0 then (b_X7_first_76 (b_X7_first_24 n) w3 v1 v2 v3 v4) else (bd (f_X1_spread 11 w3 (((1 : Int32)) <<< (v4 &&& 31)) (v2 &&& ((w3.1 11 3) ^^^ ((-1 : Int32))))) (fun r8 w7 => if r8 = v1 then (nm (v3 ||| (((1 : Int32)) <<< (v4 &&& 31))) (fun x10 => b_X7_first_76 (b_X7_first_24 n) w7 v1 v2 x10 v4)) else (b_X7_first_76 (b_X7_first_24 n) w7 v1 v2 v3 v4)))))
def b_X7_first_0 (w : Wd) (v1 : Int32) : Option (Int32 × Wd) := bd (f_X1_allTraps 11 w) (fun r3 w2 => if (v1 &&& (r3 ^^^ ((-1 : Int32)))) = 0 then (b_X7_first_24 LF w2 v1 r3 ((0 : Int32)) ((0 : Int32))) else (some ((-2 : Int32), w2)))
def f_X7_first (w : Wd) (v1 : Int32) : Option (Int32 × Wd) := b_X7_first_0 w v1
set_option maxHeartbeats 4000000 in
set_option maxRecDepth 100000 in
theorem w_X7_first_76 {X : Cx} {rz : Int32} {wz : Wd} (O : Ok X cX7_first RX7 ((some .int)) wsX7_first (1) (27) 5) (hN : 105 ≤ g_N X.1) (hz : g_mz X.1 = none) {kb24 : Wd → Int32 → Int32 → Int32 → Int32 → Option (Int32 × Wd)} (hk24 : ∀ {w : Wd} {v1 : Int32} {v2 : Int32} {v3 : Int32} {v4 : Int32}, kb24 w v1 v2 v3 v4 = some (rz, wz) → Wk X w 24 [(0, .ref (g_ad X.1 0)), (1, .int v1), (2, .int v2), (3, .int v3), (4, .int v4)] []) (ho : Ro X (some (.int rz), wz)) {w : Wd} {v1 : Int32} {v2 : Int32} {v3 : Int32} {v4 : Int32} (h : b_X7_first_76 kb24 w v1 v2 v3 v4 = some (rz, wz)) : Wk X w 76 [(0, .ref (g_ad X.1 0)), (1, .int v1), (2, .int v2), (3, .int v3), (4, .int v4)] [] := by
  unfold b_X7_first_76 at h
  obtain ⟨x1, ex1⟩ : ∃ z : Int32, z = v4 + (1 : Int32) := ⟨_, rfl⟩
  have h := nm_use h x1 ex1
  refine k_iinc (lv' := [(4, .int x1), (0, .ref (g_ad X.1 0)), (1, .int v1), (2, .int v2), (3, .int v3)]) O dX7_first_76 4 rfl (by rw [ex1]; rfl) (by decide) rfl ?_
  refine k_goto O 24 dX7_first_79 (by decide) ?_
  exact k_sub [1, 2, 3, 4, 0] rfl (hk24 h)
set_option maxHeartbeats 4000000 in
set_option maxRecDepth 100000 in
theorem w_X7_first_24 {X : Cx} {rz : Int32} {wz : Wd} (O : Ok X cX7_first RX7 ((some .int)) wsX7_first (1) (27) 5) (hN : 105 ≤ g_N X.1) (hz : g_mz X.1 = none) (ho : Ro X (some (.int rz), wz)) (n : Nat) : ∀ {w : Wd} {v1 : Int32} {v2 : Int32} {v3 : Int32} {v4 : Int32}, b_X7_first_24 n w v1 v2 v3 v4 = some (rz, wz) → Wk X w 24 [(0, .ref (g_ad X.1 0)), (1, .int v1), (2, .int v2), (3, .int v3), (4, .int v4)] [] := by
  induction n with
  | zero => intro w v1 v2 v3 v4 h; exact nomatch (show (none : Option (Int32 × Wd)) = some _ from h)
  | succ n ih =>
    intro w v1 v2 v3 v4 h
    rw [b_X7_first_24] at h
    refine k_iload O dX7_first_24 4 rfl ?_
    refine k_bipush O dX7_first_26 (v := 6) (by decide) ?_
    refine k_icmp_ge O 82 dX7_first_28 (by decide) (fun c1 => ?_) (fun c1 => ?_)
    · have h := ite_t c1 h
      refine k_iload_n O dX7_first_82 3 rfl ?_
      exact k_iret O dX7_first_83 (rt_int h ho)
    · have h := ite_f c1 h
      refine k_aload_n O dX7_first_31 0 rfl ?_
      refine k_get O (v := .ref (g_ad X.1 11)) (k := 0) (by omega) (E_0 hz) rfl 3 (by decide) (fun _ h9 => List.mem_cons_of_mem _ (List.mem_append_left _ (List.mem_append_right _ h9))) (List.mem_of_getElem? (i := 1) rfl) rfl dX7_first_32 ?_
      refine k_iload O dX7_first_35 4 rfl ?_
      obtain ⟨r4, w3, hc2, h⟩ := bd_some h
      refine k_callVi O (As := [.int v4]) (rest := []) (k := 11) (c_X1_hasTrap (x_l X) X.1 (by decide) (by omega) hc2) gX7_first_X1_hasTrap rfl hd_X1_hasTrap (by decide) (by omega) (E_pl (by decide)) rfl rfl rfl rfl rfl (Nat.le_of_ble_eq_true rfl) dX7_first_37 ?_
      refine k_if_eq O 76 dX7_first_40 (by decide) (fun c5 => ?_) (fun c5 => ?_)
      · have h := ite_t c5 h
        exact k_sub [0, 1, 2, 3, 4] rfl (w_X7_first_76 O hN hz (fun {_} {_} {_} {_} {_} h9 => ih h9) ho h)
      · have h := ite_f c5 h
        refine k_aload_n O dX7_first_43 0 rfl ?_
        refine k_get O (v := .ref (g_ad X.1 11)) (k := 0) (by omega) (E_0 hz) rfl 3 (by decide) (fun _ h9 => List.mem_cons_of_mem _ (List.mem_append_left _ (List.mem_append_right _ h9))) (List.mem_of_getElem? (i := 1) rfl) rfl dX7_first_44 ?_
        refine k_iconst O dX7_first_47 (v := 1) (by decide) ?_
        refine k_iload O dX7_first_48 4 rfl ?_
        refine k_ishl O dX7_first_50 ?_
        refine k_iload_n O dX7_first_51 2 rfl ?_
        refine k_aload_n O dX7_first_52 0 rfl ?_
        refine k_get O (v := .ref (g_ad X.1 11)) (k := 0) (by omega) (E_0 hz) rfl 3 (by decide) (fun _ h9 => List.mem_cons_of_mem _ (List.mem_append_left _ (List.mem_append_right _ h9))) (List.mem_of_getElem? (i := 1) rfl) rfl dX7_first_53 ?_
        refine k_get O (v := .int (w3.1 11 3)) (k := 11) (by omega) (E_pl (by decide)) rfl 3 (by decide) (fun _ h9 => List.mem_cons_of_mem _ (List.mem_append_right _ h9)) (List.mem_of_getElem? (i := 2) rfl) rfl dX7_first_56 ?_
        refine k_iconst O dX7_first_59 (v := -1) (by decide) ?_
        refine k_ixor O dX7_first_60 ?_
        refine k_iand O dX7_first_61 ?_
        obtain ⟨r8, w7, hc6, h⟩ := bd_some h
        refine k_callVi O (As := [.int (((1 : Int32)) <<< (v4 &&& 31)), .int (v2 &&& ((w3.1 11 3) ^^^ ((-1 : Int32))))]) (rest := []) (k := 11) (c_X1_spread (x_l X) X.1 (by decide) (by omega) hc6) gX7_first_X1_spread rfl hd_X1_spread (by decide) (by omega) (E_pl (by decide)) rfl rfl rfl rfl rfl (Nat.le_of_ble_eq_true rfl) dX7_first_62 ?_
        refine k_iload_n O dX7_first_65 1 rfl ?_
        refine k_icmp_ne O 76 dX7_first_66 (by decide) (fun c9 => ?_) (fun c9 => ?_)
        · have h := ite_f c9 h
          exact k_sub [0, 1, 2, 3, 4] rfl (w_X7_first_76 O hN hz (fun {_} {_} {_} {_} {_} h9 => ih h9) ho h)
        · have h := ite_t c9 h
          refine k_iload_n O dX7_first_69 3 rfl ?_
          refine k_iconst O dX7_first_70 (v := 1) (by decide) ?_
          refine k_iload O dX7_first_71 4 rfl ?_
          refine k_ishl O dX7_first_73 ?_
          refine k_ior O dX7_first_74 ?_
          refine k_topi (fun x10 ex10 => ?_)
          have h := nm_use h x10 ex10
          refine k_istore_n (lv' := [(3, .int x10), (0, .ref (g_ad X.1 0)), (1, .int v1), (2, .int v2), (4, .int v4)]) O dX7_first_75 rfl (by decide) rfl ?_
          exact k_sub [1, 2, 3, 0, 4] rfl (w_X7_first_76 O hN hz (fun {_} {_} {_} {_} {_} h9 => ih h9) ho h)
set_option maxHeartbeats 4000000 in
set_option maxRecDepth 100000 in
theorem w_X7_first_0 {X : Cx} {rz : Int32} {wz : Wd} (O : Ok X cX7_first RX7 ((some .int)) wsX7_first (1) (27) 5) (hN : 105 ≤ g_N X.1) (hz : g_mz X.1 = none) (ho : Ro X (some (.int rz), wz)) {w : Wd} {v1 : Int32} (h : b_X7_first_0 w v1 = some (rz, wz)) : Wk X w 0 [(0, .ref (g_ad X.1 0)), (1, .int v1)] [] := by
  unfold b_X7_first_0 at h
  refine k_aload_n O dX7_first_0 0 rfl ?_
  refine k_get O (v := .ref (g_ad X.1 11)) (k := 0) (by omega) (E_0 hz) rfl 3 (by decide) (fun _ h9 => List.mem_cons_of_mem _ (List.mem_append_left _ (List.mem_append_right _ h9))) (List.mem_of_getElem? (i := 1) rfl) rfl dX7_first_1 ?_
  obtain ⟨r3, w2, hc1, h⟩ := bd_some h
  refine k_callVi O (As := []) (rest := []) (k := 11) (c_X1_allTraps (x_l X) X.1 (by decide) (by omega) hc1) gX7_first_X1_allTraps rfl hd_X1_allTraps (by decide) (by omega) (E_pl (by decide)) rfl rfl rfl rfl rfl (Nat.le_of_ble_eq_true rfl) dX7_first_4 ?_
  refine k_istore_n (lv' := [(2, .int r3), (0, .ref (g_ad X.1 0)), (1, .int v1)]) O dX7_first_7 rfl (by decide) rfl ?_
  refine k_iload_n O dX7_first_8 2 rfl ?_
  refine k_iload_n O dX7_first_9 0 rfl ?_
  refine k_iconst O dX7_first_10 (v := -1) (by decide) ?_
  refine k_ixor O dX7_first_11 ?_
  refine k_iand O dX7_first_12 ?_
  refine k_if_eq O 19 dX7_first_13 (by decide) (fun c4 => ?_) (fun c4 => ?_)
  · have h := ite_t c4 h
    refine k_iconst O dX7_first_19 (v := 0) (by decide) ?_
    refine k_istore_n (lv' := [(3, .int ((0 : Int32))), (2, .int r3), (0, .ref (g_ad X.1 0)), (1, .int v1)]) O dX7_first_20 rfl (by decide) rfl ?_
    refine k_iconst O dX7_first_21 (v := 0) (by decide) ?_
    refine k_istore (lv' := [(4, .int ((0 : Int32))), (3, .int ((0 : Int32))), (2, .int r3), (0, .ref (g_ad X.1 0)), (1, .int v1)]) O dX7_first_22 (by decide) rfl ?_
    exact k_sub [3, 4, 2, 1, 0] rfl (w_X7_first_24 O hN hz ho LF h)
  · have h := ite_f c4 h
    refine k_bipush O dX7_first_16 (v := -2) (by decide) ?_
    exact k_iret O dX7_first_18 (rt_int h ho)
theorem c_X7_first (l : Launch) (G : Gl) (hN : 105 ≤ g_N G) (hz : g_mz G = none) {w wz : Wd} {v1 : Int32} {rz : Int32} (h : f_X7_first w v1 = some (rz, wz)) : Ct l yX7_first wsX7_first (1) (27) G [.ref (g_ad G 0), .int v1] w (some (.int rz), wz) := by
  refine Ct.start (by decide) rfl rfl rfl (Nat.le_of_ble_eq_true rfl) (fun X hG ho hl O => ?_)
  subst hG
  subst hl
  exact k_sub [0, 1] rfl (w_X7_first_0 O hN hz ho h)
def b_X7_refusalOfWay_0 (w : Wd) (v1 : Int32) (v2 : Int32) : Option (Int32 × Wd) := bd (f_X1_hasWalker 11 w v1) (fun r3 w2 => if r3 = 0 then (some ((-1 : Int32), w2)) else (bd (f_X7_isCell w2 v2) (fun r7 w6 => if r7 = 0 then (some ((-1 : Int32), w6)) else (bd (f_X3_isFree 18 w6 v1) (fun r11 w10 => if r11 = 0 then (some ((-3 : Int32), w10)) else (some ((0 : Int32), w10)))))))
def f_X7_refusalOfWay (w : Wd) (v1 : Int32) (v2 : Int32) : Option (Int32 × Wd) := b_X7_refusalOfWay_0 w v1 v2
set_option maxHeartbeats 4000000 in
set_option maxRecDepth 100000 in
theorem w_X7_refusalOfWay_0 {X : Cx} {rz : Int32} {wz : Wd} (O : Ok X cX7_refusalOfWay RX7 ((some .int)) wsX7_refusalOfWay (2) (42) 3) (hN : 105 ≤ g_N X.1) (hz : g_mz X.1 = none) (ho : Ro X (some (.int rz), wz)) {w : Wd} {v1 : Int32} {v2 : Int32} (h : b_X7_refusalOfWay_0 w v1 v2 = some (rz, wz)) : Wk X w 0 [(0, .ref (g_ad X.1 0)), (1, .int v1), (2, .int v2)] [] := by
  unfold b_X7_refusalOfWay_0 at h
  refine k_aload_n O dX7_refusalOfWay_0 0 rfl ?_
  refine k_get O (v := .ref (g_ad X.1 11)) (k := 0) (by omega) (E_0 hz) rfl 3 (by decide) (fun _ h9 => List.mem_cons_of_mem _ (List.mem_append_left _ (List.mem_append_left _ (List.mem_append_right _ h9)))) (List.mem_of_getElem? (i := 1) rfl) rfl dX7_refusalOfWay_1 ?_
  refine k_iload_n O dX7_refusalOfWay_4 1 rfl ?_
  obtain ⟨r3, w2, hc1, h⟩ := bd_some h
  refine k_callVi O (As := [.int v1]) (rest := []) (k := 11) (c_X1_hasWalker (x_l X) X.1 (by decide) (by omega) hc1) gX7_refusalOfWay_X1_hasWalker rfl hd_X1_hasWalker (by decide) (by omega) (E_pl (by decide)) rfl rfl rfl rfl rfl (Nat.le_of_ble_eq_true rfl) dX7_refusalOfWay_5 ?_
  refine k_if_eq O 18 dX7_refusalOfWay_8 (by decide) (fun c4 => ?_) (fun c4 => ?_)
  · have h := ite_t c4 h
    refine k_iconst O dX7_refusalOfWay_18 (v := -1) (by decide) ?_
    exact k_iret O dX7_refusalOfWay_19 (rt_int h ho)
  · have h := ite_f c4 h
    refine k_iload_n O dX7_refusalOfWay_11 2 rfl ?_
    obtain ⟨r7, w6, hc5, h⟩ := bd_some h
    refine k_callSi O (As := [.int v2]) (rest := []) (c_X7_isCell (x_l X) X.1 hc5) gX7_refusalOfWay_X7_isCell rfl hd_X7_isCell (by decide) rfl rfl (Nat.le_of_ble_eq_true rfl) dX7_refusalOfWay_12 ?_
    refine k_if_ne O 20 dX7_refusalOfWay_15 (by decide) (fun c8 => ?_) (fun c8 => ?_)
    · have h := ite_f c8 h
      refine k_aload_n O dX7_refusalOfWay_20 0 rfl ?_
      refine k_get O (v := .ref (g_ad X.1 18)) (k := 0) (by omega) (E_0 hz) rfl 4 (by decide) (fun _ h9 => List.mem_cons_of_mem _ (List.mem_append_left _ (List.mem_append_left _ (List.mem_append_right _ h9)))) (List.mem_of_getElem? (i := 2) rfl) rfl dX7_refusalOfWay_21 ?_
      refine k_iload_n O dX7_refusalOfWay_24 1 rfl ?_
      obtain ⟨r11, w10, hc9, h⟩ := bd_some h
      refine k_callVi O (As := [.int v1]) (rest := []) (k := 18) (c_X3_isFree (x_l X) X.1 (by decide) (by omega) hc9) gX7_refusalOfWay_X3_isFree rfl hd_X3_isFree (by decide) (by omega) (E_sc (by decide)) rfl rfl rfl rfl rfl (Nat.le_of_ble_eq_true rfl) dX7_refusalOfWay_25 ?_
      refine k_if_eq O 35 dX7_refusalOfWay_28 (by decide) (fun c12 => ?_) (fun c12 => ?_)
      · have h := ite_t c12 h
        refine k_bipush O dX7_refusalOfWay_35 (v := -3) (by decide) ?_
        exact k_iret O dX7_refusalOfWay_37 (rt_int h ho)
      · have h := ite_f c12 h
        refine k_iconst O dX7_refusalOfWay_31 (v := 0) (by decide) ?_
        refine k_goto O 37 dX7_refusalOfWay_32 (by decide) ?_
        exact k_iret O dX7_refusalOfWay_37 (rt_int h ho)
    · have h := ite_t c8 h
      refine k_iconst O dX7_refusalOfWay_18 (v := -1) (by decide) ?_
      exact k_iret O dX7_refusalOfWay_19 (rt_int h ho)
theorem c_X7_refusalOfWay (l : Launch) (G : Gl) (hN : 105 ≤ g_N G) (hz : g_mz G = none) {w wz : Wd} {v1 : Int32} {v2 : Int32} {rz : Int32} (h : f_X7_refusalOfWay w v1 v2 = some (rz, wz)) : Ct l yX7_refusalOfWay wsX7_refusalOfWay (2) (42) G [.ref (g_ad G 0), .int v1, .int v2] w (some (.int rz), wz) := by
  refine Ct.start (by decide) rfl rfl rfl (Nat.le_of_ble_eq_true rfl) (fun X hG ho hl O => ?_)
  subst hG
  subst hl
  exact k_sub [0, 1, 2] rfl (w_X7_refusalOfWay_0 O hN hz ho h)
def b_X7_dangerFor_0 (w : Wd) (v1 : Int32) : Option (Int32 × Wd) := bd (f_X1_hasWalker 11 w v1) (fun r3 w2 => if r3 = 0 then (some ((0 : Int32), w2)) else (gd (inb v1 4) (nm (w2.1 17 v1.toNatClampNeg) (fun x6 => bd (f_X7_isSide w2 x6) (fun r9 w8 => if r9 = 0 then (some ((0 : Int32), w8)) else (gd (inb x6 2) (bd (f_X1_cellsOf 11 w8 (((w8.1 19 x6.toNatClampNeg) &&& (w8.1 18 1)) &&& ((w8.1 11 3) ^^^ ((-1 : Int32))))) (fun r14 w13 => some (r14, w13)))))))))
def f_X7_dangerFor (w : Wd) (v1 : Int32) : Option (Int32 × Wd) := b_X7_dangerFor_0 w v1
set_option maxHeartbeats 4000000 in
set_option maxRecDepth 100000 in
theorem w_X7_dangerFor_0 {X : Cx} {rz : Int32} {wz : Wd} (O : Ok X cX7_dangerFor RX7 ((some .int)) wsX7_dangerFor (1) (23) 3) (hN : 105 ≤ g_N X.1) (hz : g_mz X.1 = none) (ho : Ro X (some (.int rz), wz)) {w : Wd} {v1 : Int32} (h : b_X7_dangerFor_0 w v1 = some (rz, wz)) : Wk X w 0 [(0, .ref (g_ad X.1 0)), (1, .int v1)] [] := by
  unfold b_X7_dangerFor_0 at h
  refine k_aload_n O dX7_dangerFor_0 0 rfl ?_
  refine k_get O (v := .ref (g_ad X.1 11)) (k := 0) (by omega) (E_0 hz) rfl 3 (by decide) (fun _ h9 => List.mem_cons_of_mem _ (List.mem_append_left _ (List.mem_append_left _ (List.mem_append_right _ h9)))) (List.mem_of_getElem? (i := 1) rfl) rfl dX7_dangerFor_1 ?_
  refine k_iload_n O dX7_dangerFor_4 1 rfl ?_
  obtain ⟨r3, w2, hc1, h⟩ := bd_some h
  refine k_callVi O (As := [.int v1]) (rest := []) (k := 11) (c_X1_hasWalker (x_l X) X.1 (by decide) (by omega) hc1) gX7_dangerFor_X1_hasWalker rfl hd_X1_hasWalker (by decide) (by omega) (E_pl (by decide)) rfl rfl rfl rfl rfl (Nat.le_of_ble_eq_true rfl) dX7_dangerFor_5 ?_
  refine k_if_ne O 13 dX7_dangerFor_8 (by decide) (fun c4 => ?_) (fun c4 => ?_)
  · have h := ite_f c4 h
    refine k_aload_n O dX7_dangerFor_13 0 rfl ?_
    refine k_get O (v := .ref (g_ad X.1 11)) (k := 0) (by omega) (E_0 hz) rfl 3 (by decide) (fun _ h9 => List.mem_cons_of_mem _ (List.mem_append_left _ (List.mem_append_left _ (List.mem_append_right _ h9)))) (List.mem_of_getElem? (i := 1) rfl) rfl dX7_dangerFor_14 ?_
    refine k_get O (v := .ref (g_ad X.1 17)) (k := 11) (by omega) (E_pl (by decide)) rfl 11 (by decide) (fun _ h9 => List.mem_cons_of_mem _ (List.mem_append_left _ (List.mem_append_right _ h9))) (List.mem_of_getElem? (i := 2) rfl) rfl dX7_dangerFor_17 ?_
    refine k_iload_n O dX7_dangerFor_20 1 rfl ?_
    obtain ⟨g5, h⟩ := gd_some h
    refine k_iald O (k := 17) (by omega) (E_pl6 (by decide)) g5 dX7_dangerFor_21 ?_
    refine k_topi (fun x6 ex6 => ?_)
    have h := nm_use h x6 ex6
    refine k_istore_n (lv' := [(2, .int x6), (0, .ref (g_ad X.1 0)), (1, .int v1)]) O dX7_dangerFor_22 rfl (by decide) rfl ?_
    refine k_iload_n O dX7_dangerFor_23 0 rfl ?_
    obtain ⟨r9, w8, hc7, h⟩ := bd_some h
    refine k_callSi O (As := [.int x6]) (rest := []) (c_X7_isSide (x_l X) X.1 hc7) gX7_dangerFor_X7_isSide rfl hd_X7_isSide (by decide) rfl rfl (Nat.le_of_ble_eq_true rfl) dX7_dangerFor_24 ?_
    refine k_if_eq O 67 dX7_dangerFor_27 (by decide) (fun c10 => ?_) (fun c10 => ?_)
    · have h := ite_t c10 h
      refine k_iconst O dX7_dangerFor_67 (v := 0) (by decide) ?_
      exact k_iret O dX7_dangerFor_68 (rt_int h ho)
    · have h := ite_f c10 h
      refine k_aload_n O dX7_dangerFor_30 1 rfl ?_
      refine k_get O (v := .ref (g_ad X.1 11)) (k := 0) (by omega) (E_0 hz) rfl 3 (by decide) (fun _ h9 => List.mem_cons_of_mem _ (List.mem_append_left _ (List.mem_append_left _ (List.mem_append_right _ h9)))) (List.mem_of_getElem? (i := 1) rfl) rfl dX7_dangerFor_31 ?_
      refine k_aload_n O dX7_dangerFor_34 1 rfl ?_
      refine k_get O (v := .ref (g_ad X.1 18)) (k := 0) (by omega) (E_0 hz) rfl 4 (by decide) (fun _ h9 => List.mem_cons_of_mem _ (List.mem_append_left _ (List.mem_append_left _ (List.mem_append_right _ h9)))) (List.mem_of_getElem? (i := 3) rfl) rfl dX7_dangerFor_35 ?_
      refine k_get O (v := .ref (g_ad X.1 19)) (k := 18) (by omega) (E_sc (by decide)) rfl 4 (by decide) (fun _ h9 => List.mem_cons_of_mem _ (List.mem_append_right _ h9)) (List.mem_of_getElem? (i := 4) rfl) rfl dX7_dangerFor_38 ?_
      refine k_iload_n O dX7_dangerFor_41 0 rfl ?_
      obtain ⟨g11, h⟩ := gd_some h
      refine k_iald O (k := 19) (by omega) (E_sc1 (by decide)) g11 dX7_dangerFor_42 ?_
      refine k_aload_n O dX7_dangerFor_43 1 rfl ?_
      refine k_get O (v := .ref (g_ad X.1 18)) (k := 0) (by omega) (E_0 hz) rfl 4 (by decide) (fun _ h9 => List.mem_cons_of_mem _ (List.mem_append_left _ (List.mem_append_left _ (List.mem_append_right _ h9)))) (List.mem_of_getElem? (i := 3) rfl) rfl dX7_dangerFor_44 ?_
      refine k_get O (v := .int (w8.1 18 1)) (k := 18) (by omega) (E_sc (by decide)) rfl 1 (by decide) (fun _ h9 => List.mem_cons_of_mem _ (List.mem_append_right _ h9)) (List.mem_of_getElem? (i := 5) rfl) rfl dX7_dangerFor_47 ?_
      refine k_iand O dX7_dangerFor_50 ?_
      refine k_aload_n O dX7_dangerFor_51 1 rfl ?_
      refine k_get O (v := .ref (g_ad X.1 11)) (k := 0) (by omega) (E_0 hz) rfl 3 (by decide) (fun _ h9 => List.mem_cons_of_mem _ (List.mem_append_left _ (List.mem_append_left _ (List.mem_append_right _ h9)))) (List.mem_of_getElem? (i := 1) rfl) rfl dX7_dangerFor_52 ?_
      refine k_get O (v := .int (w8.1 11 3)) (k := 11) (by omega) (E_pl (by decide)) rfl 3 (by decide) (fun _ h9 => List.mem_cons_of_mem _ (List.mem_append_left _ (List.mem_append_right _ h9))) (List.mem_of_getElem? (i := 6) rfl) rfl dX7_dangerFor_55 ?_
      refine k_iconst O dX7_dangerFor_58 (v := -1) (by decide) ?_
      refine k_ixor O dX7_dangerFor_59 ?_
      refine k_iand O dX7_dangerFor_60 ?_
      obtain ⟨r14, w13, hc12, h⟩ := bd_some h
      refine k_callVi O (As := [.int (((w8.1 19 x6.toNatClampNeg) &&& (w8.1 18 1)) &&& ((w8.1 11 3) ^^^ ((-1 : Int32))))]) (rest := []) (k := 11) (c_X1_cellsOf (x_l X) X.1 (by decide) (by omega) hc12) gX7_dangerFor_X1_cellsOf rfl hd_X1_cellsOf (by decide) (by omega) (E_pl (by decide)) rfl rfl rfl rfl rfl (Nat.le_of_ble_eq_true rfl) dX7_dangerFor_61 ?_
      refine k_goto O 68 dX7_dangerFor_64 (by decide) ?_
      exact k_iret O dX7_dangerFor_68 (rt_int h ho)
  · have h := ite_t c4 h
    refine k_iconst O dX7_dangerFor_11 (v := 0) (by decide) ?_
    exact k_iret O dX7_dangerFor_12 (rt_int h ho)
theorem c_X7_dangerFor (l : Launch) (G : Gl) (hN : 105 ≤ g_N G) (hz : g_mz G = none) {w wz : Wd} {v1 : Int32} {rz : Int32} (h : f_X7_dangerFor w v1 = some (rz, wz)) : Ct l yX7_dangerFor wsX7_dangerFor (1) (23) G [.ref (g_ad G 0), .int v1] w (some (.int rz), wz) := by
  refine Ct.start (by decide) rfl rfl rfl (Nat.le_of_ble_eq_true rfl) (fun X hG ho hl O => ?_)
  subst hG
  subst hl
  exact k_sub [0, 1] rfl (w_X7_dangerFor_0 O hN hz ho h)
def b_X7_safe_0 (w : Wd) (v1 : Int32) (v2 : Int32) : Option (Int32 × Wd) := bd (f_X7_refusalOfWay w v1 v2) (fun r3 w2 => if r3 = 0 then (gd (inb v1 4) (bd (f_X7_dangerFor w2 v1) (fun r8 w7 => bv (f_X6_measure w7 (w2.1 20 v1.toNatClampNeg) v2 r8) (fun w10 => gd (inb v1 4) (bd (f_X6_stepsFrom w10 (w10.1 20 v1.toNatClampNeg)) (fun r14 w13 => some (r14, w13))))))) else (some (r3, w2)))
def f_X7_safe (w : Wd) (v1 : Int32) (v2 : Int32) : Option (Int32 × Wd) := b_X7_safe_0 w v1 v2
set_option maxHeartbeats 4000000 in
set_option maxRecDepth 100000 in
theorem w_X7_safe_0 {X : Cx} {rz : Int32} {wz : Wd} (O : Ok X cX7_safe RX7 ((some .int)) wsX7_safe (3) (69) 4) (hN : 105 ≤ g_N X.1) (hz : g_mz X.1 = none) (ho : Ro X (some (.int rz), wz)) {w : Wd} {v1 : Int32} {v2 : Int32} (h : b_X7_safe_0 w v1 v2 = some (rz, wz)) : Wk X w 0 [(0, .ref (g_ad X.1 0)), (1, .int v1), (2, .int v2)] [] := by
  unfold b_X7_safe_0 at h
  refine k_aload_n O dX7_safe_0 0 rfl ?_
  refine k_iload_n O dX7_safe_1 1 rfl ?_
  refine k_iload_n O dX7_safe_2 2 rfl ?_
  obtain ⟨r3, w2, hc1, h⟩ := bd_some h
  refine k_callVi O (As := [.int v1, .int v2]) (rest := []) (k := 0) (c_X7_refusalOfWay (x_l X) X.1 hN hz hc1) gX7_safe_X7_refusalOfWay rfl hd_X7_refusalOfWay (by decide) (by omega) (E_0 hz) rfl rfl rfl rfl rfl (Nat.le_of_ble_eq_true rfl) dX7_safe_3 ?_
  refine k_istore_n (lv' := [(3, .int r3), (0, .ref (g_ad X.1 0)), (1, .int v1), (2, .int v2)]) O dX7_safe_6 rfl (by decide) rfl ?_
  refine k_iload_n O dX7_safe_7 0 rfl ?_
  refine k_if_eq O 13 dX7_safe_8 (by decide) (fun c4 => ?_) (fun c4 => ?_)
  · have h := ite_t c4 h
    refine k_aload_n O dX7_safe_13 1 rfl ?_
    refine k_get O (v := .ref (g_ad X.1 92)) (k := 0) (by omega) (E_0 hz) rfl 7 (by decide) (fun _ h9 => List.mem_cons_of_mem _ (List.mem_append_left _ (List.mem_append_left _ (List.mem_append_left _ (List.mem_append_right _ h9))))) (List.mem_of_getElem? (i := 1) rfl) rfl dX7_safe_14 ?_
    refine k_aload_n O dX7_safe_17 1 rfl ?_
    refine k_get O (v := .ref (g_ad X.1 18)) (k := 0) (by omega) (E_0 hz) rfl 4 (by decide) (fun _ h9 => List.mem_cons_of_mem _ (List.mem_append_left _ (List.mem_append_left _ (List.mem_append_left _ (List.mem_append_right _ h9))))) (List.mem_of_getElem? (i := 2) rfl) rfl dX7_safe_18 ?_
    refine k_get O (v := .ref (g_ad X.1 20)) (k := 18) (by omega) (E_sc (by decide)) rfl 5 (by decide) (fun _ h9 => List.mem_cons_of_mem _ (List.mem_append_left _ (List.mem_append_left _ (List.mem_append_right _ h9)))) (List.mem_of_getElem? (i := 3) rfl) rfl dX7_safe_21 ?_
    refine k_iload_n O dX7_safe_24 2 rfl ?_
    obtain ⟨g5, h⟩ := gd_some h
    refine k_iald O (k := 20) (by omega) (E_sc2 (by decide)) g5 dX7_safe_25 ?_
    refine k_iload_n O dX7_safe_26 3 rfl ?_
    refine k_aload_n O dX7_safe_27 1 rfl ?_
    refine k_iload_n O dX7_safe_28 2 rfl ?_
    obtain ⟨r8, w7, hc6, h⟩ := bd_some h
    refine k_callVi O (As := [.int v1]) (rest := [.int v2, .int (w2.1 20 v1.toNatClampNeg), .ref (g_ad X.1 92)]) (k := 0) (c_X7_dangerFor (x_l X) X.1 hN hz hc6) gX7_safe_X7_dangerFor rfl hd_X7_dangerFor (by decide) (by omega) (E_0 hz) rfl rfl rfl rfl rfl (Nat.le_of_ble_eq_true rfl) dX7_safe_29 ?_
    obtain ⟨w10, hc9, h⟩ := bv_some h
    refine k_callVv O (As := [.int (w2.1 20 v1.toNatClampNeg), .int v2, .int r8]) (rest := []) (k := 92) (c_X6_measure (x_l X) X.1 hN hc9) gX7_safe_X6_measure rfl hd_X6_measure (by decide) (by omega) E_92 rfl rfl rfl rfl rfl (Nat.le_of_ble_eq_true rfl) dX7_safe_32 ?_
    refine k_aload_n O dX7_safe_35 1 rfl ?_
    refine k_get O (v := .ref (g_ad X.1 92)) (k := 0) (by omega) (E_0 hz) rfl 7 (by decide) (fun _ h9 => List.mem_cons_of_mem _ (List.mem_append_left _ (List.mem_append_left _ (List.mem_append_left _ (List.mem_append_right _ h9))))) (List.mem_of_getElem? (i := 1) rfl) rfl dX7_safe_36 ?_
    refine k_aload_n O dX7_safe_39 1 rfl ?_
    refine k_get O (v := .ref (g_ad X.1 18)) (k := 0) (by omega) (E_0 hz) rfl 4 (by decide) (fun _ h9 => List.mem_cons_of_mem _ (List.mem_append_left _ (List.mem_append_left _ (List.mem_append_left _ (List.mem_append_right _ h9))))) (List.mem_of_getElem? (i := 2) rfl) rfl dX7_safe_40 ?_
    refine k_get O (v := .ref (g_ad X.1 20)) (k := 18) (by omega) (E_sc (by decide)) rfl 5 (by decide) (fun _ h9 => List.mem_cons_of_mem _ (List.mem_append_left _ (List.mem_append_left _ (List.mem_append_right _ h9)))) (List.mem_of_getElem? (i := 3) rfl) rfl dX7_safe_43 ?_
    refine k_iload_n O dX7_safe_46 2 rfl ?_
    obtain ⟨g11, h⟩ := gd_some h
    refine k_iald O (k := 20) (by omega) (E_sc2 (by decide)) g11 dX7_safe_47 ?_
    obtain ⟨r14, w13, hc12, h⟩ := bd_some h
    refine k_callVi O (As := [.int (w10.1 20 v1.toNatClampNeg)]) (rest := []) (k := 92) (c_X6_stepsFrom (x_l X) X.1 hN hc12) gX7_safe_X6_stepsFrom rfl hd_X6_stepsFrom (by decide) (by omega) E_92 rfl rfl rfl rfl rfl (Nat.le_of_ble_eq_true rfl) dX7_safe_48 ?_
    exact k_iret O dX7_safe_51 (rt_int h ho)
  · have h := ite_f c4 h
    refine k_iload_n O dX7_safe_11 0 rfl ?_
    exact k_iret O dX7_safe_12 (rt_int h ho)
theorem c_X7_safe (l : Launch) (G : Gl) (hN : 105 ≤ g_N G) (hz : g_mz G = none) {w wz : Wd} {v1 : Int32} {v2 : Int32} {rz : Int32} (h : f_X7_safe w v1 v2 = some (rz, wz)) : Ct l yX7_safe wsX7_safe (3) (69) G [.ref (g_ad G 0), .int v1, .int v2] w (some (.int rz), wz) := by
  refine Ct.start (by decide) rfl rfl rfl (Nat.le_of_ble_eq_true rfl) (fun X hG ho hl O => ?_)
  subst hG
  subst hl
  exact k_sub [0, 1, 2] rfl (w_X7_safe_0 O hN hz ho h)
def b_X7_safeAt_0 (w : Wd) (v1 : Int32) (v2 : Int32) (v3 : Int32) : Option (Int32 × Wd) := bd (f_X7_refusalOfWay w v1 v2) (fun r3 w2 => if r3 = 0 then (gd (inb v1 4) (bd (f_X7_dangerFor w2 v1) (fun r8 w7 => bv (f_X6_measure w7 (w2.1 20 v1.toNatClampNeg) v2 r8) (fun w10 => gd (inb v1 4) (bd (f_X6_cellBehind w10 (w10.1 20 v1.toNatClampNeg) v3) (fun r14 w13 => some (r14, w13))))))) else (some (r3, w2)))
def f_X7_safeAt (w : Wd) (v1 : Int32) (v2 : Int32) (v3 : Int32) : Option (Int32 × Wd) := b_X7_safeAt_0 w v1 v2 v3
set_option maxHeartbeats 4000000 in
set_option maxRecDepth 100000 in
theorem w_X7_safeAt_0 {X : Cx} {rz : Int32} {wz : Wd} (O : Ok X cX7_safeAt RX7 ((some .int)) wsX7_safeAt (4) (89) 5) (hN : 105 ≤ g_N X.1) (hz : g_mz X.1 = none) (ho : Ro X (some (.int rz), wz)) {w : Wd} {v1 : Int32} {v2 : Int32} {v3 : Int32} (h : b_X7_safeAt_0 w v1 v2 v3 = some (rz, wz)) : Wk X w 0 [(0, .ref (g_ad X.1 0)), (1, .int v1), (2, .int v2), (3, .int v3)] [] := by
  unfold b_X7_safeAt_0 at h
  refine k_aload_n O dX7_safeAt_0 0 rfl ?_
  refine k_iload_n O dX7_safeAt_1 1 rfl ?_
  refine k_iload_n O dX7_safeAt_2 2 rfl ?_
  obtain ⟨r3, w2, hc1, h⟩ := bd_some h
  refine k_callVi O (As := [.int v1, .int v2]) (rest := []) (k := 0) (c_X7_refusalOfWay (x_l X) X.1 hN hz hc1) gX7_safeAt_X7_refusalOfWay rfl hd_X7_refusalOfWay (by decide) (by omega) (E_0 hz) rfl rfl rfl rfl rfl (Nat.le_of_ble_eq_true rfl) dX7_safeAt_3 ?_
  refine k_istore (lv' := [(4, .int r3), (0, .ref (g_ad X.1 0)), (1, .int v1), (2, .int v2), (3, .int v3)]) O dX7_safeAt_6 (by decide) rfl ?_
  refine k_iload O dX7_safeAt_8 0 rfl ?_
  refine k_if_eq O 16 dX7_safeAt_10 (by decide) (fun c4 => ?_) (fun c4 => ?_)
  · have h := ite_t c4 h
    refine k_aload_n O dX7_safeAt_16 1 rfl ?_
    refine k_get O (v := .ref (g_ad X.1 92)) (k := 0) (by omega) (E_0 hz) rfl 7 (by decide) (fun _ h9 => List.mem_cons_of_mem _ (List.mem_append_left _ (List.mem_append_left _ (List.mem_append_left _ (List.mem_append_right _ h9))))) (List.mem_of_getElem? (i := 1) rfl) rfl dX7_safeAt_17 ?_
    refine k_aload_n O dX7_safeAt_20 1 rfl ?_
    refine k_get O (v := .ref (g_ad X.1 18)) (k := 0) (by omega) (E_0 hz) rfl 4 (by decide) (fun _ h9 => List.mem_cons_of_mem _ (List.mem_append_left _ (List.mem_append_left _ (List.mem_append_left _ (List.mem_append_right _ h9))))) (List.mem_of_getElem? (i := 2) rfl) rfl dX7_safeAt_21 ?_
    refine k_get O (v := .ref (g_ad X.1 20)) (k := 18) (by omega) (E_sc (by decide)) rfl 5 (by decide) (fun _ h9 => List.mem_cons_of_mem _ (List.mem_append_left _ (List.mem_append_left _ (List.mem_append_right _ h9)))) (List.mem_of_getElem? (i := 3) rfl) rfl dX7_safeAt_24 ?_
    refine k_iload_n O dX7_safeAt_27 2 rfl ?_
    obtain ⟨g5, h⟩ := gd_some h
    refine k_iald O (k := 20) (by omega) (E_sc2 (by decide)) g5 dX7_safeAt_28 ?_
    refine k_iload_n O dX7_safeAt_29 3 rfl ?_
    refine k_aload_n O dX7_safeAt_30 1 rfl ?_
    refine k_iload_n O dX7_safeAt_31 2 rfl ?_
    obtain ⟨r8, w7, hc6, h⟩ := bd_some h
    refine k_callVi O (As := [.int v1]) (rest := [.int v2, .int (w2.1 20 v1.toNatClampNeg), .ref (g_ad X.1 92)]) (k := 0) (c_X7_dangerFor (x_l X) X.1 hN hz hc6) gX7_safeAt_X7_dangerFor rfl hd_X7_dangerFor (by decide) (by omega) (E_0 hz) rfl rfl rfl rfl rfl (Nat.le_of_ble_eq_true rfl) dX7_safeAt_32 ?_
    obtain ⟨w10, hc9, h⟩ := bv_some h
    refine k_callVv O (As := [.int (w2.1 20 v1.toNatClampNeg), .int v2, .int r8]) (rest := []) (k := 92) (c_X6_measure (x_l X) X.1 hN hc9) gX7_safeAt_X6_measure rfl hd_X6_measure (by decide) (by omega) E_92 rfl rfl rfl rfl rfl (Nat.le_of_ble_eq_true rfl) dX7_safeAt_35 ?_
    refine k_aload_n O dX7_safeAt_38 1 rfl ?_
    refine k_get O (v := .ref (g_ad X.1 92)) (k := 0) (by omega) (E_0 hz) rfl 7 (by decide) (fun _ h9 => List.mem_cons_of_mem _ (List.mem_append_left _ (List.mem_append_left _ (List.mem_append_left _ (List.mem_append_right _ h9))))) (List.mem_of_getElem? (i := 1) rfl) rfl dX7_safeAt_39 ?_
    refine k_aload_n O dX7_safeAt_42 1 rfl ?_
    refine k_get O (v := .ref (g_ad X.1 18)) (k := 0) (by omega) (E_0 hz) rfl 4 (by decide) (fun _ h9 => List.mem_cons_of_mem _ (List.mem_append_left _ (List.mem_append_left _ (List.mem_append_left _ (List.mem_append_right _ h9))))) (List.mem_of_getElem? (i := 2) rfl) rfl dX7_safeAt_43 ?_
    refine k_get O (v := .ref (g_ad X.1 20)) (k := 18) (by omega) (E_sc (by decide)) rfl 5 (by decide) (fun _ h9 => List.mem_cons_of_mem _ (List.mem_append_left _ (List.mem_append_left _ (List.mem_append_right _ h9)))) (List.mem_of_getElem? (i := 3) rfl) rfl dX7_safeAt_46 ?_
    refine k_iload_n O dX7_safeAt_49 2 rfl ?_
    obtain ⟨g11, h⟩ := gd_some h
    refine k_iald O (k := 20) (by omega) (E_sc2 (by decide)) g11 dX7_safeAt_50 ?_
    refine k_iload_n O dX7_safeAt_51 4 rfl ?_
    obtain ⟨r14, w13, hc12, h⟩ := bd_some h
    refine k_callVi O (As := [.int (w10.1 20 v1.toNatClampNeg), .int v3]) (rest := []) (k := 92) (c_X6_cellBehind (x_l X) X.1 hN hc12) gX7_safeAt_X6_cellBehind rfl hd_X6_cellBehind (by decide) (by omega) E_92 rfl rfl rfl rfl rfl (Nat.le_of_ble_eq_true rfl) dX7_safeAt_52 ?_
    exact k_iret O dX7_safeAt_55 (rt_int h ho)
  · have h := ite_f c4 h
    refine k_iload O dX7_safeAt_13 0 rfl ?_
    exact k_iret O dX7_safeAt_15 (rt_int h ho)
theorem c_X7_safeAt (l : Launch) (G : Gl) (hN : 105 ≤ g_N G) (hz : g_mz G = none) {w wz : Wd} {v1 : Int32} {v2 : Int32} {v3 : Int32} {rz : Int32} (h : f_X7_safeAt w v1 v2 v3 = some (rz, wz)) : Ct l yX7_safeAt wsX7_safeAt (4) (89) G [.ref (g_ad G 0), .int v1, .int v2, .int v3] w (some (.int rz), wz) := by
  refine Ct.start (by decide) rfl rfl rfl (Nat.le_of_ble_eq_true rfl) (fun X hG ho hl O => ?_)
  subst hG
  subst hl
  exact k_sub [0, 1, 2, 3] rfl (w_X7_safeAt_0 O hN hz ho h)
def b_X7_toLook_48 (kb17 : Wd → Int32 → Int32 → Int32 → Int32 → Option (Int32 × Wd)) (w : Wd) (v1 : Int32) (v2 : Int32) (v3 : Int32) (v4 : Int32) : Option (Int32 × Wd) := nm (v4 + (1 : Int32)) (fun x1 => kb17 w v1 v2 v3 x1)
def b_X7_toLook_17 : Nat → Wd → Int32 → Int32 → Int32 → Int32 → Option (Int32 × Wd)
  | 0, _, _, _, _, _ => none
  | n + 1, w, v1, v2, v3, v4 => if ((12 : Int32)) ≤ v4 then (some (v2, w)) else (bd (f_X7_unknownFrom w v1 v4) (fun r4 w3 => bd (f_J6_bitCount_0f7a4 w3 r4) (fun r7 w6 => if r7 ≤ v3 then (b_X7_toLook_48 (b_X7_toLook_17 n) w6 v1 v2 v3 v4) else (b_X7_toLook_48 (b_X7_toLook_17 n) w6 v1 v4 r7 v4))))
def b_X7_toLook_0 (w : Wd) (v1 : Int32) : Option (Int32 × Wd) := bd (f_X7_isSide w v1) (fun r3 w2 => if r3 = 0 then (some ((-2 : Int32), w2)) else (b_X7_toLook_17 LF w2 v1 ((0 : Int32)) ((0 : Int32)) ((0 : Int32))))
def f_X7_toLook (w : Wd) (v1 : Int32) : Option (Int32 × Wd) := b_X7_toLook_0 w v1
set_option maxHeartbeats 4000000 in
set_option maxRecDepth 100000 in
theorem w_X7_toLook_48 {X : Cx} {rz : Int32} {wz : Wd} (O : Ok X cX7_toLook RX7 ((some .int)) wsX7_toLook (3) (62) 6) (hN : 105 ≤ g_N X.1) (hz : g_mz X.1 = none) {kb17 : Wd → Int32 → Int32 → Int32 → Int32 → Option (Int32 × Wd)} (hk17 : ∀ {w : Wd} {v1 : Int32} {v2 : Int32} {v3 : Int32} {v4 : Int32}, kb17 w v1 v2 v3 v4 = some (rz, wz) → Wk X w 17 [(0, .ref (g_ad X.1 0)), (1, .int v1), (2, .int v2), (3, .int v3), (4, .int v4)] []) (ho : Ro X (some (.int rz), wz)) {w : Wd} {v1 : Int32} {v2 : Int32} {v3 : Int32} {v4 : Int32} (h : b_X7_toLook_48 kb17 w v1 v2 v3 v4 = some (rz, wz)) : Wk X w 48 [(0, .ref (g_ad X.1 0)), (1, .int v1), (2, .int v2), (3, .int v3), (4, .int v4)] [] := by
  unfold b_X7_toLook_48 at h
  obtain ⟨x1, ex1⟩ : ∃ z : Int32, z = v4 + (1 : Int32) := ⟨_, rfl⟩
  have h := nm_use h x1 ex1
  refine k_iinc (lv' := [(4, .int x1), (0, .ref (g_ad X.1 0)), (1, .int v1), (2, .int v2), (3, .int v3)]) O dX7_toLook_48 4 rfl (by rw [ex1]; rfl) (by decide) rfl ?_
  refine k_goto O 17 dX7_toLook_51 (by decide) ?_
  exact k_sub [1, 2, 3, 4, 0] rfl (hk17 h)
set_option maxHeartbeats 4000000 in
set_option maxRecDepth 100000 in
theorem w_X7_toLook_17 {X : Cx} {rz : Int32} {wz : Wd} (O : Ok X cX7_toLook RX7 ((some .int)) wsX7_toLook (3) (62) 6) (hN : 105 ≤ g_N X.1) (hz : g_mz X.1 = none) (ho : Ro X (some (.int rz), wz)) (n : Nat) : ∀ {w : Wd} {v1 : Int32} {v2 : Int32} {v3 : Int32} {v4 : Int32}, b_X7_toLook_17 n w v1 v2 v3 v4 = some (rz, wz) → Wk X w 17 [(0, .ref (g_ad X.1 0)), (1, .int v1), (2, .int v2), (3, .int v3), (4, .int v4)] [] := by
  induction n with
  | zero => intro w v1 v2 v3 v4 h; exact nomatch (show (none : Option (Int32 × Wd)) = some _ from h)
  | succ n ih =>
    intro w v1 v2 v3 v4 h
    rw [b_X7_toLook_17] at h
    refine k_iload O dX7_toLook_17 4 rfl ?_
    refine k_bipush O dX7_toLook_19 (v := 12) (by decide) ?_
    refine k_icmp_ge O 54 dX7_toLook_21 (by decide) (fun c1 => ?_) (fun c1 => ?_)
    · have h := ite_t c1 h
      refine k_iload_n O dX7_toLook_54 2 rfl ?_
      exact k_iret O dX7_toLook_55 (rt_int h ho)
    · have h := ite_f c1 h
      refine k_aload_n O dX7_toLook_24 0 rfl ?_
      refine k_iload_n O dX7_toLook_25 1 rfl ?_
      refine k_iload O dX7_toLook_26 4 rfl ?_
      obtain ⟨r4, w3, hc2, h⟩ := bd_some h
      refine k_callVi O (As := [.int v1, .int v4]) (rest := []) (k := 0) (c_X7_unknownFrom (x_l X) X.1 hN hz hc2) gX7_toLook_X7_unknownFrom rfl hd_X7_unknownFrom (by decide) (by omega) (E_0 hz) rfl rfl rfl rfl rfl (Nat.le_of_ble_eq_true rfl) dX7_toLook_28 ?_
      obtain ⟨r7, w6, hc5, h⟩ := bd_some h
      refine k_callSi O (As := [.int r4]) (rest := []) (c_J6_bitCount_0f7a4 (x_l X) X.1 hc5) gX7_toLook_J6_bitCount_0f7a4 rfl hd_J6_bitCount_0f7a4 (by decide) rfl rfl (Nat.le_of_ble_eq_true rfl) dX7_toLook_31 ?_
      refine k_istore (lv' := [(5, .int r7), (0, .ref (g_ad X.1 0)), (1, .int v1), (2, .int v2), (3, .int v3), (4, .int v4)]) O dX7_toLook_34 (by decide) rfl ?_
      refine k_iload O dX7_toLook_36 0 rfl ?_
      refine k_iload_n O dX7_toLook_38 4 rfl ?_
      refine k_icmp_le O 48 dX7_toLook_39 (by decide) (fun c8 => ?_) (fun c8 => ?_)
      · have h := ite_t c8 h
        exact k_sub [1, 2, 3, 4, 5] rfl (w_X7_toLook_48 O hN hz (fun {_} {_} {_} {_} {_} h9 => ih h9) ho h)
      · have h := ite_f c8 h
        refine k_iload O dX7_toLook_42 0 rfl ?_
        refine k_istore_n (lv' := [(3, .int r7), (5, .int r7), (0, .ref (g_ad X.1 0)), (1, .int v1), (2, .int v2), (4, .int v4)]) O dX7_toLook_44 rfl (by decide) rfl ?_
        refine k_iload O dX7_toLook_45 5 rfl ?_
        refine k_istore_n (lv' := [(2, .int v4), (3, .int r7), (5, .int r7), (0, .ref (g_ad X.1 0)), (1, .int v1), (4, .int v4)]) O dX7_toLook_47 rfl (by decide) rfl ?_
        exact k_sub [3, 4, 0, 1, 5] rfl (w_X7_toLook_48 O hN hz (fun {_} {_} {_} {_} {_} h9 => ih h9) ho h)
set_option maxHeartbeats 4000000 in
set_option maxRecDepth 100000 in
theorem w_X7_toLook_0 {X : Cx} {rz : Int32} {wz : Wd} (O : Ok X cX7_toLook RX7 ((some .int)) wsX7_toLook (3) (62) 6) (hN : 105 ≤ g_N X.1) (hz : g_mz X.1 = none) (ho : Ro X (some (.int rz), wz)) {w : Wd} {v1 : Int32} (h : b_X7_toLook_0 w v1 = some (rz, wz)) : Wk X w 0 [(0, .ref (g_ad X.1 0)), (1, .int v1)] [] := by
  unfold b_X7_toLook_0 at h
  refine k_iload_n O dX7_toLook_0 1 rfl ?_
  obtain ⟨r3, w2, hc1, h⟩ := bd_some h
  refine k_callSi O (As := [.int v1]) (rest := []) (c_X7_isSide (x_l X) X.1 hc1) gX7_toLook_X7_isSide rfl hd_X7_isSide (by decide) rfl rfl (Nat.le_of_ble_eq_true rfl) dX7_toLook_1 ?_
  refine k_if_ne O 10 dX7_toLook_4 (by decide) (fun c4 => ?_) (fun c4 => ?_)
  · have h := ite_f c4 h
    refine k_iconst O dX7_toLook_10 (v := 0) (by decide) ?_
    refine k_istore_n (lv' := [(2, .int ((0 : Int32))), (0, .ref (g_ad X.1 0)), (1, .int v1)]) O dX7_toLook_11 rfl (by decide) rfl ?_
    refine k_iconst O dX7_toLook_12 (v := 0) (by decide) ?_
    refine k_istore_n (lv' := [(3, .int ((0 : Int32))), (2, .int ((0 : Int32))), (0, .ref (g_ad X.1 0)), (1, .int v1)]) O dX7_toLook_13 rfl (by decide) rfl ?_
    refine k_iconst O dX7_toLook_14 (v := 0) (by decide) ?_
    refine k_istore (lv' := [(4, .int ((0 : Int32))), (3, .int ((0 : Int32))), (2, .int ((0 : Int32))), (0, .ref (g_ad X.1 0)), (1, .int v1)]) O dX7_toLook_15 (by decide) rfl ?_
    exact k_sub [3, 4, 2, 1, 0] rfl (w_X7_toLook_17 O hN hz ho LF h)
  · have h := ite_t c4 h
    refine k_bipush O dX7_toLook_7 (v := -2) (by decide) ?_
    exact k_iret O dX7_toLook_9 (rt_int h ho)
theorem c_X7_toLook (l : Launch) (G : Gl) (hN : 105 ≤ g_N G) (hz : g_mz G = none) {w wz : Wd} {v1 : Int32} {rz : Int32} (h : f_X7_toLook w v1 = some (rz, wz)) : Ct l yX7_toLook wsX7_toLook (3) (62) G [.ref (g_ad G 0), .int v1] w (some (.int rz), wz) := by
  refine Ct.start (by decide) rfl rfl rfl (Nat.le_of_ble_eq_true rfl) (fun X hG ho hl O => ?_)
  subst hG
  subst hl
  exact k_sub [0, 1] rfl (w_X7_toLook_0 O hN hz ho h)
def b_X7_greatestDivisor_7 : Nat → Wd → Int32 → Int32 → Int32 → Option (Int32 × Wd)
  | 0, _, _, _, _ => none
  | n + 1, w, v2, v3, v4 => if ((100 : Int32)) ≤ v4 then (some (v2, w)) else (if v3 = 0 then (some (v2, w)) else (gd (nz v3) (nm (v2 - v2 / v3 * v3) (fun x4 => nm (v4 + (1 : Int32)) (fun x5 => b_X7_greatestDivisor_7 n w v3 x4 x5)))))
def b_X7_greatestDivisor_0 (w : Wd) (v0 : Int32) (v1 : Int32) : Option (Int32 × Wd) := b_X7_greatestDivisor_7 LF w v0 v1 ((0 : Int32))
def f_X7_greatestDivisor (w : Wd) (v0 : Int32) (v1 : Int32) : Option (Int32 × Wd) := b_X7_greatestDivisor_0 w v0 v1
set_option maxHeartbeats 4000000 in
set_option maxRecDepth 100000 in
theorem w_X7_greatestDivisor_7 {X : Cx} {rz : Int32} {wz : Wd} (O : Ok X cX7_greatestDivisor RX7 ((some .int)) wsX7_greatestDivisor (0) (0) 6) (ho : Ro X (some (.int rz), wz)) (n : Nat) : ∀ {w : Wd} {v2 : Int32} {v3 : Int32} {v4 : Int32}, b_X7_greatestDivisor_7 n w v2 v3 v4 = some (rz, wz) → Wk X w 7 [(2, .int v2), (3, .int v3), (4, .int v4)] [] := by
  induction n with
  | zero => intro w v2 v3 v4 h; exact nomatch (show (none : Option (Int32 × Wd)) = some _ from h)
  | succ n ih =>
    intro w v2 v3 v4 h
    rw [b_X7_greatestDivisor_7] at h
    refine k_iload O dX7_greatestDivisor_7 2 rfl ?_
    refine k_bipush O dX7_greatestDivisor_9 (v := 100) (by decide) ?_
    refine k_icmp_ge O 34 dX7_greatestDivisor_11 (by decide) (fun c1 => ?_) (fun c1 => ?_)
    · have h := ite_t c1 h
      refine k_iload_n O dX7_greatestDivisor_34 0 rfl ?_
      exact k_iret O dX7_greatestDivisor_35 (rt_int h ho)
    · have h := ite_f c1 h
      refine k_iload_n O dX7_greatestDivisor_14 1 rfl ?_
      refine k_if_eq O 34 dX7_greatestDivisor_15 (by decide) (fun c2 => ?_) (fun c2 => ?_)
      · have h := ite_t c2 h
        refine k_iload_n O dX7_greatestDivisor_34 0 rfl ?_
        exact k_iret O dX7_greatestDivisor_35 (rt_int h ho)
      · have h := ite_f c2 h
        refine k_iload_n O dX7_greatestDivisor_18 0 rfl ?_
        refine k_iload_n O dX7_greatestDivisor_19 1 rfl ?_
        obtain ⟨g3, h⟩ := gd_some h
        refine k_irem O dX7_greatestDivisor_20 (nz_ne g3) ?_
        refine k_topi (fun x4 ex4 => ?_)
        have h := nm_use h x4 ex4
        refine k_istore (lv' := [(5, .int x4), (2, .int v2), (3, .int v3), (4, .int v4)]) O dX7_greatestDivisor_21 (by decide) rfl ?_
        refine k_iload_n O dX7_greatestDivisor_23 2 rfl ?_
        refine k_istore_n (lv' := [(2, .int v3), (5, .int x4), (3, .int v3), (4, .int v4)]) O dX7_greatestDivisor_24 rfl (by decide) rfl ?_
        refine k_iload O dX7_greatestDivisor_25 1 rfl ?_
        refine k_istore_n (lv' := [(3, .int x4), (2, .int v3), (5, .int x4), (4, .int v4)]) O dX7_greatestDivisor_27 rfl (by decide) rfl ?_
        obtain ⟨x5, ex5⟩ : ∃ z : Int32, z = v4 + (1 : Int32) := ⟨_, rfl⟩
        have h := nm_use h x5 ex5
        refine k_iinc (lv' := [(4, .int x5), (3, .int x4), (2, .int v3), (5, .int x4)]) O dX7_greatestDivisor_28 3 rfl (by rw [ex5]; rfl) (by decide) rfl ?_
        refine k_goto O 7 dX7_greatestDivisor_31 (by decide) ?_
        exact k_sub [2, 1, 0] rfl (ih h)
set_option maxHeartbeats 4000000 in
set_option maxRecDepth 100000 in
theorem w_X7_greatestDivisor_0 {X : Cx} {rz : Int32} {wz : Wd} (O : Ok X cX7_greatestDivisor RX7 ((some .int)) wsX7_greatestDivisor (0) (0) 6) (ho : Ro X (some (.int rz), wz)) {w : Wd} {v0 : Int32} {v1 : Int32} (h : b_X7_greatestDivisor_0 w v0 v1 = some (rz, wz)) : Wk X w 0 [(0, .int v0), (1, .int v1)] [] := by
  unfold b_X7_greatestDivisor_0 at h
  refine k_iload_n O dX7_greatestDivisor_0 0 rfl ?_
  refine k_istore_n (lv' := [(2, .int v0), (0, .int v0), (1, .int v1)]) O dX7_greatestDivisor_1 rfl (by decide) rfl ?_
  refine k_iload_n O dX7_greatestDivisor_2 2 rfl ?_
  refine k_istore_n (lv' := [(3, .int v1), (2, .int v0), (0, .int v0), (1, .int v1)]) O dX7_greatestDivisor_3 rfl (by decide) rfl ?_
  refine k_iconst O dX7_greatestDivisor_4 (v := 0) (by decide) ?_
  refine k_istore (lv' := [(4, .int ((0 : Int32))), (3, .int v1), (2, .int v0), (0, .int v0), (1, .int v1)]) O dX7_greatestDivisor_5 (by decide) rfl ?_
  exact k_sub [2, 1, 0] rfl (w_X7_greatestDivisor_7 O ho LF h)
theorem c_X7_greatestDivisor (l : Launch) (G : Gl) {w wz : Wd} {v0 : Int32} {v1 : Int32} {rz : Int32} (h : f_X7_greatestDivisor w v0 v1 = some (rz, wz)) : Ct l yX7_greatestDivisor wsX7_greatestDivisor (0) (0) G [.int v0, .int v1] w (some (.int rz), wz) := by
  refine Ct.start (by decide) rfl rfl rfl (Nat.le_of_ble_eq_true rfl) (fun X hG ho hl O => ?_)
  subst hG
  subst hl
  exact k_sub [0, 1] rfl (w_X7_greatestDivisor_0 O ho h)
def b_X7_strays_0 (w : Wd) (v1 : Int32) (v2 : Int32) (v3 : Int32) : Option (Int32 × Wd) := bd (f_X1_hasWalker 11 w v1) (fun r3 w2 => if r3 = 0 then (some ((-1 : Int32), w2)) else (if v2 < 0 then (some ((-2 : Int32), w2)) else (if v2 ≤ ((4 : Int32)) then (bd (f_X3_isFree 18 w2 v1) (fun r9 w8 => if r9 = 0 then (some ((-3 : Int32), w8)) else (bd (f_X4_wholeOf w8 v2) (fun r13 w12 => bd (f_X4_chance 18 w12 v1 v2 ((-9 : Int32))) (fun r16 w15 => bd (f_X7_greatestDivisor w15 r13 r16) (fun r19 w18 => if r19 = 0 then (some ((-9 : Int32), w18)) else (if v3 = 0 then (gd (nz r19) (some (r13 / r19, w18))) else (gd (nz r19) (some (r16 / r19, w18)))))))))) else (some ((-2 : Int32), w2)))))
def f_X7_strays (w : Wd) (v1 : Int32) (v2 : Int32) (v3 : Int32) : Option (Int32 × Wd) := b_X7_strays_0 w v1 v2 v3
set_option maxHeartbeats 4000000 in
set_option maxRecDepth 100000 in
theorem w_X7_strays_0 {X : Cx} {rz : Int32} {wz : Wd} (O : Ok X cX7_strays RX7 ((some .int)) wsX7_strays (17) (454) 7) (hN : 105 ≤ g_N X.1) (hz : g_mz X.1 = none) (ho : Ro X (some (.int rz), wz)) {w : Wd} {v1 : Int32} {v2 : Int32} {v3 : Int32} (h : b_X7_strays_0 w v1 v2 v3 = some (rz, wz)) : Wk X w 0 [(0, .ref (g_ad X.1 0)), (1, .int v1), (2, .int v2), (3, .int v3)] [] := by
  unfold b_X7_strays_0 at h
  refine k_aload_n O dX7_strays_0 0 rfl ?_
  refine k_get O (v := .ref (g_ad X.1 11)) (k := 0) (by omega) (E_0 hz) rfl 3 (by decide) (fun _ h9 => List.mem_cons_of_mem _ (List.mem_append_left _ (List.mem_append_left _ (List.mem_append_left _ (List.mem_append_right _ h9))))) (List.mem_of_getElem? (i := 1) rfl) rfl dX7_strays_1 ?_
  refine k_iload_n O dX7_strays_4 1 rfl ?_
  obtain ⟨r3, w2, hc1, h⟩ := bd_some h
  refine k_callVi O (As := [.int v1]) (rest := []) (k := 11) (c_X1_hasWalker (x_l X) X.1 (by decide) (by omega) hc1) gX7_strays_X1_hasWalker rfl hd_X1_hasWalker (by decide) (by omega) (E_pl (by decide)) rfl rfl rfl rfl rfl (Nat.le_of_ble_eq_true rfl) dX7_strays_5 ?_
  refine k_if_ne O 13 dX7_strays_8 (by decide) (fun c4 => ?_) (fun c4 => ?_)
  · have h := ite_f c4 h
    refine k_iload_n O dX7_strays_13 2 rfl ?_
    refine k_if_lt O 22 dX7_strays_14 (by decide) (fun c5 => ?_) (fun c5 => ?_)
    · have h := ite_t c5 h
      refine k_bipush O dX7_strays_22 (v := -2) (by decide) ?_
      exact k_iret O dX7_strays_24 (rt_int h ho)
    · have h := ite_f c5 h
      refine k_iload_n O dX7_strays_17 2 rfl ?_
      refine k_iconst O dX7_strays_18 (v := 4) (by decide) ?_
      refine k_icmp_le O 25 dX7_strays_19 (by decide) (fun c6 => ?_) (fun c6 => ?_)
      · have h := ite_t c6 h
        refine k_aload_n O dX7_strays_25 0 rfl ?_
        refine k_get O (v := .ref (g_ad X.1 18)) (k := 0) (by omega) (E_0 hz) rfl 4 (by decide) (fun _ h9 => List.mem_cons_of_mem _ (List.mem_append_left _ (List.mem_append_left _ (List.mem_append_left _ (List.mem_append_right _ h9))))) (List.mem_of_getElem? (i := 2) rfl) rfl dX7_strays_26 ?_
        refine k_iload_n O dX7_strays_29 1 rfl ?_
        obtain ⟨r9, w8, hc7, h⟩ := bd_some h
        refine k_callVi O (As := [.int v1]) (rest := []) (k := 18) (c_X3_isFree (x_l X) X.1 (by decide) (by omega) hc7) gX7_strays_X3_isFree rfl hd_X3_isFree (by decide) (by omega) (E_sc (by decide)) rfl rfl rfl rfl rfl (Nat.le_of_ble_eq_true rfl) dX7_strays_30 ?_
        refine k_if_ne O 39 dX7_strays_33 (by decide) (fun c10 => ?_) (fun c10 => ?_)
        · have h := ite_f c10 h
          refine k_iload_n O dX7_strays_39 2 rfl ?_
          obtain ⟨r13, w12, hc11, h⟩ := bd_some h
          refine k_callSi O (As := [.int v2]) (rest := []) (c_X4_wholeOf (x_l X) X.1 hc11) gX7_strays_X4_wholeOf rfl hd_X4_wholeOf (by decide) rfl rfl (Nat.le_of_ble_eq_true rfl) dX7_strays_40 ?_
          refine k_istore (lv' := [(4, .int r13), (0, .ref (g_ad X.1 0)), (1, .int v1), (2, .int v2), (3, .int v3)]) O dX7_strays_43 (by decide) rfl ?_
          refine k_aload_n O dX7_strays_45 1 rfl ?_
          refine k_get O (v := .ref (g_ad X.1 94)) (k := 0) (by omega) (E_0 hz) rfl 8 (by decide) (fun _ h9 => List.mem_cons_of_mem _ (List.mem_append_left _ (List.mem_append_left _ (List.mem_append_left _ (List.mem_append_right _ h9))))) (List.mem_of_getElem? (i := 3) rfl) rfl dX7_strays_46 ?_
          refine k_aload_n O dX7_strays_49 1 rfl ?_
          refine k_get O (v := .ref (g_ad X.1 18)) (k := 0) (by omega) (E_0 hz) rfl 4 (by decide) (fun _ h9 => List.mem_cons_of_mem _ (List.mem_append_left _ (List.mem_append_left _ (List.mem_append_left _ (List.mem_append_right _ h9))))) (List.mem_of_getElem? (i := 2) rfl) rfl dX7_strays_50 ?_
          refine k_iload_n O dX7_strays_53 2 rfl ?_
          refine k_iload_n O dX7_strays_54 3 rfl ?_
          refine k_bipush O dX7_strays_55 (v := -9) (by decide) ?_
          obtain ⟨r16, w15, hc14, h⟩ := bd_some h
          refine k_callVi O (As := [.ref (g_ad X.1 18), .int v1, .int v2, .int ((-9 : Int32))]) (rest := []) (k := 94) (c_X4_chance (x_l X) X.1 (by decide) (by omega) hN hc14) gX7_strays_X4_chance rfl hd_X4_chance (by decide) (by omega) E_94 rfl rfl rfl rfl rfl (Nat.le_of_ble_eq_true rfl) dX7_strays_57 ?_
          refine k_istore (lv' := [(5, .int r16), (4, .int r13), (0, .ref (g_ad X.1 0)), (1, .int v1), (2, .int v2), (3, .int v3)]) O dX7_strays_60 (by decide) rfl ?_
          refine k_iload O dX7_strays_62 1 rfl ?_
          refine k_iload O dX7_strays_64 0 rfl ?_
          obtain ⟨r19, w18, hc17, h⟩ := bd_some h
          refine k_callSi O (As := [.int r13, .int r16]) (rest := []) (c_X7_greatestDivisor (x_l X) X.1 hc17) gX7_strays_X7_greatestDivisor rfl hd_X7_greatestDivisor (by decide) rfl rfl (Nat.le_of_ble_eq_true rfl) dX7_strays_66 ?_
          refine k_istore (lv' := [(6, .int r19), (5, .int r16), (4, .int r13), (0, .ref (g_ad X.1 0)), (1, .int v1), (2, .int v2), (3, .int v3)]) O dX7_strays_69 (by decide) rfl ?_
          refine k_iload O dX7_strays_71 0 rfl ?_
          refine k_if_ne O 79 dX7_strays_73 (by decide) (fun c20 => ?_) (fun c20 => ?_)
          · have h := ite_f c20 h
            refine k_iload_n O dX7_strays_79 6 rfl ?_
            refine k_if_eq O 91 dX7_strays_80 (by decide) (fun c21 => ?_) (fun c21 => ?_)
            · have h := ite_t c21 h
              refine k_iload O dX7_strays_91 2 rfl ?_
              refine k_iload O dX7_strays_93 0 rfl ?_
              obtain ⟨g22, h⟩ := gd_some h
              refine k_idiv O dX7_strays_95 (nz_ne g22) ?_
              exact k_iret O dX7_strays_96 (rt_int h ho)
            · have h := ite_f c21 h
              refine k_iload O dX7_strays_83 1 rfl ?_
              refine k_iload O dX7_strays_85 0 rfl ?_
              obtain ⟨g23, h⟩ := gd_some h
              refine k_idiv O dX7_strays_87 (nz_ne g23) ?_
              refine k_goto O 96 dX7_strays_88 (by decide) ?_
              exact k_iret O dX7_strays_96 (rt_int h ho)
          · have h := ite_t c20 h
            refine k_bipush O dX7_strays_76 (v := -9) (by decide) ?_
            exact k_iret O dX7_strays_78 (rt_int h ho)
        · have h := ite_t c10 h
          refine k_bipush O dX7_strays_36 (v := -3) (by decide) ?_
          exact k_iret O dX7_strays_38 (rt_int h ho)
      · have h := ite_f c6 h
        refine k_bipush O dX7_strays_22 (v := -2) (by decide) ?_
        exact k_iret O dX7_strays_24 (rt_int h ho)
  · have h := ite_t c4 h
    refine k_iconst O dX7_strays_11 (v := -1) (by decide) ?_
    exact k_iret O dX7_strays_12 (rt_int h ho)
theorem c_X7_strays (l : Launch) (G : Gl) (hN : 105 ≤ g_N G) (hz : g_mz G = none) {w wz : Wd} {v1 : Int32} {v2 : Int32} {v3 : Int32} {rz : Int32} (h : f_X7_strays w v1 v2 v3 = some (rz, wz)) : Ct l yX7_strays wsX7_strays (17) (454) G [.ref (g_ad G 0), .int v1, .int v2, .int v3] w (some (.int rz), wz) := by
  refine Ct.start (by decide) rfl rfl rfl (Nat.le_of_ble_eq_true rfl) (fun X hG ho hl O => ?_)
  subst hG
  subst hl
  exact k_sub [0, 1, 2, 3] rfl (w_X7_strays_0 O hN hz ho h)
def b_X7_oneMore_147 (kb64 : Wd → Int32 → Int32 → Int32 → Int32 → Int32 → Option (Int32 × Wd)) (w : Wd) (v1 : Int32) (v2 : Int32) (v3 : Int32) (v4 : Int32) (v5 : Int32) : Option (Int32 × Wd) := nm (v5 + (1 : Int32)) (fun x1 => kb64 w v1 v2 v3 v4 x1)
def b_X7_oneMore_131 (kb64 : Wd → Int32 → Int32 → Int32 → Int32 → Int32 → Option (Int32 × Wd)) (w : Wd) (v1 : Int32) (v2 : Int32) (v3 : Int32) (v4 : Int32) (v5 : Int32) (s0 : Int32) : Option (Int32 × Wd) := if s0 ≤ v4 then (b_X7_oneMore_147 kb64 w v1 v2 v3 v4 v5) else (b_X7_oneMore_147 kb64 w v1 v2 v5 s0 v5)
def b_X7_oneMore_105 (kb64 : Wd → Int32 → Int32 → Int32 → Int32 → Int32 → Option (Int32 × Wd)) (w : Wd) (v1 : Int32) (v2 : Int32) (v3 : Int32) (v4 : Int32) (v5 : Int32) (s0 : Int32) : Option (Int32 × Wd) := if s0 = 0 then (b_X7_oneMore_131 kb64 w v1 v2 v3 v4 v5 ((-1 : Int32))) else (bd (f_X4_chance 18 w v1 v2 v5) (fun r4 w3 => b_X7_oneMore_131 kb64 w3 v1 v2 v3 v4 v5 r4))
def b_X7_oneMore_104 (kb64 : Wd → Int32 → Int32 → Int32 → Int32 → Int32 → Option (Int32 × Wd)) (w : Wd) (v1 : Int32) (v2 : Int32) (v3 : Int32) (v4 : Int32) (v5 : Int32) : Option (Int32 × Wd) := b_X7_oneMore_105 kb64 w v1 v2 v3 v4 v5 ((0 : Int32))
def b_X7_oneMore_64 : Nat → Wd → Int32 → Int32 → Int32 → Int32 → Int32 → Option (Int32 × Wd)
  | 0, _, _, _, _, _, _ => none
  | n + 1, w, v1, v2, v3, v4, v5 => if ((12 : Int32)) ≤ v5 then (some (v3, w)) else (if (((w.1 11 2) >>> (v5 &&& 31)) &&& ((1 : Int32))) = 0 then (bd (f_X1_trapOn 11 w v5) (fun r5 w4 => if r5 = ((-9 : Int32)) then (b_X7_oneMore_105 (b_X7_oneMore_64 n) w4 v1 v2 v3 v4 v5 ((1 : Int32))) else (b_X7_oneMore_104 (b_X7_oneMore_64 n) w4 v1 v2 v3 v4 v5))) else (b_X7_oneMore_104 (b_X7_oneMore_64 n) w v1 v2 v3 v4 v5))
def b_X7_oneMore_0 (w : Wd) (v1 : Int32) (v2 : Int32) : Option (Int32 × Wd) := bd (f_X1_hasWalker 11 w v1) (fun r3 w2 => if r3 = 0 then (some ((-1 : Int32), w2)) else (if v2 < ((1 : Int32)) then (some ((-2 : Int32), w2)) else (if v2 ≤ ((3 : Int32)) then (bd (f_X3_isFree 18 w2 v1) (fun r9 w8 => if r9 = 0 then (some ((-3 : Int32), w8)) else (if (w8.1 11 0) < ((6 : Int32)) then (b_X7_oneMore_64 LF w8 v1 v2 ((-9 : Int32)) ((-1 : Int32)) ((0 : Int32))) else (some ((-4 : Int32), w8))))) else (some ((-2 : Int32), w2)))))
def f_X7_oneMore (w : Wd) (v1 : Int32) (v2 : Int32) : Option (Int32 × Wd) := b_X7_oneMore_0 w v1 v2
set_option maxHeartbeats 4000000 in
set_option maxRecDepth 100000 in
theorem w_X7_oneMore_147 {X : Cx} {rz : Int32} {wz : Wd} (O : Ok X cX7_oneMore RX7 ((some .int)) wsX7_oneMore (17) (454) 8) (hN : 105 ≤ g_N X.1) (hz : g_mz X.1 = none) {kb64 : Wd → Int32 → Int32 → Int32 → Int32 → Int32 → Option (Int32 × Wd)} (hk64 : ∀ {w : Wd} {v1 : Int32} {v2 : Int32} {v3 : Int32} {v4 : Int32} {v5 : Int32}, kb64 w v1 v2 v3 v4 v5 = some (rz, wz) → Wk X w 64 [(0, .ref (g_ad X.1 0)), (1, .int v1), (2, .int v2), (3, .int v3), (4, .int v4), (5, .int v5)] []) (ho : Ro X (some (.int rz), wz)) {w : Wd} {v1 : Int32} {v2 : Int32} {v3 : Int32} {v4 : Int32} {v5 : Int32} (h : b_X7_oneMore_147 kb64 w v1 v2 v3 v4 v5 = some (rz, wz)) : Wk X w 147 [(0, .ref (g_ad X.1 0)), (1, .int v1), (2, .int v2), (3, .int v3), (4, .int v4), (5, .int v5)] [] := by
  unfold b_X7_oneMore_147 at h
  obtain ⟨x1, ex1⟩ : ∃ z : Int32, z = v5 + (1 : Int32) := ⟨_, rfl⟩
  have h := nm_use h x1 ex1
  refine k_iinc (lv' := [(5, .int x1), (0, .ref (g_ad X.1 0)), (1, .int v1), (2, .int v2), (3, .int v3), (4, .int v4)]) O dX7_oneMore_147 5 rfl (by rw [ex1]; rfl) (by decide) rfl ?_
  refine k_goto O 64 dX7_oneMore_150 (by decide) ?_
  exact k_sub [1, 2, 3, 4, 5, 0] rfl (hk64 h)
set_option maxHeartbeats 4000000 in
set_option maxRecDepth 100000 in
theorem w_X7_oneMore_131 {X : Cx} {rz : Int32} {wz : Wd} (O : Ok X cX7_oneMore RX7 ((some .int)) wsX7_oneMore (17) (454) 8) (hN : 105 ≤ g_N X.1) (hz : g_mz X.1 = none) {kb64 : Wd → Int32 → Int32 → Int32 → Int32 → Int32 → Option (Int32 × Wd)} (hk64 : ∀ {w : Wd} {v1 : Int32} {v2 : Int32} {v3 : Int32} {v4 : Int32} {v5 : Int32}, kb64 w v1 v2 v3 v4 v5 = some (rz, wz) → Wk X w 64 [(0, .ref (g_ad X.1 0)), (1, .int v1), (2, .int v2), (3, .int v3), (4, .int v4), (5, .int v5)] []) (ho : Ro X (some (.int rz), wz)) {w : Wd} {v1 : Int32} {v2 : Int32} {v3 : Int32} {v4 : Int32} {v5 : Int32} {s0 : Int32} (h : b_X7_oneMore_131 kb64 w v1 v2 v3 v4 v5 s0 = some (rz, wz)) : Wk X w 131 [(0, .ref (g_ad X.1 0)), (1, .int v1), (2, .int v2), (3, .int v3), (4, .int v4), (5, .int v5)] [.int s0] := by
  unfold b_X7_oneMore_131 at h
  refine k_istore (lv' := [(7, .int s0), (0, .ref (g_ad X.1 0)), (1, .int v1), (2, .int v2), (3, .int v3), (4, .int v4), (5, .int v5)]) O dX7_oneMore_131 (by decide) rfl ?_
  refine k_iload O dX7_oneMore_133 0 rfl ?_
  refine k_iload O dX7_oneMore_135 5 rfl ?_
  refine k_icmp_le O 147 dX7_oneMore_137 (by decide) (fun c1 => ?_) (fun c1 => ?_)
  · have h := ite_t c1 h
    exact k_sub [1, 2, 3, 4, 5, 6] rfl (w_X7_oneMore_147 O hN hz hk64 ho h)
  · have h := ite_f c1 h
    refine k_iload O dX7_oneMore_140 0 rfl ?_
    refine k_istore (lv' := [(4, .int s0), (7, .int s0), (0, .ref (g_ad X.1 0)), (1, .int v1), (2, .int v2), (3, .int v3), (5, .int v5)]) O dX7_oneMore_142 (by decide) rfl ?_
    refine k_iload O dX7_oneMore_144 6 rfl ?_
    refine k_istore_n (lv' := [(3, .int v5), (4, .int s0), (7, .int s0), (0, .ref (g_ad X.1 0)), (1, .int v1), (2, .int v2), (5, .int v5)]) O dX7_oneMore_146 rfl (by decide) rfl ?_
    exact k_sub [3, 4, 5, 0, 1, 6] rfl (w_X7_oneMore_147 O hN hz hk64 ho h)
set_option maxHeartbeats 4000000 in
set_option maxRecDepth 100000 in
theorem w_X7_oneMore_105 {X : Cx} {rz : Int32} {wz : Wd} (O : Ok X cX7_oneMore RX7 ((some .int)) wsX7_oneMore (17) (454) 8) (hN : 105 ≤ g_N X.1) (hz : g_mz X.1 = none) {kb64 : Wd → Int32 → Int32 → Int32 → Int32 → Int32 → Option (Int32 × Wd)} (hk64 : ∀ {w : Wd} {v1 : Int32} {v2 : Int32} {v3 : Int32} {v4 : Int32} {v5 : Int32}, kb64 w v1 v2 v3 v4 v5 = some (rz, wz) → Wk X w 64 [(0, .ref (g_ad X.1 0)), (1, .int v1), (2, .int v2), (3, .int v3), (4, .int v4), (5, .int v5)] []) (ho : Ro X (some (.int rz), wz)) {w : Wd} {v1 : Int32} {v2 : Int32} {v3 : Int32} {v4 : Int32} {v5 : Int32} {s0 : Int32} (h : b_X7_oneMore_105 kb64 w v1 v2 v3 v4 v5 s0 = some (rz, wz)) : Wk X w 105 [(0, .ref (g_ad X.1 0)), (1, .int v1), (2, .int v2), (3, .int v3), (4, .int v4), (5, .int v5)] [.int s0] := by
  unfold b_X7_oneMore_105 at h
  refine k_istore (lv' := [(6, .int s0), (0, .ref (g_ad X.1 0)), (1, .int v1), (2, .int v2), (3, .int v3), (4, .int v4), (5, .int v5)]) O dX7_oneMore_105 (by decide) rfl ?_
  refine k_iload O dX7_oneMore_107 0 rfl ?_
  refine k_if_eq O 130 dX7_oneMore_109 (by decide) (fun c1 => ?_) (fun c1 => ?_)
  · have h := ite_t c1 h
    refine k_iconst O dX7_oneMore_130 (v := -1) (by decide) ?_
    exact k_sub [1, 2, 3, 4, 5, 6] rfl (w_X7_oneMore_131 O hN hz hk64 ho h)
  · have h := ite_f c1 h
    refine k_aload_n O dX7_oneMore_112 1 rfl ?_
    refine k_get O (v := .ref (g_ad X.1 94)) (k := 0) (by omega) (E_0 hz) rfl 8 (by decide) (fun _ h9 => List.mem_cons_of_mem _ (List.mem_append_left _ (List.mem_append_left _ (List.mem_append_left _ (List.mem_append_right _ h9))))) (List.mem_of_getElem? (i := 5) rfl) rfl dX7_oneMore_113 ?_
    refine k_aload_n O dX7_oneMore_116 1 rfl ?_
    refine k_get O (v := .ref (g_ad X.1 18)) (k := 0) (by omega) (E_0 hz) rfl 4 (by decide) (fun _ h9 => List.mem_cons_of_mem _ (List.mem_append_left _ (List.mem_append_left _ (List.mem_append_left _ (List.mem_append_right _ h9))))) (List.mem_of_getElem? (i := 2) rfl) rfl dX7_oneMore_117 ?_
    refine k_iload_n O dX7_oneMore_120 2 rfl ?_
    refine k_iload_n O dX7_oneMore_121 3 rfl ?_
    refine k_iload O dX7_oneMore_122 6 rfl ?_
    obtain ⟨r4, w3, hc2, h⟩ := bd_some h
    refine k_callVi O (As := [.ref (g_ad X.1 18), .int v1, .int v2, .int v5]) (rest := []) (k := 94) (c_X4_chance (x_l X) X.1 (by decide) (by omega) hN hc2) gX7_oneMore_X4_chance rfl hd_X4_chance (by decide) (by omega) E_94 rfl rfl rfl rfl rfl (Nat.le_of_ble_eq_true rfl) dX7_oneMore_124 ?_
    refine k_goto O 131 dX7_oneMore_127 (by decide) ?_
    exact k_sub [1, 2, 3, 4, 5, 6] rfl (w_X7_oneMore_131 O hN hz hk64 ho h)
set_option maxHeartbeats 4000000 in
set_option maxRecDepth 100000 in
theorem w_X7_oneMore_104 {X : Cx} {rz : Int32} {wz : Wd} (O : Ok X cX7_oneMore RX7 ((some .int)) wsX7_oneMore (17) (454) 8) (hN : 105 ≤ g_N X.1) (hz : g_mz X.1 = none) {kb64 : Wd → Int32 → Int32 → Int32 → Int32 → Int32 → Option (Int32 × Wd)} (hk64 : ∀ {w : Wd} {v1 : Int32} {v2 : Int32} {v3 : Int32} {v4 : Int32} {v5 : Int32}, kb64 w v1 v2 v3 v4 v5 = some (rz, wz) → Wk X w 64 [(0, .ref (g_ad X.1 0)), (1, .int v1), (2, .int v2), (3, .int v3), (4, .int v4), (5, .int v5)] []) (ho : Ro X (some (.int rz), wz)) {w : Wd} {v1 : Int32} {v2 : Int32} {v3 : Int32} {v4 : Int32} {v5 : Int32} (h : b_X7_oneMore_104 kb64 w v1 v2 v3 v4 v5 = some (rz, wz)) : Wk X w 104 [(0, .ref (g_ad X.1 0)), (1, .int v1), (2, .int v2), (3, .int v3), (4, .int v4), (5, .int v5)] [] := by
  unfold b_X7_oneMore_104 at h
  refine k_iconst O dX7_oneMore_104 (v := 0) (by decide) ?_
  exact k_sub [0, 1, 2, 3, 4, 5] rfl (w_X7_oneMore_105 O hN hz hk64 ho h)
set_option maxHeartbeats 4000000 in
set_option maxRecDepth 100000 in
theorem w_X7_oneMore_64 {X : Cx} {rz : Int32} {wz : Wd} (O : Ok X cX7_oneMore RX7 ((some .int)) wsX7_oneMore (17) (454) 8) (hN : 105 ≤ g_N X.1) (hz : g_mz X.1 = none) (ho : Ro X (some (.int rz), wz)) (n : Nat) : ∀ {w : Wd} {v1 : Int32} {v2 : Int32} {v3 : Int32} {v4 : Int32} {v5 : Int32}, b_X7_oneMore_64 n w v1 v2 v3 v4 v5 = some (rz, wz) → Wk X w 64 [(0, .ref (g_ad X.1 0)), (1, .int v1), (2, .int v2), (3, .int v3), (4, .int v4), (5, .int v5)] [] := by
  induction n with
  | zero => intro w v1 v2 v3 v4 v5 h; exact nomatch (show (none : Option (Int32 × Wd)) = some _ from h)
  | succ n ih =>
    intro w v1 v2 v3 v4 v5 h
    rw [b_X7_oneMore_64] at h
    refine k_iload O dX7_oneMore_64 5 rfl ?_
    refine k_bipush O dX7_oneMore_66 (v := 12) (by decide) ?_
    refine k_icmp_ge O 153 dX7_oneMore_68 (by decide) (fun c1 => ?_) (fun c1 => ?_)
    · have h := ite_t c1 h
      refine k_iload_n O dX7_oneMore_153 3 rfl ?_
      exact k_iret O dX7_oneMore_154 (rt_int h ho)
    · have h := ite_f c1 h
      refine k_aload_n O dX7_oneMore_71 0 rfl ?_
      refine k_get O (v := .ref (g_ad X.1 11)) (k := 0) (by omega) (E_0 hz) rfl 3 (by decide) (fun _ h9 => List.mem_cons_of_mem _ (List.mem_append_left _ (List.mem_append_left _ (List.mem_append_left _ (List.mem_append_right _ h9))))) (List.mem_of_getElem? (i := 1) rfl) rfl dX7_oneMore_72 ?_
      refine k_get O (v := .int (w.1 11 2)) (k := 11) (by omega) (E_pl (by decide)) rfl 2 (by decide) (fun _ h9 => List.mem_cons_of_mem _ (List.mem_append_left _ (List.mem_append_left _ (List.mem_append_right _ h9)))) (List.mem_of_getElem? (i := 4) rfl) rfl dX7_oneMore_75 ?_
      refine k_iload O dX7_oneMore_78 5 rfl ?_
      refine k_ishr O dX7_oneMore_80 ?_
      refine k_iconst O dX7_oneMore_81 (v := 1) (by decide) ?_
      refine k_iand O dX7_oneMore_82 ?_
      refine k_if_ne O 104 dX7_oneMore_83 (by decide) (fun c2 => ?_) (fun c2 => ?_)
      · have h := ite_f c2 h
        exact k_sub [0, 1, 2, 3, 4, 5] rfl (w_X7_oneMore_104 O hN hz (fun {_} {_} {_} {_} {_} {_} h9 => ih h9) ho h)
      · have h := ite_t c2 h
        refine k_aload_n O dX7_oneMore_86 0 rfl ?_
        refine k_get O (v := .ref (g_ad X.1 11)) (k := 0) (by omega) (E_0 hz) rfl 3 (by decide) (fun _ h9 => List.mem_cons_of_mem _ (List.mem_append_left _ (List.mem_append_left _ (List.mem_append_left _ (List.mem_append_right _ h9))))) (List.mem_of_getElem? (i := 1) rfl) rfl dX7_oneMore_87 ?_
        refine k_iload O dX7_oneMore_90 5 rfl ?_
        obtain ⟨r5, w4, hc3, h⟩ := bd_some h
        refine k_callVi O (As := [.int v5]) (rest := []) (k := 11) (c_X1_trapOn (x_l X) X.1 (by decide) (by omega) hc3) gX7_oneMore_X1_trapOn rfl hd_X1_trapOn (by decide) (by omega) (E_pl (by decide)) rfl rfl rfl rfl rfl (Nat.le_of_ble_eq_true rfl) dX7_oneMore_92 ?_
        refine k_bipush O dX7_oneMore_95 (v := -9) (by decide) ?_
        refine k_icmp_ne O 104 dX7_oneMore_97 (by decide) (fun c6 => ?_) (fun c6 => ?_)
        · have h := ite_f c6 h
          exact k_sub [0, 1, 2, 3, 4, 5] rfl (w_X7_oneMore_104 O hN hz (fun {_} {_} {_} {_} {_} {_} h9 => ih h9) ho h)
        · have h := ite_t c6 h
          refine k_iconst O dX7_oneMore_100 (v := 1) (by decide) ?_
          refine k_goto O 105 dX7_oneMore_101 (by decide) ?_
          exact k_sub [0, 1, 2, 3, 4, 5] rfl (w_X7_oneMore_105 O hN hz (fun {_} {_} {_} {_} {_} {_} h9 => ih h9) ho h)
set_option maxHeartbeats 4000000 in
set_option maxRecDepth 100000 in
theorem w_X7_oneMore_0 {X : Cx} {rz : Int32} {wz : Wd} (O : Ok X cX7_oneMore RX7 ((some .int)) wsX7_oneMore (17) (454) 8) (hN : 105 ≤ g_N X.1) (hz : g_mz X.1 = none) (ho : Ro X (some (.int rz), wz)) {w : Wd} {v1 : Int32} {v2 : Int32} (h : b_X7_oneMore_0 w v1 v2 = some (rz, wz)) : Wk X w 0 [(0, .ref (g_ad X.1 0)), (1, .int v1), (2, .int v2)] [] := by
  unfold b_X7_oneMore_0 at h
  refine k_aload_n O dX7_oneMore_0 0 rfl ?_
  refine k_get O (v := .ref (g_ad X.1 11)) (k := 0) (by omega) (E_0 hz) rfl 3 (by decide) (fun _ h9 => List.mem_cons_of_mem _ (List.mem_append_left _ (List.mem_append_left _ (List.mem_append_left _ (List.mem_append_right _ h9))))) (List.mem_of_getElem? (i := 1) rfl) rfl dX7_oneMore_1 ?_
  refine k_iload_n O dX7_oneMore_4 1 rfl ?_
  obtain ⟨r3, w2, hc1, h⟩ := bd_some h
  refine k_callVi O (As := [.int v1]) (rest := []) (k := 11) (c_X1_hasWalker (x_l X) X.1 (by decide) (by omega) hc1) gX7_oneMore_X1_hasWalker rfl hd_X1_hasWalker (by decide) (by omega) (E_pl (by decide)) rfl rfl rfl rfl rfl (Nat.le_of_ble_eq_true rfl) dX7_oneMore_5 ?_
  refine k_if_ne O 13 dX7_oneMore_8 (by decide) (fun c4 => ?_) (fun c4 => ?_)
  · have h := ite_f c4 h
    refine k_iload_n O dX7_oneMore_13 2 rfl ?_
    refine k_iconst O dX7_oneMore_14 (v := 1) (by decide) ?_
    refine k_icmp_lt O 23 dX7_oneMore_15 (by decide) (fun c5 => ?_) (fun c5 => ?_)
    · have h := ite_t c5 h
      refine k_bipush O dX7_oneMore_23 (v := -2) (by decide) ?_
      exact k_iret O dX7_oneMore_25 (rt_int h ho)
    · have h := ite_f c5 h
      refine k_iload_n O dX7_oneMore_18 2 rfl ?_
      refine k_iconst O dX7_oneMore_19 (v := 3) (by decide) ?_
      refine k_icmp_le O 26 dX7_oneMore_20 (by decide) (fun c6 => ?_) (fun c6 => ?_)
      · have h := ite_t c6 h
        refine k_aload_n O dX7_oneMore_26 0 rfl ?_
        refine k_get O (v := .ref (g_ad X.1 18)) (k := 0) (by omega) (E_0 hz) rfl 4 (by decide) (fun _ h9 => List.mem_cons_of_mem _ (List.mem_append_left _ (List.mem_append_left _ (List.mem_append_left _ (List.mem_append_right _ h9))))) (List.mem_of_getElem? (i := 2) rfl) rfl dX7_oneMore_27 ?_
        refine k_iload_n O dX7_oneMore_30 1 rfl ?_
        obtain ⟨r9, w8, hc7, h⟩ := bd_some h
        refine k_callVi O (As := [.int v1]) (rest := []) (k := 18) (c_X3_isFree (x_l X) X.1 (by decide) (by omega) hc7) gX7_oneMore_X3_isFree rfl hd_X3_isFree (by decide) (by omega) (E_sc (by decide)) rfl rfl rfl rfl rfl (Nat.le_of_ble_eq_true rfl) dX7_oneMore_31 ?_
        refine k_if_ne O 40 dX7_oneMore_34 (by decide) (fun c10 => ?_) (fun c10 => ?_)
        · have h := ite_f c10 h
          refine k_aload_n O dX7_oneMore_40 0 rfl ?_
          refine k_get O (v := .ref (g_ad X.1 11)) (k := 0) (by omega) (E_0 hz) rfl 3 (by decide) (fun _ h9 => List.mem_cons_of_mem _ (List.mem_append_left _ (List.mem_append_left _ (List.mem_append_left _ (List.mem_append_right _ h9))))) (List.mem_of_getElem? (i := 1) rfl) rfl dX7_oneMore_41 ?_
          refine k_get O (v := .int (w8.1 11 0)) (k := 11) (by omega) (E_pl (by decide)) rfl 0 (by decide) (fun _ h9 => List.mem_cons_of_mem _ (List.mem_append_left _ (List.mem_append_left _ (List.mem_append_right _ h9)))) (List.mem_of_getElem? (i := 3) rfl) rfl dX7_oneMore_44 ?_
          refine k_bipush O dX7_oneMore_47 (v := 6) (by decide) ?_
          refine k_icmp_lt O 55 dX7_oneMore_49 (by decide) (fun c11 => ?_) (fun c11 => ?_)
          · have h := ite_t c11 h
            refine k_bipush O dX7_oneMore_55 (v := -9) (by decide) ?_
            refine k_istore_n (lv' := [(3, .int ((-9 : Int32))), (0, .ref (g_ad X.1 0)), (1, .int v1), (2, .int v2)]) O dX7_oneMore_57 rfl (by decide) rfl ?_
            refine k_iconst O dX7_oneMore_58 (v := -1) (by decide) ?_
            refine k_istore (lv' := [(4, .int ((-1 : Int32))), (3, .int ((-9 : Int32))), (0, .ref (g_ad X.1 0)), (1, .int v1), (2, .int v2)]) O dX7_oneMore_59 (by decide) rfl ?_
            refine k_iconst O dX7_oneMore_61 (v := 0) (by decide) ?_
            refine k_istore (lv' := [(5, .int ((0 : Int32))), (4, .int ((-1 : Int32))), (3, .int ((-9 : Int32))), (0, .ref (g_ad X.1 0)), (1, .int v1), (2, .int v2)]) O dX7_oneMore_62 (by decide) rfl ?_
            exact k_sub [3, 4, 5, 2, 1, 0] rfl (w_X7_oneMore_64 O hN hz ho LF h)
          · have h := ite_f c11 h
            refine k_bipush O dX7_oneMore_52 (v := -4) (by decide) ?_
            exact k_iret O dX7_oneMore_54 (rt_int h ho)
        · have h := ite_t c10 h
          refine k_bipush O dX7_oneMore_37 (v := -3) (by decide) ?_
          exact k_iret O dX7_oneMore_39 (rt_int h ho)
      · have h := ite_f c6 h
        refine k_bipush O dX7_oneMore_23 (v := -2) (by decide) ?_
        exact k_iret O dX7_oneMore_25 (rt_int h ho)
  · have h := ite_t c4 h
    refine k_iconst O dX7_oneMore_11 (v := -1) (by decide) ?_
    exact k_iret O dX7_oneMore_12 (rt_int h ho)
theorem c_X7_oneMore (l : Launch) (G : Gl) (hN : 105 ≤ g_N G) (hz : g_mz G = none) {w wz : Wd} {v1 : Int32} {v2 : Int32} {rz : Int32} (h : f_X7_oneMore w v1 v2 = some (rz, wz)) : Ct l yX7_oneMore wsX7_oneMore (17) (454) G [.ref (g_ad G 0), .int v1, .int v2] w (some (.int rz), wz) := by
  refine Ct.start (by decide) rfl rfl rfl (Nat.le_of_ble_eq_true rfl) (fun X hG ho hl O => ?_)
  subst hG
  subst hl
  exact k_sub [0, 1, 2] rfl (w_X7_oneMore_0 O hN hz ho h)
def b_X7_seed_0 (w : Wd) (v1 : Int64) : Option (Int64 × Wd) := nm (w.2 0) (fun x1 => nm (upl w 0 v1) (fun w2 => some (x1, w2)))
def f_X7_seed (w : Wd) (v1 : Int64) : Option (Int64 × Wd) := b_X7_seed_0 w v1
set_option maxHeartbeats 4000000 in
set_option maxRecDepth 100000 in
theorem w_X7_seed_0 {X : Cx} {rz : Int64} {wz : Wd} (O : Ok X cX7_seed RX7 ((some .long)) wsX7_seed (0) (0) 5) (hN : 105 ≤ g_N X.1) (hz : g_mz X.1 = none) (ho : Ro X (some (.long rz), wz)) {w : Wd} {v1 : Int64} (h : b_X7_seed_0 w v1 = some (rz, wz)) : Wk X w 0 [(0, .ref (g_ad X.1 0)), (1, .long v1)] [] := by
  unfold b_X7_seed_0 at h
  refine k_aload_n O dX7_seed_0 0 rfl ?_
  refine k_get O (v := .long (w.2 0)) (k := 0) (by omega) (E_0 hz) rfl 11 (by decide) (fun _ h9 => List.mem_cons_of_mem _ (List.mem_append_right _ h9)) (List.mem_of_getElem? (i := 1) rfl) rfl dX7_seed_1 ?_
  refine k_topl (fun x1 ex1 => ?_)
  have h := nm_use h x1 ex1
  refine k_lstore_n (lv' := [(3, .long x1), (0, .ref (g_ad X.1 0)), (1, .long v1)]) O dX7_seed_4 rfl (by decide) rfl ?_
  refine k_aload_n O dX7_seed_5 1 rfl ?_
  refine k_lload_n O dX7_seed_6 2 rfl ?_
  refine k_putl O (k := 0) tyX7 tyX7_ok nmX7 (by omega) (E_0 hz) rfl 11 (by decide) (fun _ h9 => List.mem_cons_of_mem _ (List.mem_append_right _ h9)) (List.mem_of_getElem? (i := 1) rfl) rfl rfl rfl (Nat.le_of_ble_eq_true rfl) ((E_0 hz).trans rfl) dX7_seed_7 ?_
  refine k_nw (fun w2 ew2 => ?_)
  have h := nm_use h w2 ew2
  refine k_lload_n O dX7_seed_10 0 rfl ?_
  exact k_lret O dX7_seed_11 (rt_long h ho)
theorem c_X7_seed (l : Launch) (G : Gl) (hN : 105 ≤ g_N G) (hz : g_mz G = none) {w wz : Wd} {v1 : Int64} {rz : Int64} (h : f_X7_seed w v1 = some (rz, wz)) : Ct l yX7_seed wsX7_seed (0) (0) G [.ref (g_ad G 0), .long v1] w (some (.long rz), wz) := by
  refine Ct.start (by decide) rfl rfl rfl (Nat.le_of_ble_eq_true rfl) (fun X hG ho hl O => ?_)
  subst hG
  subst hl
  exact k_sub [0, 1] rfl (w_X7_seed_0 O hN hz ho h)
def b_X7_bitAt_27 (kb4 : Wd → Int32 → Int32 → Int32 → Option (Int32 × Wd)) (w : Wd) (v0 : Int32) (v2 : Int32) (v3 : Int32) : Option (Int32 × Wd) := nm (v3 + (1 : Int32)) (fun x1 => kb4 w v0 v2 x1)
def b_X7_bitAt_4 : Nat → Wd → Int32 → Int32 → Int32 → Option (Int32 × Wd)
  | 0, _, _, _, _ => none
  | n + 1, w, v0, v2, v3 => if ((12 : Int32)) ≤ v3 then (some ((-9 : Int32), w)) else (if ((v0 >>> (v3 &&& 31)) &&& ((1 : Int32))) = 0 then (b_X7_bitAt_27 (b_X7_bitAt_4 n) w v0 v2 v3) else (if v2 = 0 then (some (v3, w)) else (nm (v2 + (-1 : Int32)) (fun x4 => b_X7_bitAt_27 (b_X7_bitAt_4 n) w v0 x4 v3))))
def b_X7_bitAt_0 (w : Wd) (v0 : Int32) (v1 : Int32) : Option (Int32 × Wd) := b_X7_bitAt_4 LF w v0 v1 ((0 : Int32))
def f_X7_bitAt (w : Wd) (v0 : Int32) (v1 : Int32) : Option (Int32 × Wd) := b_X7_bitAt_0 w v0 v1
set_option maxHeartbeats 4000000 in
set_option maxRecDepth 100000 in
theorem w_X7_bitAt_27 {X : Cx} {rz : Int32} {wz : Wd} (O : Ok X cX7_bitAt RX7 ((some .int)) wsX7_bitAt (0) (0) 4) {kb4 : Wd → Int32 → Int32 → Int32 → Option (Int32 × Wd)} (hk4 : ∀ {w : Wd} {v0 : Int32} {v2 : Int32} {v3 : Int32}, kb4 w v0 v2 v3 = some (rz, wz) → Wk X w 4 [(0, .int v0), (2, .int v2), (3, .int v3)] []) (ho : Ro X (some (.int rz), wz)) {w : Wd} {v0 : Int32} {v2 : Int32} {v3 : Int32} (h : b_X7_bitAt_27 kb4 w v0 v2 v3 = some (rz, wz)) : Wk X w 27 [(0, .int v0), (2, .int v2), (3, .int v3)] [] := by
  unfold b_X7_bitAt_27 at h
  obtain ⟨x1, ex1⟩ : ∃ z : Int32, z = v3 + (1 : Int32) := ⟨_, rfl⟩
  have h := nm_use h x1 ex1
  refine k_iinc (lv' := [(3, .int x1), (0, .int v0), (2, .int v2)]) O dX7_bitAt_27 2 rfl (by rw [ex1]; rfl) (by decide) rfl ?_
  refine k_goto O 4 dX7_bitAt_30 (by decide) ?_
  exact k_sub [1, 2, 0] rfl (hk4 h)
set_option maxHeartbeats 4000000 in
set_option maxRecDepth 100000 in
theorem w_X7_bitAt_4 {X : Cx} {rz : Int32} {wz : Wd} (O : Ok X cX7_bitAt RX7 ((some .int)) wsX7_bitAt (0) (0) 4) (ho : Ro X (some (.int rz), wz)) (n : Nat) : ∀ {w : Wd} {v0 : Int32} {v2 : Int32} {v3 : Int32}, b_X7_bitAt_4 n w v0 v2 v3 = some (rz, wz) → Wk X w 4 [(0, .int v0), (2, .int v2), (3, .int v3)] [] := by
  induction n with
  | zero => intro w v0 v2 v3 h; exact nomatch (show (none : Option (Int32 × Wd)) = some _ from h)
  | succ n ih =>
    intro w v0 v2 v3 h
    rw [b_X7_bitAt_4] at h
    refine k_iload_n O dX7_bitAt_4 2 rfl ?_
    refine k_bipush O dX7_bitAt_5 (v := 12) (by decide) ?_
    refine k_icmp_ge O 33 dX7_bitAt_7 (by decide) (fun c1 => ?_) (fun c1 => ?_)
    · have h := ite_t c1 h
      refine k_bipush O dX7_bitAt_33 (v := -9) (by decide) ?_
      exact k_iret O dX7_bitAt_35 (rt_int h ho)
    · have h := ite_f c1 h
      refine k_iload_n O dX7_bitAt_10 0 rfl ?_
      refine k_iload_n O dX7_bitAt_11 2 rfl ?_
      refine k_ishr O dX7_bitAt_12 ?_
      refine k_iconst O dX7_bitAt_13 (v := 1) (by decide) ?_
      refine k_iand O dX7_bitAt_14 ?_
      refine k_if_eq O 27 dX7_bitAt_15 (by decide) (fun c2 => ?_) (fun c2 => ?_)
      · have h := ite_t c2 h
        exact k_sub [0, 1, 2] rfl (w_X7_bitAt_27 O (fun {_} {_} {_} {_} h9 => ih h9) ho h)
      · have h := ite_f c2 h
        refine k_iload_n O dX7_bitAt_18 1 rfl ?_
        refine k_if_ne O 24 dX7_bitAt_19 (by decide) (fun c3 => ?_) (fun c3 => ?_)
        · have h := ite_f c3 h
          obtain ⟨x4, ex4⟩ : ∃ z : Int32, z = v2 + (-1 : Int32) := ⟨_, rfl⟩
          have h := nm_use h x4 ex4
          refine k_iinc (lv' := [(2, .int x4), (0, .int v0), (3, .int v3)]) O dX7_bitAt_24 1 rfl (by rw [ex4]; rfl) (by decide) rfl ?_
          exact k_sub [1, 0, 2] rfl (w_X7_bitAt_27 O (fun {_} {_} {_} {_} h9 => ih h9) ho h)
        · have h := ite_t c3 h
          refine k_iload_n O dX7_bitAt_22 2 rfl ?_
          exact k_iret O dX7_bitAt_23 (rt_int h ho)
set_option maxHeartbeats 4000000 in
set_option maxRecDepth 100000 in
theorem w_X7_bitAt_0 {X : Cx} {rz : Int32} {wz : Wd} (O : Ok X cX7_bitAt RX7 ((some .int)) wsX7_bitAt (0) (0) 4) (ho : Ro X (some (.int rz), wz)) {w : Wd} {v0 : Int32} {v1 : Int32} (h : b_X7_bitAt_0 w v0 v1 = some (rz, wz)) : Wk X w 0 [(0, .int v0), (1, .int v1)] [] := by
  unfold b_X7_bitAt_0 at h
  refine k_iload_n O dX7_bitAt_0 1 rfl ?_
  refine k_istore_n (lv' := [(2, .int v1), (0, .int v0), (1, .int v1)]) O dX7_bitAt_1 rfl (by decide) rfl ?_
  refine k_iconst O dX7_bitAt_2 (v := 0) (by decide) ?_
  refine k_istore_n (lv' := [(3, .int ((0 : Int32))), (2, .int v1), (0, .int v0), (1, .int v1)]) O dX7_bitAt_3 rfl (by decide) rfl ?_
  exact k_sub [2, 1, 0] rfl (w_X7_bitAt_4 O ho LF h)
theorem c_X7_bitAt (l : Launch) (G : Gl) {w wz : Wd} {v0 : Int32} {v1 : Int32} {rz : Int32} (h : f_X7_bitAt w v0 v1 = some (rz, wz)) : Ct l yX7_bitAt wsX7_bitAt (0) (0) G [.int v0, .int v1] w (some (.int rz), wz) := by
  refine Ct.start (by decide) rfl rfl rfl (Nat.le_of_ble_eq_true rfl) (fun X hG ho hl O => ?_)
  subst hG
  subst hl
  exact k_sub [0, 1] rfl (w_X7_bitAt_0 O ho h)
def b_X7_drawStep_0 (w : Wd) (v1 : Int32) : Option (Wd) := bd (f_X1_hasWalker 11 w v1) (fun r3 w2 => if r3 = 0 then (some w2) else (gd (inb v1 4) (bd (f_X1_waysFrom 11 w2 (w2.1 24 v1.toNatClampNeg)) (fun r8 w7 => bd (f_J6_bitCount_0f7a4 w7 r8) (fun r11 w10 => if r11 = 0 then (some w10) else (nm (upl w10 0 (((w10.2 0) * ((6364136223846793005 : Int64))) + ((1442695040888963407 : Int64)))) (fun w13 => gd (nz r11) (nm (((((((w13.2 0)).toUInt64 >>> ((((33 : Int32))).toInt64.toUInt64 &&& Int64.toUInt64 63)).toInt64)).toInt32) - ((((((w13.2 0)).toUInt64 >>> ((((33 : Int32))).toInt64.toUInt64 &&& Int64.toUInt64 63)).toInt64)).toInt32) / r11 * r11) (fun x15 => bd (f_X7_bitAt w13 r8 x15) (fun r18 w17 => bd (f_X3_walk 22 w17 v1 r18) (fun r21 w20 => some w20)))))))))))
def f_X7_drawStep (w : Wd) (v1 : Int32) : Option (Wd) := b_X7_drawStep_0 w v1
set_option maxHeartbeats 4000000 in
set_option maxRecDepth 100000 in
theorem w_X7_drawStep_0 {X : Cx} {wz : Wd} (O : Ok X cX7_drawStep RX7 none wsX7_drawStep (4) (92) 5) (hN : 105 ≤ g_N X.1) (hz : g_mz X.1 = none) (ho : Ro X (none, wz)) {w : Wd} {v1 : Int32} (h : b_X7_drawStep_0 w v1 = some wz) : Wk X w 0 [(0, .ref (g_ad X.1 0)), (1, .int v1)] [] := by
  unfold b_X7_drawStep_0 at h
  refine k_aload_n O dX7_drawStep_0 0 rfl ?_
  refine k_get O (v := .ref (g_ad X.1 11)) (k := 0) (by omega) (E_0 hz) rfl 3 (by decide) (fun _ h9 => List.mem_cons_of_mem _ (List.mem_append_left _ (List.mem_append_left _ (List.mem_append_right _ h9)))) (List.mem_of_getElem? (i := 1) rfl) rfl dX7_drawStep_1 ?_
  refine k_iload_n O dX7_drawStep_4 1 rfl ?_
  obtain ⟨r3, w2, hc1, h⟩ := bd_some h
  refine k_callVi O (As := [.int v1]) (rest := []) (k := 11) (c_X1_hasWalker (x_l X) X.1 (by decide) (by omega) hc1) gX7_drawStep_X1_hasWalker rfl hd_X1_hasWalker (by decide) (by omega) (E_pl (by decide)) rfl rfl rfl rfl rfl (Nat.le_of_ble_eq_true rfl) dX7_drawStep_5 ?_
  refine k_if_ne O 12 dX7_drawStep_8 (by decide) (fun c4 => ?_) (fun c4 => ?_)
  · have h := ite_f c4 h
    refine k_aload_n O dX7_drawStep_12 0 rfl ?_
    refine k_get O (v := .ref (g_ad X.1 11)) (k := 0) (by omega) (E_0 hz) rfl 3 (by decide) (fun _ h9 => List.mem_cons_of_mem _ (List.mem_append_left _ (List.mem_append_left _ (List.mem_append_right _ h9)))) (List.mem_of_getElem? (i := 1) rfl) rfl dX7_drawStep_13 ?_
    refine k_aload_n O dX7_drawStep_16 0 rfl ?_
    refine k_get O (v := .ref (g_ad X.1 22)) (k := 0) (by omega) (E_0 hz) rfl 5 (by decide) (fun _ h9 => List.mem_cons_of_mem _ (List.mem_append_left _ (List.mem_append_left _ (List.mem_append_right _ h9)))) (List.mem_of_getElem? (i := 2) rfl) rfl dX7_drawStep_17 ?_
    refine k_get O (v := .ref (g_ad X.1 24)) (k := 22) (by omega) (E_sc (by decide)) rfl 5 (by decide) (fun _ h9 => List.mem_cons_of_mem _ (List.mem_append_left _ (List.mem_append_right _ h9))) (List.mem_of_getElem? (i := 3) rfl) rfl dX7_drawStep_20 ?_
    refine k_iload_n O dX7_drawStep_23 1 rfl ?_
    obtain ⟨g5, h⟩ := gd_some h
    refine k_iald O (k := 24) (by omega) (E_sc2 (by decide)) g5 dX7_drawStep_24 ?_
    obtain ⟨r8, w7, hc6, h⟩ := bd_some h
    refine k_callVi O (As := [.int (w2.1 24 v1.toNatClampNeg)]) (rest := []) (k := 11) (c_X1_waysFrom (x_l X) X.1 (by decide) (by omega) hc6) gX7_drawStep_X1_waysFrom rfl hd_X1_waysFrom (by decide) (by omega) (E_pl (by decide)) rfl rfl rfl rfl rfl (Nat.le_of_ble_eq_true rfl) dX7_drawStep_25 ?_
    refine k_istore_n (lv' := [(2, .int r8), (0, .ref (g_ad X.1 0)), (1, .int v1)]) O dX7_drawStep_28 rfl (by decide) rfl ?_
    refine k_iload_n O dX7_drawStep_29 0 rfl ?_
    obtain ⟨r11, w10, hc9, h⟩ := bd_some h
    refine k_callSi O (As := [.int r8]) (rest := []) (c_J6_bitCount_0f7a4 (x_l X) X.1 hc9) gX7_drawStep_J6_bitCount_0f7a4 rfl hd_J6_bitCount_0f7a4 (by decide) rfl rfl (Nat.le_of_ble_eq_true rfl) dX7_drawStep_30 ?_
    refine k_istore_n (lv' := [(3, .int r11), (2, .int r8), (0, .ref (g_ad X.1 0)), (1, .int v1)]) O dX7_drawStep_33 rfl (by decide) rfl ?_
    refine k_iload_n O dX7_drawStep_34 0 rfl ?_
    refine k_if_ne O 39 dX7_drawStep_35 (by decide) (fun c12 => ?_) (fun c12 => ?_)
    · have h := ite_f c12 h
      refine k_aload_n O dX7_drawStep_39 2 rfl ?_
      refine k_aload_n O dX7_drawStep_40 2 rfl ?_
      refine k_get O (v := .long (w10.2 0)) (k := 0) (by omega) (E_0 hz) rfl 11 (by decide) (fun _ h9 => List.mem_cons_of_mem _ (List.mem_append_left _ (List.mem_append_left _ (List.mem_append_right _ h9)))) (List.mem_of_getElem? (i := 4) rfl) rfl dX7_drawStep_41 ?_
      refine k_ldc2 O dX7_drawStep_44 (List.mem_of_getElem? (i := 5) rfl) ?_
      refine k_lmul O dX7_drawStep_47 ?_
      refine k_ldc2 O dX7_drawStep_48 (List.mem_of_getElem? (i := 6) rfl) ?_
      refine k_ladd O dX7_drawStep_51 ?_
      refine k_putl O (k := 0) tyX7 tyX7_ok nmX7 (by omega) (E_0 hz) rfl 11 (by decide) (fun _ h9 => List.mem_cons_of_mem _ (List.mem_append_left _ (List.mem_append_left _ (List.mem_append_right _ h9)))) (List.mem_of_getElem? (i := 4) rfl) rfl rfl rfl (Nat.le_of_ble_eq_true rfl) ((E_0 hz).trans rfl) dX7_drawStep_52 ?_
      refine k_nw (fun w13 ew13 => ?_)
      have h := nm_use h w13 ew13
      refine k_aload_n O dX7_drawStep_55 2 rfl ?_
      refine k_get O (v := .long (w13.2 0)) (k := 0) (by omega) (E_0 hz) rfl 11 (by decide) (fun _ h9 => List.mem_cons_of_mem _ (List.mem_append_left _ (List.mem_append_left _ (List.mem_append_right _ h9)))) (List.mem_of_getElem? (i := 4) rfl) rfl dX7_drawStep_56 ?_
      refine k_bipush O dX7_drawStep_59 (v := 33) (by decide) ?_
      refine k_lushr O dX7_drawStep_61 ?_
      refine k_l2i O dX7_drawStep_62 ?_
      refine k_iload_n O dX7_drawStep_63 0 rfl ?_
      obtain ⟨g14, h⟩ := gd_some h
      refine k_irem O dX7_drawStep_64 (nz_ne g14) ?_
      refine k_topi (fun x15 ex15 => ?_)
      have h := nm_use h x15 ex15
      refine k_istore (lv' := [(4, .int x15), (3, .int r11), (2, .int r8), (0, .ref (g_ad X.1 0)), (1, .int v1)]) O dX7_drawStep_65 (by decide) rfl ?_
      refine k_aload_n O dX7_drawStep_67 3 rfl ?_
      refine k_get O (v := .ref (g_ad X.1 22)) (k := 0) (by omega) (E_0 hz) rfl 5 (by decide) (fun _ h9 => List.mem_cons_of_mem _ (List.mem_append_left _ (List.mem_append_left _ (List.mem_append_right _ h9)))) (List.mem_of_getElem? (i := 2) rfl) rfl dX7_drawStep_68 ?_
      refine k_iload_n O dX7_drawStep_71 4 rfl ?_
      refine k_iload_n O dX7_drawStep_72 2 rfl ?_
      refine k_iload O dX7_drawStep_73 0 rfl ?_
      obtain ⟨r18, w17, hc16, h⟩ := bd_some h
      refine k_callSi O (As := [.int r8, .int x15]) (rest := [.int v1, .ref (g_ad X.1 22)]) (c_X7_bitAt (x_l X) X.1 hc16) gX7_drawStep_X7_bitAt rfl hd_X7_bitAt (by decide) rfl rfl (Nat.le_of_ble_eq_true rfl) dX7_drawStep_75 ?_
      obtain ⟨r21, w20, hc19, h⟩ := bd_some h
      refine k_callVi O (As := [.int v1, .int r18]) (rest := []) (k := 22) (c_X3_walk (x_l X) X.1 (by decide) (by omega) hc19) gX7_drawStep_X3_walk rfl hd_X3_walk (by decide) (by omega) (E_sc (by decide)) rfl rfl rfl rfl rfl (Nat.le_of_ble_eq_true rfl) dX7_drawStep_78 ?_
      refine k_pop O dX7_drawStep_81 rfl ?_
      exact k_vret O dX7_drawStep_82 (rt_void h ho)
    · have h := ite_t c12 h
      exact k_vret O dX7_drawStep_38 (rt_void h ho)
  · have h := ite_t c4 h
    exact k_vret O dX7_drawStep_11 (rt_void h ho)
theorem c_X7_drawStep (l : Launch) (G : Gl) (hN : 105 ≤ g_N G) (hz : g_mz G = none) {w wz : Wd} {v1 : Int32} (h : f_X7_drawStep w v1 = some wz) : Ct l yX7_drawStep wsX7_drawStep (4) (92) G [.ref (g_ad G 0), .int v1] w (none, wz) := by
  refine Ct.start (by decide) rfl rfl rfl (Nat.le_of_ble_eq_true rfl) (fun X hG ho hl O => ?_)
  subst hG
  subst hl
  exact k_sub [0, 1] rfl (w_X7_drawStep_0 O hN hz ho h)
def b_X7_night_66 (kb27 : Wd → Int32 → Int32 → Option (Int32 × Wd)) (kb34 : Wd → Int32 → Int32 → Int32 → Option (Int32 × Wd)) (w : Wd) (v1 : Int32) (v2 : Int32) (v3 : Int32) : Option (Int32 × Wd) := nm (v3 + (1 : Int32)) (fun x1 => kb34 w v1 v2 x1)
def b_X7_night_34 (kb27 : Wd → Int32 → Int32 → Option (Int32 × Wd)) : Nat → Wd → Int32 → Int32 → Int32 → Option (Int32 × Wd)
  | 0, _, _, _, _ => none
  | n + 1, w, v1, v2, v3 => if ((4 : Int32)) ≤ v3 then (nm (v2 + (1 : Int32)) (fun x2 => kb27 w v1 x2)) else (bd (f_X1_hasWalker 11 w v3) (fun r5 w4 => if r5 = 0 then (b_X7_night_66 kb27 (b_X7_night_34 kb27 n) w4 v1 v2 v3) else (bd (f_X3_isFree 22 w4 v3) (fun r9 w8 => if r9 = 0 then (b_X7_night_66 kb27 (b_X7_night_34 kb27 n) w8 v1 v2 v3) else (bv (f_X7_drawStep w8 v3) (fun w12 => b_X7_night_66 kb27 (b_X7_night_34 kb27 n) w12 v1 v2 v3))))))
def b_X7_night_27 : Nat → Wd → Int32 → Int32 → Option (Int32 × Wd)
  | 0, _, _, _ => none
  | n + 1, w, v1, v2 => if v1 ≤ v2 then (bd (f_X3_caught 22 w) (fun r4 w3 => some (r4, w3))) else (b_X7_night_34 (b_X7_night_27 n) LF w v1 v2 ((0 : Int32)))
def b_X7_night_0 (w : Wd) (v1 : Int32) : Option (Int32 × Wd) := if v1 < ((1 : Int32)) then (some ((-2 : Int32), w)) else (if v1 ≤ ((40 : Int32)) then (bv (f_X3_become 22 18 w) (fun w4 => b_X7_night_27 LF w4 v1 ((0 : Int32)))) else (some ((-2 : Int32), w)))
def f_X7_night (w : Wd) (v1 : Int32) : Option (Int32 × Wd) := b_X7_night_0 w v1
set_option maxHeartbeats 4000000 in
set_option maxRecDepth 100000 in
theorem w_X7_night_66 {X : Cx} {rz : Int32} {wz : Wd} (O : Ok X cX7_night RX7 ((some .int)) wsX7_night (5) (116) 4) (hN : 105 ≤ g_N X.1) (hz : g_mz X.1 = none) {kb27 : Wd → Int32 → Int32 → Option (Int32 × Wd)} (hk27 : ∀ {w : Wd} {v1 : Int32} {v2 : Int32}, kb27 w v1 v2 = some (rz, wz) → Wk X w 27 [(0, .ref (g_ad X.1 0)), (1, .int v1), (2, .int v2)] []) {kb34 : Wd → Int32 → Int32 → Int32 → Option (Int32 × Wd)} (hk34 : ∀ {w : Wd} {v1 : Int32} {v2 : Int32} {v3 : Int32}, kb34 w v1 v2 v3 = some (rz, wz) → Wk X w 34 [(0, .ref (g_ad X.1 0)), (1, .int v1), (2, .int v2), (3, .int v3)] []) (ho : Ro X (some (.int rz), wz)) {w : Wd} {v1 : Int32} {v2 : Int32} {v3 : Int32} (h : b_X7_night_66 kb27 kb34 w v1 v2 v3 = some (rz, wz)) : Wk X w 66 [(0, .ref (g_ad X.1 0)), (1, .int v1), (2, .int v2), (3, .int v3)] [] := by
  unfold b_X7_night_66 at h
  obtain ⟨x1, ex1⟩ : ∃ z : Int32, z = v3 + (1 : Int32) := ⟨_, rfl⟩
  have h := nm_use h x1 ex1
  refine k_iinc (lv' := [(3, .int x1), (0, .ref (g_ad X.1 0)), (1, .int v1), (2, .int v2)]) O dX7_night_66 3 rfl (by rw [ex1]; rfl) (by decide) rfl ?_
  refine k_goto O 34 dX7_night_69 (by decide) ?_
  exact k_sub [1, 2, 3, 0] rfl (hk34 h)
set_option maxHeartbeats 4000000 in
set_option maxRecDepth 100000 in
theorem w_X7_night_34 {X : Cx} {rz : Int32} {wz : Wd} (O : Ok X cX7_night RX7 ((some .int)) wsX7_night (5) (116) 4) (hN : 105 ≤ g_N X.1) (hz : g_mz X.1 = none) {kb27 : Wd → Int32 → Int32 → Option (Int32 × Wd)} (hk27 : ∀ {w : Wd} {v1 : Int32} {v2 : Int32}, kb27 w v1 v2 = some (rz, wz) → Wk X w 27 [(0, .ref (g_ad X.1 0)), (1, .int v1), (2, .int v2)] []) (ho : Ro X (some (.int rz), wz)) (n : Nat) : ∀ {w : Wd} {v1 : Int32} {v2 : Int32} {v3 : Int32}, b_X7_night_34 kb27 n w v1 v2 v3 = some (rz, wz) → Wk X w 34 [(0, .ref (g_ad X.1 0)), (1, .int v1), (2, .int v2), (3, .int v3)] [] := by
  induction n with
  | zero => intro w v1 v2 v3 h; exact nomatch (show (none : Option (Int32 × Wd)) = some _ from h)
  | succ n ih =>
    intro w v1 v2 v3 h
    rw [b_X7_night_34] at h
    refine k_iload_n O dX7_night_34 3 rfl ?_
    refine k_iconst O dX7_night_35 (v := 4) (by decide) ?_
    refine k_icmp_ge O 72 dX7_night_36 (by decide) (fun c1 => ?_) (fun c1 => ?_)
    · have h := ite_t c1 h
      obtain ⟨x2, ex2⟩ : ∃ z : Int32, z = v2 + (1 : Int32) := ⟨_, rfl⟩
      have h := nm_use h x2 ex2
      refine k_iinc (lv' := [(2, .int x2), (0, .ref (g_ad X.1 0)), (1, .int v1), (3, .int v3)]) O dX7_night_72 2 rfl (by rw [ex2]; rfl) (by decide) rfl ?_
      refine k_goto O 27 dX7_night_75 (by decide) ?_
      exact k_sub [1, 2, 0] rfl (hk27 h)
    · have h := ite_f c1 h
      refine k_aload_n O dX7_night_39 0 rfl ?_
      refine k_get O (v := .ref (g_ad X.1 11)) (k := 0) (by omega) (E_0 hz) rfl 3 (by decide) (fun _ h9 => List.mem_cons_of_mem _ (List.mem_append_left _ (List.mem_append_left _ (List.mem_append_right _ h9)))) (List.mem_of_getElem? (i := 3) rfl) rfl dX7_night_40 ?_
      refine k_iload_n O dX7_night_43 3 rfl ?_
      obtain ⟨r5, w4, hc3, h⟩ := bd_some h
      refine k_callVi O (As := [.int v3]) (rest := []) (k := 11) (c_X1_hasWalker (x_l X) X.1 (by decide) (by omega) hc3) gX7_night_X1_hasWalker rfl hd_X1_hasWalker (by decide) (by omega) (E_pl (by decide)) rfl rfl rfl rfl rfl (Nat.le_of_ble_eq_true rfl) dX7_night_44 ?_
      refine k_if_eq O 66 dX7_night_47 (by decide) (fun c6 => ?_) (fun c6 => ?_)
      · have h := ite_t c6 h
        exact k_sub [0, 1, 2, 3] rfl (w_X7_night_66 O hN hz hk27 (fun {_} {_} {_} {_} h9 => ih h9) ho h)
      · have h := ite_f c6 h
        refine k_aload_n O dX7_night_50 0 rfl ?_
        refine k_get O (v := .ref (g_ad X.1 22)) (k := 0) (by omega) (E_0 hz) rfl 5 (by decide) (fun _ h9 => List.mem_cons_of_mem _ (List.mem_append_left _ (List.mem_append_left _ (List.mem_append_right _ h9)))) (List.mem_of_getElem? (i := 1) rfl) rfl dX7_night_51 ?_
        refine k_iload_n O dX7_night_54 3 rfl ?_
        obtain ⟨r9, w8, hc7, h⟩ := bd_some h
        refine k_callVi O (As := [.int v3]) (rest := []) (k := 22) (c_X3_isFree (x_l X) X.1 (by decide) (by omega) hc7) gX7_night_X3_isFree rfl hd_X3_isFree (by decide) (by omega) (E_sc (by decide)) rfl rfl rfl rfl rfl (Nat.le_of_ble_eq_true rfl) dX7_night_55 ?_
        refine k_if_eq O 66 dX7_night_58 (by decide) (fun c10 => ?_) (fun c10 => ?_)
        · have h := ite_t c10 h
          exact k_sub [0, 1, 2, 3] rfl (w_X7_night_66 O hN hz hk27 (fun {_} {_} {_} {_} h9 => ih h9) ho h)
        · have h := ite_f c10 h
          refine k_aload_n O dX7_night_61 0 rfl ?_
          refine k_iload_n O dX7_night_62 3 rfl ?_
          obtain ⟨w12, hc11, h⟩ := bv_some h
          refine k_callVv O (As := [.int v3]) (rest := []) (k := 0) (c_X7_drawStep (x_l X) X.1 hN hz hc11) gX7_night_X7_drawStep rfl hd_X7_drawStep (by decide) (by omega) (E_0 hz) rfl rfl rfl rfl rfl (Nat.le_of_ble_eq_true rfl) dX7_night_63 ?_
          exact k_sub [0, 1, 2, 3] rfl (w_X7_night_66 O hN hz hk27 (fun {_} {_} {_} {_} h9 => ih h9) ho h)
set_option maxHeartbeats 4000000 in
set_option maxRecDepth 100000 in
theorem w_X7_night_27 {X : Cx} {rz : Int32} {wz : Wd} (O : Ok X cX7_night RX7 ((some .int)) wsX7_night (5) (116) 4) (hN : 105 ≤ g_N X.1) (hz : g_mz X.1 = none) (ho : Ro X (some (.int rz), wz)) (n : Nat) : ∀ {w : Wd} {v1 : Int32} {v2 : Int32}, b_X7_night_27 n w v1 v2 = some (rz, wz) → Wk X w 27 [(0, .ref (g_ad X.1 0)), (1, .int v1), (2, .int v2)] [] := by
  induction n with
  | zero => intro w v1 v2 h; exact nomatch (show (none : Option (Int32 × Wd)) = some _ from h)
  | succ n ih =>
    intro w v1 v2 h
    rw [b_X7_night_27] at h
    refine k_iload_n O dX7_night_27 2 rfl ?_
    refine k_iload_n O dX7_night_28 1 rfl ?_
    refine k_icmp_ge O 78 dX7_night_29 (by decide) (fun c1 => ?_) (fun c1 => ?_)
    · have h := ite_t c1 h
      refine k_aload_n O dX7_night_78 0 rfl ?_
      refine k_get O (v := .ref (g_ad X.1 22)) (k := 0) (by omega) (E_0 hz) rfl 5 (by decide) (fun _ h9 => List.mem_cons_of_mem _ (List.mem_append_left _ (List.mem_append_left _ (List.mem_append_right _ h9)))) (List.mem_of_getElem? (i := 1) rfl) rfl dX7_night_79 ?_
      obtain ⟨r4, w3, hc2, h⟩ := bd_some h
      refine k_callVi O (As := []) (rest := []) (k := 22) (c_X3_caught (x_l X) X.1 (by decide) (by omega) hc2) gX7_night_X3_caught rfl hd_X3_caught (by decide) (by omega) (E_sc (by decide)) rfl rfl rfl rfl rfl (Nat.le_of_ble_eq_true rfl) dX7_night_82 ?_
      exact k_iret O dX7_night_85 (rt_int h ho)
    · have h := ite_f c1 h
      refine k_iconst O dX7_night_32 (v := 0) (by decide) ?_
      refine k_istore_n (lv' := [(3, .int ((0 : Int32))), (0, .ref (g_ad X.1 0)), (1, .int v1), (2, .int v2)]) O dX7_night_33 rfl (by decide) rfl ?_
      exact k_sub [1, 2, 3, 0] rfl (w_X7_night_34 O hN hz (fun {_} {_} {_} h9 => ih h9) ho LF h)
set_option maxHeartbeats 4000000 in
set_option maxRecDepth 100000 in
theorem w_X7_night_0 {X : Cx} {rz : Int32} {wz : Wd} (O : Ok X cX7_night RX7 ((some .int)) wsX7_night (5) (116) 4) (hN : 105 ≤ g_N X.1) (hz : g_mz X.1 = none) (ho : Ro X (some (.int rz), wz)) {w : Wd} {v1 : Int32} (h : b_X7_night_0 w v1 = some (rz, wz)) : Wk X w 0 [(0, .ref (g_ad X.1 0)), (1, .int v1)] [] := by
  unfold b_X7_night_0 at h
  refine k_iload_n O dX7_night_0 1 rfl ?_
  refine k_iconst O dX7_night_1 (v := 1) (by decide) ?_
  refine k_icmp_lt O 11 dX7_night_2 (by decide) (fun c1 => ?_) (fun c1 => ?_)
  · have h := ite_t c1 h
    refine k_bipush O dX7_night_11 (v := -2) (by decide) ?_
    exact k_iret O dX7_night_13 (rt_int h ho)
  · have h := ite_f c1 h
    refine k_iload_n O dX7_night_5 1 rfl ?_
    refine k_bipush O dX7_night_6 (v := 40) (by decide) ?_
    refine k_icmp_le O 14 dX7_night_8 (by decide) (fun c2 => ?_) (fun c2 => ?_)
    · have h := ite_t c2 h
      refine k_aload_n O dX7_night_14 0 rfl ?_
      refine k_get O (v := .ref (g_ad X.1 22)) (k := 0) (by omega) (E_0 hz) rfl 5 (by decide) (fun _ h9 => List.mem_cons_of_mem _ (List.mem_append_left _ (List.mem_append_left _ (List.mem_append_right _ h9)))) (List.mem_of_getElem? (i := 1) rfl) rfl dX7_night_15 ?_
      refine k_aload_n O dX7_night_18 0 rfl ?_
      refine k_get O (v := .ref (g_ad X.1 18)) (k := 0) (by omega) (E_0 hz) rfl 4 (by decide) (fun _ h9 => List.mem_cons_of_mem _ (List.mem_append_left _ (List.mem_append_left _ (List.mem_append_right _ h9)))) (List.mem_of_getElem? (i := 2) rfl) rfl dX7_night_19 ?_
      obtain ⟨w4, hc3, h⟩ := bv_some h
      refine k_callVv O (As := [.ref (g_ad X.1 18)]) (rest := []) (k := 22) (c_X3_become (x_l X) X.1 (by decide) (by omega) (by decide) (by omega) hc3) gX7_night_X3_become rfl hd_X3_become (by decide) (by omega) (E_sc (by decide)) rfl rfl rfl rfl rfl (Nat.le_of_ble_eq_true rfl) dX7_night_22 ?_
      refine k_iconst O dX7_night_25 (v := 0) (by decide) ?_
      refine k_istore_n (lv' := [(2, .int ((0 : Int32))), (0, .ref (g_ad X.1 0)), (1, .int v1)]) O dX7_night_26 rfl (by decide) rfl ?_
      exact k_sub [1, 2, 0] rfl (w_X7_night_27 O hN hz ho LF h)
    · have h := ite_f c2 h
      refine k_bipush O dX7_night_11 (v := -2) (by decide) ?_
      exact k_iret O dX7_night_13 (rt_int h ho)
theorem c_X7_night (l : Launch) (G : Gl) (hN : 105 ≤ g_N G) (hz : g_mz G = none) {w wz : Wd} {v1 : Int32} {rz : Int32} (h : f_X7_night w v1 = some (rz, wz)) : Ct l yX7_night wsX7_night (5) (116) G [.ref (g_ad G 0), .int v1] w (some (.int rz), wz) := by
  refine Ct.start (by decide) rfl rfl rfl (Nat.le_of_ble_eq_true rfl) (fun X hG ho hl O => ?_)
  subst hG
  subst hl
  exact k_sub [0, 1] rfl (w_X7_night_0 O hN hz ho h)
def b_X7_freeWalkers_0 (w : Wd) : Option (Int32 × Wd) := bd (f_X3_caught 18 w) (fun r3 w2 => bd (f_J6_bitCount_0f7a4 w2 r3) (fun r6 w5 => some ((w.1 11 1) - r6, w5)))
def f_X7_freeWalkers (w : Wd) : Option (Int32 × Wd) := b_X7_freeWalkers_0 w 
set_option maxHeartbeats 4000000 in
set_option maxRecDepth 100000 in
theorem w_X7_freeWalkers_0 {X : Cx} {rz : Int32} {wz : Wd} (O : Ok X cX7_freeWalkers RX7 ((some .int)) wsX7_freeWalkers (1) (22) 1) (hN : 105 ≤ g_N X.1) (hz : g_mz X.1 = none) (ho : Ro X (some (.int rz), wz)) {w : Wd} (h : b_X7_freeWalkers_0 w  = some (rz, wz)) : Wk X w 0 [(0, .ref (g_ad X.1 0))] [] := by
  unfold b_X7_freeWalkers_0 at h
  refine k_aload_n O dX7_freeWalkers_0 0 rfl ?_
  refine k_get O (v := .ref (g_ad X.1 11)) (k := 0) (by omega) (E_0 hz) rfl 3 (by decide) (fun _ h9 => List.mem_cons_of_mem _ (List.mem_append_left _ (List.mem_append_left _ (List.mem_append_right _ h9)))) (List.mem_of_getElem? (i := 1) rfl) rfl dX7_freeWalkers_1 ?_
  refine k_get O (v := .int (w.1 11 1)) (k := 11) (by omega) (E_pl (by decide)) rfl 1 (by decide) (fun _ h9 => List.mem_cons_of_mem _ (List.mem_append_left _ (List.mem_append_right _ h9))) (List.mem_of_getElem? (i := 2) rfl) rfl dX7_freeWalkers_4 ?_
  refine k_aload_n O dX7_freeWalkers_7 0 rfl ?_
  refine k_get O (v := .ref (g_ad X.1 18)) (k := 0) (by omega) (E_0 hz) rfl 4 (by decide) (fun _ h9 => List.mem_cons_of_mem _ (List.mem_append_left _ (List.mem_append_left _ (List.mem_append_right _ h9)))) (List.mem_of_getElem? (i := 3) rfl) rfl dX7_freeWalkers_8 ?_
  obtain ⟨r3, w2, hc1, h⟩ := bd_some h
  refine k_callVi O (As := []) (rest := [.int (w.1 11 1)]) (k := 18) (c_X3_caught (x_l X) X.1 (by decide) (by omega) hc1) gX7_freeWalkers_X3_caught rfl hd_X3_caught (by decide) (by omega) (E_sc (by decide)) rfl rfl rfl rfl rfl (Nat.le_of_ble_eq_true rfl) dX7_freeWalkers_11 ?_
  obtain ⟨r6, w5, hc4, h⟩ := bd_some h
  refine k_callSi O (As := [.int r3]) (rest := [.int (w.1 11 1)]) (c_J6_bitCount_0f7a4 (x_l X) X.1 hc4) gX7_freeWalkers_J6_bitCount_0f7a4 rfl hd_J6_bitCount_0f7a4 (by decide) rfl rfl (Nat.le_of_ble_eq_true rfl) dX7_freeWalkers_14 ?_
  refine k_isub O dX7_freeWalkers_17 ?_
  exact k_iret O dX7_freeWalkers_18 (rt_int h ho)
theorem c_X7_freeWalkers (l : Launch) (G : Gl) (hN : 105 ≤ g_N G) (hz : g_mz G = none) {w wz : Wd} {rz : Int32} (h : f_X7_freeWalkers w  = some (rz, wz)) : Ct l yX7_freeWalkers wsX7_freeWalkers (1) (22) G [.ref (g_ad G 0)] w (some (.int rz), wz) := by
  refine Ct.start (by decide) rfl rfl rfl (Nat.le_of_ble_eq_true rfl) (fun X hG ho hl O => ?_)
  subst hG
  subst hl
  exact k_sub [0] rfl (w_X7_freeWalkers_0 O hN hz ho h)
def b_X7_keep_0 (w : Wd) (v1 : Int32) : Option (Int32 × Wd) := bd (f_X7_isSlot w v1) (fun r3 w2 => if r3 = 0 then (some ((-1 : Int32), w2)) else (gd (inb v1 2) (bv (f_X3_become (96 + 4 * v1.toNatClampNeg) 18 w2) (fun w8 => gd (inb v1 2) (nm (up w8 104 v1.toNatClampNeg ((1 : Int32))) (fun w10 => bd (f_X7_freeWalkers w10) (fun r13 w12 => some (r13, w12))))))))
def f_X7_keep (w : Wd) (v1 : Int32) : Option (Int32 × Wd) := b_X7_keep_0 w v1
set_option maxHeartbeats 4000000 in
set_option maxRecDepth 100000 in
theorem w_X7_keep_0 {X : Cx} {rz : Int32} {wz : Wd} (O : Ok X cX7_keep RX7 ((some .int)) wsX7_keep (2) (42) 3) (hN : 105 ≤ g_N X.1) (hz : g_mz X.1 = none) (ho : Ro X (some (.int rz), wz)) {w : Wd} {v1 : Int32} (h : b_X7_keep_0 w v1 = some (rz, wz)) : Wk X w 0 [(0, .ref (g_ad X.1 0)), (1, .int v1)] [] := by
  unfold b_X7_keep_0 at h
  refine k_iload_n O dX7_keep_0 1 rfl ?_
  obtain ⟨r3, w2, hc1, h⟩ := bd_some h
  refine k_callSi O (As := [.int v1]) (rest := []) (c_X7_isSlot (x_l X) X.1 hc1) gX7_keep_X7_isSlot rfl hd_X7_isSlot (by decide) rfl rfl (Nat.le_of_ble_eq_true rfl) dX7_keep_1 ?_
  refine k_if_ne O 9 dX7_keep_4 (by decide) (fun c4 => ?_) (fun c4 => ?_)
  · have h := ite_f c4 h
    refine k_aload_n O dX7_keep_9 0 rfl ?_
    refine k_get O (v := .ref (g_ad X.1 95)) (k := 0) (by omega) (E_0 hz) rfl 9 (by decide) (fun _ h9 => List.mem_cons_of_mem _ (List.mem_append_left _ (List.mem_append_left _ (List.mem_append_right _ h9)))) (List.mem_of_getElem? (i := 1) rfl) rfl dX7_keep_10 ?_
    refine k_iload_n O dX7_keep_13 1 rfl ?_
    obtain ⟨g5, h⟩ := gd_some h
    refine k_aald O (k := 95) (g := fun j => 96 + 4 * j) (by omega) E_95 g5 dX7_keep_14 ?_
    have hs6 := scb_sl g5
    have qhs6 := scb_lt hs6
    refine k_astore_n (lv' := [(2, .ref (g_ad X.1 (96 + 4 * v1.toNatClampNeg))), (0, .ref (g_ad X.1 0)), (1, .int v1)]) O dX7_keep_15 rfl (by decide) rfl ?_
    refine k_aload_n O dX7_keep_16 0 rfl ?_
    refine k_ifnull O dX7_keep_17 ?_
    refine k_aload_n O dX7_keep_20 0 rfl ?_
    refine k_aload_n O dX7_keep_21 1 rfl ?_
    refine k_get O (v := .ref (g_ad X.1 18)) (k := 0) (by omega) (E_0 hz) rfl 4 (by decide) (fun _ h9 => List.mem_cons_of_mem _ (List.mem_append_left _ (List.mem_append_left _ (List.mem_append_right _ h9)))) (List.mem_of_getElem? (i := 2) rfl) rfl dX7_keep_22 ?_
    obtain ⟨w8, hc7, h⟩ := bv_some h
    refine k_callVv O (As := [.ref (g_ad X.1 18)]) (rest := []) (k := (96 + 4 * v1.toNatClampNeg)) (c_X3_become (x_l X) X.1 hs6 (by omega) (by decide) (by omega) hc7) gX7_keep_X3_become rfl hd_X3_become (by decide) (by omega) (E_sc hs6) rfl rfl rfl rfl rfl (Nat.le_of_ble_eq_true rfl) dX7_keep_25 ?_
    refine k_aload_n O dX7_keep_28 1 rfl ?_
    refine k_get O (v := .ref (g_ad X.1 104)) (k := 0) (by omega) (E_0 hz) rfl 10 (by decide) (fun _ h9 => List.mem_cons_of_mem _ (List.mem_append_left _ (List.mem_append_left _ (List.mem_append_right _ h9)))) (List.mem_of_getElem? (i := 3) rfl) rfl dX7_keep_29 ?_
    refine k_iload_n O dX7_keep_32 2 rfl ?_
    refine k_iconst O dX7_keep_33 (v := 1) (by decide) ?_
    obtain ⟨g9, h⟩ := gd_some h
    refine k_zast O (k := 104) (by omega) E_104 (fun _ => E_104) g9 (by decide) dX7_keep_34 ?_
    refine k_nw (fun w10 ew10 => ?_)
    have h := nm_use h w10 ew10
    refine k_aload_n O dX7_keep_35 1 rfl ?_
    obtain ⟨r13, w12, hc11, h⟩ := bd_some h
    refine k_callVi O (As := []) (rest := []) (k := 0) (c_X7_freeWalkers (x_l X) X.1 hN hz hc11) gX7_keep_X7_freeWalkers rfl hd_X7_freeWalkers (by decide) (by omega) (E_0 hz) rfl rfl rfl rfl rfl (Nat.le_of_ble_eq_true rfl) dX7_keep_36 ?_
    exact k_iret O dX7_keep_39 (rt_int h ho)
  · have h := ite_t c4 h
    refine k_iconst O dX7_keep_7 (v := -1) (by decide) ?_
    exact k_iret O dX7_keep_8 (rt_int h ho)
theorem c_X7_keep (l : Launch) (G : Gl) (hN : 105 ≤ g_N G) (hz : g_mz G = none) {w wz : Wd} {v1 : Int32} {rz : Int32} (h : f_X7_keep w v1 = some (rz, wz)) : Ct l yX7_keep wsX7_keep (2) (42) G [.ref (g_ad G 0), .int v1] w (some (.int rz), wz) := by
  refine Ct.start (by decide) rfl rfl rfl (Nat.le_of_ble_eq_true rfl) (fun X hG ho hl O => ?_)
  subst hG
  subst hl
  exact k_sub [0, 1] rfl (w_X7_keep_0 O hN hz ho h)
def b_X7_again_0 (w : Wd) (v1 : Int32) : Option (Int32 × Wd) := bd (f_X7_isSlot w v1) (fun r3 w2 => if r3 = 0 then (some ((-1 : Int32), w2)) else (gd (inb v1 2) (if (w2.1 104 v1.toNatClampNeg) = 0 then (some ((-3 : Int32), w2)) else (gd (inb v1 2) (bv (f_X3_become 18 (96 + 4 * v1.toNatClampNeg) w2) (fun w10 => bv (f_X0_forget w10) (fun w12 => bd (f_X7_freeWalkers w12) (fun r15 w14 => some (r15, w14)))))))))
def f_X7_again (w : Wd) (v1 : Int32) : Option (Int32 × Wd) := b_X7_again_0 w v1
set_option maxHeartbeats 4000000 in
set_option maxRecDepth 100000 in
theorem w_X7_again_0 {X : Cx} {rz : Int32} {wz : Wd} (O : Ok X cX7_again RX7 ((some .int)) wsX7_again (2) (42) 2) (hN : 105 ≤ g_N X.1) (hz : g_mz X.1 = none) (ho : Ro X (some (.int rz), wz)) {w : Wd} {v1 : Int32} (h : b_X7_again_0 w v1 = some (rz, wz)) : Wk X w 0 [(0, .ref (g_ad X.1 0)), (1, .int v1)] [] := by
  unfold b_X7_again_0 at h
  refine k_iload_n O dX7_again_0 1 rfl ?_
  obtain ⟨r3, w2, hc1, h⟩ := bd_some h
  refine k_callSi O (As := [.int v1]) (rest := []) (c_X7_isSlot (x_l X) X.1 hc1) gX7_again_X7_isSlot rfl hd_X7_isSlot (by decide) rfl rfl (Nat.le_of_ble_eq_true rfl) dX7_again_1 ?_
  refine k_if_ne O 9 dX7_again_4 (by decide) (fun c4 => ?_) (fun c4 => ?_)
  · have h := ite_f c4 h
    refine k_aload_n O dX7_again_9 0 rfl ?_
    refine k_get O (v := .ref (g_ad X.1 104)) (k := 0) (by omega) (E_0 hz) rfl 10 (by decide) (fun _ h9 => List.mem_cons_of_mem _ (List.mem_append_left _ (List.mem_append_left _ (List.mem_append_left _ (List.mem_append_right _ h9))))) (List.mem_of_getElem? (i := 1) rfl) rfl dX7_again_10 ?_
    refine k_iload_n O dX7_again_13 1 rfl ?_
    obtain ⟨g5, h⟩ := gd_some h
    refine k_zald O (k := 104) (by omega) E_104 g5 dX7_again_14 ?_
    refine k_if_ne O 21 dX7_again_15 (by decide) (fun c6 => ?_) (fun c6 => ?_)
    · have h := ite_f c6 h
      refine k_aload_n O dX7_again_21 0 rfl ?_
      refine k_get O (v := .ref (g_ad X.1 18)) (k := 0) (by omega) (E_0 hz) rfl 4 (by decide) (fun _ h9 => List.mem_cons_of_mem _ (List.mem_append_left _ (List.mem_append_left _ (List.mem_append_left _ (List.mem_append_right _ h9))))) (List.mem_of_getElem? (i := 2) rfl) rfl dX7_again_22 ?_
      refine k_aload_n O dX7_again_25 0 rfl ?_
      refine k_get O (v := .ref (g_ad X.1 95)) (k := 0) (by omega) (E_0 hz) rfl 9 (by decide) (fun _ h9 => List.mem_cons_of_mem _ (List.mem_append_left _ (List.mem_append_left _ (List.mem_append_left _ (List.mem_append_right _ h9))))) (List.mem_of_getElem? (i := 3) rfl) rfl dX7_again_26 ?_
      refine k_iload_n O dX7_again_29 1 rfl ?_
      obtain ⟨g7, h⟩ := gd_some h
      refine k_aald O (k := 95) (g := fun j => 96 + 4 * j) (by omega) E_95 g7 dX7_again_30 ?_
      have hs8 := scb_sl g7
      have qhs8 := scb_lt hs8
      obtain ⟨w10, hc9, h⟩ := bv_some h
      refine k_callVv O (As := [.ref (g_ad X.1 (96 + 4 * v1.toNatClampNeg))]) (rest := []) (k := 18) (c_X3_become (x_l X) X.1 (by decide) (by omega) hs8 (by omega) hc9) gX7_again_X3_become rfl hd_X3_become (by decide) (by omega) (E_sc (by decide)) rfl rfl rfl rfl rfl (Nat.le_of_ble_eq_true rfl) dX7_again_31 ?_
      refine k_aload_n O dX7_again_34 0 rfl ?_
      refine k_get O (v := .ref (g_ad X.1 26)) (k := 0) (by omega) (E_0 hz) rfl 6 (by decide) (fun _ h9 => List.mem_cons_of_mem _ (List.mem_append_left _ (List.mem_append_left _ (List.mem_append_left _ (List.mem_append_right _ h9))))) (List.mem_of_getElem? (i := 4) rfl) rfl dX7_again_35 ?_
      obtain ⟨w12, hc11, h⟩ := bv_some h
      refine k_callVv O (As := []) (rest := []) (k := 26) (c_X0_forget (x_l X) X.1 hN hc11) gX7_again_X0_forget rfl hd_X0_forget (by decide) (by omega) E_26 rfl rfl rfl rfl rfl (Nat.le_of_ble_eq_true rfl) dX7_again_38 ?_
      refine k_aload_n O dX7_again_41 0 rfl ?_
      obtain ⟨r15, w14, hc13, h⟩ := bd_some h
      refine k_callVi O (As := []) (rest := []) (k := 0) (c_X7_freeWalkers (x_l X) X.1 hN hz hc13) gX7_again_X7_freeWalkers rfl hd_X7_freeWalkers (by decide) (by omega) (E_0 hz) rfl rfl rfl rfl rfl (Nat.le_of_ble_eq_true rfl) dX7_again_42 ?_
      exact k_iret O dX7_again_45 (rt_int h ho)
    · have h := ite_t c6 h
      refine k_bipush O dX7_again_18 (v := -3) (by decide) ?_
      exact k_iret O dX7_again_20 (rt_int h ho)
  · have h := ite_t c4 h
    refine k_iconst O dX7_again_7 (v := -1) (by decide) ?_
    exact k_iret O dX7_again_8 (rt_int h ho)
theorem c_X7_again (l : Launch) (G : Gl) (hN : 105 ≤ g_N G) (hz : g_mz G = none) {w wz : Wd} {v1 : Int32} {rz : Int32} (h : f_X7_again w v1 = some (rz, wz)) : Ct l yX7_again wsX7_again (2) (42) G [.ref (g_ad G 0), .int v1] w (some (.int rz), wz) := by
  refine Ct.start (by decide) rfl rfl rfl (Nat.le_of_ble_eq_true rfl) (fun X hG ho hl O => ?_)
  subst hG
  subst hl
  exact k_sub [0, 1] rfl (w_X7_again_0 O hN hz ho h)
def b_X7_count_0 (w : Wd) (v1 : Int32) : Option (Int32 × Wd) := if v1 = (0 : Int32) then (some (w.1 1 1, w)) else (if v1 = (1 : Int32) then (some (w.1 11 0, w)) else (if v1 = (2 : Int32) then (some (w.1 11 1, w)) else (if v1 = (3 : Int32) then (some (w.1 18 1, w)) else (if v1 = (4 : Int32) then (bd (f_X3_caught 18 w) (fun r8 w7 => some (r8, w7))) else (if v1 = (5 : Int32) then (some (w.1 19 ((0 : Int32)).toNatClampNeg, w)) else (if v1 = (6 : Int32) then (some (w.1 19 ((1 : Int32)).toNatClampNeg, w)) else (if v1 = (7 : Int32) then (some (w.1 11 2, w)) else (if v1 = (8 : Int32) then (some (w.1 26 2, w)) else (if v1 = (9 : Int32) then (if (w.1 18 3) = 0 then (some ((0 : Int32), w)) else (some ((1 : Int32), w))) else (some ((-2 : Int32), w)))))))))))
def f_X7_count (w : Wd) (v1 : Int32) : Option (Int32 × Wd) := b_X7_count_0 w v1
set_option maxHeartbeats 4000000 in
set_option maxRecDepth 100000 in
theorem w_X7_count_0 {X : Cx} {rz : Int32} {wz : Wd} (O : Ok X cX7_count RX7 ((some .int)) wsX7_count (1) (22) 2) (hN : 105 ≤ g_N X.1) (hz : g_mz X.1 = none) (ho : Ro X (some (.int rz), wz)) {w : Wd} {v1 : Int32} (h : b_X7_count_0 w v1 = some (rz, wz)) : Wk X w 0 [(0, .ref (g_ad X.1 0)), (1, .int v1)] [] := by
  unfold b_X7_count_0 at h
  refine k_iload_n O dX7_count_0 1 rfl ?_
  refine (Decidable.em (v1 = (0 : Int32))).elim (fun c1 => ?_) (fun c1 => ?_)
  · have h := ite_t c1 h
    refine k_tabIn O 56 dX7_count_1 (by rw [c1]; decide) (by rw [c1]; decide) (off := 55) (by rw [c1]; try rfl) (by decide) ?_
    refine k_aload_n O dX7_count_56 0 rfl ?_
    refine k_get O (v := .ref (g_ad X.1 1)) (k := 0) (by omega) (E_0 hz) rfl 0 (by decide) (fun _ h9 => List.mem_cons_of_mem _ (List.mem_append_left _ (List.mem_append_left _ (List.mem_append_left _ (List.mem_append_left _ (List.mem_append_right _ h9)))))) (List.mem_of_getElem? (i := 1) rfl) rfl dX7_count_57 ?_
    refine k_get O (v := .int (w.1 1 1)) (k := 1) (by omega) E_1 rfl 1 (by decide) (fun _ h9 => List.mem_cons_of_mem _ (List.mem_append_left _ (List.mem_append_left _ (List.mem_append_left _ (List.mem_append_right _ h9))))) (List.mem_of_getElem? (i := 2) rfl) rfl dX7_count_60 ?_
    exact k_iret O dX7_count_63 (rt_int h ho)
  · have h := ite_f c1 h
    refine (Decidable.em (v1 = (1 : Int32))).elim (fun c2 => ?_) (fun c2 => ?_)
    · have h := ite_t c2 h
      refine k_tabIn O 64 dX7_count_1 (by rw [c2]; decide) (by rw [c2]; decide) (off := 63) (by rw [c2]; try rfl) (by decide) ?_
      refine k_aload_n O dX7_count_64 0 rfl ?_
      refine k_get O (v := .ref (g_ad X.1 11)) (k := 0) (by omega) (E_0 hz) rfl 3 (by decide) (fun _ h9 => List.mem_cons_of_mem _ (List.mem_append_left _ (List.mem_append_left _ (List.mem_append_left _ (List.mem_append_left _ (List.mem_append_right _ h9)))))) (List.mem_of_getElem? (i := 3) rfl) rfl dX7_count_65 ?_
      refine k_get O (v := .int (w.1 11 0)) (k := 11) (by omega) (E_pl (by decide)) rfl 0 (by decide) (fun _ h9 => List.mem_cons_of_mem _ (List.mem_append_left _ (List.mem_append_left _ (List.mem_append_right _ h9)))) (List.mem_of_getElem? (i := 4) rfl) rfl dX7_count_68 ?_
      exact k_iret O dX7_count_71 (rt_int h ho)
    · have h := ite_f c2 h
      refine (Decidable.em (v1 = (2 : Int32))).elim (fun c3 => ?_) (fun c3 => ?_)
      · have h := ite_t c3 h
        refine k_tabIn O 72 dX7_count_1 (by rw [c3]; decide) (by rw [c3]; decide) (off := 71) (by rw [c3]; try rfl) (by decide) ?_
        refine k_aload_n O dX7_count_72 0 rfl ?_
        refine k_get O (v := .ref (g_ad X.1 11)) (k := 0) (by omega) (E_0 hz) rfl 3 (by decide) (fun _ h9 => List.mem_cons_of_mem _ (List.mem_append_left _ (List.mem_append_left _ (List.mem_append_left _ (List.mem_append_left _ (List.mem_append_right _ h9)))))) (List.mem_of_getElem? (i := 3) rfl) rfl dX7_count_73 ?_
        refine k_get O (v := .int (w.1 11 1)) (k := 11) (by omega) (E_pl (by decide)) rfl 1 (by decide) (fun _ h9 => List.mem_cons_of_mem _ (List.mem_append_left _ (List.mem_append_left _ (List.mem_append_right _ h9)))) (List.mem_of_getElem? (i := 5) rfl) rfl dX7_count_76 ?_
        exact k_iret O dX7_count_79 (rt_int h ho)
      · have h := ite_f c3 h
        refine (Decidable.em (v1 = (3 : Int32))).elim (fun c4 => ?_) (fun c4 => ?_)
        · have h := ite_t c4 h
          refine k_tabIn O 80 dX7_count_1 (by rw [c4]; decide) (by rw [c4]; decide) (off := 79) (by rw [c4]; try rfl) (by decide) ?_
          refine k_aload_n O dX7_count_80 0 rfl ?_
          refine k_get O (v := .ref (g_ad X.1 18)) (k := 0) (by omega) (E_0 hz) rfl 4 (by decide) (fun _ h9 => List.mem_cons_of_mem _ (List.mem_append_left _ (List.mem_append_left _ (List.mem_append_left _ (List.mem_append_left _ (List.mem_append_right _ h9)))))) (List.mem_of_getElem? (i := 6) rfl) rfl dX7_count_81 ?_
          refine k_get O (v := .int (w.1 18 1)) (k := 18) (by omega) (E_sc (by decide)) rfl 1 (by decide) (fun _ h9 => List.mem_cons_of_mem _ (List.mem_append_left _ (List.mem_append_right _ h9))) (List.mem_of_getElem? (i := 7) rfl) rfl dX7_count_84 ?_
          exact k_iret O dX7_count_87 (rt_int h ho)
        · have h := ite_f c4 h
          refine (Decidable.em (v1 = (4 : Int32))).elim (fun c5 => ?_) (fun c5 => ?_)
          · have h := ite_t c5 h
            refine k_tabIn O 88 dX7_count_1 (by rw [c5]; decide) (by rw [c5]; decide) (off := 87) (by rw [c5]; try rfl) (by decide) ?_
            refine k_aload_n O dX7_count_88 0 rfl ?_
            refine k_get O (v := .ref (g_ad X.1 18)) (k := 0) (by omega) (E_0 hz) rfl 4 (by decide) (fun _ h9 => List.mem_cons_of_mem _ (List.mem_append_left _ (List.mem_append_left _ (List.mem_append_left _ (List.mem_append_left _ (List.mem_append_right _ h9)))))) (List.mem_of_getElem? (i := 6) rfl) rfl dX7_count_89 ?_
            obtain ⟨r8, w7, hc6, h⟩ := bd_some h
            refine k_callVi O (As := []) (rest := []) (k := 18) (c_X3_caught (x_l X) X.1 (by decide) (by omega) hc6) gX7_count_X3_caught rfl hd_X3_caught (by decide) (by omega) (E_sc (by decide)) rfl rfl rfl rfl rfl (Nat.le_of_ble_eq_true rfl) dX7_count_92 ?_
            exact k_iret O dX7_count_95 (rt_int h ho)
          · have h := ite_f c5 h
            refine (Decidable.em (v1 = (5 : Int32))).elim (fun c9 => ?_) (fun c9 => ?_)
            · have h := ite_t c9 h
              refine k_tabIn O 96 dX7_count_1 (by rw [c9]; decide) (by rw [c9]; decide) (off := 95) (by rw [c9]; try rfl) (by decide) ?_
              refine k_aload_n O dX7_count_96 0 rfl ?_
              refine k_get O (v := .ref (g_ad X.1 18)) (k := 0) (by omega) (E_0 hz) rfl 4 (by decide) (fun _ h9 => List.mem_cons_of_mem _ (List.mem_append_left _ (List.mem_append_left _ (List.mem_append_left _ (List.mem_append_left _ (List.mem_append_right _ h9)))))) (List.mem_of_getElem? (i := 6) rfl) rfl dX7_count_97 ?_
              refine k_get O (v := .ref (g_ad X.1 19)) (k := 18) (by omega) (E_sc (by decide)) rfl 4 (by decide) (fun _ h9 => List.mem_cons_of_mem _ (List.mem_append_left _ (List.mem_append_right _ h9))) (List.mem_of_getElem? (i := 8) rfl) rfl dX7_count_100 ?_
              refine k_iconst O dX7_count_103 (v := 0) (by decide) ?_
              refine k_iald O (k := 19) (by omega) (E_sc1 (by decide)) (by decide) dX7_count_104 ?_
              exact k_iret O dX7_count_105 (rt_int h ho)
            · have h := ite_f c9 h
              refine (Decidable.em (v1 = (6 : Int32))).elim (fun c10 => ?_) (fun c10 => ?_)
              · have h := ite_t c10 h
                refine k_tabIn O 106 dX7_count_1 (by rw [c10]; decide) (by rw [c10]; decide) (off := 105) (by rw [c10]; try rfl) (by decide) ?_
                refine k_aload_n O dX7_count_106 0 rfl ?_
                refine k_get O (v := .ref (g_ad X.1 18)) (k := 0) (by omega) (E_0 hz) rfl 4 (by decide) (fun _ h9 => List.mem_cons_of_mem _ (List.mem_append_left _ (List.mem_append_left _ (List.mem_append_left _ (List.mem_append_left _ (List.mem_append_right _ h9)))))) (List.mem_of_getElem? (i := 6) rfl) rfl dX7_count_107 ?_
                refine k_get O (v := .ref (g_ad X.1 19)) (k := 18) (by omega) (E_sc (by decide)) rfl 4 (by decide) (fun _ h9 => List.mem_cons_of_mem _ (List.mem_append_left _ (List.mem_append_right _ h9))) (List.mem_of_getElem? (i := 8) rfl) rfl dX7_count_110 ?_
                refine k_iconst O dX7_count_113 (v := 1) (by decide) ?_
                refine k_iald O (k := 19) (by omega) (E_sc1 (by decide)) (by decide) dX7_count_114 ?_
                exact k_iret O dX7_count_115 (rt_int h ho)
              · have h := ite_f c10 h
                refine (Decidable.em (v1 = (7 : Int32))).elim (fun c11 => ?_) (fun c11 => ?_)
                · have h := ite_t c11 h
                  refine k_tabIn O 116 dX7_count_1 (by rw [c11]; decide) (by rw [c11]; decide) (off := 115) (by rw [c11]; try rfl) (by decide) ?_
                  refine k_aload_n O dX7_count_116 0 rfl ?_
                  refine k_get O (v := .ref (g_ad X.1 11)) (k := 0) (by omega) (E_0 hz) rfl 3 (by decide) (fun _ h9 => List.mem_cons_of_mem _ (List.mem_append_left _ (List.mem_append_left _ (List.mem_append_left _ (List.mem_append_left _ (List.mem_append_right _ h9)))))) (List.mem_of_getElem? (i := 3) rfl) rfl dX7_count_117 ?_
                  refine k_get O (v := .int (w.1 11 2)) (k := 11) (by omega) (E_pl (by decide)) rfl 2 (by decide) (fun _ h9 => List.mem_cons_of_mem _ (List.mem_append_left _ (List.mem_append_left _ (List.mem_append_right _ h9)))) (List.mem_of_getElem? (i := 9) rfl) rfl dX7_count_120 ?_
                  exact k_iret O dX7_count_123 (rt_int h ho)
                · have h := ite_f c11 h
                  refine (Decidable.em (v1 = (8 : Int32))).elim (fun c12 => ?_) (fun c12 => ?_)
                  · have h := ite_t c12 h
                    refine k_tabIn O 124 dX7_count_1 (by rw [c12]; decide) (by rw [c12]; decide) (off := 123) (by rw [c12]; try rfl) (by decide) ?_
                    refine k_aload_n O dX7_count_124 0 rfl ?_
                    refine k_get O (v := .ref (g_ad X.1 26)) (k := 0) (by omega) (E_0 hz) rfl 6 (by decide) (fun _ h9 => List.mem_cons_of_mem _ (List.mem_append_left _ (List.mem_append_left _ (List.mem_append_left _ (List.mem_append_left _ (List.mem_append_right _ h9)))))) (List.mem_of_getElem? (i := 10) rfl) rfl dX7_count_125 ?_
                    refine k_get O (v := .int (w.1 26 2)) (k := 26) (by omega) E_26 rfl 2 (by decide) (fun _ h9 => List.mem_cons_of_mem _ (List.mem_append_right _ h9)) (List.mem_of_getElem? (i := 11) rfl) rfl dX7_count_128 ?_
                    exact k_iret O dX7_count_131 (rt_int h ho)
                  · have h := ite_f c12 h
                    refine (Decidable.em (v1 = (9 : Int32))).elim (fun c13 => ?_) (fun c13 => ?_)
                    · have h := ite_t c13 h
                      refine k_tabIn O 132 dX7_count_1 (by rw [c13]; decide) (by rw [c13]; decide) (off := 131) (by rw [c13]; try rfl) (by decide) ?_
                      refine k_aload_n O dX7_count_132 0 rfl ?_
                      refine k_get O (v := .ref (g_ad X.1 18)) (k := 0) (by omega) (E_0 hz) rfl 4 (by decide) (fun _ h9 => List.mem_cons_of_mem _ (List.mem_append_left _ (List.mem_append_left _ (List.mem_append_left _ (List.mem_append_left _ (List.mem_append_right _ h9)))))) (List.mem_of_getElem? (i := 6) rfl) rfl dX7_count_133 ?_
                      refine k_get O (v := .int (w.1 18 3)) (k := 18) (by omega) (E_sc (by decide)) rfl 3 (by decide) (fun _ h9 => List.mem_cons_of_mem _ (List.mem_append_left _ (List.mem_append_right _ h9))) (List.mem_of_getElem? (i := 12) rfl) rfl dX7_count_136 ?_
                      refine k_if_eq O 146 dX7_count_139 (by decide) (fun c14 => ?_) (fun c14 => ?_)
                      · have h := ite_t c14 h
                        refine k_iconst O dX7_count_146 (v := 0) (by decide) ?_
                        exact k_iret O dX7_count_147 (rt_int h ho)
                      · have h := ite_f c14 h
                        refine k_iconst O dX7_count_142 (v := 1) (by decide) ?_
                        refine k_goto O 147 dX7_count_143 (by decide) ?_
                        exact k_iret O dX7_count_147 (rt_int h ho)
                    · have h := ite_f c13 h
                      refine k_tabOut O 148 dX7_count_1 (by have nc1 := lv_neT c1 (a := 0) (by decide); have nc2 := lv_neT c2 (a := 1) (by decide); have nc3 := lv_neT c3 (a := 2) (by decide); have nc4 := lv_neT c4 (a := 3) (by decide); have nc5 := lv_neT c5 (a := 4) (by decide); have nc9 := lv_neT c9 (a := 5) (by decide); have nc10 := lv_neT c10 (a := 6) (by decide); have nc11 := lv_neT c11 (a := 7) (by decide); have nc12 := lv_neT c12 (a := 8) (by decide); have nc13 := lv_neT c13 (a := 9) (by decide); omega) (by decide) ?_
                      refine k_bipush O dX7_count_148 (v := -2) (by decide) ?_
                      exact k_iret O dX7_count_150 (rt_int h ho)
theorem c_X7_count (l : Launch) (G : Gl) (hN : 105 ≤ g_N G) (hz : g_mz G = none) {w wz : Wd} {v1 : Int32} {rz : Int32} (h : f_X7_count w v1 = some (rz, wz)) : Ct l yX7_count wsX7_count (1) (22) G [.ref (g_ad G 0), .int v1] w (some (.int rz), wz) := by
  refine Ct.start (by decide) rfl rfl rfl (Nat.le_of_ble_eq_true rfl) (fun X hG ho hl O => ?_)
  subst hG
  subst hl
  exact k_sub [0, 1] rfl (w_X7_count_0 O hN hz ho h)
