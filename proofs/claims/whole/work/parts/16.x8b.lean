def b_X8_neighbours_49 (w : Wd) (v0 : Int32) (s0 : Int32) (s1 : Int32) : Option (Int32 × Wd) := nm (s1 ||| s0) (fun x1 => if ((3 : Int32)) ≤ (v0 - v0 / ((4 : Int32)) * ((4 : Int32))) then (some (x1 ||| ((0 : Int32)), w)) else (some (x1 ||| (((1 : Int32)) <<< ((v0 + ((1 : Int32))) &&& 31)), w)))
def b_X8_neighbours_31 (w : Wd) (v0 : Int32) (s0 : Int32) (s1 : Int32) : Option (Int32 × Wd) := nm (s1 ||| s0) (fun x1 => if (v0 - v0 / ((4 : Int32)) * ((4 : Int32))) ≤ 0 then (b_X8_neighbours_49 w v0 ((0 : Int32)) x1) else (b_X8_neighbours_49 w v0 (((1 : Int32)) <<< ((v0 - ((1 : Int32))) &&& 31)) x1))
def b_X8_neighbours_14 (w : Wd) (v0 : Int32) (s0 : Int32) : Option (Int32 × Wd) := if ((8 : Int32)) ≤ v0 then (b_X8_neighbours_31 w v0 ((0 : Int32)) s0) else (b_X8_neighbours_31 w v0 (((1 : Int32)) <<< ((v0 + ((4 : Int32))) &&& 31)) s0)
def b_X8_neighbours_0 (w : Wd) (v0 : Int32) : Option (Int32 × Wd) := if v0 < ((4 : Int32)) then (b_X8_neighbours_14 w v0 ((0 : Int32))) else (b_X8_neighbours_14 w v0 (((1 : Int32)) <<< ((v0 - ((4 : Int32))) &&& 31)))
def f_X8_neighbours (w : Wd) (v0 : Int32) : Option (Int32 × Wd) := b_X8_neighbours_0 w v0
set_option maxHeartbeats 4000000 in
set_option maxRecDepth 100000 in
theorem w_X8_neighbours_49 {X : Cx} {rz : Int32} {wz : Wd} (O : Ok X cX8_neighbours RX8 ((some .int)) wsX8_neighbours (0) (0) 2) (ho : Ro X (some (.int rz), wz)) {w : Wd} {v0 : Int32} {s0 : Int32} {s1 : Int32} (h : b_X8_neighbours_49 w v0 s0 s1 = some (rz, wz)) : Wk X w 49 [(0, .int v0)] [.int s0, .int s1] := by
  unfold b_X8_neighbours_49 at h
  refine k_ior O dX8_neighbours_49 ?_
  refine k_topi (fun x1 ex1 => ?_)
  have h := nm_use h x1 ex1
  refine k_istore_n (lv' := [(1, .int x1), (0, .int v0)]) O dX8_neighbours_50 rfl (by decide) rfl ?_
  refine k_iload_n O dX8_neighbours_51 0 rfl ?_
  refine k_iload_n O dX8_neighbours_52 1 rfl ?_
  refine k_iconst O dX8_neighbours_53 (v := 4) (by decide) ?_
  refine k_irem O dX8_neighbours_54 (by decide) ?_
  refine k_iconst O dX8_neighbours_55 (v := 3) (by decide) ?_
  refine k_icmp_ge O 67 dX8_neighbours_56 (by decide) (fun c2 => ?_) (fun c2 => ?_)
  · have h := ite_t c2 h
    refine k_iconst O dX8_neighbours_67 (v := 0) (by decide) ?_
    refine k_ior O dX8_neighbours_68 ?_
    exact k_iret O dX8_neighbours_69 (rt_int h ho)
  · have h := ite_f c2 h
    refine k_iconst O dX8_neighbours_59 (v := 1) (by decide) ?_
    refine k_iload_n O dX8_neighbours_60 1 rfl ?_
    refine k_iconst O dX8_neighbours_61 (v := 1) (by decide) ?_
    refine k_iadd O dX8_neighbours_62 ?_
    refine k_ishl O dX8_neighbours_63 ?_
    refine k_goto O 68 dX8_neighbours_64 (by decide) ?_
    refine k_ior O dX8_neighbours_68 ?_
    exact k_iret O dX8_neighbours_69 (rt_int h ho)
set_option maxHeartbeats 4000000 in
set_option maxRecDepth 100000 in
theorem w_X8_neighbours_31 {X : Cx} {rz : Int32} {wz : Wd} (O : Ok X cX8_neighbours RX8 ((some .int)) wsX8_neighbours (0) (0) 2) (ho : Ro X (some (.int rz), wz)) {w : Wd} {v0 : Int32} {s0 : Int32} {s1 : Int32} (h : b_X8_neighbours_31 w v0 s0 s1 = some (rz, wz)) : Wk X w 31 [(0, .int v0)] [.int s0, .int s1] := by
  unfold b_X8_neighbours_31 at h
  refine k_ior O dX8_neighbours_31 ?_
  refine k_topi (fun x1 ex1 => ?_)
  have h := nm_use h x1 ex1
  refine k_istore_n (lv' := [(1, .int x1), (0, .int v0)]) O dX8_neighbours_32 rfl (by decide) rfl ?_
  refine k_iload_n O dX8_neighbours_33 0 rfl ?_
  refine k_iload_n O dX8_neighbours_34 1 rfl ?_
  refine k_iconst O dX8_neighbours_35 (v := 4) (by decide) ?_
  refine k_irem O dX8_neighbours_36 (by decide) ?_
  refine k_if_le O 48 dX8_neighbours_37 (by decide) (fun c2 => ?_) (fun c2 => ?_)
  · have h := ite_t c2 h
    refine k_iconst O dX8_neighbours_48 (v := 0) (by decide) ?_
    exact k_sub [1] rfl (w_X8_neighbours_49 O ho h)
  · have h := ite_f c2 h
    refine k_iconst O dX8_neighbours_40 (v := 1) (by decide) ?_
    refine k_iload_n O dX8_neighbours_41 1 rfl ?_
    refine k_iconst O dX8_neighbours_42 (v := 1) (by decide) ?_
    refine k_isub O dX8_neighbours_43 ?_
    refine k_ishl O dX8_neighbours_44 ?_
    refine k_goto O 49 dX8_neighbours_45 (by decide) ?_
    exact k_sub [1] rfl (w_X8_neighbours_49 O ho h)
set_option maxHeartbeats 4000000 in
set_option maxRecDepth 100000 in
theorem w_X8_neighbours_14 {X : Cx} {rz : Int32} {wz : Wd} (O : Ok X cX8_neighbours RX8 ((some .int)) wsX8_neighbours (0) (0) 2) (ho : Ro X (some (.int rz), wz)) {w : Wd} {v0 : Int32} {s0 : Int32} (h : b_X8_neighbours_14 w v0 s0 = some (rz, wz)) : Wk X w 14 [(0, .int v0)] [.int s0] := by
  unfold b_X8_neighbours_14 at h
  refine k_istore_n (lv' := [(1, .int s0), (0, .int v0)]) O dX8_neighbours_14 rfl (by decide) rfl ?_
  refine k_iload_n O dX8_neighbours_15 0 rfl ?_
  refine k_iload_n O dX8_neighbours_16 1 rfl ?_
  refine k_bipush O dX8_neighbours_17 (v := 8) (by decide) ?_
  refine k_icmp_ge O 30 dX8_neighbours_19 (by decide) (fun c1 => ?_) (fun c1 => ?_)
  · have h := ite_t c1 h
    refine k_iconst O dX8_neighbours_30 (v := 0) (by decide) ?_
    exact k_sub [1] rfl (w_X8_neighbours_31 O ho h)
  · have h := ite_f c1 h
    refine k_iconst O dX8_neighbours_22 (v := 1) (by decide) ?_
    refine k_iload_n O dX8_neighbours_23 1 rfl ?_
    refine k_iconst O dX8_neighbours_24 (v := 4) (by decide) ?_
    refine k_iadd O dX8_neighbours_25 ?_
    refine k_ishl O dX8_neighbours_26 ?_
    refine k_goto O 31 dX8_neighbours_27 (by decide) ?_
    exact k_sub [1] rfl (w_X8_neighbours_31 O ho h)
set_option maxHeartbeats 4000000 in
set_option maxRecDepth 100000 in
theorem w_X8_neighbours_0 {X : Cx} {rz : Int32} {wz : Wd} (O : Ok X cX8_neighbours RX8 ((some .int)) wsX8_neighbours (0) (0) 2) (ho : Ro X (some (.int rz), wz)) {w : Wd} {v0 : Int32} (h : b_X8_neighbours_0 w v0 = some (rz, wz)) : Wk X w 0 [(0, .int v0)] [] := by
  unfold b_X8_neighbours_0 at h
  refine k_iload_n O dX8_neighbours_0 0 rfl ?_
  refine k_iconst O dX8_neighbours_1 (v := 4) (by decide) ?_
  refine k_icmp_lt O 13 dX8_neighbours_2 (by decide) (fun c1 => ?_) (fun c1 => ?_)
  · have h := ite_t c1 h
    refine k_iconst O dX8_neighbours_13 (v := 0) (by decide) ?_
    exact k_sub [0] rfl (w_X8_neighbours_14 O ho h)
  · have h := ite_f c1 h
    refine k_iconst O dX8_neighbours_5 (v := 1) (by decide) ?_
    refine k_iload_n O dX8_neighbours_6 0 rfl ?_
    refine k_iconst O dX8_neighbours_7 (v := 4) (by decide) ?_
    refine k_isub O dX8_neighbours_8 ?_
    refine k_ishl O dX8_neighbours_9 ?_
    refine k_goto O 14 dX8_neighbours_10 (by decide) ?_
    exact k_sub [0] rfl (w_X8_neighbours_14 O ho h)
theorem c_X8_neighbours (l : Launch) (G : Gl) {w wz : Wd} {v0 : Int32} {rz : Int32} (h : f_X8_neighbours w v0 = some (rz, wz)) : Ct l yX8_neighbours wsX8_neighbours (0) (0) G [.int v0] w (some (.int rz), wz) := by
  refine Ct.start (by decide) rfl rfl rfl (Nat.le_of_ble_eq_true rfl) (fun X hG ho hl O => ?_)
  subst hG
  subst hl
  exact k_sub [0] rfl (w_X8_neighbours_0 O ho h)
def b_X8_nearTo_0 (w : Wd) (v1 : Int32) : Option (Int32 × Wd) := bd (f_X8_neighbours w v1) (fun r3 w2 => some (r3 &&& ((w2.1 105 12) ^^^ ((-1 : Int32))), w2))
def f_X8_nearTo (w : Wd) (v1 : Int32) : Option (Int32 × Wd) := b_X8_nearTo_0 w v1
set_option maxHeartbeats 4000000 in
set_option maxRecDepth 100000 in
theorem w_X8_nearTo_0 {X : Cx} {rz : Int32} {wz : Wd} (O : Ok X cX8_nearTo RX8 ((some .int)) wsX8_nearTo (1) (21) 2) (hN : 121 ≤ g_N X.1) (ho : Ro X (some (.int rz), wz)) {w : Wd} {v1 : Int32} (h : b_X8_nearTo_0 w v1 = some (rz, wz)) : Wk X w 0 [(0, .ref (g_ad X.1 105)), (1, .int v1)] [] := by
  unfold b_X8_nearTo_0 at h
  refine k_iload_n O dX8_nearTo_0 1 rfl ?_
  obtain ⟨r3, w2, hc1, h⟩ := bd_some h
  refine k_callSi O (As := [.int v1]) (rest := []) (c_X8_neighbours (x_l X) X.1 hc1) gX8_nearTo_X8_neighbours rfl hd_X8_neighbours (by decide) rfl rfl (Nat.le_of_ble_eq_true rfl) dX8_nearTo_1 ?_
  refine k_aload_n O dX8_nearTo_4 0 rfl ?_
  refine k_get O (v := .int (w2.1 105 12)) (k := 105) (by omega) E_105 rfl 12 (by decide) (fun _ h9 => List.mem_cons_of_mem _ (List.mem_append_right _ h9)) (List.mem_of_getElem? (i := 1) rfl) rfl dX8_nearTo_5 ?_
  refine k_iconst O dX8_nearTo_8 (v := -1) (by decide) ?_
  refine k_ixor O dX8_nearTo_9 ?_
  refine k_iand O dX8_nearTo_10 ?_
  exact k_iret O dX8_nearTo_11 (rt_int h ho)
theorem c_X8_nearTo (l : Launch) (G : Gl) (hN : 121 ≤ g_N G) {w wz : Wd} {v1 : Int32} {rz : Int32} (h : f_X8_nearTo w v1 = some (rz, wz)) : Ct l yX8_nearTo wsX8_nearTo (1) (21) G [.ref (g_ad G 105), .int v1] w (some (.int rz), wz) := by
  refine Ct.start (by decide) rfl rfl rfl (Nat.le_of_ble_eq_true rfl) (fun X hG ho hl O => ?_)
  subst hG
  subst hl
  exact k_sub [0, 1] rfl (w_X8_nearTo_0 O hN ho h)
def b_X8_near_0 (w : Wd) (v1 : Int32) : Option (Int32 × Wd) := bd (f_X8_isCell w v1) (fun r3 w2 => if r3 = 0 then (some ((-1 : Int32), w2)) else (bd (f_X8_nearTo w2 v1) (fun r7 w6 => some (r7, w6))))
def f_X8_near (w : Wd) (v1 : Int32) : Option (Int32 × Wd) := b_X8_near_0 w v1
set_option maxHeartbeats 4000000 in
set_option maxRecDepth 100000 in
theorem w_X8_near_0 {X : Cx} {rz : Int32} {wz : Wd} (O : Ok X cX8_near RX8 ((some .int)) wsX8_near (2) (45) 2) (hN : 121 ≤ g_N X.1) (ho : Ro X (some (.int rz), wz)) {w : Wd} {v1 : Int32} (h : b_X8_near_0 w v1 = some (rz, wz)) : Wk X w 0 [(0, .ref (g_ad X.1 105)), (1, .int v1)] [] := by
  unfold b_X8_near_0 at h
  refine k_iload_n O dX8_near_0 1 rfl ?_
  obtain ⟨r3, w2, hc1, h⟩ := bd_some h
  refine k_callSi O (As := [.int v1]) (rest := []) (c_X8_isCell (x_l X) X.1 hc1) gX8_near_X8_isCell rfl hd_X8_isCell (by decide) rfl rfl (Nat.le_of_ble_eq_true rfl) dX8_near_1 ?_
  refine k_if_eq O 15 dX8_near_4 (by decide) (fun c4 => ?_) (fun c4 => ?_)
  · have h := ite_t c4 h
    refine k_iconst O dX8_near_15 (v := -1) (by decide) ?_
    exact k_iret O dX8_near_16 (rt_int h ho)
  · have h := ite_f c4 h
    refine k_aload_n O dX8_near_7 0 rfl ?_
    refine k_iload_n O dX8_near_8 1 rfl ?_
    obtain ⟨r7, w6, hc5, h⟩ := bd_some h
    refine k_callVi O (As := [.int v1]) (rest := []) (k := 105) (c_X8_nearTo (x_l X) X.1 hN hc5) gX8_near_X8_nearTo rfl hd_X8_nearTo (by decide) (by omega) E_105 rfl rfl rfl rfl rfl (Nat.le_of_ble_eq_true rfl) dX8_near_9 ?_
    refine k_goto O 16 dX8_near_12 (by decide) ?_
    exact k_iret O dX8_near_16 (rt_int h ho)
theorem c_X8_near (l : Launch) (G : Gl) (hN : 121 ≤ g_N G) {w wz : Wd} {v1 : Int32} {rz : Int32} (h : f_X8_near w v1 = some (rz, wz)) : Ct l yX8_near wsX8_near (2) (45) G [.ref (g_ad G 105), .int v1] w (some (.int rz), wz) := by
  refine Ct.start (by decide) rfl rfl rfl (Nat.le_of_ble_eq_true rfl) (fun X hG ho hl O => ?_)
  subst hG
  subst hl
  exact k_sub [0, 1] rfl (w_X8_near_0 O hN ho h)
def b_X8_frost_0 (w : Wd) (v1 : Int32) : Option (Int32 × Wd) := nm (w.1 105 13) (fun x1 => gd (bb v1) (nm (up w 105 13 v1) (fun w3 => if x1 = v1 then (some ((0 : Int32), w3)) else (some ((1 : Int32), w3)))))
def f_X8_frost (w : Wd) (v1 : Int32) : Option (Int32 × Wd) := b_X8_frost_0 w v1
set_option maxHeartbeats 4000000 in
set_option maxRecDepth 100000 in
theorem w_X8_frost_0 {X : Cx} {rz : Int32} {wz : Wd} (O : Ok X cX8_frost RX8 ((some .int)) wsX8_frost (0) (0) 3) (hN : 121 ≤ g_N X.1) (ho : Ro X (some (.int rz), wz)) {w : Wd} {v1 : Int32} (h : b_X8_frost_0 w v1 = some (rz, wz)) : Wk X w 0 [(0, .ref (g_ad X.1 105)), (1, .int v1)] [] := by
  unfold b_X8_frost_0 at h
  refine k_aload_n O dX8_frost_0 0 rfl ?_
  refine k_get O (v := .int (w.1 105 13)) (k := 105) (by omega) E_105 rfl 13 (by decide) (fun _ h9 => List.mem_cons_of_mem _ (List.mem_append_right _ h9)) (List.mem_of_getElem? (i := 1) rfl) rfl dX8_frost_1 ?_
  refine k_topi (fun x1 ex1 => ?_)
  have h := nm_use h x1 ex1
  refine k_istore_n (lv' := [(2, .int x1), (0, .ref (g_ad X.1 105)), (1, .int v1)]) O dX8_frost_4 rfl (by decide) rfl ?_
  refine k_aload_n O dX8_frost_5 1 rfl ?_
  refine k_iload_n O dX8_frost_6 2 rfl ?_
  obtain ⟨g2, h⟩ := gd_some h
  refine k_puti O (k := 105) tyX8 tyX8_ok nmX8 (by omega) E_105 rfl 13 (by decide) (fun _ h9 => List.mem_cons_of_mem _ (List.mem_append_right _ h9)) (List.mem_of_getElem? (i := 1) rfl) rfl (bb_nar g2) (bb_fit g2) (Nat.le_of_ble_eq_true rfl) (E_105.trans rfl) dX8_frost_7 ?_
  refine k_nw (fun w3 ew3 => ?_)
  have h := nm_use h w3 ew3
  refine k_iload_n O dX8_frost_10 0 rfl ?_
  refine k_iload_n O dX8_frost_11 2 rfl ?_
  refine k_icmp_ne O 19 dX8_frost_12 (by decide) (fun c4 => ?_) (fun c4 => ?_)
  · have h := ite_f c4 h
    refine k_iconst O dX8_frost_19 (v := 1) (by decide) ?_
    exact k_iret O dX8_frost_20 (rt_int h ho)
  · have h := ite_t c4 h
    refine k_iconst O dX8_frost_15 (v := 0) (by decide) ?_
    refine k_goto O 20 dX8_frost_16 (by decide) ?_
    exact k_iret O dX8_frost_20 (rt_int h ho)
theorem c_X8_frost (l : Launch) (G : Gl) (hN : 121 ≤ g_N G) {w wz : Wd} {v1 : Int32} {rz : Int32} (h : f_X8_frost w v1 = some (rz, wz)) : Ct l yX8_frost wsX8_frost (0) (0) G [.ref (g_ad G 105), .int v1] w (some (.int rz), wz) := by
  refine Ct.start (by decide) rfl rfl rfl (Nat.le_of_ble_eq_true rfl) (fun X hG ho hl O => ?_)
  subst hG
  subst hl
  exact k_sub [0, 1] rfl (w_X8_frost_0 O hN ho h)
def b_X8_catches_32 (w : Wd) : Option (Int32 × Wd) := some ((1 : Int32), w)
def b_X8_catches_21 (w : Wd) (v2 : Int32) : Option (Int32 × Wd) := gd (inb v2 4) (if (w.1 112 v2.toNatClampNeg) = ((-9 : Int32)) then (some ((0 : Int32), w)) else (b_X8_catches_32 w))
def b_X8_catches_0 (w : Wd) (v1 : Int32) (v2 : Int32) : Option (Int32 × Wd) := gd (inb v1 7) (nm (w.1 110 v1.toNatClampNeg) (fun x2 => if x2 = ((4 : Int32)) then (b_X8_catches_32 w) else (if x2 = 0 then (b_X8_catches_21 w v2) else (if x2 = ((2 : Int32)) then (b_X8_catches_21 w v2) else (some ((0 : Int32), w))))))
def f_X8_catches (w : Wd) (v1 : Int32) (v2 : Int32) : Option (Int32 × Wd) := b_X8_catches_0 w v1 v2
set_option maxHeartbeats 4000000 in
set_option maxRecDepth 100000 in
theorem w_X8_catches_32 {X : Cx} {rz : Int32} {wz : Wd} (O : Ok X cX8_catches RX8 ((some .boolean)) wsX8_catches (0) (0) 4) (hN : 121 ≤ g_N X.1) (ho : Ro X (some (.int rz), wz)) {w : Wd} (h : b_X8_catches_32 w  = some (rz, wz)) : Wk X w 32 [] [] := by
  unfold b_X8_catches_32 at h
  refine k_iconst O dX8_catches_32 (v := 1) (by decide) ?_
  refine k_goto O 37 dX8_catches_33 (by decide) ?_
  exact k_zret O (by decide) dX8_catches_37 (rt_int h ho)
set_option maxHeartbeats 4000000 in
set_option maxRecDepth 100000 in
theorem w_X8_catches_21 {X : Cx} {rz : Int32} {wz : Wd} (O : Ok X cX8_catches RX8 ((some .boolean)) wsX8_catches (0) (0) 4) (hN : 121 ≤ g_N X.1) (ho : Ro X (some (.int rz), wz)) {w : Wd} {v2 : Int32} (h : b_X8_catches_21 w v2 = some (rz, wz)) : Wk X w 21 [(0, .ref (g_ad X.1 105)), (2, .int v2)] [] := by
  unfold b_X8_catches_21 at h
  refine k_aload_n O dX8_catches_21 0 rfl ?_
  refine k_get O (v := .ref (g_ad X.1 112)) (k := 105) (by omega) E_105 rfl 9 (by decide) (fun _ h9 => List.mem_cons_of_mem _ (List.mem_append_right _ h9)) (List.mem_of_getElem? (i := 2) rfl) rfl dX8_catches_22 ?_
  refine k_iload_n O dX8_catches_25 1 rfl ?_
  obtain ⟨g1, h⟩ := gd_some h
  refine k_iald O (k := 112) (by omega) E_112 g1 dX8_catches_26 ?_
  refine k_bipush O dX8_catches_27 (v := -9) (by decide) ?_
  refine k_icmp_eq O 36 dX8_catches_29 (by decide) (fun c2 => ?_) (fun c2 => ?_)
  · have h := ite_t c2 h
    refine k_iconst O dX8_catches_36 (v := 0) (by decide) ?_
    exact k_zret O (by decide) dX8_catches_37 (rt_int h ho)
  · have h := ite_f c2 h
    exact k_sub [] rfl (w_X8_catches_32 O hN ho h)
set_option maxHeartbeats 4000000 in
set_option maxRecDepth 100000 in
theorem w_X8_catches_0 {X : Cx} {rz : Int32} {wz : Wd} (O : Ok X cX8_catches RX8 ((some .boolean)) wsX8_catches (0) (0) 4) (hN : 121 ≤ g_N X.1) (ho : Ro X (some (.int rz), wz)) {w : Wd} {v1 : Int32} {v2 : Int32} (h : b_X8_catches_0 w v1 v2 = some (rz, wz)) : Wk X w 0 [(0, .ref (g_ad X.1 105)), (1, .int v1), (2, .int v2)] [] := by
  unfold b_X8_catches_0 at h
  refine k_aload_n O dX8_catches_0 0 rfl ?_
  refine k_get O (v := .ref (g_ad X.1 110)) (k := 105) (by omega) E_105 rfl 7 (by decide) (fun _ h9 => List.mem_cons_of_mem _ (List.mem_append_right _ h9)) (List.mem_of_getElem? (i := 1) rfl) rfl dX8_catches_1 ?_
  refine k_iload_n O dX8_catches_4 1 rfl ?_
  obtain ⟨g1, h⟩ := gd_some h
  refine k_iald O (k := 110) (by omega) E_110 g1 dX8_catches_5 ?_
  refine k_topi (fun x2 ex2 => ?_)
  have h := nm_use h x2 ex2
  refine k_istore_n (lv' := [(3, .int x2), (0, .ref (g_ad X.1 105)), (1, .int v1), (2, .int v2)]) O dX8_catches_6 rfl (by decide) rfl ?_
  refine k_iload_n O dX8_catches_7 0 rfl ?_
  refine k_iconst O dX8_catches_8 (v := 4) (by decide) ?_
  refine k_icmp_eq O 32 dX8_catches_9 (by decide) (fun c3 => ?_) (fun c3 => ?_)
  · have h := ite_t c3 h
    exact k_sub [] rfl (w_X8_catches_32 O hN ho h)
  · have h := ite_f c3 h
    refine k_iload_n O dX8_catches_12 0 rfl ?_
    refine k_if_eq O 21 dX8_catches_13 (by decide) (fun c4 => ?_) (fun c4 => ?_)
    · have h := ite_t c4 h
      exact k_sub [1, 3] rfl (w_X8_catches_21 O hN ho h)
    · have h := ite_f c4 h
      refine k_iload_n O dX8_catches_16 0 rfl ?_
      refine k_iconst O dX8_catches_17 (v := 2) (by decide) ?_
      refine k_icmp_ne O 36 dX8_catches_18 (by decide) (fun c5 => ?_) (fun c5 => ?_)
      · have h := ite_f c5 h
        refine k_iconst O dX8_catches_36 (v := 0) (by decide) ?_
        exact k_zret O (by decide) dX8_catches_37 (rt_int h ho)
      · have h := ite_t c5 h
        exact k_sub [1, 3] rfl (w_X8_catches_21 O hN ho h)
theorem c_X8_catches (l : Launch) (G : Gl) (hN : 121 ≤ g_N G) {w wz : Wd} {v1 : Int32} {v2 : Int32} {rz : Int32} (h : f_X8_catches w v1 v2 = some (rz, wz)) : Ct l yX8_catches wsX8_catches (0) (0) G [.ref (g_ad G 105), .int v1, .int v2] w (some (.int rz), wz) := by
  refine Ct.start (by decide) rfl rfl rfl (Nat.le_of_ble_eq_true rfl) (fun X hG ho hl O => ?_)
  subst hG
  subst hl
  exact k_sub [0, 1, 2] rfl (w_X8_catches_0 O hN ho h)
def b_X8_wave_113 (kb30 : Wd → Int32 → Int32 → Int32 → Option (Int32 × Wd)) (kb40 : Wd → Int32 → Int32 → Int32 → Int32 → Option (Int32 × Wd)) (kb75 : Wd → Int32 → Int32 → Int32 → Int32 → Int32 → Int32 → Option (Int32 × Wd)) (w : Wd) (v1 : Int32) (v4 : Int32) (v5 : Int32) (v6 : Int32) (v7 : Int32) (s0 : Int32) (s1 : Int32) : Option (Int32 × Wd) := nm (s1 ||| s0) (fun x1 => nm (v7 + (1 : Int32)) (fun x2 => kb75 w v1 x1 v4 v5 v6 x2))
def b_X8_wave_112 (kb30 : Wd → Int32 → Int32 → Int32 → Option (Int32 × Wd)) (kb40 : Wd → Int32 → Int32 → Int32 → Int32 → Option (Int32 × Wd)) (kb75 : Wd → Int32 → Int32 → Int32 → Int32 → Int32 → Int32 → Option (Int32 × Wd)) (w : Wd) (v1 : Int32) (v4 : Int32) (v5 : Int32) (v6 : Int32) (v7 : Int32) (s0 : Int32) : Option (Int32 × Wd) := b_X8_wave_113 kb30 kb40 kb75 w v1 v4 v5 v6 v7 ((0 : Int32)) s0
def b_X8_wave_75 (kb30 : Wd → Int32 → Int32 → Int32 → Option (Int32 × Wd)) (kb40 : Wd → Int32 → Int32 → Int32 → Int32 → Option (Int32 × Wd)) : Nat → Wd → Int32 → Int32 → Int32 → Int32 → Int32 → Int32 → Option (Int32 × Wd)
  | 0, _, _, _, _, _, _, _ => none
  | n + 1, w, v1, v3, v4, v5, v6, v7 => if ((7 : Int32)) ≤ v7 then (nm (v5 + (1 : Int32)) (fun x2 => kb40 w v1 v3 v4 x2)) else (if ((v6 >>> (v7 &&& 31)) &&& ((1 : Int32))) = ((1 : Int32)) then (gd (inb v7 7) (if (w.1 110 v7.toNatClampNeg) = ((3 : Int32)) then (b_X8_wave_112 kb30 kb40 (b_X8_wave_75 kb30 kb40 n) w v1 v4 v5 v6 v7 v3) else (b_X8_wave_113 kb30 kb40 (b_X8_wave_75 kb30 kb40 n) w v1 v4 v5 v6 v7 (((1 : Int32)) <<< (v7 &&& 31)) v3))) else (b_X8_wave_112 kb30 kb40 (b_X8_wave_75 kb30 kb40 n) w v1 v4 v5 v6 v7 v3))
def b_X8_wave_70 (kb30 : Wd → Int32 → Int32 → Int32 → Option (Int32 × Wd)) (kb40 : Wd → Int32 → Int32 → Int32 → Int32 → Option (Int32 × Wd)) (w : Wd) (v1 : Int32) (v3 : Int32) (v4 : Int32) (v5 : Int32) (s0 : Int32) : Option (Int32 × Wd) := b_X8_wave_75 kb30 kb40 LF w v1 v3 v4 v5 s0 ((0 : Int32))
def b_X8_wave_40 (kb30 : Wd → Int32 → Int32 → Int32 → Option (Int32 × Wd)) : Nat → Wd → Int32 → Int32 → Int32 → Int32 → Option (Int32 × Wd)
  | 0, _, _, _, _, _ => none
  | n + 1, w, v1, v3, v4, v5 => if ((7 : Int32)) ≤ v5 then (nm (v4 + (1 : Int32)) (fun x2 => kb30 w v1 v3 x2)) else (if ((v3 >>> (v5 &&& 31)) &&& ((1 : Int32))) = ((1 : Int32)) then (gd (inb v5 7) (b_X8_wave_70 kb30 (b_X8_wave_40 kb30 n) w v1 v3 v4 v5 ((w.1 111 v5.toNatClampNeg) &&& v1))) else (b_X8_wave_70 kb30 (b_X8_wave_40 kb30 n) w v1 v3 v4 v5 ((0 : Int32))))
def b_X8_wave_30 : Nat → Wd → Int32 → Int32 → Int32 → Option (Int32 × Wd)
  | 0, _, _, _, _ => none
  | n + 1, w, v1, v3, v4 => if ((7 : Int32)) ≤ v4 then (some (v3, w)) else (b_X8_wave_40 (b_X8_wave_30 n) LF w v1 v3 v4 ((0 : Int32)))
def b_X8_wave_26 (w : Wd) (v1 : Int32) (s0 : Int32) : Option (Int32 × Wd) := b_X8_wave_30 LF w v1 s0 ((0 : Int32))
def b_X8_wave_25 (w : Wd) (v1 : Int32) : Option (Int32 × Wd) := b_X8_wave_26 w v1 ((0 : Int32))
def b_X8_wave_0 (w : Wd) (v1 : Int32) (v2 : Int32) : Option (Int32 × Wd) := if ((v1 >>> (v2 &&& 31)) &&& ((1 : Int32))) = ((1 : Int32)) then (gd (inb v2 7) (if (w.1 110 v2.toNatClampNeg) = ((3 : Int32)) then (b_X8_wave_25 w v1) else (b_X8_wave_26 w v1 (((1 : Int32)) <<< (v2 &&& 31))))) else (b_X8_wave_25 w v1)
def f_X8_wave (w : Wd) (v1 : Int32) (v2 : Int32) : Option (Int32 × Wd) := b_X8_wave_0 w v1 v2
set_option maxHeartbeats 4000000 in
set_option maxRecDepth 100000 in
theorem w_X8_wave_113 {X : Cx} {rz : Int32} {wz : Wd} (O : Ok X cX8_wave RX8 ((some .int)) wsX8_wave (0) (0) 8) (hN : 121 ≤ g_N X.1) {kb30 : Wd → Int32 → Int32 → Int32 → Option (Int32 × Wd)} (hk30 : ∀ {w : Wd} {v1 : Int32} {v3 : Int32} {v4 : Int32}, kb30 w v1 v3 v4 = some (rz, wz) → Wk X w 30 [(0, .ref (g_ad X.1 105)), (1, .int v1), (3, .int v3), (4, .int v4)] []) {kb40 : Wd → Int32 → Int32 → Int32 → Int32 → Option (Int32 × Wd)} (hk40 : ∀ {w : Wd} {v1 : Int32} {v3 : Int32} {v4 : Int32} {v5 : Int32}, kb40 w v1 v3 v4 v5 = some (rz, wz) → Wk X w 40 [(0, .ref (g_ad X.1 105)), (1, .int v1), (3, .int v3), (4, .int v4), (5, .int v5)] []) {kb75 : Wd → Int32 → Int32 → Int32 → Int32 → Int32 → Int32 → Option (Int32 × Wd)} (hk75 : ∀ {w : Wd} {v1 : Int32} {v3 : Int32} {v4 : Int32} {v5 : Int32} {v6 : Int32} {v7 : Int32}, kb75 w v1 v3 v4 v5 v6 v7 = some (rz, wz) → Wk X w 75 [(0, .ref (g_ad X.1 105)), (1, .int v1), (3, .int v3), (4, .int v4), (5, .int v5), (6, .int v6), (7, .int v7)] []) (ho : Ro X (some (.int rz), wz)) {w : Wd} {v1 : Int32} {v4 : Int32} {v5 : Int32} {v6 : Int32} {v7 : Int32} {s0 : Int32} {s1 : Int32} (h : b_X8_wave_113 kb30 kb40 kb75 w v1 v4 v5 v6 v7 s0 s1 = some (rz, wz)) : Wk X w 113 [(0, .ref (g_ad X.1 105)), (1, .int v1), (4, .int v4), (5, .int v5), (6, .int v6), (7, .int v7)] [.int s0, .int s1] := by
  unfold b_X8_wave_113 at h
  refine k_ior O dX8_wave_113 ?_
  refine k_topi (fun x1 ex1 => ?_)
  have h := nm_use h x1 ex1
  refine k_istore_n (lv' := [(3, .int x1), (0, .ref (g_ad X.1 105)), (1, .int v1), (4, .int v4), (5, .int v5), (6, .int v6), (7, .int v7)]) O dX8_wave_114 rfl (by decide) rfl ?_
  obtain ⟨x2, ex2⟩ : ∃ z : Int32, z = v7 + (1 : Int32) := ⟨_, rfl⟩
  have h := nm_use h x2 ex2
  refine k_iinc (lv' := [(7, .int x2), (3, .int x1), (0, .ref (g_ad X.1 105)), (1, .int v1), (4, .int v4), (5, .int v5), (6, .int v6)]) O dX8_wave_115 6 rfl (by rw [ex2]; rfl) (by decide) rfl ?_
  refine k_goto O 75 dX8_wave_118 (by decide) ?_
  exact k_sub [2, 3, 1, 4, 5, 6, 0] rfl (hk75 h)
set_option maxHeartbeats 4000000 in
set_option maxRecDepth 100000 in
theorem w_X8_wave_112 {X : Cx} {rz : Int32} {wz : Wd} (O : Ok X cX8_wave RX8 ((some .int)) wsX8_wave (0) (0) 8) (hN : 121 ≤ g_N X.1) {kb30 : Wd → Int32 → Int32 → Int32 → Option (Int32 × Wd)} (hk30 : ∀ {w : Wd} {v1 : Int32} {v3 : Int32} {v4 : Int32}, kb30 w v1 v3 v4 = some (rz, wz) → Wk X w 30 [(0, .ref (g_ad X.1 105)), (1, .int v1), (3, .int v3), (4, .int v4)] []) {kb40 : Wd → Int32 → Int32 → Int32 → Int32 → Option (Int32 × Wd)} (hk40 : ∀ {w : Wd} {v1 : Int32} {v3 : Int32} {v4 : Int32} {v5 : Int32}, kb40 w v1 v3 v4 v5 = some (rz, wz) → Wk X w 40 [(0, .ref (g_ad X.1 105)), (1, .int v1), (3, .int v3), (4, .int v4), (5, .int v5)] []) {kb75 : Wd → Int32 → Int32 → Int32 → Int32 → Int32 → Int32 → Option (Int32 × Wd)} (hk75 : ∀ {w : Wd} {v1 : Int32} {v3 : Int32} {v4 : Int32} {v5 : Int32} {v6 : Int32} {v7 : Int32}, kb75 w v1 v3 v4 v5 v6 v7 = some (rz, wz) → Wk X w 75 [(0, .ref (g_ad X.1 105)), (1, .int v1), (3, .int v3), (4, .int v4), (5, .int v5), (6, .int v6), (7, .int v7)] []) (ho : Ro X (some (.int rz), wz)) {w : Wd} {v1 : Int32} {v4 : Int32} {v5 : Int32} {v6 : Int32} {v7 : Int32} {s0 : Int32} (h : b_X8_wave_112 kb30 kb40 kb75 w v1 v4 v5 v6 v7 s0 = some (rz, wz)) : Wk X w 112 [(0, .ref (g_ad X.1 105)), (1, .int v1), (4, .int v4), (5, .int v5), (6, .int v6), (7, .int v7)] [.int s0] := by
  unfold b_X8_wave_112 at h
  refine k_iconst O dX8_wave_112 (v := 0) (by decide) ?_
  exact k_sub [0, 1, 2, 3, 4, 5] rfl (w_X8_wave_113 O hN hk30 hk40 hk75 ho h)
set_option maxHeartbeats 4000000 in
set_option maxRecDepth 100000 in
theorem w_X8_wave_75 {X : Cx} {rz : Int32} {wz : Wd} (O : Ok X cX8_wave RX8 ((some .int)) wsX8_wave (0) (0) 8) (hN : 121 ≤ g_N X.1) {kb30 : Wd → Int32 → Int32 → Int32 → Option (Int32 × Wd)} (hk30 : ∀ {w : Wd} {v1 : Int32} {v3 : Int32} {v4 : Int32}, kb30 w v1 v3 v4 = some (rz, wz) → Wk X w 30 [(0, .ref (g_ad X.1 105)), (1, .int v1), (3, .int v3), (4, .int v4)] []) {kb40 : Wd → Int32 → Int32 → Int32 → Int32 → Option (Int32 × Wd)} (hk40 : ∀ {w : Wd} {v1 : Int32} {v3 : Int32} {v4 : Int32} {v5 : Int32}, kb40 w v1 v3 v4 v5 = some (rz, wz) → Wk X w 40 [(0, .ref (g_ad X.1 105)), (1, .int v1), (3, .int v3), (4, .int v4), (5, .int v5)] []) (ho : Ro X (some (.int rz), wz)) (n : Nat) : ∀ {w : Wd} {v1 : Int32} {v3 : Int32} {v4 : Int32} {v5 : Int32} {v6 : Int32} {v7 : Int32}, b_X8_wave_75 kb30 kb40 n w v1 v3 v4 v5 v6 v7 = some (rz, wz) → Wk X w 75 [(0, .ref (g_ad X.1 105)), (1, .int v1), (3, .int v3), (4, .int v4), (5, .int v5), (6, .int v6), (7, .int v7)] [] := by
  induction n with
  | zero => intro w v1 v3 v4 v5 v6 v7 h; exact nomatch (show (none : Option (Int32 × Wd)) = some _ from h)
  | succ n ih =>
    intro w v1 v3 v4 v5 v6 v7 h
    rw [b_X8_wave_75] at h
    refine k_iload O dX8_wave_75 6 rfl ?_
    refine k_bipush O dX8_wave_77 (v := 7) (by decide) ?_
    refine k_icmp_ge O 121 dX8_wave_79 (by decide) (fun c1 => ?_) (fun c1 => ?_)
    · have h := ite_t c1 h
      obtain ⟨x2, ex2⟩ : ∃ z : Int32, z = v5 + (1 : Int32) := ⟨_, rfl⟩
      have h := nm_use h x2 ex2
      refine k_iinc (lv' := [(5, .int x2), (0, .ref (g_ad X.1 105)), (1, .int v1), (3, .int v3), (4, .int v4), (6, .int v6), (7, .int v7)]) O dX8_wave_121 4 rfl (by rw [ex2]; rfl) (by decide) rfl ?_
      refine k_goto O 40 dX8_wave_124 (by decide) ?_
      exact k_sub [1, 2, 3, 4, 0] rfl (hk40 h)
    · have h := ite_f c1 h
      refine k_iload_n O dX8_wave_82 2 rfl ?_
      refine k_iload O dX8_wave_83 5 rfl ?_
      refine k_iload O dX8_wave_85 6 rfl ?_
      refine k_ishr O dX8_wave_87 ?_
      refine k_iconst O dX8_wave_88 (v := 1) (by decide) ?_
      refine k_iand O dX8_wave_89 ?_
      refine k_iconst O dX8_wave_90 (v := 1) (by decide) ?_
      refine k_icmp_ne O 112 dX8_wave_91 (by decide) (fun c3 => ?_) (fun c3 => ?_)
      · have h := ite_f c3 h
        exact k_sub [0, 1, 3, 4, 5, 6] rfl (w_X8_wave_112 O hN hk30 hk40 (fun {_} {_} {_} {_} {_} {_} {_} h9 => ih h9) ho h)
      · have h := ite_t c3 h
        refine k_aload_n O dX8_wave_94 0 rfl ?_
        refine k_get O (v := .ref (g_ad X.1 110)) (k := 105) (by omega) E_105 rfl 7 (by decide) (fun _ h9 => List.mem_cons_of_mem _ (List.mem_append_right _ h9)) (List.mem_of_getElem? (i := 1) rfl) rfl dX8_wave_95 ?_
        refine k_iload O dX8_wave_98 6 rfl ?_
        obtain ⟨g4, h⟩ := gd_some h
        refine k_iald O (k := 110) (by omega) E_110 g4 dX8_wave_100 ?_
        refine k_iconst O dX8_wave_101 (v := 3) (by decide) ?_
        refine k_icmp_eq O 112 dX8_wave_102 (by decide) (fun c5 => ?_) (fun c5 => ?_)
        · have h := ite_t c5 h
          exact k_sub [0, 1, 3, 4, 5, 6] rfl (w_X8_wave_112 O hN hk30 hk40 (fun {_} {_} {_} {_} {_} {_} {_} h9 => ih h9) ho h)
        · have h := ite_f c5 h
          refine k_iconst O dX8_wave_105 (v := 1) (by decide) ?_
          refine k_iload O dX8_wave_106 6 rfl ?_
          refine k_ishl O dX8_wave_108 ?_
          refine k_goto O 113 dX8_wave_109 (by decide) ?_
          exact k_sub [0, 1, 3, 4, 5, 6] rfl (w_X8_wave_113 O hN hk30 hk40 (fun {_} {_} {_} {_} {_} {_} {_} h9 => ih h9) ho h)
set_option maxHeartbeats 4000000 in
set_option maxRecDepth 100000 in
theorem w_X8_wave_70 {X : Cx} {rz : Int32} {wz : Wd} (O : Ok X cX8_wave RX8 ((some .int)) wsX8_wave (0) (0) 8) (hN : 121 ≤ g_N X.1) {kb30 : Wd → Int32 → Int32 → Int32 → Option (Int32 × Wd)} (hk30 : ∀ {w : Wd} {v1 : Int32} {v3 : Int32} {v4 : Int32}, kb30 w v1 v3 v4 = some (rz, wz) → Wk X w 30 [(0, .ref (g_ad X.1 105)), (1, .int v1), (3, .int v3), (4, .int v4)] []) {kb40 : Wd → Int32 → Int32 → Int32 → Int32 → Option (Int32 × Wd)} (hk40 : ∀ {w : Wd} {v1 : Int32} {v3 : Int32} {v4 : Int32} {v5 : Int32}, kb40 w v1 v3 v4 v5 = some (rz, wz) → Wk X w 40 [(0, .ref (g_ad X.1 105)), (1, .int v1), (3, .int v3), (4, .int v4), (5, .int v5)] []) (ho : Ro X (some (.int rz), wz)) {w : Wd} {v1 : Int32} {v3 : Int32} {v4 : Int32} {v5 : Int32} {s0 : Int32} (h : b_X8_wave_70 kb30 kb40 w v1 v3 v4 v5 s0 = some (rz, wz)) : Wk X w 70 [(0, .ref (g_ad X.1 105)), (1, .int v1), (3, .int v3), (4, .int v4), (5, .int v5)] [.int s0] := by
  unfold b_X8_wave_70 at h
  refine k_istore (lv' := [(6, .int s0), (0, .ref (g_ad X.1 105)), (1, .int v1), (3, .int v3), (4, .int v4), (5, .int v5)]) O dX8_wave_70 (by decide) rfl ?_
  refine k_iconst O dX8_wave_72 (v := 0) (by decide) ?_
  refine k_istore (lv' := [(7, .int ((0 : Int32))), (6, .int s0), (0, .ref (g_ad X.1 105)), (1, .int v1), (3, .int v3), (4, .int v4), (5, .int v5)]) O dX8_wave_73 (by decide) rfl ?_
  exact k_sub [2, 3, 4, 5, 6, 1, 0] rfl (w_X8_wave_75 O hN hk30 hk40 ho LF h)
set_option maxHeartbeats 4000000 in
set_option maxRecDepth 100000 in
theorem w_X8_wave_40 {X : Cx} {rz : Int32} {wz : Wd} (O : Ok X cX8_wave RX8 ((some .int)) wsX8_wave (0) (0) 8) (hN : 121 ≤ g_N X.1) {kb30 : Wd → Int32 → Int32 → Int32 → Option (Int32 × Wd)} (hk30 : ∀ {w : Wd} {v1 : Int32} {v3 : Int32} {v4 : Int32}, kb30 w v1 v3 v4 = some (rz, wz) → Wk X w 30 [(0, .ref (g_ad X.1 105)), (1, .int v1), (3, .int v3), (4, .int v4)] []) (ho : Ro X (some (.int rz), wz)) (n : Nat) : ∀ {w : Wd} {v1 : Int32} {v3 : Int32} {v4 : Int32} {v5 : Int32}, b_X8_wave_40 kb30 n w v1 v3 v4 v5 = some (rz, wz) → Wk X w 40 [(0, .ref (g_ad X.1 105)), (1, .int v1), (3, .int v3), (4, .int v4), (5, .int v5)] [] := by
  induction n with
  | zero => intro w v1 v3 v4 v5 h; exact nomatch (show (none : Option (Int32 × Wd)) = some _ from h)
  | succ n ih =>
    intro w v1 v3 v4 v5 h
    rw [b_X8_wave_40] at h
    refine k_iload O dX8_wave_40 4 rfl ?_
    refine k_bipush O dX8_wave_42 (v := 7) (by decide) ?_
    refine k_icmp_ge O 127 dX8_wave_44 (by decide) (fun c1 => ?_) (fun c1 => ?_)
    · have h := ite_t c1 h
      obtain ⟨x2, ex2⟩ : ∃ z : Int32, z = v4 + (1 : Int32) := ⟨_, rfl⟩
      have h := nm_use h x2 ex2
      refine k_iinc (lv' := [(4, .int x2), (0, .ref (g_ad X.1 105)), (1, .int v1), (3, .int v3), (5, .int v5)]) O dX8_wave_127 3 rfl (by rw [ex2]; rfl) (by decide) rfl ?_
      refine k_goto O 30 dX8_wave_130 (by decide) ?_
      exact k_sub [1, 2, 3, 0] rfl (hk30 h)
    · have h := ite_f c1 h
      refine k_iload_n O dX8_wave_47 2 rfl ?_
      refine k_iload O dX8_wave_48 4 rfl ?_
      refine k_ishr O dX8_wave_50 ?_
      refine k_iconst O dX8_wave_51 (v := 1) (by decide) ?_
      refine k_iand O dX8_wave_52 ?_
      refine k_iconst O dX8_wave_53 (v := 1) (by decide) ?_
      refine k_icmp_ne O 69 dX8_wave_54 (by decide) (fun c3 => ?_) (fun c3 => ?_)
      · have h := ite_f c3 h
        refine k_iconst O dX8_wave_69 (v := 0) (by decide) ?_
        exact k_sub [0, 1, 2, 3, 4] rfl (w_X8_wave_70 O hN hk30 (fun {_} {_} {_} {_} {_} h9 => ih h9) ho h)
      · have h := ite_t c3 h
        refine k_aload_n O dX8_wave_57 0 rfl ?_
        refine k_get O (v := .ref (g_ad X.1 111)) (k := 105) (by omega) E_105 rfl 8 (by decide) (fun _ h9 => List.mem_cons_of_mem _ (List.mem_append_right _ h9)) (List.mem_of_getElem? (i := 2) rfl) rfl dX8_wave_58 ?_
        refine k_iload O dX8_wave_61 4 rfl ?_
        obtain ⟨g4, h⟩ := gd_some h
        refine k_iald O (k := 111) (by omega) E_111 g4 dX8_wave_63 ?_
        refine k_iload_n O dX8_wave_64 1 rfl ?_
        refine k_iand O dX8_wave_65 ?_
        refine k_goto O 70 dX8_wave_66 (by decide) ?_
        exact k_sub [0, 1, 2, 3, 4] rfl (w_X8_wave_70 O hN hk30 (fun {_} {_} {_} {_} {_} h9 => ih h9) ho h)
set_option maxHeartbeats 4000000 in
set_option maxRecDepth 100000 in
theorem w_X8_wave_30 {X : Cx} {rz : Int32} {wz : Wd} (O : Ok X cX8_wave RX8 ((some .int)) wsX8_wave (0) (0) 8) (hN : 121 ≤ g_N X.1) (ho : Ro X (some (.int rz), wz)) (n : Nat) : ∀ {w : Wd} {v1 : Int32} {v3 : Int32} {v4 : Int32}, b_X8_wave_30 n w v1 v3 v4 = some (rz, wz) → Wk X w 30 [(0, .ref (g_ad X.1 105)), (1, .int v1), (3, .int v3), (4, .int v4)] [] := by
  induction n with
  | zero => intro w v1 v3 v4 h; exact nomatch (show (none : Option (Int32 × Wd)) = some _ from h)
  | succ n ih =>
    intro w v1 v3 v4 h
    rw [b_X8_wave_30] at h
    refine k_iload O dX8_wave_30 3 rfl ?_
    refine k_bipush O dX8_wave_32 (v := 7) (by decide) ?_
    refine k_icmp_ge O 133 dX8_wave_34 (by decide) (fun c1 => ?_) (fun c1 => ?_)
    · have h := ite_t c1 h
      refine k_iload_n O dX8_wave_133 2 rfl ?_
      exact k_iret O dX8_wave_134 (rt_int h ho)
    · have h := ite_f c1 h
      refine k_iconst O dX8_wave_37 (v := 0) (by decide) ?_
      refine k_istore (lv' := [(5, .int ((0 : Int32))), (0, .ref (g_ad X.1 105)), (1, .int v1), (3, .int v3), (4, .int v4)]) O dX8_wave_38 (by decide) rfl ?_
      exact k_sub [1, 2, 3, 4, 0] rfl (w_X8_wave_40 O hN (fun {_} {_} {_} {_} h9 => ih h9) ho LF h)
set_option maxHeartbeats 4000000 in
set_option maxRecDepth 100000 in
theorem w_X8_wave_26 {X : Cx} {rz : Int32} {wz : Wd} (O : Ok X cX8_wave RX8 ((some .int)) wsX8_wave (0) (0) 8) (hN : 121 ≤ g_N X.1) (ho : Ro X (some (.int rz), wz)) {w : Wd} {v1 : Int32} {s0 : Int32} (h : b_X8_wave_26 w v1 s0 = some (rz, wz)) : Wk X w 26 [(0, .ref (g_ad X.1 105)), (1, .int v1)] [.int s0] := by
  unfold b_X8_wave_26 at h
  refine k_istore_n (lv' := [(3, .int s0), (0, .ref (g_ad X.1 105)), (1, .int v1)]) O dX8_wave_26 rfl (by decide) rfl ?_
  refine k_iconst O dX8_wave_27 (v := 0) (by decide) ?_
  refine k_istore (lv' := [(4, .int ((0 : Int32))), (3, .int s0), (0, .ref (g_ad X.1 105)), (1, .int v1)]) O dX8_wave_28 (by decide) rfl ?_
  exact k_sub [2, 3, 1, 0] rfl (w_X8_wave_30 O hN ho LF h)
set_option maxHeartbeats 4000000 in
set_option maxRecDepth 100000 in
theorem w_X8_wave_25 {X : Cx} {rz : Int32} {wz : Wd} (O : Ok X cX8_wave RX8 ((some .int)) wsX8_wave (0) (0) 8) (hN : 121 ≤ g_N X.1) (ho : Ro X (some (.int rz), wz)) {w : Wd} {v1 : Int32} (h : b_X8_wave_25 w v1 = some (rz, wz)) : Wk X w 25 [(0, .ref (g_ad X.1 105)), (1, .int v1)] [] := by
  unfold b_X8_wave_25 at h
  refine k_iconst O dX8_wave_25 (v := 0) (by decide) ?_
  exact k_sub [0, 1] rfl (w_X8_wave_26 O hN ho h)
set_option maxHeartbeats 4000000 in
set_option maxRecDepth 100000 in
theorem w_X8_wave_0 {X : Cx} {rz : Int32} {wz : Wd} (O : Ok X cX8_wave RX8 ((some .int)) wsX8_wave (0) (0) 8) (hN : 121 ≤ g_N X.1) (ho : Ro X (some (.int rz), wz)) {w : Wd} {v1 : Int32} {v2 : Int32} (h : b_X8_wave_0 w v1 v2 = some (rz, wz)) : Wk X w 0 [(0, .ref (g_ad X.1 105)), (1, .int v1), (2, .int v2)] [] := by
  unfold b_X8_wave_0 at h
  refine k_iload_n O dX8_wave_0 1 rfl ?_
  refine k_iload_n O dX8_wave_1 2 rfl ?_
  refine k_ishr O dX8_wave_2 ?_
  refine k_iconst O dX8_wave_3 (v := 1) (by decide) ?_
  refine k_iand O dX8_wave_4 ?_
  refine k_iconst O dX8_wave_5 (v := 1) (by decide) ?_
  refine k_icmp_ne O 25 dX8_wave_6 (by decide) (fun c1 => ?_) (fun c1 => ?_)
  · have h := ite_f c1 h
    exact k_sub [0, 1] rfl (w_X8_wave_25 O hN ho h)
  · have h := ite_t c1 h
    refine k_aload_n O dX8_wave_9 0 rfl ?_
    refine k_get O (v := .ref (g_ad X.1 110)) (k := 105) (by omega) E_105 rfl 7 (by decide) (fun _ h9 => List.mem_cons_of_mem _ (List.mem_append_right _ h9)) (List.mem_of_getElem? (i := 1) rfl) rfl dX8_wave_10 ?_
    refine k_iload_n O dX8_wave_13 2 rfl ?_
    obtain ⟨g2, h⟩ := gd_some h
    refine k_iald O (k := 110) (by omega) E_110 g2 dX8_wave_14 ?_
    refine k_iconst O dX8_wave_15 (v := 3) (by decide) ?_
    refine k_icmp_eq O 25 dX8_wave_16 (by decide) (fun c3 => ?_) (fun c3 => ?_)
    · have h := ite_t c3 h
      exact k_sub [0, 1] rfl (w_X8_wave_25 O hN ho h)
    · have h := ite_f c3 h
      refine k_iconst O dX8_wave_19 (v := 1) (by decide) ?_
      refine k_iload_n O dX8_wave_20 2 rfl ?_
      refine k_ishl O dX8_wave_21 ?_
      refine k_goto O 26 dX8_wave_22 (by decide) ?_
      exact k_sub [0, 1] rfl (w_X8_wave_26 O hN ho h)
theorem c_X8_wave (l : Launch) (G : Gl) (hN : 121 ≤ g_N G) {w wz : Wd} {v1 : Int32} {v2 : Int32} {rz : Int32} (h : f_X8_wave w v1 v2 = some (rz, wz)) : Ct l yX8_wave wsX8_wave (0) (0) G [.ref (g_ad G 105), .int v1, .int v2] w (some (.int rz), wz) := by
  refine Ct.start (by decide) rfl rfl rfl (Nat.le_of_ble_eq_true rfl) (fun X hG ho hl O => ?_)
  subst hG
  subst hl
  exact k_sub [0, 1, 2] rfl (w_X8_wave_0 O hN ho h)
def b_X8_spring_212 (kb86 : Wd → Int32 → Int32 → Int32 → Option (Int32 × Wd)) (w : Wd) (v3 : Int32) (v4 : Int32) (v5 : Int32) : Option (Int32 × Wd) := nm (v5 + (1 : Int32)) (fun x1 => kb86 w v3 v4 x1)
def b_X8_spring_205 (kb86 : Wd → Int32 → Int32 → Int32 → Option (Int32 × Wd)) (kb96 : Wd → Int32 → Int32 → Int32 → Int32 → Option (Int32 × Wd)) (w : Wd) (v3 : Int32) (v4 : Int32) (v5 : Int32) (v6 : Int32) (s0 : Int32) (s1 : Int32) : Option (Int32 × Wd) := gd (inb s1 72) (nm (up w 113 s1.toNatClampNeg s0) (fun w2 => nm (v6 + (1 : Int32)) (fun x3 => kb96 w2 v3 v4 v5 x3)))
def b_X8_spring_170 (kb86 : Wd → Int32 → Int32 → Int32 → Option (Int32 × Wd)) (kb96 : Wd → Int32 → Int32 → Int32 → Int32 → Option (Int32 × Wd)) (w : Wd) (v3 : Int32) (v4 : Int32) (v5 : Int32) (v6 : Int32) (s0 : Int32) : Option (Int32 × Wd) := if s0 = 0 then (gd (inb ((v3 + ((8 : Int32))) + v6) 72) (b_X8_spring_205 kb86 kb96 w v3 v4 v5 v6 (w.1 113 ((v3 + ((8 : Int32))) + v6).toNatClampNeg) ((v3 + ((8 : Int32))) + v6))) else (b_X8_spring_205 kb86 kb96 w v3 v4 v5 v6 v5 ((v3 + ((8 : Int32))) + v6))
def b_X8_spring_169 (kb86 : Wd → Int32 → Int32 → Int32 → Option (Int32 × Wd)) (kb96 : Wd → Int32 → Int32 → Int32 → Int32 → Option (Int32 × Wd)) (w : Wd) (v3 : Int32) (v4 : Int32) (v5 : Int32) (v6 : Int32) : Option (Int32 × Wd) := b_X8_spring_170 kb86 kb96 w v3 v4 v5 v6 ((0 : Int32))
def b_X8_spring_96 (kb86 : Wd → Int32 → Int32 → Int32 → Option (Int32 × Wd)) : Nat → Wd → Int32 → Int32 → Int32 → Int32 → Option (Int32 × Wd)
  | 0, _, _, _, _, _ => none
  | n + 1, w, v3, v4, v5, v6 => if (w.1 105 11) ≤ v6 then (b_X8_spring_212 kb86 w v3 v4 v5) else (if ((v4 >>> (v5 &&& 31)) &&& ((1 : Int32))) = ((1 : Int32)) then (gd (inb ((v3 + ((4 : Int32))) + v6) 72) (gd (inb v5 7) (if (w.1 113 ((v3 + ((4 : Int32))) + v6).toNatClampNeg) = (w.1 108 v5.toNatClampNeg) then (gd (inb ((v3 + ((8 : Int32))) + v6) 72) (if (w.1 113 ((v3 + ((8 : Int32))) + v6).toNatClampNeg) = ((-9 : Int32)) then (bd (f_X8_catches w v5 v6) (fun r10 w9 => if r10 = 0 then (b_X8_spring_169 kb86 (b_X8_spring_96 kb86 n) w9 v3 v4 v5 v6) else (b_X8_spring_170 kb86 (b_X8_spring_96 kb86 n) w9 v3 v4 v5 v6 ((1 : Int32))))) else (b_X8_spring_169 kb86 (b_X8_spring_96 kb86 n) w v3 v4 v5 v6))) else (b_X8_spring_169 kb86 (b_X8_spring_96 kb86 n) w v3 v4 v5 v6)))) else (b_X8_spring_212 kb86 w v3 v4 v5))
def b_X8_spring_86 : Nat → Wd → Int32 → Int32 → Int32 → Option (Int32 × Wd)
  | 0, _, _, _, _ => none
  | n + 1, w, v3, v4, v5 => if ((7 : Int32)) ≤ v5 then (some (v4, w)) else (b_X8_spring_96 (b_X8_spring_86 n) LF w v3 v4 v5 ((0 : Int32)))
def b_X8_spring_27 (w : Wd) (v3 : Int32) (s0 : Int32) : Option (Int32 × Wd) := gd (inb v3 72) (gd (inb v3 72) (nm (up w 113 v3.toNatClampNeg ((w.1 113 v3.toNatClampNeg) &&& (s0 ^^^ ((-1 : Int32))))) (fun w3 => gd (inb (v3 + ((1 : Int32))) 72) (gd (inb (v3 + ((1 : Int32))) 72) (nm (up w3 113 (v3 + ((1 : Int32))).toNatClampNeg ((w3.1 113 (v3 + ((1 : Int32))).toNatClampNeg) &&& (s0 ^^^ ((-1 : Int32))))) (fun w6 => gd (inb (v3 + ((2 : Int32))) 72) (gd (inb (v3 + ((2 : Int32))) 72) (nm (up w6 113 (v3 + ((2 : Int32))).toNatClampNeg ((w6.1 113 (v3 + ((2 : Int32))).toNatClampNeg) ||| s0)) (fun w9 => gd (inb (v3 + ((3 : Int32))) 72) (gd (inb (v3 + ((3 : Int32))) 72) (nm (up w9 113 (v3 + ((3 : Int32))).toNatClampNeg ((w9.1 113 (v3 + ((3 : Int32))).toNatClampNeg) ||| s0)) (fun w12 => b_X8_spring_86 LF w12 v3 s0 ((0 : Int32))))))))))))))
def b_X8_spring_0 (w : Wd) (v1 : Int32) (v2 : Int32) : Option (Int32 × Wd) := nm (((12 : Int32)) * v1) (fun x1 => if (w.1 105 13) = 0 then (gd (inb x1 72) (bd (f_X8_wave w (w.1 113 x1.toNatClampNeg) v2) (fun r6 w5 => b_X8_spring_27 w5 x1 r6))) else (b_X8_spring_27 w x1 ((0 : Int32))))
def f_X8_spring (w : Wd) (v1 : Int32) (v2 : Int32) : Option (Int32 × Wd) := b_X8_spring_0 w v1 v2
set_option maxHeartbeats 4000000 in
set_option maxRecDepth 100000 in
theorem w_X8_spring_212 {X : Cx} {rz : Int32} {wz : Wd} (O : Ok X cX8_spring RX8 ((some .int)) wsX8_spring (1) (27) 8) (hN : 121 ≤ g_N X.1) {kb86 : Wd → Int32 → Int32 → Int32 → Option (Int32 × Wd)} (hk86 : ∀ {w : Wd} {v3 : Int32} {v4 : Int32} {v5 : Int32}, kb86 w v3 v4 v5 = some (rz, wz) → Wk X w 86 [(0, .ref (g_ad X.1 105)), (3, .int v3), (4, .int v4), (5, .int v5)] []) (ho : Ro X (some (.int rz), wz)) {w : Wd} {v3 : Int32} {v4 : Int32} {v5 : Int32} (h : b_X8_spring_212 kb86 w v3 v4 v5 = some (rz, wz)) : Wk X w 212 [(0, .ref (g_ad X.1 105)), (3, .int v3), (4, .int v4), (5, .int v5)] [] := by
  unfold b_X8_spring_212 at h
  obtain ⟨x1, ex1⟩ : ∃ z : Int32, z = v5 + (1 : Int32) := ⟨_, rfl⟩
  have h := nm_use h x1 ex1
  refine k_iinc (lv' := [(5, .int x1), (0, .ref (g_ad X.1 105)), (3, .int v3), (4, .int v4)]) O dX8_spring_212 3 rfl (by rw [ex1]; rfl) (by decide) rfl ?_
  refine k_goto O 86 dX8_spring_215 (by decide) ?_
  exact k_sub [1, 2, 3, 0] rfl (hk86 h)
set_option maxHeartbeats 4000000 in
set_option maxRecDepth 100000 in
theorem w_X8_spring_205 {X : Cx} {rz : Int32} {wz : Wd} (O : Ok X cX8_spring RX8 ((some .int)) wsX8_spring (1) (27) 8) (hN : 121 ≤ g_N X.1) {kb86 : Wd → Int32 → Int32 → Int32 → Option (Int32 × Wd)} (hk86 : ∀ {w : Wd} {v3 : Int32} {v4 : Int32} {v5 : Int32}, kb86 w v3 v4 v5 = some (rz, wz) → Wk X w 86 [(0, .ref (g_ad X.1 105)), (3, .int v3), (4, .int v4), (5, .int v5)] []) {kb96 : Wd → Int32 → Int32 → Int32 → Int32 → Option (Int32 × Wd)} (hk96 : ∀ {w : Wd} {v3 : Int32} {v4 : Int32} {v5 : Int32} {v6 : Int32}, kb96 w v3 v4 v5 v6 = some (rz, wz) → Wk X w 96 [(0, .ref (g_ad X.1 105)), (3, .int v3), (4, .int v4), (5, .int v5), (6, .int v6)] []) (ho : Ro X (some (.int rz), wz)) {w : Wd} {v3 : Int32} {v4 : Int32} {v5 : Int32} {v6 : Int32} {s0 : Int32} {s1 : Int32} (h : b_X8_spring_205 kb86 kb96 w v3 v4 v5 v6 s0 s1 = some (rz, wz)) : Wk X w 205 [(0, .ref (g_ad X.1 105)), (3, .int v3), (4, .int v4), (5, .int v5), (6, .int v6)] [.int s0, .int s1, .ref (g_ad X.1 113)] := by
  unfold b_X8_spring_205 at h
  obtain ⟨g1, h⟩ := gd_some h
  refine k_iast O (k := 113) (by omega) E_113 (fun _ => E_113) g1 dX8_spring_205 ?_
  refine k_nw (fun w2 ew2 => ?_)
  have h := nm_use h w2 ew2
  obtain ⟨x3, ex3⟩ : ∃ z : Int32, z = v6 + (1 : Int32) := ⟨_, rfl⟩
  have h := nm_use h x3 ex3
  refine k_iinc (lv' := [(6, .int x3), (0, .ref (g_ad X.1 105)), (3, .int v3), (4, .int v4), (5, .int v5)]) O dX8_spring_206 4 rfl (by rw [ex3]; rfl) (by decide) rfl ?_
  refine k_goto O 96 dX8_spring_209 (by decide) ?_
  exact k_sub [1, 2, 3, 4, 0] rfl (hk96 h)
set_option maxHeartbeats 4000000 in
set_option maxRecDepth 100000 in
theorem w_X8_spring_170 {X : Cx} {rz : Int32} {wz : Wd} (O : Ok X cX8_spring RX8 ((some .int)) wsX8_spring (1) (27) 8) (hN : 121 ≤ g_N X.1) {kb86 : Wd → Int32 → Int32 → Int32 → Option (Int32 × Wd)} (hk86 : ∀ {w : Wd} {v3 : Int32} {v4 : Int32} {v5 : Int32}, kb86 w v3 v4 v5 = some (rz, wz) → Wk X w 86 [(0, .ref (g_ad X.1 105)), (3, .int v3), (4, .int v4), (5, .int v5)] []) {kb96 : Wd → Int32 → Int32 → Int32 → Int32 → Option (Int32 × Wd)} (hk96 : ∀ {w : Wd} {v3 : Int32} {v4 : Int32} {v5 : Int32} {v6 : Int32}, kb96 w v3 v4 v5 v6 = some (rz, wz) → Wk X w 96 [(0, .ref (g_ad X.1 105)), (3, .int v3), (4, .int v4), (5, .int v5), (6, .int v6)] []) (ho : Ro X (some (.int rz), wz)) {w : Wd} {v3 : Int32} {v4 : Int32} {v5 : Int32} {v6 : Int32} {s0 : Int32} (h : b_X8_spring_170 kb86 kb96 w v3 v4 v5 v6 s0 = some (rz, wz)) : Wk X w 170 [(0, .ref (g_ad X.1 105)), (3, .int v3), (4, .int v4), (5, .int v5), (6, .int v6)] [.int s0] := by
  unfold b_X8_spring_170 at h
  refine k_istore (lv' := [(7, .int s0), (0, .ref (g_ad X.1 105)), (3, .int v3), (4, .int v4), (5, .int v5), (6, .int v6)]) O dX8_spring_170 (by decide) rfl ?_
  refine k_aload_n O dX8_spring_172 1 rfl ?_
  refine k_get O (v := .ref (g_ad X.1 113)) (k := 105) (by omega) E_105 rfl 14 (by decide) (fun _ h9 => List.mem_cons_of_mem _ (List.mem_append_right _ h9)) (List.mem_of_getElem? (i := 2) rfl) rfl dX8_spring_173 ?_
  refine k_iload_n O dX8_spring_176 2 rfl ?_
  refine k_bipush O dX8_spring_177 (v := 8) (by decide) ?_
  refine k_iadd O dX8_spring_179 ?_
  refine k_iload O dX8_spring_180 5 rfl ?_
  refine k_iadd O dX8_spring_182 ?_
  refine k_iload O dX8_spring_183 0 rfl ?_
  refine k_if_eq O 193 dX8_spring_185 (by decide) (fun c1 => ?_) (fun c1 => ?_)
  · have h := ite_t c1 h
    refine k_aload_n O dX8_spring_193 1 rfl ?_
    refine k_get O (v := .ref (g_ad X.1 113)) (k := 105) (by omega) E_105 rfl 14 (by decide) (fun _ h9 => List.mem_cons_of_mem _ (List.mem_append_right _ h9)) (List.mem_of_getElem? (i := 2) rfl) rfl dX8_spring_194 ?_
    refine k_iload_n O dX8_spring_197 2 rfl ?_
    refine k_bipush O dX8_spring_198 (v := 8) (by decide) ?_
    refine k_iadd O dX8_spring_200 ?_
    refine k_iload O dX8_spring_201 5 rfl ?_
    refine k_iadd O dX8_spring_203 ?_
    obtain ⟨g2, h⟩ := gd_some h
    refine k_iald O (k := 113) (by omega) E_113 g2 dX8_spring_204 ?_
    exact k_sub [1, 2, 3, 4, 5] rfl (w_X8_spring_205 O hN hk86 hk96 ho h)
  · have h := ite_f c1 h
    refine k_iload O dX8_spring_188 4 rfl ?_
    refine k_goto O 205 dX8_spring_190 (by decide) ?_
    exact k_sub [1, 2, 3, 4, 5] rfl (w_X8_spring_205 O hN hk86 hk96 ho h)
set_option maxHeartbeats 4000000 in
set_option maxRecDepth 100000 in
theorem w_X8_spring_169 {X : Cx} {rz : Int32} {wz : Wd} (O : Ok X cX8_spring RX8 ((some .int)) wsX8_spring (1) (27) 8) (hN : 121 ≤ g_N X.1) {kb86 : Wd → Int32 → Int32 → Int32 → Option (Int32 × Wd)} (hk86 : ∀ {w : Wd} {v3 : Int32} {v4 : Int32} {v5 : Int32}, kb86 w v3 v4 v5 = some (rz, wz) → Wk X w 86 [(0, .ref (g_ad X.1 105)), (3, .int v3), (4, .int v4), (5, .int v5)] []) {kb96 : Wd → Int32 → Int32 → Int32 → Int32 → Option (Int32 × Wd)} (hk96 : ∀ {w : Wd} {v3 : Int32} {v4 : Int32} {v5 : Int32} {v6 : Int32}, kb96 w v3 v4 v5 v6 = some (rz, wz) → Wk X w 96 [(0, .ref (g_ad X.1 105)), (3, .int v3), (4, .int v4), (5, .int v5), (6, .int v6)] []) (ho : Ro X (some (.int rz), wz)) {w : Wd} {v3 : Int32} {v4 : Int32} {v5 : Int32} {v6 : Int32} (h : b_X8_spring_169 kb86 kb96 w v3 v4 v5 v6 = some (rz, wz)) : Wk X w 169 [(0, .ref (g_ad X.1 105)), (3, .int v3), (4, .int v4), (5, .int v5), (6, .int v6)] [] := by
  unfold b_X8_spring_169 at h
  refine k_iconst O dX8_spring_169 (v := 0) (by decide) ?_
  exact k_sub [0, 1, 2, 3, 4] rfl (w_X8_spring_170 O hN hk86 hk96 ho h)
set_option maxHeartbeats 4000000 in
set_option maxRecDepth 100000 in
theorem w_X8_spring_96 {X : Cx} {rz : Int32} {wz : Wd} (O : Ok X cX8_spring RX8 ((some .int)) wsX8_spring (1) (27) 8) (hN : 121 ≤ g_N X.1) {kb86 : Wd → Int32 → Int32 → Int32 → Option (Int32 × Wd)} (hk86 : ∀ {w : Wd} {v3 : Int32} {v4 : Int32} {v5 : Int32}, kb86 w v3 v4 v5 = some (rz, wz) → Wk X w 86 [(0, .ref (g_ad X.1 105)), (3, .int v3), (4, .int v4), (5, .int v5)] []) (ho : Ro X (some (.int rz), wz)) (n : Nat) : ∀ {w : Wd} {v3 : Int32} {v4 : Int32} {v5 : Int32} {v6 : Int32}, b_X8_spring_96 kb86 n w v3 v4 v5 v6 = some (rz, wz) → Wk X w 96 [(0, .ref (g_ad X.1 105)), (3, .int v3), (4, .int v4), (5, .int v5), (6, .int v6)] [] := by
  induction n with
  | zero => intro w v3 v4 v5 v6 h; exact nomatch (show (none : Option (Int32 × Wd)) = some _ from h)
  | succ n ih =>
    intro w v3 v4 v5 v6 h
    rw [b_X8_spring_96] at h
    refine k_iload O dX8_spring_96 4 rfl ?_
    refine k_aload_n O dX8_spring_98 0 rfl ?_
    refine k_get O (v := .int (w.1 105 11)) (k := 105) (by omega) E_105 rfl 11 (by decide) (fun _ h9 => List.mem_cons_of_mem _ (List.mem_append_right _ h9)) (List.mem_of_getElem? (i := 3) rfl) rfl dX8_spring_99 ?_
    refine k_icmp_ge O 212 dX8_spring_102 (by decide) (fun c1 => ?_) (fun c1 => ?_)
    · have h := ite_t c1 h
      exact k_sub [0, 1, 2, 3] rfl (w_X8_spring_212 O hN hk86 ho h)
    · have h := ite_f c1 h
      refine k_iload O dX8_spring_105 2 rfl ?_
      refine k_iload O dX8_spring_107 3 rfl ?_
      refine k_ishr O dX8_spring_109 ?_
      refine k_iconst O dX8_spring_110 (v := 1) (by decide) ?_
      refine k_iand O dX8_spring_111 ?_
      refine k_iconst O dX8_spring_112 (v := 1) (by decide) ?_
      refine k_icmp_ne O 212 dX8_spring_113 (by decide) (fun c2 => ?_) (fun c2 => ?_)
      · have h := ite_f c2 h
        exact k_sub [0, 1, 2, 3] rfl (w_X8_spring_212 O hN hk86 ho h)
      · have h := ite_t c2 h
        refine k_aload_n O dX8_spring_116 0 rfl ?_
        refine k_get O (v := .ref (g_ad X.1 113)) (k := 105) (by omega) E_105 rfl 14 (by decide) (fun _ h9 => List.mem_cons_of_mem _ (List.mem_append_right _ h9)) (List.mem_of_getElem? (i := 2) rfl) rfl dX8_spring_117 ?_
        refine k_iload_n O dX8_spring_120 1 rfl ?_
        refine k_iconst O dX8_spring_121 (v := 4) (by decide) ?_
        refine k_iadd O dX8_spring_122 ?_
        refine k_iload O dX8_spring_123 4 rfl ?_
        refine k_iadd O dX8_spring_125 ?_
        obtain ⟨g3, h⟩ := gd_some h
        refine k_iald O (k := 113) (by omega) E_113 g3 dX8_spring_126 ?_
        refine k_aload_n O dX8_spring_127 0 rfl ?_
        refine k_get O (v := .ref (g_ad X.1 108)) (k := 105) (by omega) E_105 rfl 5 (by decide) (fun _ h9 => List.mem_cons_of_mem _ (List.mem_append_right _ h9)) (List.mem_of_getElem? (i := 4) rfl) rfl dX8_spring_128 ?_
        refine k_iload O dX8_spring_131 3 rfl ?_
        obtain ⟨g4, h⟩ := gd_some h
        refine k_iald O (k := 108) (by omega) E_108 g4 dX8_spring_133 ?_
        refine k_icmp_ne O 169 dX8_spring_134 (by decide) (fun c5 => ?_) (fun c5 => ?_)
        · have h := ite_f c5 h
          exact k_sub [0, 1, 2, 3, 4] rfl (w_X8_spring_169 O hN hk86 (fun {_} {_} {_} {_} {_} h9 => ih h9) ho h)
        · have h := ite_t c5 h
          refine k_aload_n O dX8_spring_137 0 rfl ?_
          refine k_get O (v := .ref (g_ad X.1 113)) (k := 105) (by omega) E_105 rfl 14 (by decide) (fun _ h9 => List.mem_cons_of_mem _ (List.mem_append_right _ h9)) (List.mem_of_getElem? (i := 2) rfl) rfl dX8_spring_138 ?_
          refine k_iload_n O dX8_spring_141 1 rfl ?_
          refine k_bipush O dX8_spring_142 (v := 8) (by decide) ?_
          refine k_iadd O dX8_spring_144 ?_
          refine k_iload O dX8_spring_145 4 rfl ?_
          refine k_iadd O dX8_spring_147 ?_
          obtain ⟨g6, h⟩ := gd_some h
          refine k_iald O (k := 113) (by omega) E_113 g6 dX8_spring_148 ?_
          refine k_bipush O dX8_spring_149 (v := -9) (by decide) ?_
          refine k_icmp_ne O 169 dX8_spring_151 (by decide) (fun c7 => ?_) (fun c7 => ?_)
          · have h := ite_f c7 h
            exact k_sub [0, 1, 2, 3, 4] rfl (w_X8_spring_169 O hN hk86 (fun {_} {_} {_} {_} {_} h9 => ih h9) ho h)
          · have h := ite_t c7 h
            refine k_aload_n O dX8_spring_154 0 rfl ?_
            refine k_iload O dX8_spring_155 3 rfl ?_
            refine k_iload O dX8_spring_157 4 rfl ?_
            obtain ⟨r10, w9, hc8, h⟩ := bd_some h
            refine k_callVi O (As := [.int v5, .int v6]) (rest := []) (k := 105) (c_X8_catches (x_l X) X.1 hN hc8) gX8_spring_X8_catches rfl hd_X8_catches (by decide) (by omega) E_105 rfl rfl rfl rfl rfl (Nat.le_of_ble_eq_true rfl) dX8_spring_159 ?_
            refine k_if_eq O 169 dX8_spring_162 (by decide) (fun c11 => ?_) (fun c11 => ?_)
            · have h := ite_t c11 h
              exact k_sub [0, 1, 2, 3, 4] rfl (w_X8_spring_169 O hN hk86 (fun {_} {_} {_} {_} {_} h9 => ih h9) ho h)
            · have h := ite_f c11 h
              refine k_iconst O dX8_spring_165 (v := 1) (by decide) ?_
              refine k_goto O 170 dX8_spring_166 (by decide) ?_
              exact k_sub [0, 1, 2, 3, 4] rfl (w_X8_spring_170 O hN hk86 (fun {_} {_} {_} {_} {_} h9 => ih h9) ho h)
set_option maxHeartbeats 4000000 in
set_option maxRecDepth 100000 in
theorem w_X8_spring_86 {X : Cx} {rz : Int32} {wz : Wd} (O : Ok X cX8_spring RX8 ((some .int)) wsX8_spring (1) (27) 8) (hN : 121 ≤ g_N X.1) (ho : Ro X (some (.int rz), wz)) (n : Nat) : ∀ {w : Wd} {v3 : Int32} {v4 : Int32} {v5 : Int32}, b_X8_spring_86 n w v3 v4 v5 = some (rz, wz) → Wk X w 86 [(0, .ref (g_ad X.1 105)), (3, .int v3), (4, .int v4), (5, .int v5)] [] := by
  induction n with
  | zero => intro w v3 v4 v5 h; exact nomatch (show (none : Option (Int32 × Wd)) = some _ from h)
  | succ n ih =>
    intro w v3 v4 v5 h
    rw [b_X8_spring_86] at h
    refine k_iload O dX8_spring_86 3 rfl ?_
    refine k_bipush O dX8_spring_88 (v := 7) (by decide) ?_
    refine k_icmp_ge O 218 dX8_spring_90 (by decide) (fun c1 => ?_) (fun c1 => ?_)
    · have h := ite_t c1 h
      refine k_iload O dX8_spring_218 2 rfl ?_
      exact k_iret O dX8_spring_220 (rt_int h ho)
    · have h := ite_f c1 h
      refine k_iconst O dX8_spring_93 (v := 0) (by decide) ?_
      refine k_istore (lv' := [(6, .int ((0 : Int32))), (0, .ref (g_ad X.1 105)), (3, .int v3), (4, .int v4), (5, .int v5)]) O dX8_spring_94 (by decide) rfl ?_
      exact k_sub [1, 2, 3, 4, 0] rfl (w_X8_spring_96 O hN (fun {_} {_} {_} {_} h9 => ih h9) ho LF h)
set_option maxHeartbeats 4000000 in
set_option maxRecDepth 100000 in
theorem w_X8_spring_27 {X : Cx} {rz : Int32} {wz : Wd} (O : Ok X cX8_spring RX8 ((some .int)) wsX8_spring (1) (27) 8) (hN : 121 ≤ g_N X.1) (ho : Ro X (some (.int rz), wz)) {w : Wd} {v3 : Int32} {s0 : Int32} (h : b_X8_spring_27 w v3 s0 = some (rz, wz)) : Wk X w 27 [(0, .ref (g_ad X.1 105)), (3, .int v3)] [.int s0] := by
  unfold b_X8_spring_27 at h
  refine k_istore (lv' := [(4, .int s0), (0, .ref (g_ad X.1 105)), (3, .int v3)]) O dX8_spring_27 (by decide) rfl ?_
  refine k_aload_n O dX8_spring_29 1 rfl ?_
  refine k_get O (v := .ref (g_ad X.1 113)) (k := 105) (by omega) E_105 rfl 14 (by decide) (fun _ h9 => List.mem_cons_of_mem _ (List.mem_append_right _ h9)) (List.mem_of_getElem? (i := 2) rfl) rfl dX8_spring_30 ?_
  refine k_iload_n O dX8_spring_33 2 rfl ?_
  refine k_dup2 O dX8_spring_34 rfl rfl ?_
  obtain ⟨g1, h⟩ := gd_some h
  refine k_iald O (k := 113) (by omega) E_113 g1 dX8_spring_35 ?_
  refine k_iload O dX8_spring_36 0 rfl ?_
  refine k_iconst O dX8_spring_38 (v := -1) (by decide) ?_
  refine k_ixor O dX8_spring_39 ?_
  refine k_iand O dX8_spring_40 ?_
  obtain ⟨g2, h⟩ := gd_some h
  refine k_iast O (k := 113) (by omega) E_113 (fun _ => E_113) g2 dX8_spring_41 ?_
  refine k_nw (fun w3 ew3 => ?_)
  have h := nm_use h w3 ew3
  refine k_aload_n O dX8_spring_42 1 rfl ?_
  refine k_get O (v := .ref (g_ad X.1 113)) (k := 105) (by omega) E_105 rfl 14 (by decide) (fun _ h9 => List.mem_cons_of_mem _ (List.mem_append_right _ h9)) (List.mem_of_getElem? (i := 2) rfl) rfl dX8_spring_43 ?_
  refine k_iload_n O dX8_spring_46 2 rfl ?_
  refine k_iconst O dX8_spring_47 (v := 1) (by decide) ?_
  refine k_iadd O dX8_spring_48 ?_
  refine k_dup2 O dX8_spring_49 rfl rfl ?_
  obtain ⟨g4, h⟩ := gd_some h
  refine k_iald O (k := 113) (by omega) E_113 g4 dX8_spring_50 ?_
  refine k_iload O dX8_spring_51 0 rfl ?_
  refine k_iconst O dX8_spring_53 (v := -1) (by decide) ?_
  refine k_ixor O dX8_spring_54 ?_
  refine k_iand O dX8_spring_55 ?_
  obtain ⟨g5, h⟩ := gd_some h
  refine k_iast O (k := 113) (by omega) E_113 (fun _ => E_113) g5 dX8_spring_56 ?_
  refine k_nw (fun w6 ew6 => ?_)
  have h := nm_use h w6 ew6
  refine k_aload_n O dX8_spring_57 1 rfl ?_
  refine k_get O (v := .ref (g_ad X.1 113)) (k := 105) (by omega) E_105 rfl 14 (by decide) (fun _ h9 => List.mem_cons_of_mem _ (List.mem_append_right _ h9)) (List.mem_of_getElem? (i := 2) rfl) rfl dX8_spring_58 ?_
  refine k_iload_n O dX8_spring_61 2 rfl ?_
  refine k_iconst O dX8_spring_62 (v := 2) (by decide) ?_
  refine k_iadd O dX8_spring_63 ?_
  refine k_dup2 O dX8_spring_64 rfl rfl ?_
  obtain ⟨g7, h⟩ := gd_some h
  refine k_iald O (k := 113) (by omega) E_113 g7 dX8_spring_65 ?_
  refine k_iload O dX8_spring_66 0 rfl ?_
  refine k_ior O dX8_spring_68 ?_
  obtain ⟨g8, h⟩ := gd_some h
  refine k_iast O (k := 113) (by omega) E_113 (fun _ => E_113) g8 dX8_spring_69 ?_
  refine k_nw (fun w9 ew9 => ?_)
  have h := nm_use h w9 ew9
  refine k_aload_n O dX8_spring_70 1 rfl ?_
  refine k_get O (v := .ref (g_ad X.1 113)) (k := 105) (by omega) E_105 rfl 14 (by decide) (fun _ h9 => List.mem_cons_of_mem _ (List.mem_append_right _ h9)) (List.mem_of_getElem? (i := 2) rfl) rfl dX8_spring_71 ?_
  refine k_iload_n O dX8_spring_74 2 rfl ?_
  refine k_iconst O dX8_spring_75 (v := 3) (by decide) ?_
  refine k_iadd O dX8_spring_76 ?_
  refine k_dup2 O dX8_spring_77 rfl rfl ?_
  obtain ⟨g10, h⟩ := gd_some h
  refine k_iald O (k := 113) (by omega) E_113 g10 dX8_spring_78 ?_
  refine k_iload O dX8_spring_79 0 rfl ?_
  refine k_ior O dX8_spring_81 ?_
  obtain ⟨g11, h⟩ := gd_some h
  refine k_iast O (k := 113) (by omega) E_113 (fun _ => E_113) g11 dX8_spring_82 ?_
  refine k_nw (fun w12 ew12 => ?_)
  have h := nm_use h w12 ew12
  refine k_iconst O dX8_spring_83 (v := 0) (by decide) ?_
  refine k_istore (lv' := [(5, .int ((0 : Int32))), (4, .int s0), (0, .ref (g_ad X.1 105)), (3, .int v3)]) O dX8_spring_84 (by decide) rfl ?_
  exact k_sub [2, 3, 1, 0] rfl (w_X8_spring_86 O hN ho LF h)
set_option maxHeartbeats 4000000 in
set_option maxRecDepth 100000 in
theorem w_X8_spring_0 {X : Cx} {rz : Int32} {wz : Wd} (O : Ok X cX8_spring RX8 ((some .int)) wsX8_spring (1) (27) 8) (hN : 121 ≤ g_N X.1) (ho : Ro X (some (.int rz), wz)) {w : Wd} {v1 : Int32} {v2 : Int32} (h : b_X8_spring_0 w v1 v2 = some (rz, wz)) : Wk X w 0 [(0, .ref (g_ad X.1 105)), (1, .int v1), (2, .int v2)] [] := by
  unfold b_X8_spring_0 at h
  refine k_bipush O dX8_spring_0 (v := 12) (by decide) ?_
  refine k_iload_n O dX8_spring_2 1 rfl ?_
  refine k_imul O dX8_spring_3 ?_
  refine k_topi (fun x1 ex1 => ?_)
  have h := nm_use h x1 ex1
  refine k_istore_n (lv' := [(3, .int x1), (0, .ref (g_ad X.1 105)), (1, .int v1), (2, .int v2)]) O dX8_spring_4 rfl (by decide) rfl ?_
  refine k_aload_n O dX8_spring_5 1 rfl ?_
  refine k_get O (v := .int (w.1 105 13)) (k := 105) (by omega) E_105 rfl 13 (by decide) (fun _ h9 => List.mem_cons_of_mem _ (List.mem_append_right _ h9)) (List.mem_of_getElem? (i := 1) rfl) rfl dX8_spring_6 ?_
  refine k_if_eq O 16 dX8_spring_9 (by decide) (fun c2 => ?_) (fun c2 => ?_)
  · have h := ite_t c2 h
    refine k_aload_n O dX8_spring_16 1 rfl ?_
    refine k_aload_n O dX8_spring_17 1 rfl ?_
    refine k_get O (v := .ref (g_ad X.1 113)) (k := 105) (by omega) E_105 rfl 14 (by decide) (fun _ h9 => List.mem_cons_of_mem _ (List.mem_append_right _ h9)) (List.mem_of_getElem? (i := 2) rfl) rfl dX8_spring_18 ?_
    refine k_iload_n O dX8_spring_21 0 rfl ?_
    obtain ⟨g3, h⟩ := gd_some h
    refine k_iald O (k := 113) (by omega) E_113 g3 dX8_spring_22 ?_
    refine k_iload_n O dX8_spring_23 3 rfl ?_
    obtain ⟨r6, w5, hc4, h⟩ := bd_some h
    refine k_callVi O (As := [.int (w.1 113 x1.toNatClampNeg), .int v2]) (rest := []) (k := 105) (c_X8_wave (x_l X) X.1 hN hc4) gX8_spring_X8_wave rfl hd_X8_wave (by decide) (by omega) E_105 rfl rfl rfl rfl rfl (Nat.le_of_ble_eq_true rfl) dX8_spring_24 ?_
    exact k_sub [1, 0] rfl (w_X8_spring_27 O hN ho h)
  · have h := ite_f c2 h
    refine k_iconst O dX8_spring_12 (v := 0) (by decide) ?_
    refine k_goto O 27 dX8_spring_13 (by decide) ?_
    exact k_sub [1, 0] rfl (w_X8_spring_27 O hN ho h)
theorem c_X8_spring (l : Launch) (G : Gl) (hN : 121 ≤ g_N G) {w wz : Wd} {v1 : Int32} {v2 : Int32} {rz : Int32} (h : f_X8_spring w v1 v2 = some (rz, wz)) : Ct l yX8_spring wsX8_spring (1) (27) G [.ref (g_ad G 105), .int v1, .int v2] w (some (.int rz), wz) := by
  refine Ct.start (by decide) rfl rfl rfl (Nat.le_of_ble_eq_true rfl) (fun X hG ho hl O => ?_)
  subst hG
  subst hl
  exact k_sub [0, 1, 2] rfl (w_X8_spring_0 O hN ho h)
def b_X8_trapAt_29 (kb6 : Wd → Int32 → Int32 → Int32 → Int32 → Option (Int32 × Wd)) (w : Wd) (v1 : Int32) (v2 : Int32) (v4 : Int32) (s0 : Int32) : Option (Int32 × Wd) := nm (v4 + (1 : Int32)) (fun x1 => kb6 w v1 v2 s0 x1)
def b_X8_trapAt_6 : Nat → Wd → Int32 → Int32 → Int32 → Int32 → Option (Int32 × Wd)
  | 0, _, _, _, _, _ => none
  | n + 1, w, v1, v2, v3, v4 => if v2 ≤ v4 then (some (v3, w)) else (gd (inb v4 7) (if (w.1 108 v4.toNatClampNeg) = v1 then (b_X8_trapAt_29 (b_X8_trapAt_6 n) w v1 v2 v4 v4) else (b_X8_trapAt_29 (b_X8_trapAt_6 n) w v1 v2 v4 v3)))
def b_X8_trapAt_0 (w : Wd) (v1 : Int32) (v2 : Int32) : Option (Int32 × Wd) := b_X8_trapAt_6 LF w v1 v2 ((-9 : Int32)) ((0 : Int32))
def f_X8_trapAt (w : Wd) (v1 : Int32) (v2 : Int32) : Option (Int32 × Wd) := b_X8_trapAt_0 w v1 v2
set_option maxHeartbeats 4000000 in
set_option maxRecDepth 100000 in
theorem w_X8_trapAt_29 {X : Cx} {rz : Int32} {wz : Wd} (O : Ok X cX8_trapAt RX8 ((some .int)) wsX8_trapAt (0) (0) 5) (hN : 121 ≤ g_N X.1) {kb6 : Wd → Int32 → Int32 → Int32 → Int32 → Option (Int32 × Wd)} (hk6 : ∀ {w : Wd} {v1 : Int32} {v2 : Int32} {v3 : Int32} {v4 : Int32}, kb6 w v1 v2 v3 v4 = some (rz, wz) → Wk X w 6 [(0, .ref (g_ad X.1 105)), (1, .int v1), (2, .int v2), (3, .int v3), (4, .int v4)] []) (ho : Ro X (some (.int rz), wz)) {w : Wd} {v1 : Int32} {v2 : Int32} {v4 : Int32} {s0 : Int32} (h : b_X8_trapAt_29 kb6 w v1 v2 v4 s0 = some (rz, wz)) : Wk X w 29 [(0, .ref (g_ad X.1 105)), (1, .int v1), (2, .int v2), (4, .int v4)] [.int s0] := by
  unfold b_X8_trapAt_29 at h
  refine k_istore_n (lv' := [(3, .int s0), (0, .ref (g_ad X.1 105)), (1, .int v1), (2, .int v2), (4, .int v4)]) O dX8_trapAt_29 rfl (by decide) rfl ?_
  obtain ⟨x1, ex1⟩ : ∃ z : Int32, z = v4 + (1 : Int32) := ⟨_, rfl⟩
  have h := nm_use h x1 ex1
  refine k_iinc (lv' := [(4, .int x1), (3, .int s0), (0, .ref (g_ad X.1 105)), (1, .int v1), (2, .int v2)]) O dX8_trapAt_30 4 rfl (by rw [ex1]; rfl) (by decide) rfl ?_
  refine k_goto O 6 dX8_trapAt_33 (by decide) ?_
  exact k_sub [2, 3, 4, 1, 0] rfl (hk6 h)
set_option maxHeartbeats 4000000 in
set_option maxRecDepth 100000 in
theorem w_X8_trapAt_6 {X : Cx} {rz : Int32} {wz : Wd} (O : Ok X cX8_trapAt RX8 ((some .int)) wsX8_trapAt (0) (0) 5) (hN : 121 ≤ g_N X.1) (ho : Ro X (some (.int rz), wz)) (n : Nat) : ∀ {w : Wd} {v1 : Int32} {v2 : Int32} {v3 : Int32} {v4 : Int32}, b_X8_trapAt_6 n w v1 v2 v3 v4 = some (rz, wz) → Wk X w 6 [(0, .ref (g_ad X.1 105)), (1, .int v1), (2, .int v2), (3, .int v3), (4, .int v4)] [] := by
  induction n with
  | zero => intro w v1 v2 v3 v4 h; exact nomatch (show (none : Option (Int32 × Wd)) = some _ from h)
  | succ n ih =>
    intro w v1 v2 v3 v4 h
    rw [b_X8_trapAt_6] at h
    refine k_iload O dX8_trapAt_6 4 rfl ?_
    refine k_iload_n O dX8_trapAt_8 2 rfl ?_
    refine k_icmp_ge O 36 dX8_trapAt_9 (by decide) (fun c1 => ?_) (fun c1 => ?_)
    · have h := ite_t c1 h
      refine k_iload_n O dX8_trapAt_36 3 rfl ?_
      exact k_iret O dX8_trapAt_37 (rt_int h ho)
    · have h := ite_f c1 h
      refine k_aload_n O dX8_trapAt_12 0 rfl ?_
      refine k_get O (v := .ref (g_ad X.1 108)) (k := 105) (by omega) E_105 rfl 5 (by decide) (fun _ h9 => List.mem_cons_of_mem _ (List.mem_append_right _ h9)) (List.mem_of_getElem? (i := 1) rfl) rfl dX8_trapAt_13 ?_
      refine k_iload O dX8_trapAt_16 4 rfl ?_
      obtain ⟨g2, h⟩ := gd_some h
      refine k_iald O (k := 108) (by omega) E_108 g2 dX8_trapAt_18 ?_
      refine k_iload_n O dX8_trapAt_19 1 rfl ?_
      refine k_icmp_ne O 28 dX8_trapAt_20 (by decide) (fun c3 => ?_) (fun c3 => ?_)
      · have h := ite_f c3 h
        refine k_iload_n O dX8_trapAt_28 3 rfl ?_
        exact k_sub [0, 1, 2, 4] rfl (w_X8_trapAt_29 O hN (fun {_} {_} {_} {_} {_} h9 => ih h9) ho h)
      · have h := ite_t c3 h
        refine k_iload O dX8_trapAt_23 4 rfl ?_
        refine k_goto O 29 dX8_trapAt_25 (by decide) ?_
        exact k_sub [0, 1, 2, 4] rfl (w_X8_trapAt_29 O hN (fun {_} {_} {_} {_} {_} h9 => ih h9) ho h)
set_option maxHeartbeats 4000000 in
set_option maxRecDepth 100000 in
theorem w_X8_trapAt_0 {X : Cx} {rz : Int32} {wz : Wd} (O : Ok X cX8_trapAt RX8 ((some .int)) wsX8_trapAt (0) (0) 5) (hN : 121 ≤ g_N X.1) (ho : Ro X (some (.int rz), wz)) {w : Wd} {v1 : Int32} {v2 : Int32} (h : b_X8_trapAt_0 w v1 v2 = some (rz, wz)) : Wk X w 0 [(0, .ref (g_ad X.1 105)), (1, .int v1), (2, .int v2)] [] := by
  unfold b_X8_trapAt_0 at h
  refine k_bipush O dX8_trapAt_0 (v := -9) (by decide) ?_
  refine k_istore_n (lv' := [(3, .int ((-9 : Int32))), (0, .ref (g_ad X.1 105)), (1, .int v1), (2, .int v2)]) O dX8_trapAt_2 rfl (by decide) rfl ?_
  refine k_iconst O dX8_trapAt_3 (v := 0) (by decide) ?_
  refine k_istore (lv' := [(4, .int ((0 : Int32))), (3, .int ((-9 : Int32))), (0, .ref (g_ad X.1 105)), (1, .int v1), (2, .int v2)]) O dX8_trapAt_4 (by decide) rfl ?_
  exact k_sub [2, 3, 4, 1, 0] rfl (w_X8_trapAt_6 O hN ho LF h)
theorem c_X8_trapAt (l : Launch) (G : Gl) (hN : 121 ≤ g_N G) {w wz : Wd} {v1 : Int32} {v2 : Int32} {rz : Int32} (h : f_X8_trapAt w v1 v2 = some (rz, wz)) : Ct l yX8_trapAt wsX8_trapAt (0) (0) G [.ref (g_ad G 105), .int v1, .int v2] w (some (.int rz), wz) := by
  refine Ct.start (by decide) rfl rfl rfl (Nat.le_of_ble_eq_true rfl) (fun X hG ho hl O => ?_)
  subst hG
  subst hl
  exact k_sub [0, 1, 2] rfl (w_X8_trapAt_0 O hN ho h)
def b_X8_stepOn_117 (w : Wd) (v1 : Int32) (v6 : Int32) : Option (Int32 × Wd) := bd (f_X8_spring w v1 v6) (fun r3 w2 => some (r3, w2))
def b_X8_stepOn_64 (w : Wd) (v1 : Int32) (v5 : Int32) (v6 : Int32) (s0 : Int32) : Option (Int32 × Wd) := if s0 = 0 then (b_X8_stepOn_117 w v1 v6) else (gd (inb v6 7) (if (w.1 110 v6.toNatClampNeg) = ((2 : Int32)) then (gd (inb (v5 + ((1 : Int32))) 72) (if (((w.1 113 (v5 + ((1 : Int32))).toNatClampNeg) >>> (v6 &&& 31)) &&& ((1 : Int32))) = 0 then (gd (inb (v5 + ((1 : Int32))) 72) (gd (inb (v5 + ((1 : Int32))) 72) (nm (up w 113 (v5 + ((1 : Int32))).toNatClampNeg ((w.1 113 (v5 + ((1 : Int32))).toNatClampNeg) ||| (((1 : Int32)) <<< (v6 &&& 31)))) (fun w8 => some ((0 : Int32), w8))))) else (b_X8_stepOn_117 w v1 v6))) else (b_X8_stepOn_117 w v1 v6)))
def b_X8_stepOn_63 (w : Wd) (v1 : Int32) (v5 : Int32) (v6 : Int32) : Option (Int32 × Wd) := b_X8_stepOn_64 w v1 v5 v6 ((0 : Int32))
def b_X8_stepOn_0 (w : Wd) (v1 : Int32) (v2 : Int32) (v3 : Int32) (v4 : Int32) : Option (Int32 × Wd) := nm (((12 : Int32)) * v1) (fun x1 => gd (inb ((x1 + ((4 : Int32))) + v2) 72) (nm (up w 113 ((x1 + ((4 : Int32))) + v2).toNatClampNeg v3) (fun w3 => bd (f_X8_trapAt w3 v3 v4) (fun r6 w5 => if r6 = ((-9 : Int32)) then (some ((0 : Int32), w5)) else (gd (inb x1 72) (if (((w5.1 113 x1.toNatClampNeg) >>> (r6 &&& 31)) &&& ((1 : Int32))) = ((1 : Int32)) then (if (w5.1 105 13) = 0 then (b_X8_stepOn_64 w5 v1 x1 r6 ((1 : Int32))) else (b_X8_stepOn_63 w5 v1 x1 r6)) else (b_X8_stepOn_63 w5 v1 x1 r6)))))))
def f_X8_stepOn (w : Wd) (v1 : Int32) (v2 : Int32) (v3 : Int32) (v4 : Int32) : Option (Int32 × Wd) := b_X8_stepOn_0 w v1 v2 v3 v4
set_option maxHeartbeats 4000000 in
set_option maxRecDepth 100000 in
theorem w_X8_stepOn_117 {X : Cx} {rz : Int32} {wz : Wd} (O : Ok X cX8_stepOn RX8 ((some .int)) wsX8_stepOn (2) (54) 8) (hN : 121 ≤ g_N X.1) (ho : Ro X (some (.int rz), wz)) {w : Wd} {v1 : Int32} {v6 : Int32} (h : b_X8_stepOn_117 w v1 v6 = some (rz, wz)) : Wk X w 117 [(0, .ref (g_ad X.1 105)), (1, .int v1), (6, .int v6)] [] := by
  unfold b_X8_stepOn_117 at h
  refine k_aload_n O dX8_stepOn_117 0 rfl ?_
  refine k_iload_n O dX8_stepOn_118 1 rfl ?_
  refine k_iload O dX8_stepOn_119 2 rfl ?_
  obtain ⟨r3, w2, hc1, h⟩ := bd_some h
  refine k_callVi O (As := [.int v1, .int v6]) (rest := []) (k := 105) (c_X8_spring (x_l X) X.1 hN hc1) gX8_stepOn_X8_spring rfl hd_X8_spring (by decide) (by omega) E_105 rfl rfl rfl rfl rfl (Nat.le_of_ble_eq_true rfl) dX8_stepOn_121 ?_
  exact k_iret O dX8_stepOn_124 (rt_int h ho)
set_option maxHeartbeats 4000000 in
set_option maxRecDepth 100000 in
theorem w_X8_stepOn_64 {X : Cx} {rz : Int32} {wz : Wd} (O : Ok X cX8_stepOn RX8 ((some .int)) wsX8_stepOn (2) (54) 8) (hN : 121 ≤ g_N X.1) (ho : Ro X (some (.int rz), wz)) {w : Wd} {v1 : Int32} {v5 : Int32} {v6 : Int32} {s0 : Int32} (h : b_X8_stepOn_64 w v1 v5 v6 s0 = some (rz, wz)) : Wk X w 64 [(0, .ref (g_ad X.1 105)), (1, .int v1), (5, .int v5), (6, .int v6)] [.int s0] := by
  unfold b_X8_stepOn_64 at h
  refine k_istore (lv' := [(7, .int s0), (0, .ref (g_ad X.1 105)), (1, .int v1), (5, .int v5), (6, .int v6)]) O dX8_stepOn_64 (by decide) rfl ?_
  refine k_iload O dX8_stepOn_66 0 rfl ?_
  refine k_if_eq O 117 dX8_stepOn_68 (by decide) (fun c1 => ?_) (fun c1 => ?_)
  · have h := ite_t c1 h
    exact k_sub [1, 2, 4] rfl (w_X8_stepOn_117 O hN ho h)
  · have h := ite_f c1 h
    refine k_aload_n O dX8_stepOn_71 1 rfl ?_
    refine k_get O (v := .ref (g_ad X.1 110)) (k := 105) (by omega) E_105 rfl 7 (by decide) (fun _ h9 => List.mem_cons_of_mem _ (List.mem_append_right _ h9)) (List.mem_of_getElem? (i := 3) rfl) rfl dX8_stepOn_72 ?_
    refine k_iload O dX8_stepOn_75 4 rfl ?_
    obtain ⟨g2, h⟩ := gd_some h
    refine k_iald O (k := 110) (by omega) E_110 g2 dX8_stepOn_77 ?_
    refine k_iconst O dX8_stepOn_78 (v := 2) (by decide) ?_
    refine k_icmp_ne O 117 dX8_stepOn_79 (by decide) (fun c3 => ?_) (fun c3 => ?_)
    · have h := ite_f c3 h
      exact k_sub [1, 2, 4] rfl (w_X8_stepOn_117 O hN ho h)
    · have h := ite_t c3 h
      refine k_aload_n O dX8_stepOn_82 1 rfl ?_
      refine k_get O (v := .ref (g_ad X.1 113)) (k := 105) (by omega) E_105 rfl 14 (by decide) (fun _ h9 => List.mem_cons_of_mem _ (List.mem_append_right _ h9)) (List.mem_of_getElem? (i := 1) rfl) rfl dX8_stepOn_83 ?_
      refine k_iload O dX8_stepOn_86 3 rfl ?_
      refine k_iconst O dX8_stepOn_88 (v := 1) (by decide) ?_
      refine k_iadd O dX8_stepOn_89 ?_
      obtain ⟨g4, h⟩ := gd_some h
      refine k_iald O (k := 113) (by omega) E_113 g4 dX8_stepOn_90 ?_
      refine k_iload O dX8_stepOn_91 4 rfl ?_
      refine k_ishr O dX8_stepOn_93 ?_
      refine k_iconst O dX8_stepOn_94 (v := 1) (by decide) ?_
      refine k_iand O dX8_stepOn_95 ?_
      refine k_if_ne O 117 dX8_stepOn_96 (by decide) (fun c5 => ?_) (fun c5 => ?_)
      · have h := ite_f c5 h
        exact k_sub [1, 2, 4] rfl (w_X8_stepOn_117 O hN ho h)
      · have h := ite_t c5 h
        refine k_aload_n O dX8_stepOn_99 1 rfl ?_
        refine k_get O (v := .ref (g_ad X.1 113)) (k := 105) (by omega) E_105 rfl 14 (by decide) (fun _ h9 => List.mem_cons_of_mem _ (List.mem_append_right _ h9)) (List.mem_of_getElem? (i := 1) rfl) rfl dX8_stepOn_100 ?_
        refine k_iload O dX8_stepOn_103 3 rfl ?_
        refine k_iconst O dX8_stepOn_105 (v := 1) (by decide) ?_
        refine k_iadd O dX8_stepOn_106 ?_
        refine k_dup2 O dX8_stepOn_107 rfl rfl ?_
        obtain ⟨g6, h⟩ := gd_some h
        refine k_iald O (k := 113) (by omega) E_113 g6 dX8_stepOn_108 ?_
        refine k_iconst O dX8_stepOn_109 (v := 1) (by decide) ?_
        refine k_iload O dX8_stepOn_110 4 rfl ?_
        refine k_ishl O dX8_stepOn_112 ?_
        refine k_ior O dX8_stepOn_113 ?_
        obtain ⟨g7, h⟩ := gd_some h
        refine k_iast O (k := 113) (by omega) E_113 (fun _ => E_113) g7 dX8_stepOn_114 ?_
        refine k_nw (fun w8 ew8 => ?_)
        have h := nm_use h w8 ew8
        refine k_iconst O dX8_stepOn_115 (v := 0) (by decide) ?_
        exact k_iret O dX8_stepOn_116 (rt_int h ho)
set_option maxHeartbeats 4000000 in
set_option maxRecDepth 100000 in
theorem w_X8_stepOn_63 {X : Cx} {rz : Int32} {wz : Wd} (O : Ok X cX8_stepOn RX8 ((some .int)) wsX8_stepOn (2) (54) 8) (hN : 121 ≤ g_N X.1) (ho : Ro X (some (.int rz), wz)) {w : Wd} {v1 : Int32} {v5 : Int32} {v6 : Int32} (h : b_X8_stepOn_63 w v1 v5 v6 = some (rz, wz)) : Wk X w 63 [(0, .ref (g_ad X.1 105)), (1, .int v1), (5, .int v5), (6, .int v6)] [] := by
  unfold b_X8_stepOn_63 at h
  refine k_iconst O dX8_stepOn_63 (v := 0) (by decide) ?_
  exact k_sub [0, 1, 2, 3] rfl (w_X8_stepOn_64 O hN ho h)
set_option maxHeartbeats 4000000 in
set_option maxRecDepth 100000 in
theorem w_X8_stepOn_0 {X : Cx} {rz : Int32} {wz : Wd} (O : Ok X cX8_stepOn RX8 ((some .int)) wsX8_stepOn (2) (54) 8) (hN : 121 ≤ g_N X.1) (ho : Ro X (some (.int rz), wz)) {w : Wd} {v1 : Int32} {v2 : Int32} {v3 : Int32} {v4 : Int32} (h : b_X8_stepOn_0 w v1 v2 v3 v4 = some (rz, wz)) : Wk X w 0 [(0, .ref (g_ad X.1 105)), (1, .int v1), (2, .int v2), (3, .int v3), (4, .int v4)] [] := by
  unfold b_X8_stepOn_0 at h
  refine k_bipush O dX8_stepOn_0 (v := 12) (by decide) ?_
  refine k_iload_n O dX8_stepOn_2 1 rfl ?_
  refine k_imul O dX8_stepOn_3 ?_
  refine k_topi (fun x1 ex1 => ?_)
  have h := nm_use h x1 ex1
  refine k_istore (lv' := [(5, .int x1), (0, .ref (g_ad X.1 105)), (1, .int v1), (2, .int v2), (3, .int v3), (4, .int v4)]) O dX8_stepOn_4 (by decide) rfl ?_
  refine k_aload_n O dX8_stepOn_6 1 rfl ?_
  refine k_get O (v := .ref (g_ad X.1 113)) (k := 105) (by omega) E_105 rfl 14 (by decide) (fun _ h9 => List.mem_cons_of_mem _ (List.mem_append_right _ h9)) (List.mem_of_getElem? (i := 1) rfl) rfl dX8_stepOn_7 ?_
  refine k_iload O dX8_stepOn_10 0 rfl ?_
  refine k_iconst O dX8_stepOn_12 (v := 4) (by decide) ?_
  refine k_iadd O dX8_stepOn_13 ?_
  refine k_iload_n O dX8_stepOn_14 3 rfl ?_
  refine k_iadd O dX8_stepOn_15 ?_
  refine k_iload_n O dX8_stepOn_16 4 rfl ?_
  obtain ⟨g2, h⟩ := gd_some h
  refine k_iast O (k := 113) (by omega) E_113 (fun _ => E_113) g2 dX8_stepOn_17 ?_
  refine k_nw (fun w3 ew3 => ?_)
  have h := nm_use h w3 ew3
  refine k_aload_n O dX8_stepOn_18 1 rfl ?_
  refine k_iload_n O dX8_stepOn_19 4 rfl ?_
  refine k_iload O dX8_stepOn_20 5 rfl ?_
  obtain ⟨r6, w5, hc4, h⟩ := bd_some h
  refine k_callVi O (As := [.int v3, .int v4]) (rest := []) (k := 105) (c_X8_trapAt (x_l X) X.1 hN hc4) gX8_stepOn_X8_trapAt rfl hd_X8_trapAt (by decide) (by omega) E_105 rfl rfl rfl rfl rfl (Nat.le_of_ble_eq_true rfl) dX8_stepOn_22 ?_
  refine k_istore (lv' := [(6, .int r6), (5, .int x1), (0, .ref (g_ad X.1 105)), (1, .int v1), (2, .int v2), (3, .int v3), (4, .int v4)]) O dX8_stepOn_25 (by decide) rfl ?_
  refine k_iload O dX8_stepOn_27 0 rfl ?_
  refine k_bipush O dX8_stepOn_29 (v := -9) (by decide) ?_
  refine k_icmp_ne O 36 dX8_stepOn_31 (by decide) (fun c7 => ?_) (fun c7 => ?_)
  · have h := ite_f c7 h
    refine k_aload_n O dX8_stepOn_36 2 rfl ?_
    refine k_get O (v := .ref (g_ad X.1 113)) (k := 105) (by omega) E_105 rfl 14 (by decide) (fun _ h9 => List.mem_cons_of_mem _ (List.mem_append_right _ h9)) (List.mem_of_getElem? (i := 1) rfl) rfl dX8_stepOn_37 ?_
    refine k_iload O dX8_stepOn_40 1 rfl ?_
    obtain ⟨g8, h⟩ := gd_some h
    refine k_iald O (k := 113) (by omega) E_113 g8 dX8_stepOn_42 ?_
    refine k_iload O dX8_stepOn_43 0 rfl ?_
    refine k_ishr O dX8_stepOn_45 ?_
    refine k_iconst O dX8_stepOn_46 (v := 1) (by decide) ?_
    refine k_iand O dX8_stepOn_47 ?_
    refine k_iconst O dX8_stepOn_48 (v := 1) (by decide) ?_
    refine k_icmp_ne O 63 dX8_stepOn_49 (by decide) (fun c9 => ?_) (fun c9 => ?_)
    · have h := ite_f c9 h
      exact k_sub [2, 3, 1, 0] rfl (w_X8_stepOn_63 O hN ho h)
    · have h := ite_t c9 h
      refine k_aload_n O dX8_stepOn_52 2 rfl ?_
      refine k_get O (v := .int (w5.1 105 13)) (k := 105) (by omega) E_105 rfl 13 (by decide) (fun _ h9 => List.mem_cons_of_mem _ (List.mem_append_right _ h9)) (List.mem_of_getElem? (i := 2) rfl) rfl dX8_stepOn_53 ?_
      refine k_if_ne O 63 dX8_stepOn_56 (by decide) (fun c10 => ?_) (fun c10 => ?_)
      · have h := ite_f c10 h
        exact k_sub [2, 3, 1, 0] rfl (w_X8_stepOn_63 O hN ho h)
      · have h := ite_t c10 h
        refine k_iconst O dX8_stepOn_59 (v := 1) (by decide) ?_
        refine k_goto O 64 dX8_stepOn_60 (by decide) ?_
        exact k_sub [2, 3, 1, 0] rfl (w_X8_stepOn_64 O hN ho h)
  · have h := ite_t c7 h
    refine k_iconst O dX8_stepOn_34 (v := 0) (by decide) ?_
    exact k_iret O dX8_stepOn_35 (rt_int h ho)
theorem c_X8_stepOn (l : Launch) (G : Gl) (hN : 121 ≤ g_N G) {w wz : Wd} {v1 : Int32} {v2 : Int32} {v3 : Int32} {v4 : Int32} {rz : Int32} (h : f_X8_stepOn w v1 v2 v3 v4 = some (rz, wz)) : Ct l yX8_stepOn wsX8_stepOn (2) (54) G [.ref (g_ad G 105), .int v1, .int v2, .int v3, .int v4] w (some (.int rz), wz) := by
  refine Ct.start (by decide) rfl rfl rfl (Nat.le_of_ble_eq_true rfl) (fun X hG ho hl O => ?_)
  subst hG
  subst hl
  exact k_sub [0, 1, 2, 3, 4] rfl (w_X8_stepOn_0 O hN ho h)
def b_X8_keepAct_2 : Nat → Wd → Int32 → Option (Wd)
  | 0, _, _ => none
  | n + 1, w, v1 => if ((12 : Int32)) ≤ v1 then (nm (up w 105 20 (((w.1 105 20) + ((1 : Int32))) - ((w.1 105 20) + ((1 : Int32))) / ((16 : Int32)) * ((16 : Int32)))) (fun w2 => if ((16 : Int32)) ≤ (w2.1 105 19) then (nm (up w2 105 19 ((16 : Int32))) (fun w4 => some w4)) else (nm (up w2 105 19 ((w2.1 105 19) + ((1 : Int32)))) (fun w5 => some w5)))) else (gd (inb v1 72) (gd (inb ((((12 : Int32)) * (w.1 105 20)) + v1) 192) (nm (up w 115 ((((12 : Int32)) * (w.1 105 20)) + v1).toNatClampNeg (w.1 113 v1.toNatClampNeg)) (fun w8 => nm (v1 + (1 : Int32)) (fun x9 => b_X8_keepAct_2 n w8 x9)))))
def b_X8_keepAct_0 (w : Wd) : Option (Wd) := b_X8_keepAct_2 LF w ((0 : Int32))
def f_X8_keepAct (w : Wd) : Option (Wd) := b_X8_keepAct_0 w 
set_option maxHeartbeats 4000000 in
set_option maxRecDepth 100000 in
theorem w_X8_keepAct_2 {X : Cx} {wz : Wd} (O : Ok X cX8_keepAct RX8 none wsX8_keepAct (0) (0) 2) (hN : 121 ≤ g_N X.1) (ho : Ro X (none, wz)) (n : Nat) : ∀ {w : Wd} {v1 : Int32}, b_X8_keepAct_2 n w v1 = some wz → Wk X w 2 [(0, .ref (g_ad X.1 105)), (1, .int v1)] [] := by
  induction n with
  | zero => intro w v1 h; exact nomatch (show (none : Option (Wd)) = some _ from h)
  | succ n ih =>
    intro w v1 h
    rw [b_X8_keepAct_2] at h
    refine k_iload_n O dX8_keepAct_2 1 rfl ?_
    refine k_bipush O dX8_keepAct_3 (v := 12) (by decide) ?_
    refine k_icmp_ge O 34 dX8_keepAct_5 (by decide) (fun c1 => ?_) (fun c1 => ?_)
    · have h := ite_t c1 h
      refine k_aload_n O dX8_keepAct_34 0 rfl ?_
      refine k_aload_n O dX8_keepAct_35 0 rfl ?_
      refine k_get O (v := .int (w.1 105 20)) (k := 105) (by omega) E_105 rfl 20 (by decide) (fun _ h9 => List.mem_cons_of_mem _ (List.mem_append_right _ h9)) (List.mem_of_getElem? (i := 2) rfl) rfl dX8_keepAct_36 ?_
      refine k_iconst O dX8_keepAct_39 (v := 1) (by decide) ?_
      refine k_iadd O dX8_keepAct_40 ?_
      refine k_bipush O dX8_keepAct_41 (v := 16) (by decide) ?_
      refine k_irem O dX8_keepAct_43 (by decide) ?_
      refine k_puti O (k := 105) tyX8 tyX8_ok nmX8 (by omega) E_105 rfl 20 (by decide) (fun _ h9 => List.mem_cons_of_mem _ (List.mem_append_right _ h9)) (List.mem_of_getElem? (i := 2) rfl) rfl rfl rfl (Nat.le_of_ble_eq_true rfl) (E_105.trans rfl) dX8_keepAct_44 ?_
      refine k_nw (fun w2 ew2 => ?_)
      have h := nm_use h w2 ew2
      refine k_aload_n O dX8_keepAct_47 0 rfl ?_
      refine k_aload_n O dX8_keepAct_48 0 rfl ?_
      refine k_get O (v := .int (w2.1 105 19)) (k := 105) (by omega) E_105 rfl 19 (by decide) (fun _ h9 => List.mem_cons_of_mem _ (List.mem_append_right _ h9)) (List.mem_of_getElem? (i := 4) rfl) rfl dX8_keepAct_49 ?_
      refine k_bipush O dX8_keepAct_52 (v := 16) (by decide) ?_
      refine k_icmp_ge O 66 dX8_keepAct_54 (by decide) (fun c3 => ?_) (fun c3 => ?_)
      · have h := ite_t c3 h
        refine k_bipush O dX8_keepAct_66 (v := 16) (by decide) ?_
        refine k_puti O (k := 105) tyX8 tyX8_ok nmX8 (by omega) E_105 rfl 19 (by decide) (fun _ h9 => List.mem_cons_of_mem _ (List.mem_append_right _ h9)) (List.mem_of_getElem? (i := 4) rfl) rfl rfl rfl (Nat.le_of_ble_eq_true rfl) (E_105.trans rfl) dX8_keepAct_68 ?_
        refine k_nw (fun w4 ew4 => ?_)
        have h := nm_use h w4 ew4
        exact k_vret O dX8_keepAct_71 (rt_void h ho)
      · have h := ite_f c3 h
        refine k_aload_n O dX8_keepAct_57 0 rfl ?_
        refine k_get O (v := .int (w2.1 105 19)) (k := 105) (by omega) E_105 rfl 19 (by decide) (fun _ h9 => List.mem_cons_of_mem _ (List.mem_append_right _ h9)) (List.mem_of_getElem? (i := 4) rfl) rfl dX8_keepAct_58 ?_
        refine k_iconst O dX8_keepAct_61 (v := 1) (by decide) ?_
        refine k_iadd O dX8_keepAct_62 ?_
        refine k_goto O 68 dX8_keepAct_63 (by decide) ?_
        refine k_puti O (k := 105) tyX8 tyX8_ok nmX8 (by omega) E_105 rfl 19 (by decide) (fun _ h9 => List.mem_cons_of_mem _ (List.mem_append_right _ h9)) (List.mem_of_getElem? (i := 4) rfl) rfl rfl rfl (Nat.le_of_ble_eq_true rfl) (E_105.trans rfl) dX8_keepAct_68 ?_
        refine k_nw (fun w5 ew5 => ?_)
        have h := nm_use h w5 ew5
        exact k_vret O dX8_keepAct_71 (rt_void h ho)
    · have h := ite_f c1 h
      refine k_aload_n O dX8_keepAct_8 0 rfl ?_
      refine k_get O (v := .ref (g_ad X.1 115)) (k := 105) (by omega) E_105 rfl 21 (by decide) (fun _ h9 => List.mem_cons_of_mem _ (List.mem_append_right _ h9)) (List.mem_of_getElem? (i := 1) rfl) rfl dX8_keepAct_9 ?_
      refine k_bipush O dX8_keepAct_12 (v := 12) (by decide) ?_
      refine k_aload_n O dX8_keepAct_14 0 rfl ?_
      refine k_get O (v := .int (w.1 105 20)) (k := 105) (by omega) E_105 rfl 20 (by decide) (fun _ h9 => List.mem_cons_of_mem _ (List.mem_append_right _ h9)) (List.mem_of_getElem? (i := 2) rfl) rfl dX8_keepAct_15 ?_
      refine k_imul O dX8_keepAct_18 ?_
      refine k_iload_n O dX8_keepAct_19 1 rfl ?_
      refine k_iadd O dX8_keepAct_20 ?_
      refine k_aload_n O dX8_keepAct_21 0 rfl ?_
      refine k_get O (v := .ref (g_ad X.1 113)) (k := 105) (by omega) E_105 rfl 14 (by decide) (fun _ h9 => List.mem_cons_of_mem _ (List.mem_append_right _ h9)) (List.mem_of_getElem? (i := 3) rfl) rfl dX8_keepAct_22 ?_
      refine k_iload_n O dX8_keepAct_25 1 rfl ?_
      obtain ⟨g6, h⟩ := gd_some h
      refine k_iald O (k := 113) (by omega) E_113 g6 dX8_keepAct_26 ?_
      obtain ⟨g7, h⟩ := gd_some h
      refine k_iast O (k := 115) (by omega) E_115 (fun _ => E_115) g7 dX8_keepAct_27 ?_
      refine k_nw (fun w8 ew8 => ?_)
      have h := nm_use h w8 ew8
      obtain ⟨x9, ex9⟩ : ∃ z : Int32, z = v1 + (1 : Int32) := ⟨_, rfl⟩
      have h := nm_use h x9 ex9
      refine k_iinc (lv' := [(1, .int x9), (0, .ref (g_ad X.1 105))]) O dX8_keepAct_28 1 rfl (by rw [ex9]; rfl) (by decide) rfl ?_
      refine k_goto O 2 dX8_keepAct_31 (by decide) ?_
      exact k_sub [1, 0] rfl (ih h)
set_option maxHeartbeats 4000000 in
set_option maxRecDepth 100000 in
theorem w_X8_keepAct_0 {X : Cx} {wz : Wd} (O : Ok X cX8_keepAct RX8 none wsX8_keepAct (0) (0) 2) (hN : 121 ≤ g_N X.1) (ho : Ro X (none, wz)) {w : Wd} (h : b_X8_keepAct_0 w  = some wz) : Wk X w 0 [(0, .ref (g_ad X.1 105))] [] := by
  unfold b_X8_keepAct_0 at h
  refine k_iconst O dX8_keepAct_0 (v := 0) (by decide) ?_
  refine k_istore_n (lv' := [(1, .int ((0 : Int32))), (0, .ref (g_ad X.1 105))]) O dX8_keepAct_1 rfl (by decide) rfl ?_
  exact k_sub [1, 0] rfl (w_X8_keepAct_2 O hN ho LF h)
theorem c_X8_keepAct (l : Launch) (G : Gl) (hN : 121 ≤ g_N G) {w wz : Wd} (h : f_X8_keepAct w  = some wz) : Ct l yX8_keepAct wsX8_keepAct (0) (0) G [.ref (g_ad G 105)] w (none, wz) := by
  refine Ct.start (by decide) rfl rfl rfl (Nat.le_of_ble_eq_true rfl) (fun X hG ho hl O => ?_)
  subst hG
  subst hl
  exact k_sub [0] rfl (w_X8_keepAct_0 O hN ho h)
def b_X8_step_0 (w : Wd) (v1 : Int32) (v2 : Int32) : Option (Int32 × Wd) := bd (f_X8_isWalker w v1) (fun r3 w2 => if r3 = 0 then (some ((-1 : Int32), w2)) else (bd (f_X8_isCell w2 v2) (fun r7 w6 => if r7 = 0 then (some ((-1 : Int32), w6)) else (gd (inb (((8 : Int32)) + v1) 72) (if (w6.1 113 (((8 : Int32)) + v1).toNatClampNeg) = ((-9 : Int32)) then (gd (inb (((4 : Int32)) + v1) 72) (bd (f_X8_nearTo w6 (w6.1 113 (((4 : Int32)) + v1).toNatClampNeg)) (fun r14 w13 => if ((r14 >>> (v2 &&& 31)) &&& ((1 : Int32))) = 0 then (some ((-3 : Int32), w13)) else (bv (f_X8_keepAct w13) (fun w17 => bd (f_X8_stepOn w17 ((0 : Int32)) v1 v2 (w17.1 105 10)) (fun r20 w19 => some (r20, w19))))))) else (some ((-3 : Int32), w6)))))))
def f_X8_step (w : Wd) (v1 : Int32) (v2 : Int32) : Option (Int32 × Wd) := b_X8_step_0 w v1 v2
set_option maxHeartbeats 4000000 in
set_option maxRecDepth 100000 in
theorem w_X8_step_0 {X : Cx} {rz : Int32} {wz : Wd} (O : Ok X cX8_step RX8 ((some .int)) wsX8_step (3) (81) 3) (hN : 121 ≤ g_N X.1) (ho : Ro X (some (.int rz), wz)) {w : Wd} {v1 : Int32} {v2 : Int32} (h : b_X8_step_0 w v1 v2 = some (rz, wz)) : Wk X w 0 [(0, .ref (g_ad X.1 105)), (1, .int v1), (2, .int v2)] [] := by
  unfold b_X8_step_0 at h
  refine k_aload_n O dX8_step_0 0 rfl ?_
  refine k_iload_n O dX8_step_1 1 rfl ?_
  obtain ⟨r3, w2, hc1, h⟩ := bd_some h
  refine k_callVi O (As := [.int v1]) (rest := []) (k := 105) (c_X8_isWalker (x_l X) X.1 hN hc1) gX8_step_X8_isWalker rfl hd_X8_isWalker (by decide) (by omega) E_105 rfl rfl rfl rfl rfl (Nat.le_of_ble_eq_true rfl) dX8_step_2 ?_
  refine k_if_eq O 15 dX8_step_5 (by decide) (fun c4 => ?_) (fun c4 => ?_)
  · have h := ite_t c4 h
    refine k_iconst O dX8_step_15 (v := -1) (by decide) ?_
    exact k_iret O dX8_step_16 (rt_int h ho)
  · have h := ite_f c4 h
    refine k_iload_n O dX8_step_8 2 rfl ?_
    obtain ⟨r7, w6, hc5, h⟩ := bd_some h
    refine k_callSi O (As := [.int v2]) (rest := []) (c_X8_isCell (x_l X) X.1 hc5) gX8_step_X8_isCell rfl hd_X8_isCell (by decide) rfl rfl (Nat.le_of_ble_eq_true rfl) dX8_step_9 ?_
    refine k_if_ne O 17 dX8_step_12 (by decide) (fun c8 => ?_) (fun c8 => ?_)
    · have h := ite_f c8 h
      refine k_aload_n O dX8_step_17 0 rfl ?_
      refine k_get O (v := .ref (g_ad X.1 113)) (k := 105) (by omega) E_105 rfl 14 (by decide) (fun _ h9 => List.mem_cons_of_mem _ (List.mem_append_right _ h9)) (List.mem_of_getElem? (i := 1) rfl) rfl dX8_step_18 ?_
      refine k_bipush O dX8_step_21 (v := 8) (by decide) ?_
      refine k_iload_n O dX8_step_23 1 rfl ?_
      refine k_iadd O dX8_step_24 ?_
      obtain ⟨g9, h⟩ := gd_some h
      refine k_iald O (k := 113) (by omega) E_113 g9 dX8_step_25 ?_
      refine k_bipush O dX8_step_26 (v := -9) (by decide) ?_
      refine k_icmp_ne O 50 dX8_step_28 (by decide) (fun c10 => ?_) (fun c10 => ?_)
      · have h := ite_f c10 h
        refine k_bipush O dX8_step_50 (v := -3) (by decide) ?_
        exact k_iret O dX8_step_52 (rt_int h ho)
      · have h := ite_t c10 h
        refine k_aload_n O dX8_step_31 0 rfl ?_
        refine k_aload_n O dX8_step_32 0 rfl ?_
        refine k_get O (v := .ref (g_ad X.1 113)) (k := 105) (by omega) E_105 rfl 14 (by decide) (fun _ h9 => List.mem_cons_of_mem _ (List.mem_append_right _ h9)) (List.mem_of_getElem? (i := 1) rfl) rfl dX8_step_33 ?_
        refine k_iconst O dX8_step_36 (v := 4) (by decide) ?_
        refine k_iload_n O dX8_step_37 1 rfl ?_
        refine k_iadd O dX8_step_38 ?_
        obtain ⟨g11, h⟩ := gd_some h
        refine k_iald O (k := 113) (by omega) E_113 g11 dX8_step_39 ?_
        obtain ⟨r14, w13, hc12, h⟩ := bd_some h
        refine k_callVi O (As := [.int (w6.1 113 (((4 : Int32)) + v1).toNatClampNeg)]) (rest := []) (k := 105) (c_X8_nearTo (x_l X) X.1 hN hc12) gX8_step_X8_nearTo rfl hd_X8_nearTo (by decide) (by omega) E_105 rfl rfl rfl rfl rfl (Nat.le_of_ble_eq_true rfl) dX8_step_40 ?_
        refine k_iload_n O dX8_step_43 2 rfl ?_
        refine k_ishr O dX8_step_44 ?_
        refine k_iconst O dX8_step_45 (v := 1) (by decide) ?_
        refine k_iand O dX8_step_46 ?_
        refine k_if_ne O 53 dX8_step_47 (by decide) (fun c15 => ?_) (fun c15 => ?_)
        · have h := ite_f c15 h
          refine k_aload_n O dX8_step_53 0 rfl ?_
          obtain ⟨w17, hc16, h⟩ := bv_some h
          refine k_callVv O (As := []) (rest := []) (k := 105) (c_X8_keepAct (x_l X) X.1 hN hc16) gX8_step_X8_keepAct rfl hd_X8_keepAct (by decide) (by omega) E_105 rfl rfl rfl rfl rfl (Nat.le_of_ble_eq_true rfl) dX8_step_54 ?_
          refine k_aload_n O dX8_step_57 0 rfl ?_
          refine k_iconst O dX8_step_58 (v := 0) (by decide) ?_
          refine k_iload_n O dX8_step_59 1 rfl ?_
          refine k_iload_n O dX8_step_60 2 rfl ?_
          refine k_aload_n O dX8_step_61 0 rfl ?_
          refine k_get O (v := .int (w17.1 105 10)) (k := 105) (by omega) E_105 rfl 10 (by decide) (fun _ h9 => List.mem_cons_of_mem _ (List.mem_append_right _ h9)) (List.mem_of_getElem? (i := 2) rfl) rfl dX8_step_62 ?_
          obtain ⟨r20, w19, hc18, h⟩ := bd_some h
          refine k_callVi O (As := [.int ((0 : Int32)), .int v1, .int v2, .int (w17.1 105 10)]) (rest := []) (k := 105) (c_X8_stepOn (x_l X) X.1 hN hc18) gX8_step_X8_stepOn rfl hd_X8_stepOn (by decide) (by omega) E_105 rfl rfl rfl rfl rfl (Nat.le_of_ble_eq_true rfl) dX8_step_65 ?_
          exact k_iret O dX8_step_68 (rt_int h ho)
        · have h := ite_t c15 h
          refine k_bipush O dX8_step_50 (v := -3) (by decide) ?_
          exact k_iret O dX8_step_52 (rt_int h ho)
    · have h := ite_t c8 h
      refine k_iconst O dX8_step_15 (v := -1) (by decide) ?_
      exact k_iret O dX8_step_16 (rt_int h ho)
theorem c_X8_step (l : Launch) (G : Gl) (hN : 121 ≤ g_N G) {w wz : Wd} {v1 : Int32} {v2 : Int32} {rz : Int32} (h : f_X8_step w v1 v2 = some (rz, wz)) : Ct l yX8_step wsX8_step (3) (81) G [.ref (g_ad G 105), .int v1, .int v2] w (some (.int rz), wz) := by
  refine Ct.start (by decide) rfl rfl rfl (Nat.le_of_ble_eq_true rfl) (fun X hG ho hl O => ?_)
  subst hG
  subst hl
  exact k_sub [0, 1, 2] rfl (w_X8_step_0 O hN ho h)
def b_X8_arm_0 (w : Wd) (v1 : Int32) : Option (Int32 × Wd) := bd (f_X8_isTrap w v1) (fun r3 w2 => if r3 = 0 then (some ((-1 : Int32), w2)) else (if (((w2.1 113 ((0 : Int32)).toNatClampNeg) >>> (v1 &&& 31)) &&& ((1 : Int32))) = ((1 : Int32)) then (some ((-3 : Int32), w2)) else (bv (f_X8_keepAct w2) (fun w7 => nm (up w7 113 ((0 : Int32)).toNatClampNeg ((w7.1 113 ((0 : Int32)).toNatClampNeg) ||| (((1 : Int32)) <<< (v1 &&& 31)))) (fun w8 => nm (up w8 113 ((1 : Int32)).toNatClampNeg ((w8.1 113 ((1 : Int32)).toNatClampNeg) &&& ((((1 : Int32)) <<< (v1 &&& 31)) ^^^ ((-1 : Int32))))) (fun w9 => gd (inb v1 7) (some (w9.1 109 v1.toNatClampNeg, w9))))))))
def f_X8_arm (w : Wd) (v1 : Int32) : Option (Int32 × Wd) := b_X8_arm_0 w v1
set_option maxHeartbeats 4000000 in
set_option maxRecDepth 100000 in
theorem w_X8_arm_0 {X : Cx} {rz : Int32} {wz : Wd} (O : Ok X cX8_arm RX8 ((some .int)) wsX8_arm (2) (46) 2) (hN : 121 ≤ g_N X.1) (ho : Ro X (some (.int rz), wz)) {w : Wd} {v1 : Int32} (h : b_X8_arm_0 w v1 = some (rz, wz)) : Wk X w 0 [(0, .ref (g_ad X.1 105)), (1, .int v1)] [] := by
  unfold b_X8_arm_0 at h
  refine k_aload_n O dX8_arm_0 0 rfl ?_
  refine k_iload_n O dX8_arm_1 1 rfl ?_
  obtain ⟨r3, w2, hc1, h⟩ := bd_some h
  refine k_callVi O (As := [.int v1]) (rest := []) (k := 105) (c_X8_isTrap (x_l X) X.1 hN hc1) gX8_arm_X8_isTrap rfl hd_X8_isTrap (by decide) (by omega) E_105 rfl rfl rfl rfl rfl (Nat.le_of_ble_eq_true rfl) dX8_arm_2 ?_
  refine k_if_ne O 10 dX8_arm_5 (by decide) (fun c4 => ?_) (fun c4 => ?_)
  · have h := ite_f c4 h
    refine k_aload_n O dX8_arm_10 0 rfl ?_
    refine k_get O (v := .ref (g_ad X.1 113)) (k := 105) (by omega) E_105 rfl 14 (by decide) (fun _ h9 => List.mem_cons_of_mem _ (List.mem_append_right _ h9)) (List.mem_of_getElem? (i := 1) rfl) rfl dX8_arm_11 ?_
    refine k_iconst O dX8_arm_14 (v := 0) (by decide) ?_
    refine k_iald O (k := 113) (by omega) E_113 (by decide) dX8_arm_15 ?_
    refine k_iload_n O dX8_arm_16 1 rfl ?_
    refine k_ishr O dX8_arm_17 ?_
    refine k_iconst O dX8_arm_18 (v := 1) (by decide) ?_
    refine k_iand O dX8_arm_19 ?_
    refine k_iconst O dX8_arm_20 (v := 1) (by decide) ?_
    refine k_icmp_ne O 27 dX8_arm_21 (by decide) (fun c5 => ?_) (fun c5 => ?_)
    · have h := ite_f c5 h
      refine k_aload_n O dX8_arm_27 0 rfl ?_
      obtain ⟨w7, hc6, h⟩ := bv_some h
      refine k_callVv O (As := []) (rest := []) (k := 105) (c_X8_keepAct (x_l X) X.1 hN hc6) gX8_arm_X8_keepAct rfl hd_X8_keepAct (by decide) (by omega) E_105 rfl rfl rfl rfl rfl (Nat.le_of_ble_eq_true rfl) dX8_arm_28 ?_
      refine k_aload_n O dX8_arm_31 0 rfl ?_
      refine k_get O (v := .ref (g_ad X.1 113)) (k := 105) (by omega) E_105 rfl 14 (by decide) (fun _ h9 => List.mem_cons_of_mem _ (List.mem_append_right _ h9)) (List.mem_of_getElem? (i := 1) rfl) rfl dX8_arm_32 ?_
      refine k_iconst O dX8_arm_35 (v := 0) (by decide) ?_
      refine k_dup2 O dX8_arm_36 rfl rfl ?_
      refine k_iald O (k := 113) (by omega) E_113 (by decide) dX8_arm_37 ?_
      refine k_iconst O dX8_arm_38 (v := 1) (by decide) ?_
      refine k_iload_n O dX8_arm_39 1 rfl ?_
      refine k_ishl O dX8_arm_40 ?_
      refine k_ior O dX8_arm_41 ?_
      refine k_iast O (k := 113) (by omega) E_113 (fun _ => E_113) (by decide) dX8_arm_42 ?_
      refine k_nw (fun w8 ew8 => ?_)
      have h := nm_use h w8 ew8
      refine k_aload_n O dX8_arm_43 0 rfl ?_
      refine k_get O (v := .ref (g_ad X.1 113)) (k := 105) (by omega) E_105 rfl 14 (by decide) (fun _ h9 => List.mem_cons_of_mem _ (List.mem_append_right _ h9)) (List.mem_of_getElem? (i := 1) rfl) rfl dX8_arm_44 ?_
      refine k_iconst O dX8_arm_47 (v := 1) (by decide) ?_
      refine k_dup2 O dX8_arm_48 rfl rfl ?_
      refine k_iald O (k := 113) (by omega) E_113 (by decide) dX8_arm_49 ?_
      refine k_iconst O dX8_arm_50 (v := 1) (by decide) ?_
      refine k_iload_n O dX8_arm_51 1 rfl ?_
      refine k_ishl O dX8_arm_52 ?_
      refine k_iconst O dX8_arm_53 (v := -1) (by decide) ?_
      refine k_ixor O dX8_arm_54 ?_
      refine k_iand O dX8_arm_55 ?_
      refine k_iast O (k := 113) (by omega) E_113 (fun _ => E_113) (by decide) dX8_arm_56 ?_
      refine k_nw (fun w9 ew9 => ?_)
      have h := nm_use h w9 ew9
      refine k_aload_n O dX8_arm_57 0 rfl ?_
      refine k_get O (v := .ref (g_ad X.1 109)) (k := 105) (by omega) E_105 rfl 6 (by decide) (fun _ h9 => List.mem_cons_of_mem _ (List.mem_append_right _ h9)) (List.mem_of_getElem? (i := 2) rfl) rfl dX8_arm_58 ?_
      refine k_iload_n O dX8_arm_61 1 rfl ?_
      obtain ⟨g10, h⟩ := gd_some h
      refine k_iald O (k := 109) (by omega) E_109 g10 dX8_arm_62 ?_
      exact k_iret O dX8_arm_63 (rt_int h ho)
    · have h := ite_t c5 h
      refine k_bipush O dX8_arm_24 (v := -3) (by decide) ?_
      exact k_iret O dX8_arm_26 (rt_int h ho)
  · have h := ite_t c4 h
    refine k_iconst O dX8_arm_8 (v := -1) (by decide) ?_
    exact k_iret O dX8_arm_9 (rt_int h ho)
theorem c_X8_arm (l : Launch) (G : Gl) (hN : 121 ≤ g_N G) {w wz : Wd} {v1 : Int32} {rz : Int32} (h : f_X8_arm w v1 = some (rz, wz)) : Ct l yX8_arm wsX8_arm (2) (46) G [.ref (g_ad G 105), .int v1] w (some (.int rz), wz) := by
  refine Ct.start (by decide) rfl rfl rfl (Nat.le_of_ble_eq_true rfl) (fun X hG ho hl O => ?_)
  subst hG
  subst hl
  exact k_sub [0, 1] rfl (w_X8_arm_0 O hN ho h)
def b_X8_finds_52 (kb5 : Wd → Int32 → Int32 → Int32 → Int32 → Option (Int32 × Wd)) (w : Wd) (v1 : Int32) (v2 : Int32) (v4 : Int32) (s0 : Int32) (s1 : Int32) : Option (Int32 × Wd) := nm (s1 ||| s0) (fun x1 => nm (v4 + (1 : Int32)) (fun x2 => kb5 w v1 v2 x1 x2))
def b_X8_finds_44 (kb5 : Wd → Int32 → Int32 → Int32 → Int32 → Option (Int32 × Wd)) (w : Wd) (v1 : Int32) (v2 : Int32) (v4 : Int32) (s0 : Int32) : Option (Int32 × Wd) := b_X8_finds_52 kb5 w v1 v2 v4 (((1 : Int32)) <<< (v4 &&& 31)) s0
def b_X8_finds_5 : Nat → Wd → Int32 → Int32 → Int32 → Int32 → Option (Int32 × Wd)
  | 0, _, _, _, _, _ => none
  | n + 1, w, v1, v2, v3, v4 => if (w.1 105 10) ≤ v4 then (gd (inb (((2 : Int32)) + v1) 72) (some (v3 &&& ((w.1 113 (((2 : Int32)) + v1).toNatClampNeg) ^^^ ((-1 : Int32))), w))) else (gd (inb v4 7) (if (w.1 108 v4.toNatClampNeg) = v2 then (b_X8_finds_44 (b_X8_finds_5 n) w v1 v2 v4 v3) else (bd (f_X8_neighbours w v2) (fun r7 w6 => gd (inb v4 7) (if ((r7 >>> ((w6.1 108 v4.toNatClampNeg) &&& 31)) &&& ((1 : Int32))) = ((1 : Int32)) then (b_X8_finds_44 (b_X8_finds_5 n) w6 v1 v2 v4 v3) else (b_X8_finds_52 (b_X8_finds_5 n) w6 v1 v2 v4 ((0 : Int32)) v3))))))
def b_X8_finds_0 (w : Wd) (v1 : Int32) (v2 : Int32) : Option (Int32 × Wd) := b_X8_finds_5 LF w v1 v2 ((0 : Int32)) ((0 : Int32))
def f_X8_finds (w : Wd) (v1 : Int32) (v2 : Int32) : Option (Int32 × Wd) := b_X8_finds_0 w v1 v2
set_option maxHeartbeats 4000000 in
set_option maxRecDepth 100000 in
theorem w_X8_finds_52 {X : Cx} {rz : Int32} {wz : Wd} (O : Ok X cX8_finds RX8 ((some .int)) wsX8_finds (1) (21) 5) (hN : 121 ≤ g_N X.1) {kb5 : Wd → Int32 → Int32 → Int32 → Int32 → Option (Int32 × Wd)} (hk5 : ∀ {w : Wd} {v1 : Int32} {v2 : Int32} {v3 : Int32} {v4 : Int32}, kb5 w v1 v2 v3 v4 = some (rz, wz) → Wk X w 5 [(0, .ref (g_ad X.1 105)), (1, .int v1), (2, .int v2), (3, .int v3), (4, .int v4)] []) (ho : Ro X (some (.int rz), wz)) {w : Wd} {v1 : Int32} {v2 : Int32} {v4 : Int32} {s0 : Int32} {s1 : Int32} (h : b_X8_finds_52 kb5 w v1 v2 v4 s0 s1 = some (rz, wz)) : Wk X w 52 [(0, .ref (g_ad X.1 105)), (1, .int v1), (2, .int v2), (4, .int v4)] [.int s0, .int s1] := by
  unfold b_X8_finds_52 at h
  refine k_ior O dX8_finds_52 ?_
  refine k_topi (fun x1 ex1 => ?_)
  have h := nm_use h x1 ex1
  refine k_istore_n (lv' := [(3, .int x1), (0, .ref (g_ad X.1 105)), (1, .int v1), (2, .int v2), (4, .int v4)]) O dX8_finds_53 rfl (by decide) rfl ?_
  obtain ⟨x2, ex2⟩ : ∃ z : Int32, z = v4 + (1 : Int32) := ⟨_, rfl⟩
  have h := nm_use h x2 ex2
  refine k_iinc (lv' := [(4, .int x2), (3, .int x1), (0, .ref (g_ad X.1 105)), (1, .int v1), (2, .int v2)]) O dX8_finds_54 4 rfl (by rw [ex2]; rfl) (by decide) rfl ?_
  refine k_goto O 5 dX8_finds_57 (by decide) ?_
  exact k_sub [2, 3, 4, 1, 0] rfl (hk5 h)
set_option maxHeartbeats 4000000 in
set_option maxRecDepth 100000 in
theorem w_X8_finds_44 {X : Cx} {rz : Int32} {wz : Wd} (O : Ok X cX8_finds RX8 ((some .int)) wsX8_finds (1) (21) 5) (hN : 121 ≤ g_N X.1) {kb5 : Wd → Int32 → Int32 → Int32 → Int32 → Option (Int32 × Wd)} (hk5 : ∀ {w : Wd} {v1 : Int32} {v2 : Int32} {v3 : Int32} {v4 : Int32}, kb5 w v1 v2 v3 v4 = some (rz, wz) → Wk X w 5 [(0, .ref (g_ad X.1 105)), (1, .int v1), (2, .int v2), (3, .int v3), (4, .int v4)] []) (ho : Ro X (some (.int rz), wz)) {w : Wd} {v1 : Int32} {v2 : Int32} {v4 : Int32} {s0 : Int32} (h : b_X8_finds_44 kb5 w v1 v2 v4 s0 = some (rz, wz)) : Wk X w 44 [(0, .ref (g_ad X.1 105)), (1, .int v1), (2, .int v2), (4, .int v4)] [.int s0] := by
  unfold b_X8_finds_44 at h
  refine k_iconst O dX8_finds_44 (v := 1) (by decide) ?_
  refine k_iload O dX8_finds_45 3 rfl ?_
  refine k_ishl O dX8_finds_47 ?_
  refine k_goto O 52 dX8_finds_48 (by decide) ?_
  exact k_sub [0, 1, 2, 3] rfl (w_X8_finds_52 O hN hk5 ho h)
set_option maxHeartbeats 4000000 in
set_option maxRecDepth 100000 in
theorem w_X8_finds_5 {X : Cx} {rz : Int32} {wz : Wd} (O : Ok X cX8_finds RX8 ((some .int)) wsX8_finds (1) (21) 5) (hN : 121 ≤ g_N X.1) (ho : Ro X (some (.int rz), wz)) (n : Nat) : ∀ {w : Wd} {v1 : Int32} {v2 : Int32} {v3 : Int32} {v4 : Int32}, b_X8_finds_5 n w v1 v2 v3 v4 = some (rz, wz) → Wk X w 5 [(0, .ref (g_ad X.1 105)), (1, .int v1), (2, .int v2), (3, .int v3), (4, .int v4)] [] := by
  induction n with
  | zero => intro w v1 v2 v3 v4 h; exact nomatch (show (none : Option (Int32 × Wd)) = some _ from h)
  | succ n ih =>
    intro w v1 v2 v3 v4 h
    rw [b_X8_finds_5] at h
    refine k_iload O dX8_finds_5 4 rfl ?_
    refine k_aload_n O dX8_finds_7 0 rfl ?_
    refine k_get O (v := .int (w.1 105 10)) (k := 105) (by omega) E_105 rfl 10 (by decide) (fun _ h9 => List.mem_cons_of_mem _ (List.mem_append_right _ h9)) (List.mem_of_getElem? (i := 1) rfl) rfl dX8_finds_8 ?_
    refine k_icmp_ge O 60 dX8_finds_11 (by decide) (fun c1 => ?_) (fun c1 => ?_)
    · have h := ite_t c1 h
      refine k_iload_n O dX8_finds_60 3 rfl ?_
      refine k_aload_n O dX8_finds_61 0 rfl ?_
      refine k_get O (v := .ref (g_ad X.1 113)) (k := 105) (by omega) E_105 rfl 14 (by decide) (fun _ h9 => List.mem_cons_of_mem _ (List.mem_append_right _ h9)) (List.mem_of_getElem? (i := 3) rfl) rfl dX8_finds_62 ?_
      refine k_iconst O dX8_finds_65 (v := 2) (by decide) ?_
      refine k_iload_n O dX8_finds_66 1 rfl ?_
      refine k_iadd O dX8_finds_67 ?_
      obtain ⟨g2, h⟩ := gd_some h
      refine k_iald O (k := 113) (by omega) E_113 g2 dX8_finds_68 ?_
      refine k_iconst O dX8_finds_69 (v := -1) (by decide) ?_
      refine k_ixor O dX8_finds_70 ?_
      refine k_iand O dX8_finds_71 ?_
      exact k_iret O dX8_finds_72 (rt_int h ho)
    · have h := ite_f c1 h
      refine k_iload_n O dX8_finds_14 3 rfl ?_
      refine k_aload_n O dX8_finds_15 0 rfl ?_
      refine k_get O (v := .ref (g_ad X.1 108)) (k := 105) (by omega) E_105 rfl 5 (by decide) (fun _ h9 => List.mem_cons_of_mem _ (List.mem_append_right _ h9)) (List.mem_of_getElem? (i := 2) rfl) rfl dX8_finds_16 ?_
      refine k_iload O dX8_finds_19 4 rfl ?_
      obtain ⟨g3, h⟩ := gd_some h
      refine k_iald O (k := 108) (by omega) E_108 g3 dX8_finds_21 ?_
      refine k_iload_n O dX8_finds_22 2 rfl ?_
      refine k_icmp_eq O 44 dX8_finds_23 (by decide) (fun c4 => ?_) (fun c4 => ?_)
      · have h := ite_t c4 h
        exact k_sub [0, 1, 2, 4] rfl (w_X8_finds_44 O hN (fun {_} {_} {_} {_} {_} h9 => ih h9) ho h)
      · have h := ite_f c4 h
        refine k_iload_n O dX8_finds_26 2 rfl ?_
        obtain ⟨r7, w6, hc5, h⟩ := bd_some h
        refine k_callSi O (As := [.int v2]) (rest := [.int v3]) (c_X8_neighbours (x_l X) X.1 hc5) gX8_finds_X8_neighbours rfl hd_X8_neighbours (by decide) rfl rfl (Nat.le_of_ble_eq_true rfl) dX8_finds_27 ?_
        refine k_aload_n O dX8_finds_30 0 rfl ?_
        refine k_get O (v := .ref (g_ad X.1 108)) (k := 105) (by omega) E_105 rfl 5 (by decide) (fun _ h9 => List.mem_cons_of_mem _ (List.mem_append_right _ h9)) (List.mem_of_getElem? (i := 2) rfl) rfl dX8_finds_31 ?_
        refine k_iload O dX8_finds_34 4 rfl ?_
        obtain ⟨g8, h⟩ := gd_some h
        refine k_iald O (k := 108) (by omega) E_108 g8 dX8_finds_36 ?_
        refine k_ishr O dX8_finds_37 ?_
        refine k_iconst O dX8_finds_38 (v := 1) (by decide) ?_
        refine k_iand O dX8_finds_39 ?_
        refine k_iconst O dX8_finds_40 (v := 1) (by decide) ?_
        refine k_icmp_ne O 51 dX8_finds_41 (by decide) (fun c9 => ?_) (fun c9 => ?_)
        · have h := ite_f c9 h
          refine k_iconst O dX8_finds_51 (v := 0) (by decide) ?_
          exact k_sub [0, 1, 2, 4] rfl (w_X8_finds_52 O hN (fun {_} {_} {_} {_} {_} h9 => ih h9) ho h)
        · have h := ite_t c9 h
          exact k_sub [0, 1, 2, 4] rfl (w_X8_finds_44 O hN (fun {_} {_} {_} {_} {_} h9 => ih h9) ho h)
set_option maxHeartbeats 4000000 in
set_option maxRecDepth 100000 in
theorem w_X8_finds_0 {X : Cx} {rz : Int32} {wz : Wd} (O : Ok X cX8_finds RX8 ((some .int)) wsX8_finds (1) (21) 5) (hN : 121 ≤ g_N X.1) (ho : Ro X (some (.int rz), wz)) {w : Wd} {v1 : Int32} {v2 : Int32} (h : b_X8_finds_0 w v1 v2 = some (rz, wz)) : Wk X w 0 [(0, .ref (g_ad X.1 105)), (1, .int v1), (2, .int v2)] [] := by
  unfold b_X8_finds_0 at h
  refine k_iconst O dX8_finds_0 (v := 0) (by decide) ?_
  refine k_istore_n (lv' := [(3, .int ((0 : Int32))), (0, .ref (g_ad X.1 105)), (1, .int v1), (2, .int v2)]) O dX8_finds_1 rfl (by decide) rfl ?_
  refine k_iconst O dX8_finds_2 (v := 0) (by decide) ?_
  refine k_istore (lv' := [(4, .int ((0 : Int32))), (3, .int ((0 : Int32))), (0, .ref (g_ad X.1 105)), (1, .int v1), (2, .int v2)]) O dX8_finds_3 (by decide) rfl ?_
  exact k_sub [2, 3, 4, 1, 0] rfl (w_X8_finds_5 O hN ho LF h)
theorem c_X8_finds (l : Launch) (G : Gl) (hN : 121 ≤ g_N G) {w wz : Wd} {v1 : Int32} {v2 : Int32} {rz : Int32} (h : f_X8_finds w v1 v2 = some (rz, wz)) : Ct l yX8_finds wsX8_finds (1) (21) G [.ref (g_ad G 105), .int v1, .int v2] w (some (.int rz), wz) := by
  refine Ct.start (by decide) rfl rfl rfl (Nat.le_of_ble_eq_true rfl) (fun X hG ho hl O => ?_)
  subst hG
  subst hl
  exact k_sub [0, 1, 2] rfl (w_X8_finds_0 O hN ho h)
def b_X8_look_0 (w : Wd) (v1 : Int32) (v2 : Int32) : Option (Int32 × Wd) := bd (f_X8_isCell w v2) (fun r3 w2 => if r3 = 0 then (some ((-1 : Int32), w2)) else (bd (f_X8_in w2 ((v1).toInt64) ((0 : Int64)) ((1 : Int64))) (fun r7 w6 => if r7 = 0 then (some ((-2 : Int32), w6)) else (bv (f_X8_keepAct w6) (fun w10 => bd (f_X8_finds w10 v1 v2) (fun r13 w12 => gd (inb (((2 : Int32)) + v1) 72) (gd (inb (((2 : Int32)) + v1) 72) (nm (up w12 113 (((2 : Int32)) + v1).toNatClampNeg ((w12.1 113 (((2 : Int32)) + v1).toNatClampNeg) ||| r13)) (fun w16 => some (r13, w16))))))))))
def f_X8_look (w : Wd) (v1 : Int32) (v2 : Int32) : Option (Int32 × Wd) := b_X8_look_0 w v1 v2
set_option maxHeartbeats 4000000 in
set_option maxRecDepth 100000 in
theorem w_X8_look_0 {X : Cx} {rz : Int32} {wz : Wd} (O : Ok X cX8_look RX8 ((some .int)) wsX8_look (2) (45) 4) (hN : 121 ≤ g_N X.1) (ho : Ro X (some (.int rz), wz)) {w : Wd} {v1 : Int32} {v2 : Int32} (h : b_X8_look_0 w v1 v2 = some (rz, wz)) : Wk X w 0 [(0, .ref (g_ad X.1 105)), (1, .int v1), (2, .int v2)] [] := by
  unfold b_X8_look_0 at h
  refine k_iload_n O dX8_look_0 2 rfl ?_
  obtain ⟨r3, w2, hc1, h⟩ := bd_some h
  refine k_callSi O (As := [.int v2]) (rest := []) (c_X8_isCell (x_l X) X.1 hc1) gX8_look_X8_isCell rfl hd_X8_isCell (by decide) rfl rfl (Nat.le_of_ble_eq_true rfl) dX8_look_1 ?_
  refine k_if_ne O 9 dX8_look_4 (by decide) (fun c4 => ?_) (fun c4 => ?_)
  · have h := ite_f c4 h
    refine k_iload_n O dX8_look_9 1 rfl ?_
    refine k_i2l O dX8_look_10 ?_
    refine k_lconst O dX8_look_11 (v := 0) (by decide) ?_
    refine k_lconst O dX8_look_12 (v := 1) (by decide) ?_
    obtain ⟨r7, w6, hc5, h⟩ := bd_some h
    refine k_callSi O (As := [.long ((v1).toInt64), .long ((0 : Int64)), .long ((1 : Int64))]) (rest := []) (c_X8_in (x_l X) X.1 hc5) gX8_look_X8_in rfl hd_X8_in (by decide) rfl rfl (Nat.le_of_ble_eq_true rfl) dX8_look_13 ?_
    refine k_if_ne O 22 dX8_look_16 (by decide) (fun c8 => ?_) (fun c8 => ?_)
    · have h := ite_f c8 h
      refine k_aload_n O dX8_look_22 0 rfl ?_
      obtain ⟨w10, hc9, h⟩ := bv_some h
      refine k_callVv O (As := []) (rest := []) (k := 105) (c_X8_keepAct (x_l X) X.1 hN hc9) gX8_look_X8_keepAct rfl hd_X8_keepAct (by decide) (by omega) E_105 rfl rfl rfl rfl rfl (Nat.le_of_ble_eq_true rfl) dX8_look_23 ?_
      refine k_aload_n O dX8_look_26 0 rfl ?_
      refine k_iload_n O dX8_look_27 1 rfl ?_
      refine k_iload_n O dX8_look_28 2 rfl ?_
      obtain ⟨r13, w12, hc11, h⟩ := bd_some h
      refine k_callVi O (As := [.int v1, .int v2]) (rest := []) (k := 105) (c_X8_finds (x_l X) X.1 hN hc11) gX8_look_X8_finds rfl hd_X8_finds (by decide) (by omega) E_105 rfl rfl rfl rfl rfl (Nat.le_of_ble_eq_true rfl) dX8_look_29 ?_
      refine k_istore_n (lv' := [(3, .int r13), (0, .ref (g_ad X.1 105)), (1, .int v1), (2, .int v2)]) O dX8_look_32 rfl (by decide) rfl ?_
      refine k_aload_n O dX8_look_33 1 rfl ?_
      refine k_get O (v := .ref (g_ad X.1 113)) (k := 105) (by omega) E_105 rfl 14 (by decide) (fun _ h9 => List.mem_cons_of_mem _ (List.mem_append_right _ h9)) (List.mem_of_getElem? (i := 1) rfl) rfl dX8_look_34 ?_
      refine k_iconst O dX8_look_37 (v := 2) (by decide) ?_
      refine k_iload_n O dX8_look_38 2 rfl ?_
      refine k_iadd O dX8_look_39 ?_
      refine k_dup2 O dX8_look_40 rfl rfl ?_
      obtain ⟨g14, h⟩ := gd_some h
      refine k_iald O (k := 113) (by omega) E_113 g14 dX8_look_41 ?_
      refine k_iload_n O dX8_look_42 0 rfl ?_
      refine k_ior O dX8_look_43 ?_
      obtain ⟨g15, h⟩ := gd_some h
      refine k_iast O (k := 113) (by omega) E_113 (fun _ => E_113) g15 dX8_look_44 ?_
      refine k_nw (fun w16 ew16 => ?_)
      have h := nm_use h w16 ew16
      refine k_iload_n O dX8_look_45 0 rfl ?_
      exact k_iret O dX8_look_46 (rt_int h ho)
    · have h := ite_t c8 h
      refine k_bipush O dX8_look_19 (v := -2) (by decide) ?_
      exact k_iret O dX8_look_21 (rt_int h ho)
  · have h := ite_t c4 h
    refine k_iconst O dX8_look_7 (v := -1) (by decide) ?_
    exact k_iret O dX8_look_8 (rt_int h ho)
theorem c_X8_look (l : Launch) (G : Gl) (hN : 121 ≤ g_N G) {w wz : Wd} {v1 : Int32} {v2 : Int32} {rz : Int32} (h : f_X8_look w v1 v2 = some (rz, wz)) : Ct l yX8_look wsX8_look (2) (45) G [.ref (g_ad G 105), .int v1, .int v2] w (some (.int rz), wz) := by
  refine Ct.start (by decide) rfl rfl rfl (Nat.le_of_ble_eq_true rfl) (fun X hG ho hl O => ?_)
  subst hG
  subst hl
  exact k_sub [0, 1, 2] rfl (w_X8_look_0 O hN ho h)
def b_X8_free_0 (w : Wd) (v1 : Int32) : Option (Int32 × Wd) := bd (f_X8_isWalker w v1) (fun r3 w2 => if r3 = 0 then (some ((-1 : Int32), w2)) else (gd (inb (((8 : Int32)) + v1) 72) (if (w2.1 113 (((8 : Int32)) + v1).toNatClampNeg) = ((-9 : Int32)) then (some ((-3 : Int32), w2)) else (bv (f_X8_keepAct w2) (fun w8 => gd (inb (((8 : Int32)) + v1) 72) (nm (w8.1 113 (((8 : Int32)) + v1).toNatClampNeg) (fun x10 => gd (inb (((8 : Int32)) + v1) 72) (nm (up w8 113 (((8 : Int32)) + v1).toNatClampNeg ((-9 : Int32))) (fun w12 => some (x10, w12))))))))))
def f_X8_free (w : Wd) (v1 : Int32) : Option (Int32 × Wd) := b_X8_free_0 w v1
set_option maxHeartbeats 4000000 in
set_option maxRecDepth 100000 in
theorem w_X8_free_0 {X : Cx} {rz : Int32} {wz : Wd} (O : Ok X cX8_free RX8 ((some .int)) wsX8_free (2) (46) 3) (hN : 121 ≤ g_N X.1) (ho : Ro X (some (.int rz), wz)) {w : Wd} {v1 : Int32} (h : b_X8_free_0 w v1 = some (rz, wz)) : Wk X w 0 [(0, .ref (g_ad X.1 105)), (1, .int v1)] [] := by
  unfold b_X8_free_0 at h
  refine k_aload_n O dX8_free_0 0 rfl ?_
  refine k_iload_n O dX8_free_1 1 rfl ?_
  obtain ⟨r3, w2, hc1, h⟩ := bd_some h
  refine k_callVi O (As := [.int v1]) (rest := []) (k := 105) (c_X8_isWalker (x_l X) X.1 hN hc1) gX8_free_X8_isWalker rfl hd_X8_isWalker (by decide) (by omega) E_105 rfl rfl rfl rfl rfl (Nat.le_of_ble_eq_true rfl) dX8_free_2 ?_
  refine k_if_ne O 10 dX8_free_5 (by decide) (fun c4 => ?_) (fun c4 => ?_)
  · have h := ite_f c4 h
    refine k_aload_n O dX8_free_10 0 rfl ?_
    refine k_get O (v := .ref (g_ad X.1 113)) (k := 105) (by omega) E_105 rfl 14 (by decide) (fun _ h9 => List.mem_cons_of_mem _ (List.mem_append_right _ h9)) (List.mem_of_getElem? (i := 1) rfl) rfl dX8_free_11 ?_
    refine k_bipush O dX8_free_14 (v := 8) (by decide) ?_
    refine k_iload_n O dX8_free_16 1 rfl ?_
    refine k_iadd O dX8_free_17 ?_
    obtain ⟨g5, h⟩ := gd_some h
    refine k_iald O (k := 113) (by omega) E_113 g5 dX8_free_18 ?_
    refine k_bipush O dX8_free_19 (v := -9) (by decide) ?_
    refine k_icmp_ne O 27 dX8_free_21 (by decide) (fun c6 => ?_) (fun c6 => ?_)
    · have h := ite_f c6 h
      refine k_aload_n O dX8_free_27 0 rfl ?_
      obtain ⟨w8, hc7, h⟩ := bv_some h
      refine k_callVv O (As := []) (rest := []) (k := 105) (c_X8_keepAct (x_l X) X.1 hN hc7) gX8_free_X8_keepAct rfl hd_X8_keepAct (by decide) (by omega) E_105 rfl rfl rfl rfl rfl (Nat.le_of_ble_eq_true rfl) dX8_free_28 ?_
      refine k_aload_n O dX8_free_31 0 rfl ?_
      refine k_get O (v := .ref (g_ad X.1 113)) (k := 105) (by omega) E_105 rfl 14 (by decide) (fun _ h9 => List.mem_cons_of_mem _ (List.mem_append_right _ h9)) (List.mem_of_getElem? (i := 1) rfl) rfl dX8_free_32 ?_
      refine k_bipush O dX8_free_35 (v := 8) (by decide) ?_
      refine k_iload_n O dX8_free_37 1 rfl ?_
      refine k_iadd O dX8_free_38 ?_
      obtain ⟨g9, h⟩ := gd_some h
      refine k_iald O (k := 113) (by omega) E_113 g9 dX8_free_39 ?_
      refine k_topi (fun x10 ex10 => ?_)
      have h := nm_use h x10 ex10
      refine k_istore_n (lv' := [(2, .int x10), (0, .ref (g_ad X.1 105)), (1, .int v1)]) O dX8_free_40 rfl (by decide) rfl ?_
      refine k_aload_n O dX8_free_41 1 rfl ?_
      refine k_get O (v := .ref (g_ad X.1 113)) (k := 105) (by omega) E_105 rfl 14 (by decide) (fun _ h9 => List.mem_cons_of_mem _ (List.mem_append_right _ h9)) (List.mem_of_getElem? (i := 1) rfl) rfl dX8_free_42 ?_
      refine k_bipush O dX8_free_45 (v := 8) (by decide) ?_
      refine k_iload_n O dX8_free_47 2 rfl ?_
      refine k_iadd O dX8_free_48 ?_
      refine k_bipush O dX8_free_49 (v := -9) (by decide) ?_
      obtain ⟨g11, h⟩ := gd_some h
      refine k_iast O (k := 113) (by omega) E_113 (fun _ => E_113) g11 dX8_free_51 ?_
      refine k_nw (fun w12 ew12 => ?_)
      have h := nm_use h w12 ew12
      refine k_iload_n O dX8_free_52 0 rfl ?_
      exact k_iret O dX8_free_53 (rt_int h ho)
    · have h := ite_t c6 h
      refine k_bipush O dX8_free_24 (v := -3) (by decide) ?_
      exact k_iret O dX8_free_26 (rt_int h ho)
  · have h := ite_t c4 h
    refine k_iconst O dX8_free_8 (v := -1) (by decide) ?_
    exact k_iret O dX8_free_9 (rt_int h ho)
theorem c_X8_free (l : Launch) (G : Gl) (hN : 121 ≤ g_N G) {w wz : Wd} {v1 : Int32} {rz : Int32} (h : f_X8_free w v1 = some (rz, wz)) : Ct l yX8_free wsX8_free (2) (46) G [.ref (g_ad G 105), .int v1] w (some (.int rz), wz) := by
  refine Ct.start (by decide) rfl rfl rfl (Nat.le_of_ble_eq_true rfl) (fun X hG ho hl O => ?_)
  subst hG
  subst hl
  exact k_sub [0, 1] rfl (w_X8_free_0 O hN ho h)
def b_X8_undo_36 : Nat → Wd → Int32 → Option (Int32 × Wd)
  | 0, _, _ => none
  | n + 1, w, v1 => if ((12 : Int32)) ≤ v1 then (some (w.1 105 19, w)) else (gd (inb ((((12 : Int32)) * (w.1 105 20)) + v1) 192) (gd (inb v1 72) (nm (up w 113 v1.toNatClampNeg (w.1 115 ((((12 : Int32)) * (w.1 105 20)) + v1).toNatClampNeg)) (fun w4 => nm (v1 + (1 : Int32)) (fun x5 => b_X8_undo_36 n w4 x5)))))
def b_X8_undo_0 (w : Wd) : Option (Int32 × Wd) := if (w.1 105 19) = 0 then (some ((-3 : Int32), w)) else (nm (up w 105 19 ((w.1 105 19) - ((1 : Int32)))) (fun w2 => nm (up w2 105 20 (((w2.1 105 20) + ((15 : Int32))) - ((w2.1 105 20) + ((15 : Int32))) / ((16 : Int32)) * ((16 : Int32)))) (fun w3 => b_X8_undo_36 LF w3 ((0 : Int32)))))
def f_X8_undo (w : Wd) : Option (Int32 × Wd) := b_X8_undo_0 w 
set_option maxHeartbeats 4000000 in
set_option maxRecDepth 100000 in
theorem w_X8_undo_36 {X : Cx} {rz : Int32} {wz : Wd} (O : Ok X cX8_undo RX8 ((some .int)) wsX8_undo (0) (0) 2) (hN : 121 ≤ g_N X.1) (ho : Ro X (some (.int rz), wz)) (n : Nat) : ∀ {w : Wd} {v1 : Int32}, b_X8_undo_36 n w v1 = some (rz, wz) → Wk X w 36 [(0, .ref (g_ad X.1 105)), (1, .int v1)] [] := by
  induction n with
  | zero => intro w v1 h; exact nomatch (show (none : Option (Int32 × Wd)) = some _ from h)
  | succ n ih =>
    intro w v1 h
    rw [b_X8_undo_36] at h
    refine k_iload_n O dX8_undo_36 1 rfl ?_
    refine k_bipush O dX8_undo_37 (v := 12) (by decide) ?_
    refine k_icmp_ge O 68 dX8_undo_39 (by decide) (fun c1 => ?_) (fun c1 => ?_)
    · have h := ite_t c1 h
      refine k_aload_n O dX8_undo_68 0 rfl ?_
      refine k_get O (v := .int (w.1 105 19)) (k := 105) (by omega) E_105 rfl 19 (by decide) (fun _ h9 => List.mem_cons_of_mem _ (List.mem_append_right _ h9)) (List.mem_of_getElem? (i := 1) rfl) rfl dX8_undo_69 ?_
      exact k_iret O dX8_undo_72 (rt_int h ho)
    · have h := ite_f c1 h
      refine k_aload_n O dX8_undo_42 0 rfl ?_
      refine k_get O (v := .ref (g_ad X.1 113)) (k := 105) (by omega) E_105 rfl 14 (by decide) (fun _ h9 => List.mem_cons_of_mem _ (List.mem_append_right _ h9)) (List.mem_of_getElem? (i := 3) rfl) rfl dX8_undo_43 ?_
      refine k_iload_n O dX8_undo_46 1 rfl ?_
      refine k_aload_n O dX8_undo_47 0 rfl ?_
      refine k_get O (v := .ref (g_ad X.1 115)) (k := 105) (by omega) E_105 rfl 21 (by decide) (fun _ h9 => List.mem_cons_of_mem _ (List.mem_append_right _ h9)) (List.mem_of_getElem? (i := 4) rfl) rfl dX8_undo_48 ?_
      refine k_bipush O dX8_undo_51 (v := 12) (by decide) ?_
      refine k_aload_n O dX8_undo_53 0 rfl ?_
      refine k_get O (v := .int (w.1 105 20)) (k := 105) (by omega) E_105 rfl 20 (by decide) (fun _ h9 => List.mem_cons_of_mem _ (List.mem_append_right _ h9)) (List.mem_of_getElem? (i := 2) rfl) rfl dX8_undo_54 ?_
      refine k_imul O dX8_undo_57 ?_
      refine k_iload_n O dX8_undo_58 1 rfl ?_
      refine k_iadd O dX8_undo_59 ?_
      obtain ⟨g2, h⟩ := gd_some h
      refine k_iald O (k := 115) (by omega) E_115 g2 dX8_undo_60 ?_
      obtain ⟨g3, h⟩ := gd_some h
      refine k_iast O (k := 113) (by omega) E_113 (fun _ => E_113) g3 dX8_undo_61 ?_
      refine k_nw (fun w4 ew4 => ?_)
      have h := nm_use h w4 ew4
      obtain ⟨x5, ex5⟩ : ∃ z : Int32, z = v1 + (1 : Int32) := ⟨_, rfl⟩
      have h := nm_use h x5 ex5
      refine k_iinc (lv' := [(1, .int x5), (0, .ref (g_ad X.1 105))]) O dX8_undo_62 1 rfl (by rw [ex5]; rfl) (by decide) rfl ?_
      refine k_goto O 36 dX8_undo_65 (by decide) ?_
      exact k_sub [1, 0] rfl (ih h)
set_option maxHeartbeats 4000000 in
set_option maxRecDepth 100000 in
theorem w_X8_undo_0 {X : Cx} {rz : Int32} {wz : Wd} (O : Ok X cX8_undo RX8 ((some .int)) wsX8_undo (0) (0) 2) (hN : 121 ≤ g_N X.1) (ho : Ro X (some (.int rz), wz)) {w : Wd} (h : b_X8_undo_0 w  = some (rz, wz)) : Wk X w 0 [(0, .ref (g_ad X.1 105))] [] := by
  unfold b_X8_undo_0 at h
  refine k_aload_n O dX8_undo_0 0 rfl ?_
  refine k_get O (v := .int (w.1 105 19)) (k := 105) (by omega) E_105 rfl 19 (by decide) (fun _ h9 => List.mem_cons_of_mem _ (List.mem_append_right _ h9)) (List.mem_of_getElem? (i := 1) rfl) rfl dX8_undo_1 ?_
  refine k_if_ne O 10 dX8_undo_4 (by decide) (fun c1 => ?_) (fun c1 => ?_)
  · have h := ite_f c1 h
    refine k_aload_n O dX8_undo_10 0 rfl ?_
    refine k_dup O dX8_undo_11 rfl ?_
    refine k_get O (v := .int (w.1 105 19)) (k := 105) (by omega) E_105 rfl 19 (by decide) (fun _ h9 => List.mem_cons_of_mem _ (List.mem_append_right _ h9)) (List.mem_of_getElem? (i := 1) rfl) rfl dX8_undo_12 ?_
    refine k_iconst O dX8_undo_15 (v := 1) (by decide) ?_
    refine k_isub O dX8_undo_16 ?_
    refine k_puti O (k := 105) tyX8 tyX8_ok nmX8 (by omega) E_105 rfl 19 (by decide) (fun _ h9 => List.mem_cons_of_mem _ (List.mem_append_right _ h9)) (List.mem_of_getElem? (i := 1) rfl) rfl rfl rfl (Nat.le_of_ble_eq_true rfl) (E_105.trans rfl) dX8_undo_17 ?_
    refine k_nw (fun w2 ew2 => ?_)
    have h := nm_use h w2 ew2
    refine k_aload_n O dX8_undo_20 0 rfl ?_
    refine k_aload_n O dX8_undo_21 0 rfl ?_
    refine k_get O (v := .int (w2.1 105 20)) (k := 105) (by omega) E_105 rfl 20 (by decide) (fun _ h9 => List.mem_cons_of_mem _ (List.mem_append_right _ h9)) (List.mem_of_getElem? (i := 2) rfl) rfl dX8_undo_22 ?_
    refine k_bipush O dX8_undo_25 (v := 15) (by decide) ?_
    refine k_iadd O dX8_undo_27 ?_
    refine k_bipush O dX8_undo_28 (v := 16) (by decide) ?_
    refine k_irem O dX8_undo_30 (by decide) ?_
    refine k_puti O (k := 105) tyX8 tyX8_ok nmX8 (by omega) E_105 rfl 20 (by decide) (fun _ h9 => List.mem_cons_of_mem _ (List.mem_append_right _ h9)) (List.mem_of_getElem? (i := 2) rfl) rfl rfl rfl (Nat.le_of_ble_eq_true rfl) (E_105.trans rfl) dX8_undo_31 ?_
    refine k_nw (fun w3 ew3 => ?_)
    have h := nm_use h w3 ew3
    refine k_iconst O dX8_undo_34 (v := 0) (by decide) ?_
    refine k_istore_n (lv' := [(1, .int ((0 : Int32))), (0, .ref (g_ad X.1 105))]) O dX8_undo_35 rfl (by decide) rfl ?_
    exact k_sub [1, 0] rfl (w_X8_undo_36 O hN ho LF h)
  · have h := ite_t c1 h
    refine k_bipush O dX8_undo_7 (v := -3) (by decide) ?_
    exact k_iret O dX8_undo_9 (rt_int h ho)
theorem c_X8_undo (l : Launch) (G : Gl) (hN : 121 ≤ g_N G) {w wz : Wd} {rz : Int32} (h : f_X8_undo w  = some (rz, wz)) : Ct l yX8_undo wsX8_undo (0) (0) G [.ref (g_ad G 105)] w (some (.int rz), wz) := by
  refine Ct.start (by decide) rfl rfl rfl (Nat.le_of_ble_eq_true rfl) (fun X hG ho hl O => ?_)
  subst hG
  subst hl
  exact k_sub [0] rfl (w_X8_undo_0 O hN ho h)
def b_X8_sprung_0 (w : Wd) (v1 : Int32) : Option (Int32 × Wd) := bd (f_X8_isTrap w v1) (fun r3 w2 => if r3 = 0 then (some ((-1 : Int32), w2)) else (if (w2.1 105 13) = 0 then (bd (f_X8_wave w2 (w2.1 113 ((0 : Int32)).toNatClampNeg) v1) (fun r8 w7 => some (r8, w7))) else (some ((0 : Int32), w2))))
def f_X8_sprung (w : Wd) (v1 : Int32) : Option (Int32 × Wd) := b_X8_sprung_0 w v1
set_option maxHeartbeats 4000000 in
set_option maxRecDepth 100000 in
theorem w_X8_sprung_0 {X : Cx} {rz : Int32} {wz : Wd} (O : Ok X cX8_sprung RX8 ((some .int)) wsX8_sprung (2) (46) 2) (hN : 121 ≤ g_N X.1) (ho : Ro X (some (.int rz), wz)) {w : Wd} {v1 : Int32} (h : b_X8_sprung_0 w v1 = some (rz, wz)) : Wk X w 0 [(0, .ref (g_ad X.1 105)), (1, .int v1)] [] := by
  unfold b_X8_sprung_0 at h
  refine k_aload_n O dX8_sprung_0 0 rfl ?_
  refine k_iload_n O dX8_sprung_1 1 rfl ?_
  obtain ⟨r3, w2, hc1, h⟩ := bd_some h
  refine k_callVi O (As := [.int v1]) (rest := []) (k := 105) (c_X8_isTrap (x_l X) X.1 hN hc1) gX8_sprung_X8_isTrap rfl hd_X8_isTrap (by decide) (by omega) E_105 rfl rfl rfl rfl rfl (Nat.le_of_ble_eq_true rfl) dX8_sprung_2 ?_
  refine k_if_ne O 10 dX8_sprung_5 (by decide) (fun c4 => ?_) (fun c4 => ?_)
  · have h := ite_f c4 h
    refine k_aload_n O dX8_sprung_10 0 rfl ?_
    refine k_get O (v := .int (w2.1 105 13)) (k := 105) (by omega) E_105 rfl 13 (by decide) (fun _ h9 => List.mem_cons_of_mem _ (List.mem_append_right _ h9)) (List.mem_of_getElem? (i := 1) rfl) rfl dX8_sprung_11 ?_
    refine k_if_eq O 21 dX8_sprung_14 (by decide) (fun c5 => ?_) (fun c5 => ?_)
    · have h := ite_t c5 h
      refine k_aload_n O dX8_sprung_21 0 rfl ?_
      refine k_aload_n O dX8_sprung_22 0 rfl ?_
      refine k_get O (v := .ref (g_ad X.1 113)) (k := 105) (by omega) E_105 rfl 14 (by decide) (fun _ h9 => List.mem_cons_of_mem _ (List.mem_append_right _ h9)) (List.mem_of_getElem? (i := 2) rfl) rfl dX8_sprung_23 ?_
      refine k_iconst O dX8_sprung_26 (v := 0) (by decide) ?_
      refine k_iald O (k := 113) (by omega) E_113 (by decide) dX8_sprung_27 ?_
      refine k_iload_n O dX8_sprung_28 1 rfl ?_
      obtain ⟨r8, w7, hc6, h⟩ := bd_some h
      refine k_callVi O (As := [.int (w2.1 113 ((0 : Int32)).toNatClampNeg), .int v1]) (rest := []) (k := 105) (c_X8_wave (x_l X) X.1 hN hc6) gX8_sprung_X8_wave rfl hd_X8_wave (by decide) (by omega) E_105 rfl rfl rfl rfl rfl (Nat.le_of_ble_eq_true rfl) dX8_sprung_29 ?_
      exact k_iret O dX8_sprung_32 (rt_int h ho)
    · have h := ite_f c5 h
      refine k_iconst O dX8_sprung_17 (v := 0) (by decide) ?_
      refine k_goto O 32 dX8_sprung_18 (by decide) ?_
      exact k_iret O dX8_sprung_32 (rt_int h ho)
  · have h := ite_t c4 h
    refine k_iconst O dX8_sprung_8 (v := -1) (by decide) ?_
    exact k_iret O dX8_sprung_9 (rt_int h ho)
theorem c_X8_sprung (l : Launch) (G : Gl) (hN : 121 ≤ g_N G) {w wz : Wd} {v1 : Int32} {rz : Int32} (h : f_X8_sprung w v1 = some (rz, wz)) : Ct l yX8_sprung wsX8_sprung (2) (46) G [.ref (g_ad G 105), .int v1] w (some (.int rz), wz) := by
  refine Ct.start (by decide) rfl rfl rfl (Nat.le_of_ble_eq_true rfl) (fun X hG ho hl O => ?_)
  subst hG
  subst hl
  exact k_sub [0, 1] rfl (w_X8_sprung_0 O hN ho h)
def b_X8_rings_63 (kb4 : Wd → Int32 → Int32 → Option (Int32 × Wd)) (kb22 : Wd → Int32 → Int32 → Int32 → Int32 → Option (Int32 × Wd)) (kb32 : Wd → Int32 → Int32 → Int32 → Int32 → Int32 → Option (Int32 × Wd)) (w : Wd) (v1 : Int32) (v2 : Int32) (v4 : Int32) (v5 : Int32) (s0 : Int32) (s1 : Int32) : Option (Int32 × Wd) := nm (s1 ||| s0) (fun x1 => nm (v5 + (1 : Int32)) (fun x2 => kb32 w v1 v2 x1 v4 x2))
def b_X8_rings_32 (kb4 : Wd → Int32 → Int32 → Option (Int32 × Wd)) (kb22 : Wd → Int32 → Int32 → Int32 → Int32 → Option (Int32 × Wd)) : Nat → Wd → Int32 → Int32 → Int32 → Int32 → Int32 → Option (Int32 × Wd)
  | 0, _, _, _, _, _, _ => none
  | n + 1, w, v1, v2, v3, v4, v5 => if (w.1 105 10) ≤ v5 then (nm (v4 + (1 : Int32)) (fun x2 => kb22 w v1 v2 v3 x2)) else (if ((v3 >>> (v5 &&& 31)) &&& ((1 : Int32))) = ((1 : Int32)) then (gd (inb v5 7) (b_X8_rings_63 kb4 kb22 (b_X8_rings_32 kb4 kb22 n) w v1 v2 v4 v5 (w.1 111 v5.toNatClampNeg) v3)) else (b_X8_rings_63 kb4 kb22 (b_X8_rings_32 kb4 kb22 n) w v1 v2 v4 v5 ((0 : Int32)) v3))
def b_X8_rings_22 (kb4 : Wd → Int32 → Int32 → Option (Int32 × Wd)) : Nat → Wd → Int32 → Int32 → Int32 → Int32 → Option (Int32 × Wd)
  | 0, _, _, _, _, _ => none
  | n + 1, w, v1, v2, v3, v4 => if ((7 : Int32)) ≤ v4 then (nm (v1 ||| (v3 &&& (((1 : Int32)) <<< (v2 &&& 31)))) (fun x2 => nm (v2 + (1 : Int32)) (fun x3 => kb4 w x2 x3))) else (b_X8_rings_32 kb4 (b_X8_rings_22 kb4 n) LF w v1 v2 v3 v4 ((0 : Int32)))
def b_X8_rings_4 : Nat → Wd → Int32 → Int32 → Option (Int32 × Wd)
  | 0, _, _, _ => none
  | n + 1, w, v1, v2 => if (w.1 105 10) ≤ v2 then (some (v1, w)) else (gd (inb v2 7) (nm (w.1 111 v2.toNatClampNeg) (fun x3 => b_X8_rings_22 (b_X8_rings_4 n) LF w v1 v2 x3 ((0 : Int32)))))
def b_X8_rings_0 (w : Wd) : Option (Int32 × Wd) := b_X8_rings_4 LF w ((0 : Int32)) ((0 : Int32))
def f_X8_rings (w : Wd) : Option (Int32 × Wd) := b_X8_rings_0 w 
set_option maxHeartbeats 4000000 in
set_option maxRecDepth 100000 in
theorem w_X8_rings_63 {X : Cx} {rz : Int32} {wz : Wd} (O : Ok X cX8_rings RX8 ((some .int)) wsX8_rings (0) (0) 6) (hN : 121 ≤ g_N X.1) {kb4 : Wd → Int32 → Int32 → Option (Int32 × Wd)} (hk4 : ∀ {w : Wd} {v1 : Int32} {v2 : Int32}, kb4 w v1 v2 = some (rz, wz) → Wk X w 4 [(0, .ref (g_ad X.1 105)), (1, .int v1), (2, .int v2)] []) {kb22 : Wd → Int32 → Int32 → Int32 → Int32 → Option (Int32 × Wd)} (hk22 : ∀ {w : Wd} {v1 : Int32} {v2 : Int32} {v3 : Int32} {v4 : Int32}, kb22 w v1 v2 v3 v4 = some (rz, wz) → Wk X w 22 [(0, .ref (g_ad X.1 105)), (1, .int v1), (2, .int v2), (3, .int v3), (4, .int v4)] []) {kb32 : Wd → Int32 → Int32 → Int32 → Int32 → Int32 → Option (Int32 × Wd)} (hk32 : ∀ {w : Wd} {v1 : Int32} {v2 : Int32} {v3 : Int32} {v4 : Int32} {v5 : Int32}, kb32 w v1 v2 v3 v4 v5 = some (rz, wz) → Wk X w 32 [(0, .ref (g_ad X.1 105)), (1, .int v1), (2, .int v2), (3, .int v3), (4, .int v4), (5, .int v5)] []) (ho : Ro X (some (.int rz), wz)) {w : Wd} {v1 : Int32} {v2 : Int32} {v4 : Int32} {v5 : Int32} {s0 : Int32} {s1 : Int32} (h : b_X8_rings_63 kb4 kb22 kb32 w v1 v2 v4 v5 s0 s1 = some (rz, wz)) : Wk X w 63 [(0, .ref (g_ad X.1 105)), (1, .int v1), (2, .int v2), (4, .int v4), (5, .int v5)] [.int s0, .int s1] := by
  unfold b_X8_rings_63 at h
  refine k_ior O dX8_rings_63 ?_
  refine k_topi (fun x1 ex1 => ?_)
  have h := nm_use h x1 ex1
  refine k_istore_n (lv' := [(3, .int x1), (0, .ref (g_ad X.1 105)), (1, .int v1), (2, .int v2), (4, .int v4), (5, .int v5)]) O dX8_rings_64 rfl (by decide) rfl ?_
  obtain ⟨x2, ex2⟩ : ∃ z : Int32, z = v5 + (1 : Int32) := ⟨_, rfl⟩
  have h := nm_use h x2 ex2
  refine k_iinc (lv' := [(5, .int x2), (3, .int x1), (0, .ref (g_ad X.1 105)), (1, .int v1), (2, .int v2), (4, .int v4)]) O dX8_rings_65 5 rfl (by rw [ex2]; rfl) (by decide) rfl ?_
  refine k_goto O 32 dX8_rings_68 (by decide) ?_
  exact k_sub [2, 3, 4, 1, 5, 0] rfl (hk32 h)
set_option maxHeartbeats 4000000 in
set_option maxRecDepth 100000 in
theorem w_X8_rings_32 {X : Cx} {rz : Int32} {wz : Wd} (O : Ok X cX8_rings RX8 ((some .int)) wsX8_rings (0) (0) 6) (hN : 121 ≤ g_N X.1) {kb4 : Wd → Int32 → Int32 → Option (Int32 × Wd)} (hk4 : ∀ {w : Wd} {v1 : Int32} {v2 : Int32}, kb4 w v1 v2 = some (rz, wz) → Wk X w 4 [(0, .ref (g_ad X.1 105)), (1, .int v1), (2, .int v2)] []) {kb22 : Wd → Int32 → Int32 → Int32 → Int32 → Option (Int32 × Wd)} (hk22 : ∀ {w : Wd} {v1 : Int32} {v2 : Int32} {v3 : Int32} {v4 : Int32}, kb22 w v1 v2 v3 v4 = some (rz, wz) → Wk X w 22 [(0, .ref (g_ad X.1 105)), (1, .int v1), (2, .int v2), (3, .int v3), (4, .int v4)] []) (ho : Ro X (some (.int rz), wz)) (n : Nat) : ∀ {w : Wd} {v1 : Int32} {v2 : Int32} {v3 : Int32} {v4 : Int32} {v5 : Int32}, b_X8_rings_32 kb4 kb22 n w v1 v2 v3 v4 v5 = some (rz, wz) → Wk X w 32 [(0, .ref (g_ad X.1 105)), (1, .int v1), (2, .int v2), (3, .int v3), (4, .int v4), (5, .int v5)] [] := by
  induction n with
  | zero => intro w v1 v2 v3 v4 v5 h; exact nomatch (show (none : Option (Int32 × Wd)) = some _ from h)
  | succ n ih =>
    intro w v1 v2 v3 v4 v5 h
    rw [b_X8_rings_32] at h
    refine k_iload O dX8_rings_32 5 rfl ?_
    refine k_aload_n O dX8_rings_34 0 rfl ?_
    refine k_get O (v := .int (w.1 105 10)) (k := 105) (by omega) E_105 rfl 10 (by decide) (fun _ h9 => List.mem_cons_of_mem _ (List.mem_append_right _ h9)) (List.mem_of_getElem? (i := 1) rfl) rfl dX8_rings_35 ?_
    refine k_icmp_ge O 71 dX8_rings_38 (by decide) (fun c1 => ?_) (fun c1 => ?_)
    · have h := ite_t c1 h
      obtain ⟨x2, ex2⟩ : ∃ z : Int32, z = v4 + (1 : Int32) := ⟨_, rfl⟩
      have h := nm_use h x2 ex2
      refine k_iinc (lv' := [(4, .int x2), (0, .ref (g_ad X.1 105)), (1, .int v1), (2, .int v2), (3, .int v3), (5, .int v5)]) O dX8_rings_71 4 rfl (by rw [ex2]; rfl) (by decide) rfl ?_
      refine k_goto O 22 dX8_rings_74 (by decide) ?_
      exact k_sub [1, 2, 3, 4, 0] rfl (hk22 h)
    · have h := ite_f c1 h
      refine k_iload_n O dX8_rings_41 3 rfl ?_
      refine k_iload_n O dX8_rings_42 3 rfl ?_
      refine k_iload O dX8_rings_43 5 rfl ?_
      refine k_ishr O dX8_rings_45 ?_
      refine k_iconst O dX8_rings_46 (v := 1) (by decide) ?_
      refine k_iand O dX8_rings_47 ?_
      refine k_iconst O dX8_rings_48 (v := 1) (by decide) ?_
      refine k_icmp_ne O 62 dX8_rings_49 (by decide) (fun c3 => ?_) (fun c3 => ?_)
      · have h := ite_f c3 h
        refine k_iconst O dX8_rings_62 (v := 0) (by decide) ?_
        exact k_sub [0, 1, 2, 4, 5] rfl (w_X8_rings_63 O hN hk4 hk22 (fun {_} {_} {_} {_} {_} {_} h9 => ih h9) ho h)
      · have h := ite_t c3 h
        refine k_aload_n O dX8_rings_52 0 rfl ?_
        refine k_get O (v := .ref (g_ad X.1 111)) (k := 105) (by omega) E_105 rfl 8 (by decide) (fun _ h9 => List.mem_cons_of_mem _ (List.mem_append_right _ h9)) (List.mem_of_getElem? (i := 2) rfl) rfl dX8_rings_53 ?_
        refine k_iload O dX8_rings_56 5 rfl ?_
        obtain ⟨g4, h⟩ := gd_some h
        refine k_iald O (k := 111) (by omega) E_111 g4 dX8_rings_58 ?_
        refine k_goto O 63 dX8_rings_59 (by decide) ?_
        exact k_sub [0, 1, 2, 4, 5] rfl (w_X8_rings_63 O hN hk4 hk22 (fun {_} {_} {_} {_} {_} {_} h9 => ih h9) ho h)
set_option maxHeartbeats 4000000 in
set_option maxRecDepth 100000 in
theorem w_X8_rings_22 {X : Cx} {rz : Int32} {wz : Wd} (O : Ok X cX8_rings RX8 ((some .int)) wsX8_rings (0) (0) 6) (hN : 121 ≤ g_N X.1) {kb4 : Wd → Int32 → Int32 → Option (Int32 × Wd)} (hk4 : ∀ {w : Wd} {v1 : Int32} {v2 : Int32}, kb4 w v1 v2 = some (rz, wz) → Wk X w 4 [(0, .ref (g_ad X.1 105)), (1, .int v1), (2, .int v2)] []) (ho : Ro X (some (.int rz), wz)) (n : Nat) : ∀ {w : Wd} {v1 : Int32} {v2 : Int32} {v3 : Int32} {v4 : Int32}, b_X8_rings_22 kb4 n w v1 v2 v3 v4 = some (rz, wz) → Wk X w 22 [(0, .ref (g_ad X.1 105)), (1, .int v1), (2, .int v2), (3, .int v3), (4, .int v4)] [] := by
  induction n with
  | zero => intro w v1 v2 v3 v4 h; exact nomatch (show (none : Option (Int32 × Wd)) = some _ from h)
  | succ n ih =>
    intro w v1 v2 v3 v4 h
    rw [b_X8_rings_22] at h
    refine k_iload O dX8_rings_22 4 rfl ?_
    refine k_bipush O dX8_rings_24 (v := 7) (by decide) ?_
    refine k_icmp_ge O 77 dX8_rings_26 (by decide) (fun c1 => ?_) (fun c1 => ?_)
    · have h := ite_t c1 h
      refine k_iload_n O dX8_rings_77 1 rfl ?_
      refine k_iload_n O dX8_rings_78 3 rfl ?_
      refine k_iconst O dX8_rings_79 (v := 1) (by decide) ?_
      refine k_iload_n O dX8_rings_80 2 rfl ?_
      refine k_ishl O dX8_rings_81 ?_
      refine k_iand O dX8_rings_82 ?_
      refine k_ior O dX8_rings_83 ?_
      refine k_topi (fun x2 ex2 => ?_)
      have h := nm_use h x2 ex2
      refine k_istore_n (lv' := [(1, .int x2), (0, .ref (g_ad X.1 105)), (2, .int v2), (3, .int v3), (4, .int v4)]) O dX8_rings_84 rfl (by decide) rfl ?_
      obtain ⟨x3, ex3⟩ : ∃ z : Int32, z = v2 + (1 : Int32) := ⟨_, rfl⟩
      have h := nm_use h x3 ex3
      refine k_iinc (lv' := [(2, .int x3), (1, .int x2), (0, .ref (g_ad X.1 105)), (3, .int v3), (4, .int v4)]) O dX8_rings_85 2 rfl (by rw [ex3]; rfl) (by decide) rfl ?_
      refine k_goto O 4 dX8_rings_88 (by decide) ?_
      exact k_sub [2, 1, 0] rfl (hk4 h)
    · have h := ite_f c1 h
      refine k_iconst O dX8_rings_29 (v := 0) (by decide) ?_
      refine k_istore (lv' := [(5, .int ((0 : Int32))), (0, .ref (g_ad X.1 105)), (1, .int v1), (2, .int v2), (3, .int v3), (4, .int v4)]) O dX8_rings_30 (by decide) rfl ?_
      exact k_sub [1, 2, 3, 4, 5, 0] rfl (w_X8_rings_32 O hN hk4 (fun {_} {_} {_} {_} {_} h9 => ih h9) ho LF h)
set_option maxHeartbeats 4000000 in
set_option maxRecDepth 100000 in
theorem w_X8_rings_4 {X : Cx} {rz : Int32} {wz : Wd} (O : Ok X cX8_rings RX8 ((some .int)) wsX8_rings (0) (0) 6) (hN : 121 ≤ g_N X.1) (ho : Ro X (some (.int rz), wz)) (n : Nat) : ∀ {w : Wd} {v1 : Int32} {v2 : Int32}, b_X8_rings_4 n w v1 v2 = some (rz, wz) → Wk X w 4 [(0, .ref (g_ad X.1 105)), (1, .int v1), (2, .int v2)] [] := by
  induction n with
  | zero => intro w v1 v2 h; exact nomatch (show (none : Option (Int32 × Wd)) = some _ from h)
  | succ n ih =>
    intro w v1 v2 h
    rw [b_X8_rings_4] at h
    refine k_iload_n O dX8_rings_4 2 rfl ?_
    refine k_aload_n O dX8_rings_5 0 rfl ?_
    refine k_get O (v := .int (w.1 105 10)) (k := 105) (by omega) E_105 rfl 10 (by decide) (fun _ h9 => List.mem_cons_of_mem _ (List.mem_append_right _ h9)) (List.mem_of_getElem? (i := 1) rfl) rfl dX8_rings_6 ?_
    refine k_icmp_ge O 91 dX8_rings_9 (by decide) (fun c1 => ?_) (fun c1 => ?_)
    · have h := ite_t c1 h
      refine k_iload_n O dX8_rings_91 1 rfl ?_
      exact k_iret O dX8_rings_92 (rt_int h ho)
    · have h := ite_f c1 h
      refine k_aload_n O dX8_rings_12 0 rfl ?_
      refine k_get O (v := .ref (g_ad X.1 111)) (k := 105) (by omega) E_105 rfl 8 (by decide) (fun _ h9 => List.mem_cons_of_mem _ (List.mem_append_right _ h9)) (List.mem_of_getElem? (i := 2) rfl) rfl dX8_rings_13 ?_
      refine k_iload_n O dX8_rings_16 2 rfl ?_
      obtain ⟨g2, h⟩ := gd_some h
      refine k_iald O (k := 111) (by omega) E_111 g2 dX8_rings_17 ?_
      refine k_topi (fun x3 ex3 => ?_)
      have h := nm_use h x3 ex3
      refine k_istore_n (lv' := [(3, .int x3), (0, .ref (g_ad X.1 105)), (1, .int v1), (2, .int v2)]) O dX8_rings_18 rfl (by decide) rfl ?_
      refine k_iconst O dX8_rings_19 (v := 0) (by decide) ?_
      refine k_istore (lv' := [(4, .int ((0 : Int32))), (3, .int x3), (0, .ref (g_ad X.1 105)), (1, .int v1), (2, .int v2)]) O dX8_rings_20 (by decide) rfl ?_
      exact k_sub [2, 3, 4, 1, 0] rfl (w_X8_rings_22 O hN (fun {_} {_} {_} h9 => ih h9) ho LF h)
set_option maxHeartbeats 4000000 in
set_option maxRecDepth 100000 in
theorem w_X8_rings_0 {X : Cx} {rz : Int32} {wz : Wd} (O : Ok X cX8_rings RX8 ((some .int)) wsX8_rings (0) (0) 6) (hN : 121 ≤ g_N X.1) (ho : Ro X (some (.int rz), wz)) {w : Wd} (h : b_X8_rings_0 w  = some (rz, wz)) : Wk X w 0 [(0, .ref (g_ad X.1 105))] [] := by
  unfold b_X8_rings_0 at h
  refine k_iconst O dX8_rings_0 (v := 0) (by decide) ?_
  refine k_istore_n (lv' := [(1, .int ((0 : Int32))), (0, .ref (g_ad X.1 105))]) O dX8_rings_1 rfl (by decide) rfl ?_
  refine k_iconst O dX8_rings_2 (v := 0) (by decide) ?_
  refine k_istore_n (lv' := [(2, .int ((0 : Int32))), (1, .int ((0 : Int32))), (0, .ref (g_ad X.1 105))]) O dX8_rings_3 rfl (by decide) rfl ?_
  exact k_sub [2, 1, 0] rfl (w_X8_rings_4 O hN ho LF h)
theorem c_X8_rings (l : Launch) (G : Gl) (hN : 121 ≤ g_N G) {w wz : Wd} {rz : Int32} (h : f_X8_rings w  = some (rz, wz)) : Ct l yX8_rings wsX8_rings (0) (0) G [.ref (g_ad G 105)] w (some (.int rz), wz) := by
  refine Ct.start (by decide) rfl rfl rfl (Nat.le_of_ble_eq_true rfl) (fun X hG ho hl O => ?_)
  subst hG
  subst hl
  exact k_sub [0] rfl (w_X8_rings_0 O hN ho h)
def b_X8_ones_4 : Nat → Wd → Int32 → Int32 → Int32 → Option (Int32 × Wd)
  | 0, _, _, _, _ => none
  | n + 1, w, v0, v1, v2 => if ((12 : Int32)) ≤ v2 then (some (v1, w)) else (nm (v1 + ((v0 >>> (v2 &&& 31)) &&& ((1 : Int32)))) (fun x2 => nm (v2 + (1 : Int32)) (fun x3 => b_X8_ones_4 n w v0 x2 x3)))
def b_X8_ones_0 (w : Wd) (v0 : Int32) : Option (Int32 × Wd) := b_X8_ones_4 LF w v0 ((0 : Int32)) ((0 : Int32))
def f_X8_ones (w : Wd) (v0 : Int32) : Option (Int32 × Wd) := b_X8_ones_0 w v0
set_option maxHeartbeats 4000000 in
set_option maxRecDepth 100000 in
theorem w_X8_ones_4 {X : Cx} {rz : Int32} {wz : Wd} (O : Ok X cX8_ones RX8 ((some .int)) wsX8_ones (0) (0) 3) (ho : Ro X (some (.int rz), wz)) (n : Nat) : ∀ {w : Wd} {v0 : Int32} {v1 : Int32} {v2 : Int32}, b_X8_ones_4 n w v0 v1 v2 = some (rz, wz) → Wk X w 4 [(0, .int v0), (1, .int v1), (2, .int v2)] [] := by
  induction n with
  | zero => intro w v0 v1 v2 h; exact nomatch (show (none : Option (Int32 × Wd)) = some _ from h)
  | succ n ih =>
    intro w v0 v1 v2 h
    rw [b_X8_ones_4] at h
    refine k_iload_n O dX8_ones_4 2 rfl ?_
    refine k_bipush O dX8_ones_5 (v := 12) (by decide) ?_
    refine k_icmp_ge O 24 dX8_ones_7 (by decide) (fun c1 => ?_) (fun c1 => ?_)
    · have h := ite_t c1 h
      refine k_iload_n O dX8_ones_24 1 rfl ?_
      exact k_iret O dX8_ones_25 (rt_int h ho)
    · have h := ite_f c1 h
      refine k_iload_n O dX8_ones_10 1 rfl ?_
      refine k_iload_n O dX8_ones_11 0 rfl ?_
      refine k_iload_n O dX8_ones_12 2 rfl ?_
      refine k_ishr O dX8_ones_13 ?_
      refine k_iconst O dX8_ones_14 (v := 1) (by decide) ?_
      refine k_iand O dX8_ones_15 ?_
      refine k_iadd O dX8_ones_16 ?_
      refine k_topi (fun x2 ex2 => ?_)
      have h := nm_use h x2 ex2
      refine k_istore_n (lv' := [(1, .int x2), (0, .int v0), (2, .int v2)]) O dX8_ones_17 rfl (by decide) rfl ?_
      obtain ⟨x3, ex3⟩ : ∃ z : Int32, z = v2 + (1 : Int32) := ⟨_, rfl⟩
      have h := nm_use h x3 ex3
      refine k_iinc (lv' := [(2, .int x3), (1, .int x2), (0, .int v0)]) O dX8_ones_18 2 rfl (by rw [ex3]; rfl) (by decide) rfl ?_
      refine k_goto O 4 dX8_ones_21 (by decide) ?_
      exact k_sub [2, 1, 0] rfl (ih h)
set_option maxHeartbeats 4000000 in
set_option maxRecDepth 100000 in
theorem w_X8_ones_0 {X : Cx} {rz : Int32} {wz : Wd} (O : Ok X cX8_ones RX8 ((some .int)) wsX8_ones (0) (0) 3) (ho : Ro X (some (.int rz), wz)) {w : Wd} {v0 : Int32} (h : b_X8_ones_0 w v0 = some (rz, wz)) : Wk X w 0 [(0, .int v0)] [] := by
  unfold b_X8_ones_0 at h
  refine k_iconst O dX8_ones_0 (v := 0) (by decide) ?_
  refine k_istore_n (lv' := [(1, .int ((0 : Int32))), (0, .int v0)]) O dX8_ones_1 rfl (by decide) rfl ?_
  refine k_iconst O dX8_ones_2 (v := 0) (by decide) ?_
  refine k_istore_n (lv' := [(2, .int ((0 : Int32))), (1, .int ((0 : Int32))), (0, .int v0)]) O dX8_ones_3 rfl (by decide) rfl ?_
  exact k_sub [2, 1, 0] rfl (w_X8_ones_4 O ho LF h)
theorem c_X8_ones (l : Launch) (G : Gl) {w wz : Wd} {v0 : Int32} {rz : Int32} (h : f_X8_ones w v0 = some (rz, wz)) : Ct l yX8_ones wsX8_ones (0) (0) G [.int v0] w (some (.int rz), wz) := by
  refine Ct.start (by decide) rfl rfl rfl (Nat.le_of_ble_eq_true rfl) (fun X hG ho hl O => ?_)
  subst hG
  subst hl
  exact k_sub [0] rfl (w_X8_ones_0 O ho h)
def b_X8_allBy_44 (kb4 : Wd → Int32 → Int32 → Int32 → Option (Int32 × Wd)) (w : Wd) (v1 : Int32) (v3 : Int32) (s0 : Int32) (s1 : Int32) : Option (Int32 × Wd) := nm (s1 ||| s0) (fun x1 => nm (v3 + (1 : Int32)) (fun x2 => kb4 w v1 x1 x2))
def b_X8_allBy_43 (kb4 : Wd → Int32 → Int32 → Int32 → Option (Int32 × Wd)) (w : Wd) (v1 : Int32) (v3 : Int32) (s0 : Int32) : Option (Int32 × Wd) := b_X8_allBy_44 kb4 w v1 v3 ((0 : Int32)) s0
def b_X8_allBy_4 : Nat → Wd → Int32 → Int32 → Int32 → Option (Int32 × Wd)
  | 0, _, _, _, _ => none
  | n + 1, w, v1, v2, v3 => if (w.1 105 10) ≤ v3 then (some (v2, w)) else (if ((v1 >>> (v3 &&& 31)) &&& ((1 : Int32))) = ((1 : Int32)) then (if (w.1 105 13) = 0 then (bd (f_X8_wave w (w.1 113 ((0 : Int32)).toNatClampNeg) v3) (fun r6 w5 => b_X8_allBy_44 (b_X8_allBy_4 n) w5 v1 v3 r6 v2)) else (b_X8_allBy_43 (b_X8_allBy_4 n) w v1 v3 v2)) else (b_X8_allBy_43 (b_X8_allBy_4 n) w v1 v3 v2))
def b_X8_allBy_0 (w : Wd) (v1 : Int32) : Option (Int32 × Wd) := b_X8_allBy_4 LF w v1 ((0 : Int32)) ((0 : Int32))
def f_X8_allBy (w : Wd) (v1 : Int32) : Option (Int32 × Wd) := b_X8_allBy_0 w v1
set_option maxHeartbeats 4000000 in
set_option maxRecDepth 100000 in
theorem w_X8_allBy_44 {X : Cx} {rz : Int32} {wz : Wd} (O : Ok X cX8_allBy RX8 ((some .int)) wsX8_allBy (1) (27) 4) (hN : 121 ≤ g_N X.1) {kb4 : Wd → Int32 → Int32 → Int32 → Option (Int32 × Wd)} (hk4 : ∀ {w : Wd} {v1 : Int32} {v2 : Int32} {v3 : Int32}, kb4 w v1 v2 v3 = some (rz, wz) → Wk X w 4 [(0, .ref (g_ad X.1 105)), (1, .int v1), (2, .int v2), (3, .int v3)] []) (ho : Ro X (some (.int rz), wz)) {w : Wd} {v1 : Int32} {v3 : Int32} {s0 : Int32} {s1 : Int32} (h : b_X8_allBy_44 kb4 w v1 v3 s0 s1 = some (rz, wz)) : Wk X w 44 [(0, .ref (g_ad X.1 105)), (1, .int v1), (3, .int v3)] [.int s0, .int s1] := by
  unfold b_X8_allBy_44 at h
  refine k_ior O dX8_allBy_44 ?_
  refine k_topi (fun x1 ex1 => ?_)
  have h := nm_use h x1 ex1
  refine k_istore_n (lv' := [(2, .int x1), (0, .ref (g_ad X.1 105)), (1, .int v1), (3, .int v3)]) O dX8_allBy_45 rfl (by decide) rfl ?_
  obtain ⟨x2, ex2⟩ : ∃ z : Int32, z = v3 + (1 : Int32) := ⟨_, rfl⟩
  have h := nm_use h x2 ex2
  refine k_iinc (lv' := [(3, .int x2), (2, .int x1), (0, .ref (g_ad X.1 105)), (1, .int v1)]) O dX8_allBy_46 3 rfl (by rw [ex2]; rfl) (by decide) rfl ?_
  refine k_goto O 4 dX8_allBy_49 (by decide) ?_
  exact k_sub [2, 3, 1, 0] rfl (hk4 h)
set_option maxHeartbeats 4000000 in
set_option maxRecDepth 100000 in
theorem w_X8_allBy_43 {X : Cx} {rz : Int32} {wz : Wd} (O : Ok X cX8_allBy RX8 ((some .int)) wsX8_allBy (1) (27) 4) (hN : 121 ≤ g_N X.1) {kb4 : Wd → Int32 → Int32 → Int32 → Option (Int32 × Wd)} (hk4 : ∀ {w : Wd} {v1 : Int32} {v2 : Int32} {v3 : Int32}, kb4 w v1 v2 v3 = some (rz, wz) → Wk X w 4 [(0, .ref (g_ad X.1 105)), (1, .int v1), (2, .int v2), (3, .int v3)] []) (ho : Ro X (some (.int rz), wz)) {w : Wd} {v1 : Int32} {v3 : Int32} {s0 : Int32} (h : b_X8_allBy_43 kb4 w v1 v3 s0 = some (rz, wz)) : Wk X w 43 [(0, .ref (g_ad X.1 105)), (1, .int v1), (3, .int v3)] [.int s0] := by
  unfold b_X8_allBy_43 at h
  refine k_iconst O dX8_allBy_43 (v := 0) (by decide) ?_
  exact k_sub [0, 1, 2] rfl (w_X8_allBy_44 O hN hk4 ho h)
set_option maxHeartbeats 4000000 in
set_option maxRecDepth 100000 in
theorem w_X8_allBy_4 {X : Cx} {rz : Int32} {wz : Wd} (O : Ok X cX8_allBy RX8 ((some .int)) wsX8_allBy (1) (27) 4) (hN : 121 ≤ g_N X.1) (ho : Ro X (some (.int rz), wz)) (n : Nat) : ∀ {w : Wd} {v1 : Int32} {v2 : Int32} {v3 : Int32}, b_X8_allBy_4 n w v1 v2 v3 = some (rz, wz) → Wk X w 4 [(0, .ref (g_ad X.1 105)), (1, .int v1), (2, .int v2), (3, .int v3)] [] := by
  induction n with
  | zero => intro w v1 v2 v3 h; exact nomatch (show (none : Option (Int32 × Wd)) = some _ from h)
  | succ n ih =>
    intro w v1 v2 v3 h
    rw [b_X8_allBy_4] at h
    refine k_iload_n O dX8_allBy_4 3 rfl ?_
    refine k_aload_n O dX8_allBy_5 0 rfl ?_
    refine k_get O (v := .int (w.1 105 10)) (k := 105) (by omega) E_105 rfl 10 (by decide) (fun _ h9 => List.mem_cons_of_mem _ (List.mem_append_right _ h9)) (List.mem_of_getElem? (i := 1) rfl) rfl dX8_allBy_6 ?_
    refine k_icmp_ge O 52 dX8_allBy_9 (by decide) (fun c1 => ?_) (fun c1 => ?_)
    · have h := ite_t c1 h
      refine k_iload_n O dX8_allBy_52 2 rfl ?_
      exact k_iret O dX8_allBy_53 (rt_int h ho)
    · have h := ite_f c1 h
      refine k_iload_n O dX8_allBy_12 2 rfl ?_
      refine k_iload_n O dX8_allBy_13 1 rfl ?_
      refine k_iload_n O dX8_allBy_14 3 rfl ?_
      refine k_ishr O dX8_allBy_15 ?_
      refine k_iconst O dX8_allBy_16 (v := 1) (by decide) ?_
      refine k_iand O dX8_allBy_17 ?_
      refine k_iconst O dX8_allBy_18 (v := 1) (by decide) ?_
      refine k_icmp_ne O 43 dX8_allBy_19 (by decide) (fun c2 => ?_) (fun c2 => ?_)
      · have h := ite_f c2 h
        exact k_sub [0, 1, 3] rfl (w_X8_allBy_43 O hN (fun {_} {_} {_} {_} h9 => ih h9) ho h)
      · have h := ite_t c2 h
        refine k_aload_n O dX8_allBy_22 0 rfl ?_
        refine k_get O (v := .int (w.1 105 13)) (k := 105) (by omega) E_105 rfl 13 (by decide) (fun _ h9 => List.mem_cons_of_mem _ (List.mem_append_right _ h9)) (List.mem_of_getElem? (i := 2) rfl) rfl dX8_allBy_23 ?_
        refine k_if_ne O 43 dX8_allBy_26 (by decide) (fun c3 => ?_) (fun c3 => ?_)
        · have h := ite_f c3 h
          exact k_sub [0, 1, 3] rfl (w_X8_allBy_43 O hN (fun {_} {_} {_} {_} h9 => ih h9) ho h)
        · have h := ite_t c3 h
          refine k_aload_n O dX8_allBy_29 0 rfl ?_
          refine k_aload_n O dX8_allBy_30 0 rfl ?_
          refine k_get O (v := .ref (g_ad X.1 113)) (k := 105) (by omega) E_105 rfl 14 (by decide) (fun _ h9 => List.mem_cons_of_mem _ (List.mem_append_right _ h9)) (List.mem_of_getElem? (i := 3) rfl) rfl dX8_allBy_31 ?_
          refine k_iconst O dX8_allBy_34 (v := 0) (by decide) ?_
          refine k_iald O (k := 113) (by omega) E_113 (by decide) dX8_allBy_35 ?_
          refine k_iload_n O dX8_allBy_36 3 rfl ?_
          obtain ⟨r6, w5, hc4, h⟩ := bd_some h
          refine k_callVi O (As := [.int (w.1 113 ((0 : Int32)).toNatClampNeg), .int v3]) (rest := [.int v2]) (k := 105) (c_X8_wave (x_l X) X.1 hN hc4) gX8_allBy_X8_wave rfl hd_X8_wave (by decide) (by omega) E_105 rfl rfl rfl rfl rfl (Nat.le_of_ble_eq_true rfl) dX8_allBy_37 ?_
          refine k_goto O 44 dX8_allBy_40 (by decide) ?_
          exact k_sub [0, 1, 3] rfl (w_X8_allBy_44 O hN (fun {_} {_} {_} {_} h9 => ih h9) ho h)
set_option maxHeartbeats 4000000 in
set_option maxRecDepth 100000 in
theorem w_X8_allBy_0 {X : Cx} {rz : Int32} {wz : Wd} (O : Ok X cX8_allBy RX8 ((some .int)) wsX8_allBy (1) (27) 4) (hN : 121 ≤ g_N X.1) (ho : Ro X (some (.int rz), wz)) {w : Wd} {v1 : Int32} (h : b_X8_allBy_0 w v1 = some (rz, wz)) : Wk X w 0 [(0, .ref (g_ad X.1 105)), (1, .int v1)] [] := by
  unfold b_X8_allBy_0 at h
  refine k_iconst O dX8_allBy_0 (v := 0) (by decide) ?_
  refine k_istore_n (lv' := [(2, .int ((0 : Int32))), (0, .ref (g_ad X.1 105)), (1, .int v1)]) O dX8_allBy_1 rfl (by decide) rfl ?_
  refine k_iconst O dX8_allBy_2 (v := 0) (by decide) ?_
  refine k_istore_n (lv' := [(3, .int ((0 : Int32))), (2, .int ((0 : Int32))), (0, .ref (g_ad X.1 105)), (1, .int v1)]) O dX8_allBy_3 rfl (by decide) rfl ?_
  exact k_sub [2, 3, 1, 0] rfl (w_X8_allBy_4 O hN ho LF h)
theorem c_X8_allBy (l : Launch) (G : Gl) (hN : 121 ≤ g_N G) {w wz : Wd} {v1 : Int32} {rz : Int32} (h : f_X8_allBy w v1 = some (rz, wz)) : Ct l yX8_allBy wsX8_allBy (1) (27) G [.ref (g_ad G 105), .int v1] w (some (.int rz), wz) := by
  refine Ct.start (by decide) rfl rfl rfl (Nat.le_of_ble_eq_true rfl) (fun X hG ho hl O => ?_)
  subst hG
  subst hl
  exact k_sub [0, 1] rfl (w_X8_allBy_0 O hN ho h)
def b_X8_all_71 (kb18 : Wd → Int32 → Int32 → Int32 → Option (Int32 × Wd)) (w : Wd) (v1 : Int32) (v3 : Int32) (s0 : Int32) : Option (Int32 × Wd) := nm (v3 + (1 : Int32)) (fun x1 => kb18 w v1 s0 x1)
def b_X8_all_70 (kb18 : Wd → Int32 → Int32 → Int32 → Option (Int32 × Wd)) (w : Wd) (v1 : Int32) (v2 : Int32) (v3 : Int32) : Option (Int32 × Wd) := b_X8_all_71 kb18 w v1 v3 v2
def b_X8_all_50 (kb18 : Wd → Int32 → Int32 → Int32 → Option (Int32 × Wd)) (w : Wd) (v1 : Int32) (v2 : Int32) (v3 : Int32) (s0 : Int32) : Option (Int32 × Wd) := if s0 = 0 then (b_X8_all_70 kb18 w v1 v2 v3) else (bd (f_X8_allBy w v3) (fun r4 w3 => if r4 = v1 then (b_X8_all_71 kb18 w3 v1 v3 v3) else (b_X8_all_70 kb18 w3 v1 v2 v3)))
def b_X8_all_45 (kb18 : Wd → Int32 → Int32 → Int32 → Option (Int32 × Wd)) (w : Wd) (v1 : Int32) (v2 : Int32) (v3 : Int32) : Option (Int32 × Wd) := b_X8_all_50 kb18 w v1 v2 v3 ((1 : Int32))
def b_X8_all_18 : Nat → Wd → Int32 → Int32 → Int32 → Option (Int32 × Wd)
  | 0, _, _, _, _ => none
  | n + 1, w, v1, v2, v3 => if (((1 : Int32)) <<< ((w.1 105 10) &&& 31)) ≤ v3 then (some (v2, w)) else (if v2 = ((-9 : Int32)) then (b_X8_all_45 (b_X8_all_18 n) w v1 v2 v3) else (bd (f_X8_ones w v3) (fun r5 w4 => bd (f_X8_ones w4 v2) (fun r8 w7 => if r8 ≤ r5 then (b_X8_all_50 (b_X8_all_18 n) w7 v1 v2 v3 ((0 : Int32))) else (b_X8_all_45 (b_X8_all_18 n) w7 v1 v2 v3)))))
def b_X8_all_0 (w : Wd) : Option (Int32 × Wd) := bd (f_X8_allBy w ((((1 : Int32)) <<< ((w.1 105 10) &&& 31)) - ((1 : Int32)))) (fun r3 w2 => b_X8_all_18 LF w2 r3 ((-9 : Int32)) ((0 : Int32)))
def f_X8_all (w : Wd) : Option (Int32 × Wd) := b_X8_all_0 w 
set_option maxHeartbeats 4000000 in
set_option maxRecDepth 100000 in
theorem w_X8_all_71 {X : Cx} {rz : Int32} {wz : Wd} (O : Ok X cX8_all RX8 ((some .int)) wsX8_all (2) (50) 5) (hN : 121 ≤ g_N X.1) {kb18 : Wd → Int32 → Int32 → Int32 → Option (Int32 × Wd)} (hk18 : ∀ {w : Wd} {v1 : Int32} {v2 : Int32} {v3 : Int32}, kb18 w v1 v2 v3 = some (rz, wz) → Wk X w 18 [(0, .ref (g_ad X.1 105)), (1, .int v1), (2, .int v2), (3, .int v3)] []) (ho : Ro X (some (.int rz), wz)) {w : Wd} {v1 : Int32} {v3 : Int32} {s0 : Int32} (h : b_X8_all_71 kb18 w v1 v3 s0 = some (rz, wz)) : Wk X w 71 [(0, .ref (g_ad X.1 105)), (1, .int v1), (3, .int v3)] [.int s0] := by
  unfold b_X8_all_71 at h
  refine k_istore_n (lv' := [(2, .int s0), (0, .ref (g_ad X.1 105)), (1, .int v1), (3, .int v3)]) O dX8_all_71 rfl (by decide) rfl ?_
  obtain ⟨x1, ex1⟩ : ∃ z : Int32, z = v3 + (1 : Int32) := ⟨_, rfl⟩
  have h := nm_use h x1 ex1
  refine k_iinc (lv' := [(3, .int x1), (2, .int s0), (0, .ref (g_ad X.1 105)), (1, .int v1)]) O dX8_all_72 3 rfl (by rw [ex1]; rfl) (by decide) rfl ?_
  refine k_goto O 18 dX8_all_75 (by decide) ?_
  exact k_sub [2, 3, 1, 0] rfl (hk18 h)
set_option maxHeartbeats 4000000 in
set_option maxRecDepth 100000 in
theorem w_X8_all_70 {X : Cx} {rz : Int32} {wz : Wd} (O : Ok X cX8_all RX8 ((some .int)) wsX8_all (2) (50) 5) (hN : 121 ≤ g_N X.1) {kb18 : Wd → Int32 → Int32 → Int32 → Option (Int32 × Wd)} (hk18 : ∀ {w : Wd} {v1 : Int32} {v2 : Int32} {v3 : Int32}, kb18 w v1 v2 v3 = some (rz, wz) → Wk X w 18 [(0, .ref (g_ad X.1 105)), (1, .int v1), (2, .int v2), (3, .int v3)] []) (ho : Ro X (some (.int rz), wz)) {w : Wd} {v1 : Int32} {v2 : Int32} {v3 : Int32} (h : b_X8_all_70 kb18 w v1 v2 v3 = some (rz, wz)) : Wk X w 70 [(0, .ref (g_ad X.1 105)), (1, .int v1), (2, .int v2), (3, .int v3)] [] := by
  unfold b_X8_all_70 at h
  refine k_iload_n O dX8_all_70 2 rfl ?_
  exact k_sub [0, 1, 3] rfl (w_X8_all_71 O hN hk18 ho h)
set_option maxHeartbeats 4000000 in
set_option maxRecDepth 100000 in
theorem w_X8_all_50 {X : Cx} {rz : Int32} {wz : Wd} (O : Ok X cX8_all RX8 ((some .int)) wsX8_all (2) (50) 5) (hN : 121 ≤ g_N X.1) {kb18 : Wd → Int32 → Int32 → Int32 → Option (Int32 × Wd)} (hk18 : ∀ {w : Wd} {v1 : Int32} {v2 : Int32} {v3 : Int32}, kb18 w v1 v2 v3 = some (rz, wz) → Wk X w 18 [(0, .ref (g_ad X.1 105)), (1, .int v1), (2, .int v2), (3, .int v3)] []) (ho : Ro X (some (.int rz), wz)) {w : Wd} {v1 : Int32} {v2 : Int32} {v3 : Int32} {s0 : Int32} (h : b_X8_all_50 kb18 w v1 v2 v3 s0 = some (rz, wz)) : Wk X w 50 [(0, .ref (g_ad X.1 105)), (1, .int v1), (2, .int v2), (3, .int v3)] [.int s0] := by
  unfold b_X8_all_50 at h
  refine k_istore (lv' := [(4, .int s0), (0, .ref (g_ad X.1 105)), (1, .int v1), (2, .int v2), (3, .int v3)]) O dX8_all_50 (by decide) rfl ?_
  refine k_iload O dX8_all_52 0 rfl ?_
  refine k_if_eq O 70 dX8_all_54 (by decide) (fun c1 => ?_) (fun c1 => ?_)
  · have h := ite_t c1 h
    exact k_sub [1, 2, 3, 4] rfl (w_X8_all_70 O hN hk18 ho h)
  · have h := ite_f c1 h
    refine k_aload_n O dX8_all_57 1 rfl ?_
    refine k_iload_n O dX8_all_58 4 rfl ?_
    obtain ⟨r4, w3, hc2, h⟩ := bd_some h
    refine k_callVi O (As := [.int v3]) (rest := []) (k := 105) (c_X8_allBy (x_l X) X.1 hN hc2) gX8_all_X8_allBy rfl hd_X8_allBy (by decide) (by omega) E_105 rfl rfl rfl rfl rfl (Nat.le_of_ble_eq_true rfl) dX8_all_59 ?_
    refine k_iload_n O dX8_all_62 2 rfl ?_
    refine k_icmp_ne O 70 dX8_all_63 (by decide) (fun c5 => ?_) (fun c5 => ?_)
    · have h := ite_f c5 h
      exact k_sub [1, 2, 3, 4] rfl (w_X8_all_70 O hN hk18 ho h)
    · have h := ite_t c5 h
      refine k_iload_n O dX8_all_66 4 rfl ?_
      refine k_goto O 71 dX8_all_67 (by decide) ?_
      exact k_sub [1, 2, 4] rfl (w_X8_all_71 O hN hk18 ho h)
set_option maxHeartbeats 4000000 in
set_option maxRecDepth 100000 in
theorem w_X8_all_45 {X : Cx} {rz : Int32} {wz : Wd} (O : Ok X cX8_all RX8 ((some .int)) wsX8_all (2) (50) 5) (hN : 121 ≤ g_N X.1) {kb18 : Wd → Int32 → Int32 → Int32 → Option (Int32 × Wd)} (hk18 : ∀ {w : Wd} {v1 : Int32} {v2 : Int32} {v3 : Int32}, kb18 w v1 v2 v3 = some (rz, wz) → Wk X w 18 [(0, .ref (g_ad X.1 105)), (1, .int v1), (2, .int v2), (3, .int v3)] []) (ho : Ro X (some (.int rz), wz)) {w : Wd} {v1 : Int32} {v2 : Int32} {v3 : Int32} (h : b_X8_all_45 kb18 w v1 v2 v3 = some (rz, wz)) : Wk X w 45 [(0, .ref (g_ad X.1 105)), (1, .int v1), (2, .int v2), (3, .int v3)] [] := by
  unfold b_X8_all_45 at h
  refine k_iconst O dX8_all_45 (v := 1) (by decide) ?_
  refine k_goto O 50 dX8_all_46 (by decide) ?_
  exact k_sub [0, 1, 2, 3] rfl (w_X8_all_50 O hN hk18 ho h)
set_option maxHeartbeats 4000000 in
set_option maxRecDepth 100000 in
theorem w_X8_all_18 {X : Cx} {rz : Int32} {wz : Wd} (O : Ok X cX8_all RX8 ((some .int)) wsX8_all (2) (50) 5) (hN : 121 ≤ g_N X.1) (ho : Ro X (some (.int rz), wz)) (n : Nat) : ∀ {w : Wd} {v1 : Int32} {v2 : Int32} {v3 : Int32}, b_X8_all_18 n w v1 v2 v3 = some (rz, wz) → Wk X w 18 [(0, .ref (g_ad X.1 105)), (1, .int v1), (2, .int v2), (3, .int v3)] [] := by
  induction n with
  | zero => intro w v1 v2 v3 h; exact nomatch (show (none : Option (Int32 × Wd)) = some _ from h)
  | succ n ih =>
    intro w v1 v2 v3 h
    rw [b_X8_all_18] at h
    refine k_iload_n O dX8_all_18 3 rfl ?_
    refine k_iconst O dX8_all_19 (v := 1) (by decide) ?_
    refine k_aload_n O dX8_all_20 0 rfl ?_
    refine k_get O (v := .int (w.1 105 10)) (k := 105) (by omega) E_105 rfl 10 (by decide) (fun _ h9 => List.mem_cons_of_mem _ (List.mem_append_right _ h9)) (List.mem_of_getElem? (i := 1) rfl) rfl dX8_all_21 ?_
    refine k_ishl O dX8_all_24 ?_
    refine k_icmp_ge O 78 dX8_all_25 (by decide) (fun c1 => ?_) (fun c1 => ?_)
    · have h := ite_t c1 h
      refine k_iload_n O dX8_all_78 2 rfl ?_
      exact k_iret O dX8_all_79 (rt_int h ho)
    · have h := ite_f c1 h
      refine k_iload_n O dX8_all_28 2 rfl ?_
      refine k_bipush O dX8_all_29 (v := -9) (by decide) ?_
      refine k_icmp_eq O 45 dX8_all_31 (by decide) (fun c2 => ?_) (fun c2 => ?_)
      · have h := ite_t c2 h
        exact k_sub [0, 1, 2, 3] rfl (w_X8_all_45 O hN (fun {_} {_} {_} {_} h9 => ih h9) ho h)
      · have h := ite_f c2 h
        refine k_iload_n O dX8_all_34 3 rfl ?_
        obtain ⟨r5, w4, hc3, h⟩ := bd_some h
        refine k_callSi O (As := [.int v3]) (rest := []) (c_X8_ones (x_l X) X.1 hc3) gX8_all_X8_ones rfl hd_X8_ones (by decide) rfl rfl (Nat.le_of_ble_eq_true rfl) dX8_all_35 ?_
        refine k_iload_n O dX8_all_38 2 rfl ?_
        obtain ⟨r8, w7, hc6, h⟩ := bd_some h
        refine k_callSi O (As := [.int v2]) (rest := [.int r5]) (c_X8_ones (x_l X) X.1 hc6) gX8_all_X8_ones rfl hd_X8_ones (by decide) rfl rfl (Nat.le_of_ble_eq_true rfl) dX8_all_39 ?_
        refine k_icmp_ge O 49 dX8_all_42 (by decide) (fun c9 => ?_) (fun c9 => ?_)
        · have h := ite_t c9 h
          refine k_iconst O dX8_all_49 (v := 0) (by decide) ?_
          exact k_sub [0, 1, 2, 3] rfl (w_X8_all_50 O hN (fun {_} {_} {_} {_} h9 => ih h9) ho h)
        · have h := ite_f c9 h
          exact k_sub [0, 1, 2, 3] rfl (w_X8_all_45 O hN (fun {_} {_} {_} {_} h9 => ih h9) ho h)
set_option maxHeartbeats 4000000 in
set_option maxRecDepth 100000 in
theorem w_X8_all_0 {X : Cx} {rz : Int32} {wz : Wd} (O : Ok X cX8_all RX8 ((some .int)) wsX8_all (2) (50) 5) (hN : 121 ≤ g_N X.1) (ho : Ro X (some (.int rz), wz)) {w : Wd} (h : b_X8_all_0 w  = some (rz, wz)) : Wk X w 0 [(0, .ref (g_ad X.1 105))] [] := by
  unfold b_X8_all_0 at h
  refine k_aload_n O dX8_all_0 0 rfl ?_
  refine k_iconst O dX8_all_1 (v := 1) (by decide) ?_
  refine k_aload_n O dX8_all_2 0 rfl ?_
  refine k_get O (v := .int (w.1 105 10)) (k := 105) (by omega) E_105 rfl 10 (by decide) (fun _ h9 => List.mem_cons_of_mem _ (List.mem_append_right _ h9)) (List.mem_of_getElem? (i := 1) rfl) rfl dX8_all_3 ?_
  refine k_ishl O dX8_all_6 ?_
  refine k_iconst O dX8_all_7 (v := 1) (by decide) ?_
  refine k_isub O dX8_all_8 ?_
  obtain ⟨r3, w2, hc1, h⟩ := bd_some h
  refine k_callVi O (As := [.int ((((1 : Int32)) <<< ((w.1 105 10) &&& 31)) - ((1 : Int32)))]) (rest := []) (k := 105) (c_X8_allBy (x_l X) X.1 hN hc1) gX8_all_X8_allBy rfl hd_X8_allBy (by decide) (by omega) E_105 rfl rfl rfl rfl rfl (Nat.le_of_ble_eq_true rfl) dX8_all_9 ?_
  refine k_istore_n (lv' := [(1, .int r3), (0, .ref (g_ad X.1 105))]) O dX8_all_12 rfl (by decide) rfl ?_
  refine k_bipush O dX8_all_13 (v := -9) (by decide) ?_
  refine k_istore_n (lv' := [(2, .int ((-9 : Int32))), (1, .int r3), (0, .ref (g_ad X.1 105))]) O dX8_all_15 rfl (by decide) rfl ?_
  refine k_iconst O dX8_all_16 (v := 0) (by decide) ?_
  refine k_istore_n (lv' := [(3, .int ((0 : Int32))), (2, .int ((-9 : Int32))), (1, .int r3), (0, .ref (g_ad X.1 105))]) O dX8_all_17 rfl (by decide) rfl ?_
  exact k_sub [3, 2, 1, 0] rfl (w_X8_all_18 O hN ho LF h)
theorem c_X8_all (l : Launch) (G : Gl) (hN : 121 ≤ g_N G) {w wz : Wd} {rz : Int32} (h : f_X8_all w  = some (rz, wz)) : Ct l yX8_all wsX8_all (2) (50) G [.ref (g_ad G 105)] w (some (.int rz), wz) := by
  refine Ct.start (by decide) rfl rfl rfl (Nat.le_of_ble_eq_true rfl) (fun X hG ho hl O => ?_)
  subst hG
  subst hl
  exact k_sub [0] rfl (w_X8_all_0 O hN ho h)
def b_X8_first_58 (kb25 : Wd → Int32 → Int32 → Int32 → Option (Int32 × Wd)) (w : Wd) (v1 : Int32) (v3 : Int32) (s0 : Int32) (s1 : Int32) : Option (Int32 × Wd) := nm (s1 ||| s0) (fun x1 => nm (v3 + (1 : Int32)) (fun x2 => kb25 w v1 x1 x2))
def b_X8_first_25 : Nat → Wd → Int32 → Int32 → Int32 → Option (Int32 × Wd)
  | 0, _, _, _, _ => none
  | n + 1, w, v1, v2, v3 => if (w.1 105 10) ≤ v3 then (some (v2, w)) else (bd (f_X8_wave w ((((1 : Int32)) <<< ((w.1 105 10) &&& 31)) - ((1 : Int32))) v3) (fun r4 w3 => if r4 = v1 then (b_X8_first_58 (b_X8_first_25 n) w3 v1 v3 (((1 : Int32)) <<< (v3 &&& 31)) v2) else (b_X8_first_58 (b_X8_first_25 n) w3 v1 v3 ((0 : Int32)) v2)))
def b_X8_first_0 (w : Wd) (v1 : Int32) : Option (Int32 × Wd) := bd (f_X8_in w ((v1).toInt64) ((0 : Int64)) ((((((1 : Int32)) <<< ((w.1 105 10) &&& 31)) - ((1 : Int32)))).toInt64)) (fun r3 w2 => if r3 = 0 then (some ((-2 : Int32), w2)) else (b_X8_first_25 LF w2 v1 ((0 : Int32)) ((0 : Int32))))
def f_X8_first (w : Wd) (v1 : Int32) : Option (Int32 × Wd) := b_X8_first_0 w v1
set_option maxHeartbeats 4000000 in
set_option maxRecDepth 100000 in
theorem w_X8_first_58 {X : Cx} {rz : Int32} {wz : Wd} (O : Ok X cX8_first RX8 ((some .int)) wsX8_first (1) (27) 4) (hN : 121 ≤ g_N X.1) {kb25 : Wd → Int32 → Int32 → Int32 → Option (Int32 × Wd)} (hk25 : ∀ {w : Wd} {v1 : Int32} {v2 : Int32} {v3 : Int32}, kb25 w v1 v2 v3 = some (rz, wz) → Wk X w 25 [(0, .ref (g_ad X.1 105)), (1, .int v1), (2, .int v2), (3, .int v3)] []) (ho : Ro X (some (.int rz), wz)) {w : Wd} {v1 : Int32} {v3 : Int32} {s0 : Int32} {s1 : Int32} (h : b_X8_first_58 kb25 w v1 v3 s0 s1 = some (rz, wz)) : Wk X w 58 [(0, .ref (g_ad X.1 105)), (1, .int v1), (3, .int v3)] [.int s0, .int s1] := by
  unfold b_X8_first_58 at h
  refine k_ior O dX8_first_58 ?_
  refine k_topi (fun x1 ex1 => ?_)
  have h := nm_use h x1 ex1
  refine k_istore_n (lv' := [(2, .int x1), (0, .ref (g_ad X.1 105)), (1, .int v1), (3, .int v3)]) O dX8_first_59 rfl (by decide) rfl ?_
  obtain ⟨x2, ex2⟩ : ∃ z : Int32, z = v3 + (1 : Int32) := ⟨_, rfl⟩
  have h := nm_use h x2 ex2
  refine k_iinc (lv' := [(3, .int x2), (2, .int x1), (0, .ref (g_ad X.1 105)), (1, .int v1)]) O dX8_first_60 3 rfl (by rw [ex2]; rfl) (by decide) rfl ?_
  refine k_goto O 25 dX8_first_63 (by decide) ?_
  exact k_sub [2, 3, 1, 0] rfl (hk25 h)
set_option maxHeartbeats 4000000 in
set_option maxRecDepth 100000 in
theorem w_X8_first_25 {X : Cx} {rz : Int32} {wz : Wd} (O : Ok X cX8_first RX8 ((some .int)) wsX8_first (1) (27) 4) (hN : 121 ≤ g_N X.1) (ho : Ro X (some (.int rz), wz)) (n : Nat) : ∀ {w : Wd} {v1 : Int32} {v2 : Int32} {v3 : Int32}, b_X8_first_25 n w v1 v2 v3 = some (rz, wz) → Wk X w 25 [(0, .ref (g_ad X.1 105)), (1, .int v1), (2, .int v2), (3, .int v3)] [] := by
  induction n with
  | zero => intro w v1 v2 v3 h; exact nomatch (show (none : Option (Int32 × Wd)) = some _ from h)
  | succ n ih =>
    intro w v1 v2 v3 h
    rw [b_X8_first_25] at h
    refine k_iload_n O dX8_first_25 3 rfl ?_
    refine k_aload_n O dX8_first_26 0 rfl ?_
    refine k_get O (v := .int (w.1 105 10)) (k := 105) (by omega) E_105 rfl 10 (by decide) (fun _ h9 => List.mem_cons_of_mem _ (List.mem_append_right _ h9)) (List.mem_of_getElem? (i := 1) rfl) rfl dX8_first_27 ?_
    refine k_icmp_ge O 66 dX8_first_30 (by decide) (fun c1 => ?_) (fun c1 => ?_)
    · have h := ite_t c1 h
      refine k_iload_n O dX8_first_66 2 rfl ?_
      exact k_iret O dX8_first_67 (rt_int h ho)
    · have h := ite_f c1 h
      refine k_iload_n O dX8_first_33 2 rfl ?_
      refine k_aload_n O dX8_first_34 0 rfl ?_
      refine k_iconst O dX8_first_35 (v := 1) (by decide) ?_
      refine k_aload_n O dX8_first_36 0 rfl ?_
      refine k_get O (v := .int (w.1 105 10)) (k := 105) (by omega) E_105 rfl 10 (by decide) (fun _ h9 => List.mem_cons_of_mem _ (List.mem_append_right _ h9)) (List.mem_of_getElem? (i := 1) rfl) rfl dX8_first_37 ?_
      refine k_ishl O dX8_first_40 ?_
      refine k_iconst O dX8_first_41 (v := 1) (by decide) ?_
      refine k_isub O dX8_first_42 ?_
      refine k_iload_n O dX8_first_43 3 rfl ?_
      obtain ⟨r4, w3, hc2, h⟩ := bd_some h
      refine k_callVi O (As := [.int ((((1 : Int32)) <<< ((w.1 105 10) &&& 31)) - ((1 : Int32))), .int v3]) (rest := [.int v2]) (k := 105) (c_X8_wave (x_l X) X.1 hN hc2) gX8_first_X8_wave rfl hd_X8_wave (by decide) (by omega) E_105 rfl rfl rfl rfl rfl (Nat.le_of_ble_eq_true rfl) dX8_first_44 ?_
      refine k_iload_n O dX8_first_47 1 rfl ?_
      refine k_icmp_ne O 57 dX8_first_48 (by decide) (fun c5 => ?_) (fun c5 => ?_)
      · have h := ite_f c5 h
        refine k_iconst O dX8_first_57 (v := 0) (by decide) ?_
        exact k_sub [0, 1, 3] rfl (w_X8_first_58 O hN (fun {_} {_} {_} {_} h9 => ih h9) ho h)
      · have h := ite_t c5 h
        refine k_iconst O dX8_first_51 (v := 1) (by decide) ?_
        refine k_iload_n O dX8_first_52 3 rfl ?_
        refine k_ishl O dX8_first_53 ?_
        refine k_goto O 58 dX8_first_54 (by decide) ?_
        exact k_sub [0, 1, 3] rfl (w_X8_first_58 O hN (fun {_} {_} {_} {_} h9 => ih h9) ho h)
set_option maxHeartbeats 4000000 in
set_option maxRecDepth 100000 in
theorem w_X8_first_0 {X : Cx} {rz : Int32} {wz : Wd} (O : Ok X cX8_first RX8 ((some .int)) wsX8_first (1) (27) 4) (hN : 121 ≤ g_N X.1) (ho : Ro X (some (.int rz), wz)) {w : Wd} {v1 : Int32} (h : b_X8_first_0 w v1 = some (rz, wz)) : Wk X w 0 [(0, .ref (g_ad X.1 105)), (1, .int v1)] [] := by
  unfold b_X8_first_0 at h
  refine k_iload_n O dX8_first_0 1 rfl ?_
  refine k_i2l O dX8_first_1 ?_
  refine k_lconst O dX8_first_2 (v := 0) (by decide) ?_
  refine k_iconst O dX8_first_3 (v := 1) (by decide) ?_
  refine k_aload_n O dX8_first_4 0 rfl ?_
  refine k_get O (v := .int (w.1 105 10)) (k := 105) (by omega) E_105 rfl 10 (by decide) (fun _ h9 => List.mem_cons_of_mem _ (List.mem_append_right _ h9)) (List.mem_of_getElem? (i := 1) rfl) rfl dX8_first_5 ?_
  refine k_ishl O dX8_first_8 ?_
  refine k_iconst O dX8_first_9 (v := 1) (by decide) ?_
  refine k_isub O dX8_first_10 ?_
  refine k_i2l O dX8_first_11 ?_
  obtain ⟨r3, w2, hc1, h⟩ := bd_some h
  refine k_callSi O (As := [.long ((v1).toInt64), .long ((0 : Int64)), .long ((((((1 : Int32)) <<< ((w.1 105 10) &&& 31)) - ((1 : Int32)))).toInt64)]) (rest := []) (c_X8_in (x_l X) X.1 hc1) gX8_first_X8_in rfl hd_X8_in (by decide) rfl rfl (Nat.le_of_ble_eq_true rfl) dX8_first_12 ?_
  refine k_if_ne O 21 dX8_first_15 (by decide) (fun c4 => ?_) (fun c4 => ?_)
  · have h := ite_f c4 h
    refine k_iconst O dX8_first_21 (v := 0) (by decide) ?_
    refine k_istore_n (lv' := [(2, .int ((0 : Int32))), (0, .ref (g_ad X.1 105)), (1, .int v1)]) O dX8_first_22 rfl (by decide) rfl ?_
    refine k_iconst O dX8_first_23 (v := 0) (by decide) ?_
    refine k_istore_n (lv' := [(3, .int ((0 : Int32))), (2, .int ((0 : Int32))), (0, .ref (g_ad X.1 105)), (1, .int v1)]) O dX8_first_24 rfl (by decide) rfl ?_
    exact k_sub [2, 3, 1, 0] rfl (w_X8_first_25 O hN ho LF h)
  · have h := ite_t c4 h
    refine k_bipush O dX8_first_18 (v := -2) (by decide) ?_
    exact k_iret O dX8_first_20 (rt_int h ho)
theorem c_X8_first (l : Launch) (G : Gl) (hN : 121 ≤ g_N G) {w wz : Wd} {v1 : Int32} {rz : Int32} (h : f_X8_first w v1 = some (rz, wz)) : Ct l yX8_first wsX8_first (1) (27) G [.ref (g_ad G 105), .int v1] w (some (.int rz), wz) := by
  refine Ct.start (by decide) rfl rfl rfl (Nat.le_of_ble_eq_true rfl) (fun X hG ho hl O => ?_)
  subst hG
  subst hl
  exact k_sub [0, 1] rfl (w_X8_first_0 O hN ho h)
