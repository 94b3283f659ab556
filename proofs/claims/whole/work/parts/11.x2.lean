def b_X2_takeOfCell_0 (w : Wd) (v1 : Int32) (v2 : Int32) : Option (Int32 × Wd) := nm (v1 - ((48 : Int32))) (fun x1 => if x1 < 0 then (some ((0 : Int32), w)) else (if x1 ≤ ((9 : Int32)) then (nm (up w 10 2 ((w.1 10 2) + ((1 : Int32)))) (fun w4 => if (w4.1 10 2) = ((1 : Int32)) then (nm (up w4 10 3 x1) (fun w12 => if x1 = 0 then (if (v2 &&& ((1023 : Int32))) = 0 then (some ((0 : Int32), w12)) else (some ((1 : Int32), w12))) else (if x1 = ((1 : Int32)) then (if (v2 &&& ((3072 : Int32))) = 0 then (some ((0 : Int32), w12)) else (some ((1 : Int32), w12))) else (some ((0 : Int32), w12))))) else (nm (up w4 10 3 (((w4.1 10 3) * ((10 : Int32))) + x1)) (fun w6 => bd (f_X7_isCell w6 (w6.1 10 3)) (fun r9 w8 => if r9 = 0 then (some ((0 : Int32), w8)) else (if ((v2 >>> ((w8.1 10 3) &&& 31)) &&& ((1 : Int32))) = 0 then (some ((0 : Int32), w8)) else (some ((1 : Int32), w8)))))))) else (some ((0 : Int32), w))))
def f_X2_takeOfCell (w : Wd) (v1 : Int32) (v2 : Int32) : Option (Int32 × Wd) := b_X2_takeOfCell_0 w v1 v2
set_option maxHeartbeats 4000000 in
set_option maxRecDepth 100000 in
theorem w_X2_takeOfCell_0 {X : Cx} {rz : Int32} {wz : Wd} (O : Ok X cX2_takeOfCell RX2 ((some .boolean)) wsX2_takeOfCell (1) (20) 4) (hN : 105 ≤ g_N X.1) (ho : Ro X (some (.int rz), wz)) {w : Wd} {v1 : Int32} {v2 : Int32} (h : b_X2_takeOfCell_0 w v1 v2 = some (rz, wz)) : Wk X w 0 [(0, .ref (g_ad X.1 10)), (1, .int v1), (2, .int v2)] [] := by
  unfold b_X2_takeOfCell_0 at h
  refine k_iload_n O dX2_takeOfCell_0 1 rfl ?_
  refine k_bipush O dX2_takeOfCell_1 (v := 48) (by decide) ?_
  refine k_isub O dX2_takeOfCell_3 ?_
  refine k_topi (fun x1 ex1 => ?_)
  have h := nm_use h x1 ex1
  refine k_istore_n (lv' := [(3, .int x1), (0, .ref (g_ad X.1 10)), (1, .int v1), (2, .int v2)]) O dX2_takeOfCell_4 rfl (by decide) rfl ?_
  refine k_iload_n O dX2_takeOfCell_5 0 rfl ?_
  refine k_if_lt O 15 dX2_takeOfCell_6 (by decide) (fun c2 => ?_) (fun c2 => ?_)
  · have h := ite_t c2 h
    refine k_iconst O dX2_takeOfCell_15 (v := 0) (by decide) ?_
    exact k_zret O (by decide) dX2_takeOfCell_16 (rt_int h ho)
  · have h := ite_f c2 h
    refine k_iload_n O dX2_takeOfCell_9 0 rfl ?_
    refine k_bipush O dX2_takeOfCell_10 (v := 9) (by decide) ?_
    refine k_icmp_le O 17 dX2_takeOfCell_12 (by decide) (fun c3 => ?_) (fun c3 => ?_)
    · have h := ite_t c3 h
      refine k_aload_n O dX2_takeOfCell_17 1 rfl ?_
      refine k_dup O dX2_takeOfCell_18 rfl ?_
      refine k_get O (v := .int (w.1 10 2)) (k := 10) (by omega) E_10 rfl 2 (by decide) (fun _ h9 => List.mem_cons_of_mem _ (List.mem_append_right _ h9)) (List.mem_of_getElem? (i := 1) rfl) rfl dX2_takeOfCell_19 ?_
      refine k_iconst O dX2_takeOfCell_22 (v := 1) (by decide) ?_
      refine k_iadd O dX2_takeOfCell_23 ?_
      refine k_puti O (k := 10) tyX2 tyX2_ok nmX2 (by omega) E_10 rfl 2 (by decide) (fun _ h9 => List.mem_cons_of_mem _ (List.mem_append_right _ h9)) (List.mem_of_getElem? (i := 1) rfl) rfl rfl rfl (Nat.le_of_ble_eq_true rfl) (E_10.trans rfl) dX2_takeOfCell_24 ?_
      refine k_nw (fun w4 ew4 => ?_)
      have h := nm_use h w4 ew4
      refine k_aload_n O dX2_takeOfCell_27 1 rfl ?_
      refine k_get O (v := .int (w4.1 10 2)) (k := 10) (by omega) E_10 rfl 2 (by decide) (fun _ h9 => List.mem_cons_of_mem _ (List.mem_append_right _ h9)) (List.mem_of_getElem? (i := 1) rfl) rfl dX2_takeOfCell_28 ?_
      refine k_iconst O dX2_takeOfCell_31 (v := 1) (by decide) ?_
      refine k_icmp_ne O 79 dX2_takeOfCell_32 (by decide) (fun c5 => ?_) (fun c5 => ?_)
      · have h := ite_f c5 h
        refine k_aload_n O dX2_takeOfCell_79 1 rfl ?_
        refine k_aload_n O dX2_takeOfCell_80 1 rfl ?_
        refine k_get O (v := .int (w4.1 10 3)) (k := 10) (by omega) E_10 rfl 3 (by decide) (fun _ h9 => List.mem_cons_of_mem _ (List.mem_append_right _ h9)) (List.mem_of_getElem? (i := 2) rfl) rfl dX2_takeOfCell_81 ?_
        refine k_bipush O dX2_takeOfCell_84 (v := 10) (by decide) ?_
        refine k_imul O dX2_takeOfCell_86 ?_
        refine k_iload_n O dX2_takeOfCell_87 0 rfl ?_
        refine k_iadd O dX2_takeOfCell_88 ?_
        refine k_puti O (k := 10) tyX2 tyX2_ok nmX2 (by omega) E_10 rfl 3 (by decide) (fun _ h9 => List.mem_cons_of_mem _ (List.mem_append_right _ h9)) (List.mem_of_getElem? (i := 2) rfl) rfl rfl rfl (Nat.le_of_ble_eq_true rfl) (E_10.trans rfl) dX2_takeOfCell_89 ?_
        refine k_nw (fun w6 ew6 => ?_)
        have h := nm_use h w6 ew6
        refine k_aload_n O dX2_takeOfCell_92 1 rfl ?_
        refine k_get O (v := .int (w6.1 10 3)) (k := 10) (by omega) E_10 rfl 3 (by decide) (fun _ h9 => List.mem_cons_of_mem _ (List.mem_append_right _ h9)) (List.mem_of_getElem? (i := 2) rfl) rfl dX2_takeOfCell_93 ?_
        obtain ⟨r9, w8, hc7, h⟩ := bd_some h
        refine k_callNi O (As := [.int (w6.1 10 3)]) (rest := []) (c_X7_isCell (x_l X) X.1 hc7) gX2_takeOfCell_X7_isCell_n109 rfl hd_X7_isCell (by decide) (List.mem_of_getElem? (i := 2) rfl) (List.mem_of_getElem? (i := 4) rfl) (List.mem_of_getElem? (i := 3) rfl) rfl rfl (Nat.le_of_ble_eq_true rfl) dX2_takeOfCell_96 ?_
        refine k_if_eq O 117 dX2_takeOfCell_99 (by decide) (fun c10 => ?_) (fun c10 => ?_)
        · have h := ite_t c10 h
          refine k_iconst O dX2_takeOfCell_117 (v := 0) (by decide) ?_
          exact k_zret O (by decide) dX2_takeOfCell_118 (rt_int h ho)
        · have h := ite_f c10 h
          refine k_iload_n O dX2_takeOfCell_102 3 rfl ?_
          refine k_aload_n O dX2_takeOfCell_103 1 rfl ?_
          refine k_get O (v := .int (w8.1 10 3)) (k := 10) (by omega) E_10 rfl 3 (by decide) (fun _ h9 => List.mem_cons_of_mem _ (List.mem_append_right _ h9)) (List.mem_of_getElem? (i := 2) rfl) rfl dX2_takeOfCell_104 ?_
          refine k_ishr O dX2_takeOfCell_107 ?_
          refine k_iconst O dX2_takeOfCell_108 (v := 1) (by decide) ?_
          refine k_iand O dX2_takeOfCell_109 ?_
          refine k_if_eq O 117 dX2_takeOfCell_110 (by decide) (fun c11 => ?_) (fun c11 => ?_)
          · have h := ite_t c11 h
            refine k_iconst O dX2_takeOfCell_117 (v := 0) (by decide) ?_
            exact k_zret O (by decide) dX2_takeOfCell_118 (rt_int h ho)
          · have h := ite_f c11 h
            refine k_iconst O dX2_takeOfCell_113 (v := 1) (by decide) ?_
            refine k_goto O 118 dX2_takeOfCell_114 (by decide) ?_
            exact k_zret O (by decide) dX2_takeOfCell_118 (rt_int h ho)
      · have h := ite_t c5 h
        refine k_aload_n O dX2_takeOfCell_35 1 rfl ?_
        refine k_iload_n O dX2_takeOfCell_36 0 rfl ?_
        refine k_puti O (k := 10) tyX2 tyX2_ok nmX2 (by omega) E_10 rfl 3 (by decide) (fun _ h9 => List.mem_cons_of_mem _ (List.mem_append_right _ h9)) (List.mem_of_getElem? (i := 2) rfl) rfl rfl rfl (Nat.le_of_ble_eq_true rfl) (E_10.trans rfl) dX2_takeOfCell_37 ?_
        refine k_nw (fun w12 ew12 => ?_)
        have h := nm_use h w12 ew12
        refine k_iload_n O dX2_takeOfCell_40 0 rfl ?_
        refine k_if_ne O 60 dX2_takeOfCell_41 (by decide) (fun c13 => ?_) (fun c13 => ?_)
        · have h := ite_f c13 h
          refine k_iload_n O dX2_takeOfCell_60 0 rfl ?_
          refine k_iconst O dX2_takeOfCell_61 (v := 1) (by decide) ?_
          refine k_icmp_ne O 77 dX2_takeOfCell_62 (by decide) (fun c14 => ?_) (fun c14 => ?_)
          · have h := ite_f c14 h
            refine k_iconst O dX2_takeOfCell_77 (v := 0) (by decide) ?_
            exact k_zret O (by decide) dX2_takeOfCell_78 (rt_int h ho)
          · have h := ite_t c14 h
            refine k_iload_n O dX2_takeOfCell_65 3 rfl ?_
            refine k_sipush O dX2_takeOfCell_66 (v := 3072) (by decide) ?_
            refine k_iand O dX2_takeOfCell_69 ?_
            refine k_if_eq O 77 dX2_takeOfCell_70 (by decide) (fun c15 => ?_) (fun c15 => ?_)
            · have h := ite_t c15 h
              refine k_iconst O dX2_takeOfCell_77 (v := 0) (by decide) ?_
              exact k_zret O (by decide) dX2_takeOfCell_78 (rt_int h ho)
            · have h := ite_f c15 h
              refine k_iconst O dX2_takeOfCell_73 (v := 1) (by decide) ?_
              refine k_goto O 78 dX2_takeOfCell_74 (by decide) ?_
              exact k_zret O (by decide) dX2_takeOfCell_78 (rt_int h ho)
        · have h := ite_t c13 h
          refine k_iload_n O dX2_takeOfCell_44 3 rfl ?_
          refine k_sipush O dX2_takeOfCell_45 (v := 1023) (by decide) ?_
          refine k_iand O dX2_takeOfCell_48 ?_
          refine k_if_eq O 56 dX2_takeOfCell_49 (by decide) (fun c16 => ?_) (fun c16 => ?_)
          · have h := ite_t c16 h
            refine k_iconst O dX2_takeOfCell_56 (v := 0) (by decide) ?_
            refine k_goto O 78 dX2_takeOfCell_57 (by decide) ?_
            exact k_zret O (by decide) dX2_takeOfCell_78 (rt_int h ho)
          · have h := ite_f c16 h
            refine k_iconst O dX2_takeOfCell_52 (v := 1) (by decide) ?_
            refine k_goto O 78 dX2_takeOfCell_53 (by decide) ?_
            exact k_zret O (by decide) dX2_takeOfCell_78 (rt_int h ho)
    · have h := ite_f c3 h
      refine k_iconst O dX2_takeOfCell_15 (v := 0) (by decide) ?_
      exact k_zret O (by decide) dX2_takeOfCell_16 (rt_int h ho)
theorem c_X2_takeOfCell (l : Launch) (G : Gl) (hN : 105 ≤ g_N G) {w wz : Wd} {v1 : Int32} {v2 : Int32} {rz : Int32} (h : f_X2_takeOfCell w v1 v2 = some (rz, wz)) : Ct l yX2_takeOfCell wsX2_takeOfCell (1) (20) G [.ref (g_ad G 10), .int v1, .int v2] w (some (.int rz), wz) := by
  refine Ct.start (by decide) rfl rfl rfl (Nat.le_of_ble_eq_true rfl) (fun X hG ho hl O => ?_)
  subst hG
  subst hl
  exact k_sub [0, 1, 2] rfl (w_X2_takeOfCell_0 O hN ho h)
def b_X2_takeOfTrap_0 (w : Wd) (v1 : Int32) : Option (Int32 × Wd) := if ((2 : Int32)) ≤ (w.1 10 2) then (nm (v1 - ((48 : Int32))) (fun x2 => if (w.1 10 2) = ((2 : Int32)) then (nm (up w 10 4 x2) (fun w10 => nm (up w10 10 2 ((w10.1 10 2) + ((1 : Int32)))) (fun w11 => bd (f_X7_isSide w11 x2) (fun r14 w13 => gd (bb r14) (some (r14, w13)))))) else (if x2 < 0 then (some ((0 : Int32), w)) else (if x2 < ((5 : Int32)) then (gd (plb (w.1 10 0).toNatClampNeg) (bv (f_X1_addTrap ((w.1 10 0).toNatClampNeg) w (w.1 10 3) (w.1 10 4) x2) (fun w8 => nm (up w8 10 1 ((1 : Int32))) (fun w9 => some ((1 : Int32), w9))))) else (some ((0 : Int32), w)))))) else (gd (plb (w.1 10 0).toNatClampNeg) (gd (plb (w.1 10 0).toNatClampNeg) (bd (f_X1_allTraps ((w.1 10 0).toNatClampNeg) w) (fun r20 w19 => bd (f_X1_cellsOf ((w.1 10 0).toNatClampNeg) w19 r20) (fun r23 w22 => bd (f_X2_takeOfCell w22 v1 (((4095 : Int32)) &&& (r23 ^^^ ((-1 : Int32))))) (fun r26 w25 => gd (bb r26) (some (r26, w25))))))))
def f_X2_takeOfTrap (w : Wd) (v1 : Int32) : Option (Int32 × Wd) := b_X2_takeOfTrap_0 w v1
set_option maxHeartbeats 4000000 in
set_option maxRecDepth 100000 in
theorem w_X2_takeOfTrap_0 {X : Cx} {rz : Int32} {wz : Wd} (O : Ok X cX2_takeOfTrap RX2 ((some .boolean)) wsX2_takeOfTrap (2) (43) 3) (hN : 105 ≤ g_N X.1) (ho : Ro X (some (.int rz), wz)) {w : Wd} {v1 : Int32} (h : b_X2_takeOfTrap_0 w v1 = some (rz, wz)) : Wk X w 0 [(0, .ref (g_ad X.1 10)), (1, .int v1)] [] := by
  unfold b_X2_takeOfTrap_0 at h
  refine k_aload_n O dX2_takeOfTrap_0 0 rfl ?_
  refine k_get O (v := .int (w.1 10 2)) (k := 10) (by omega) E_10 rfl 2 (by decide) (fun _ h9 => List.mem_cons_of_mem _ (List.mem_append_left _ (List.mem_append_right _ h9))) (List.mem_of_getElem? (i := 1) rfl) rfl dX2_takeOfTrap_1 ?_
  refine k_iconst O dX2_takeOfTrap_4 (v := 2) (by decide) ?_
  refine k_icmp_ge O 34 dX2_takeOfTrap_5 (by decide) (fun c1 => ?_) (fun c1 => ?_)
  · have h := ite_t c1 h
    refine k_iload_n O dX2_takeOfTrap_34 1 rfl ?_
    refine k_bipush O dX2_takeOfTrap_35 (v := 48) (by decide) ?_
    refine k_isub O dX2_takeOfTrap_37 ?_
    refine k_topi (fun x2 ex2 => ?_)
    have h := nm_use h x2 ex2
    refine k_istore_n (lv' := [(2, .int x2), (0, .ref (g_ad X.1 10)), (1, .int v1)]) O dX2_takeOfTrap_38 rfl (by decide) rfl ?_
    refine k_aload_n O dX2_takeOfTrap_39 1 rfl ?_
    refine k_get O (v := .int (w.1 10 2)) (k := 10) (by omega) E_10 rfl 2 (by decide) (fun _ h9 => List.mem_cons_of_mem _ (List.mem_append_left _ (List.mem_append_right _ h9))) (List.mem_of_getElem? (i := 1) rfl) rfl dX2_takeOfTrap_40 ?_
    refine k_iconst O dX2_takeOfTrap_43 (v := 2) (by decide) ?_
    refine k_icmp_ne O 67 dX2_takeOfTrap_44 (by decide) (fun c3 => ?_) (fun c3 => ?_)
    · have h := ite_f c3 h
      refine k_iload_n O dX2_takeOfTrap_67 0 rfl ?_
      refine k_if_lt O 76 dX2_takeOfTrap_68 (by decide) (fun c4 => ?_) (fun c4 => ?_)
      · have h := ite_t c4 h
        refine k_iconst O dX2_takeOfTrap_76 (v := 0) (by decide) ?_
        exact k_zret O (by decide) dX2_takeOfTrap_77 (rt_int h ho)
      · have h := ite_f c4 h
        refine k_iload_n O dX2_takeOfTrap_71 0 rfl ?_
        refine k_iconst O dX2_takeOfTrap_72 (v := 5) (by decide) ?_
        refine k_icmp_lt O 78 dX2_takeOfTrap_73 (by decide) (fun c5 => ?_) (fun c5 => ?_)
        · have h := ite_t c5 h
          refine k_aload_n O dX2_takeOfTrap_78 1 rfl ?_
          obtain ⟨g6, h⟩ := gd_some h
          have qg6 := plb_lt g6
          refine k_get O (v := .ref (g_ad X.1 ((w.1 10 0).toNatClampNeg))) (k := 10) (by omega) E_10 rfl 0 (by decide) (fun _ h9 => List.mem_cons_of_mem _ (List.mem_append_left _ (List.mem_append_right _ h9))) (List.mem_of_getElem? (i := 2) rfl) rfl dX2_takeOfTrap_79 ?_
          refine k_aload_n O dX2_takeOfTrap_82 1 rfl ?_
          refine k_get O (v := .int (w.1 10 3)) (k := 10) (by omega) E_10 rfl 3 (by decide) (fun _ h9 => List.mem_cons_of_mem _ (List.mem_append_left _ (List.mem_append_right _ h9))) (List.mem_of_getElem? (i := 4) rfl) rfl dX2_takeOfTrap_83 ?_
          refine k_aload_n O dX2_takeOfTrap_86 1 rfl ?_
          refine k_get O (v := .int (w.1 10 4)) (k := 10) (by omega) E_10 rfl 4 (by decide) (fun _ h9 => List.mem_cons_of_mem _ (List.mem_append_left _ (List.mem_append_right _ h9))) (List.mem_of_getElem? (i := 3) rfl) rfl dX2_takeOfTrap_87 ?_
          refine k_iload_n O dX2_takeOfTrap_90 0 rfl ?_
          obtain ⟨w8, hc7, h⟩ := bv_some h
          refine k_callVv O (As := [.int (w.1 10 3), .int (w.1 10 4), .int x2]) (rest := []) (k := ((w.1 10 0).toNatClampNeg)) (c_X1_addTrap (x_l X) X.1 g6 (by omega) hc7) gX2_takeOfTrap_X1_addTrap rfl hd_X1_addTrap (by decide) (by omega) (E_pl g6) rfl rfl rfl rfl rfl (Nat.le_of_ble_eq_true rfl) dX2_takeOfTrap_91 ?_
          refine k_aload_n O dX2_takeOfTrap_94 1 rfl ?_
          refine k_iconst O dX2_takeOfTrap_95 (v := 1) (by decide) ?_
          refine k_puti O (k := 10) tyX2 tyX2_ok nmX2 (by omega) E_10 rfl 1 (by decide) (fun _ h9 => List.mem_cons_of_mem _ (List.mem_append_left _ (List.mem_append_right _ h9))) (List.mem_of_getElem? (i := 5) rfl) rfl rfl rfl (Nat.le_of_ble_eq_true rfl) (E_10.trans rfl) dX2_takeOfTrap_96 ?_
          refine k_nw (fun w9 ew9 => ?_)
          have h := nm_use h w9 ew9
          refine k_iconst O dX2_takeOfTrap_99 (v := 1) (by decide) ?_
          exact k_zret O (by decide) dX2_takeOfTrap_100 (rt_int h ho)
        · have h := ite_f c5 h
          refine k_iconst O dX2_takeOfTrap_76 (v := 0) (by decide) ?_
          exact k_zret O (by decide) dX2_takeOfTrap_77 (rt_int h ho)
    · have h := ite_t c3 h
      refine k_aload_n O dX2_takeOfTrap_47 1 rfl ?_
      refine k_iload_n O dX2_takeOfTrap_48 0 rfl ?_
      refine k_puti O (k := 10) tyX2 tyX2_ok nmX2 (by omega) E_10 rfl 4 (by decide) (fun _ h9 => List.mem_cons_of_mem _ (List.mem_append_left _ (List.mem_append_right _ h9))) (List.mem_of_getElem? (i := 3) rfl) rfl rfl rfl (Nat.le_of_ble_eq_true rfl) (E_10.trans rfl) dX2_takeOfTrap_49 ?_
      refine k_nw (fun w10 ew10 => ?_)
      have h := nm_use h w10 ew10
      refine k_aload_n O dX2_takeOfTrap_52 1 rfl ?_
      refine k_dup O dX2_takeOfTrap_53 rfl ?_
      refine k_get O (v := .int (w10.1 10 2)) (k := 10) (by omega) E_10 rfl 2 (by decide) (fun _ h9 => List.mem_cons_of_mem _ (List.mem_append_left _ (List.mem_append_right _ h9))) (List.mem_of_getElem? (i := 1) rfl) rfl dX2_takeOfTrap_54 ?_
      refine k_iconst O dX2_takeOfTrap_57 (v := 1) (by decide) ?_
      refine k_iadd O dX2_takeOfTrap_58 ?_
      refine k_puti O (k := 10) tyX2 tyX2_ok nmX2 (by omega) E_10 rfl 2 (by decide) (fun _ h9 => List.mem_cons_of_mem _ (List.mem_append_left _ (List.mem_append_right _ h9))) (List.mem_of_getElem? (i := 1) rfl) rfl rfl rfl (Nat.le_of_ble_eq_true rfl) (E_10.trans rfl) dX2_takeOfTrap_59 ?_
      refine k_nw (fun w11 ew11 => ?_)
      have h := nm_use h w11 ew11
      refine k_iload_n O dX2_takeOfTrap_62 0 rfl ?_
      obtain ⟨r14, w13, hc12, h⟩ := bd_some h
      refine k_callNi O (As := [.int x2]) (rest := []) (c_X7_isSide (x_l X) X.1 hc12) gX2_takeOfTrap_X7_isSide_n89 rfl hd_X7_isSide (by decide) (List.mem_of_getElem? (i := 3) rfl) (List.mem_of_getElem? (i := 23) rfl) (List.mem_of_getElem? (i := 25) rfl) rfl rfl (Nat.le_of_ble_eq_true rfl) dX2_takeOfTrap_63 ?_
      obtain ⟨g15, h⟩ := gd_some h
      exact k_zret O (bb_nar g15) dX2_takeOfTrap_66 (rt_int h ho)
  · have h := ite_f c1 h
    refine k_aload_n O dX2_takeOfTrap_8 0 rfl ?_
    refine k_iload_n O dX2_takeOfTrap_9 1 rfl ?_
    refine k_sipush O dX2_takeOfTrap_10 (v := 4095) (by decide) ?_
    refine k_aload_n O dX2_takeOfTrap_13 0 rfl ?_
    obtain ⟨g16, h⟩ := gd_some h
    have qg16 := plb_lt g16
    refine k_get O (v := .ref (g_ad X.1 ((w.1 10 0).toNatClampNeg))) (k := 10) (by omega) E_10 rfl 0 (by decide) (fun _ h9 => List.mem_cons_of_mem _ (List.mem_append_left _ (List.mem_append_right _ h9))) (List.mem_of_getElem? (i := 2) rfl) rfl dX2_takeOfTrap_14 ?_
    refine k_aload_n O dX2_takeOfTrap_17 0 rfl ?_
    obtain ⟨g17, h⟩ := gd_some h
    have qg17 := plb_lt g17
    refine k_get O (v := .ref (g_ad X.1 ((w.1 10 0).toNatClampNeg))) (k := 10) (by omega) E_10 rfl 0 (by decide) (fun _ h9 => List.mem_cons_of_mem _ (List.mem_append_left _ (List.mem_append_right _ h9))) (List.mem_of_getElem? (i := 2) rfl) rfl dX2_takeOfTrap_18 ?_
    obtain ⟨r20, w19, hc18, h⟩ := bd_some h
    refine k_callVi O (As := []) (rest := [.ref (g_ad X.1 ((w.1 10 0).toNatClampNeg)), .int ((4095 : Int32)), .int v1, .ref (g_ad X.1 10)]) (k := ((w.1 10 0).toNatClampNeg)) (c_X1_allTraps (x_l X) X.1 g17 (by omega) hc18) gX2_takeOfTrap_X1_allTraps rfl hd_X1_allTraps (by decide) (by omega) (E_pl g17) rfl rfl rfl rfl rfl (Nat.le_of_ble_eq_true rfl) dX2_takeOfTrap_21 ?_
    obtain ⟨r23, w22, hc21, h⟩ := bd_some h
    refine k_callVi O (As := [.int r20]) (rest := [.int ((4095 : Int32)), .int v1, .ref (g_ad X.1 10)]) (k := ((w.1 10 0).toNatClampNeg)) (c_X1_cellsOf (x_l X) X.1 g16 (by omega) hc21) gX2_takeOfTrap_X1_cellsOf rfl hd_X1_cellsOf (by decide) (by omega) (E_pl g16) rfl rfl rfl rfl rfl (Nat.le_of_ble_eq_true rfl) dX2_takeOfTrap_24 ?_
    refine k_iconst O dX2_takeOfTrap_27 (v := -1) (by decide) ?_
    refine k_ixor O dX2_takeOfTrap_28 ?_
    refine k_iand O dX2_takeOfTrap_29 ?_
    obtain ⟨r26, w25, hc24, h⟩ := bd_some h
    refine k_callVi O (As := [.int v1, .int (((4095 : Int32)) &&& (r23 ^^^ ((-1 : Int32))))]) (rest := []) (k := 10) (c_X2_takeOfCell (x_l X) X.1 hN hc24) gX2_takeOfTrap_X2_takeOfCell rfl hd_X2_takeOfCell (by decide) (by omega) E_10 rfl rfl rfl rfl rfl (Nat.le_of_ble_eq_true rfl) dX2_takeOfTrap_30 ?_
    obtain ⟨g27, h⟩ := gd_some h
    exact k_zret O (bb_nar g27) dX2_takeOfTrap_33 (rt_int h ho)
theorem c_X2_takeOfTrap (l : Launch) (G : Gl) (hN : 105 ≤ g_N G) {w wz : Wd} {v1 : Int32} {rz : Int32} (h : f_X2_takeOfTrap w v1 = some (rz, wz)) : Ct l yX2_takeOfTrap wsX2_takeOfTrap (2) (43) G [.ref (g_ad G 10), .int v1] w (some (.int rz), wz) := by
  refine Ct.start (by decide) rfl rfl rfl (Nat.le_of_ble_eq_true rfl) (fun X hG ho hl O => ?_)
  subst hG
  subst hl
  exact k_sub [0, 1] rfl (w_X2_takeOfTrap_0 O hN ho h)
def b_X2_wiresLeft_0 (w : Wd) (v1 : Int32) : Option (Int32 × Wd) := gd (plb (w.1 10 0).toNatClampNeg) (bd (f_X1_hasTrap ((w.1 10 0).toNatClampNeg) w v1) (fun r4 w3 => if r4 = 0 then (some ((0 : Int32), w3)) else (gd (plb (w3.1 10 0).toNatClampNeg) (bd (f_X1_allTraps ((w3.1 10 0).toNatClampNeg) w3) (fun r9 w8 => gd (plb (w8.1 10 0).toNatClampNeg) (gd (inb v1 6) (some ((r9 &&& ((w8.1 ((w8.1 10 0).toNatClampNeg + 4) v1.toNatClampNeg) ^^^ ((-1 : Int32)))) &&& ((((1 : Int32)) <<< (v1 &&& 31)) ^^^ ((-1 : Int32))), w8))))))))
def f_X2_wiresLeft (w : Wd) (v1 : Int32) : Option (Int32 × Wd) := b_X2_wiresLeft_0 w v1
set_option maxHeartbeats 4000000 in
set_option maxRecDepth 100000 in
theorem w_X2_wiresLeft_0 {X : Cx} {rz : Int32} {wz : Wd} (O : Ok X cX2_wiresLeft RX2 ((some .int)) wsX2_wiresLeft (1) (21) 2) (hN : 105 ≤ g_N X.1) (ho : Ro X (some (.int rz), wz)) {w : Wd} {v1 : Int32} (h : b_X2_wiresLeft_0 w v1 = some (rz, wz)) : Wk X w 0 [(0, .ref (g_ad X.1 10)), (1, .int v1)] [] := by
  unfold b_X2_wiresLeft_0 at h
  refine k_aload_n O dX2_wiresLeft_0 0 rfl ?_
  obtain ⟨g1, h⟩ := gd_some h
  have qg1 := plb_lt g1
  refine k_get O (v := .ref (g_ad X.1 ((w.1 10 0).toNatClampNeg))) (k := 10) (by omega) E_10 rfl 0 (by decide) (fun _ h9 => List.mem_cons_of_mem _ (List.mem_append_left _ (List.mem_append_right _ h9))) (List.mem_of_getElem? (i := 1) rfl) rfl dX2_wiresLeft_1 ?_
  refine k_iload_n O dX2_wiresLeft_4 1 rfl ?_
  obtain ⟨r4, w3, hc2, h⟩ := bd_some h
  refine k_callVi O (As := [.int v1]) (rest := []) (k := ((w.1 10 0).toNatClampNeg)) (c_X1_hasTrap (x_l X) X.1 g1 (by omega) hc2) gX2_wiresLeft_X1_hasTrap rfl hd_X1_hasTrap (by decide) (by omega) (E_pl g1) rfl rfl rfl rfl rfl (Nat.le_of_ble_eq_true rfl) dX2_wiresLeft_5 ?_
  refine k_if_eq O 39 dX2_wiresLeft_8 (by decide) (fun c5 => ?_) (fun c5 => ?_)
  · have h := ite_t c5 h
    refine k_iconst O dX2_wiresLeft_39 (v := 0) (by decide) ?_
    exact k_iret O dX2_wiresLeft_40 (rt_int h ho)
  · have h := ite_f c5 h
    refine k_aload_n O dX2_wiresLeft_11 0 rfl ?_
    obtain ⟨g6, h⟩ := gd_some h
    have qg6 := plb_lt g6
    refine k_get O (v := .ref (g_ad X.1 ((w3.1 10 0).toNatClampNeg))) (k := 10) (by omega) E_10 rfl 0 (by decide) (fun _ h9 => List.mem_cons_of_mem _ (List.mem_append_left _ (List.mem_append_right _ h9))) (List.mem_of_getElem? (i := 1) rfl) rfl dX2_wiresLeft_12 ?_
    obtain ⟨r9, w8, hc7, h⟩ := bd_some h
    refine k_callVi O (As := []) (rest := []) (k := ((w3.1 10 0).toNatClampNeg)) (c_X1_allTraps (x_l X) X.1 g6 (by omega) hc7) gX2_wiresLeft_X1_allTraps rfl hd_X1_allTraps (by decide) (by omega) (E_pl g6) rfl rfl rfl rfl rfl (Nat.le_of_ble_eq_true rfl) dX2_wiresLeft_15 ?_
    refine k_aload_n O dX2_wiresLeft_18 0 rfl ?_
    obtain ⟨g10, h⟩ := gd_some h
    have qg10 := plb_lt g10
    refine k_get O (v := .ref (g_ad X.1 ((w8.1 10 0).toNatClampNeg))) (k := 10) (by omega) E_10 rfl 0 (by decide) (fun _ h9 => List.mem_cons_of_mem _ (List.mem_append_left _ (List.mem_append_right _ h9))) (List.mem_of_getElem? (i := 1) rfl) rfl dX2_wiresLeft_19 ?_
    refine k_get O (v := .ref (g_ad X.1 ((w8.1 10 0).toNatClampNeg + 4))) (k := ((w8.1 10 0).toNatClampNeg)) (by omega) (E_pl g10) rfl 9 (by decide) (fun _ h9 => List.mem_cons_of_mem _ (List.mem_append_right _ h9)) (List.mem_of_getElem? (i := 2) rfl) rfl dX2_wiresLeft_22 ?_
    refine k_iload_n O dX2_wiresLeft_25 1 rfl ?_
    obtain ⟨g11, h⟩ := gd_some h
    refine k_iald O (k := ((w8.1 10 0).toNatClampNeg + 4)) (by omega) (E_pl4 g10) g11 dX2_wiresLeft_26 ?_
    refine k_iconst O dX2_wiresLeft_27 (v := -1) (by decide) ?_
    refine k_ixor O dX2_wiresLeft_28 ?_
    refine k_iand O dX2_wiresLeft_29 ?_
    refine k_iconst O dX2_wiresLeft_30 (v := 1) (by decide) ?_
    refine k_iload_n O dX2_wiresLeft_31 1 rfl ?_
    refine k_ishl O dX2_wiresLeft_32 ?_
    refine k_iconst O dX2_wiresLeft_33 (v := -1) (by decide) ?_
    refine k_ixor O dX2_wiresLeft_34 ?_
    refine k_iand O dX2_wiresLeft_35 ?_
    refine k_goto O 40 dX2_wiresLeft_36 (by decide) ?_
    exact k_iret O dX2_wiresLeft_40 (rt_int h ho)
theorem c_X2_wiresLeft (l : Launch) (G : Gl) (hN : 105 ≤ g_N G) {w wz : Wd} {v1 : Int32} {rz : Int32} (h : f_X2_wiresLeft w v1 = some (rz, wz)) : Ct l yX2_wiresLeft wsX2_wiresLeft (1) (21) G [.ref (g_ad G 10), .int v1] w (some (.int rz), wz) := by
  refine Ct.start (by decide) rfl rfl rfl (Nat.le_of_ble_eq_true rfl) (fun X hG ho hl O => ?_)
  subst hG
  subst hl
  exact k_sub [0, 1] rfl (w_X2_wiresLeft_0 O hN ho h)
def b_X2_takeOfWire_0 (w : Wd) (v1 : Int32) : Option (Int32 × Wd) := nm (v1 - ((48 : Int32))) (fun x1 => if (w.1 10 2) = 0 then (nm (up w 10 3 x1) (fun w22 => nm (up w22 10 2 ((w22.1 10 2) + ((1 : Int32)))) (fun w23 => bd (f_X2_wiresLeft w23 x1) (fun r26 w25 => if r26 = 0 then (some ((0 : Int32), w25)) else (some ((1 : Int32), w25)))))) else (gd (plb (w.1 10 0).toNatClampNeg) (bd (f_X1_hasTrap ((w.1 10 0).toNatClampNeg) w (w.1 10 3)) (fun r6 w5 => if r6 = 0 then (some ((0 : Int32), w5)) else (gd (plb (w5.1 10 0).toNatClampNeg) (bd (f_X1_hasTrap ((w5.1 10 0).toNatClampNeg) w5 x1) (fun r11 w10 => if r11 = 0 then (some ((0 : Int32), w10)) else (bd (f_X2_wiresLeft w10 (w10.1 10 3)) (fun r15 w14 => if ((r15 >>> (x1 &&& 31)) &&& ((1 : Int32))) = 0 then (some ((0 : Int32), w14)) else (gd (plb (w14.1 10 0).toNatClampNeg) (gd (inb (w14.1 10 3) 6) (gd (inb (w14.1 10 3) 6) (nm (up w14 ((w14.1 10 0).toNatClampNeg + 4) (w14.1 10 3).toNatClampNeg ((w14.1 ((w14.1 10 0).toNatClampNeg + 4) (w14.1 10 3).toNatClampNeg) ||| (((1 : Int32)) <<< (x1 &&& 31)))) (fun w20 => nm (up w20 10 1 ((1 : Int32))) (fun w21 => some ((1 : Int32), w21))))))))))))))))
def f_X2_takeOfWire (w : Wd) (v1 : Int32) : Option (Int32 × Wd) := b_X2_takeOfWire_0 w v1
set_option maxHeartbeats 4000000 in
set_option maxRecDepth 100000 in
theorem w_X2_takeOfWire_0 {X : Cx} {rz : Int32} {wz : Wd} (O : Ok X cX2_takeOfWire RX2 ((some .boolean)) wsX2_takeOfWire (2) (42) 3) (hN : 105 ≤ g_N X.1) (ho : Ro X (some (.int rz), wz)) {w : Wd} {v1 : Int32} (h : b_X2_takeOfWire_0 w v1 = some (rz, wz)) : Wk X w 0 [(0, .ref (g_ad X.1 10)), (1, .int v1)] [] := by
  unfold b_X2_takeOfWire_0 at h
  refine k_iload_n O dX2_takeOfWire_0 1 rfl ?_
  refine k_bipush O dX2_takeOfWire_1 (v := 48) (by decide) ?_
  refine k_isub O dX2_takeOfWire_3 ?_
  refine k_topi (fun x1 ex1 => ?_)
  have h := nm_use h x1 ex1
  refine k_istore_n (lv' := [(2, .int x1), (0, .ref (g_ad X.1 10)), (1, .int v1)]) O dX2_takeOfWire_4 rfl (by decide) rfl ?_
  refine k_aload_n O dX2_takeOfWire_5 1 rfl ?_
  refine k_get O (v := .int (w.1 10 2)) (k := 10) (by omega) E_10 rfl 2 (by decide) (fun _ h9 => List.mem_cons_of_mem _ (List.mem_append_left _ (List.mem_append_right _ h9))) (List.mem_of_getElem? (i := 1) rfl) rfl dX2_takeOfWire_6 ?_
  refine k_if_ne O 41 dX2_takeOfWire_9 (by decide) (fun c2 => ?_) (fun c2 => ?_)
  · have h := ite_f c2 h
    refine k_aload_n O dX2_takeOfWire_41 1 rfl ?_
    obtain ⟨g3, h⟩ := gd_some h
    have qg3 := plb_lt g3
    refine k_get O (v := .ref (g_ad X.1 ((w.1 10 0).toNatClampNeg))) (k := 10) (by omega) E_10 rfl 0 (by decide) (fun _ h9 => List.mem_cons_of_mem _ (List.mem_append_left _ (List.mem_append_right _ h9))) (List.mem_of_getElem? (i := 3) rfl) rfl dX2_takeOfWire_42 ?_
    refine k_aload_n O dX2_takeOfWire_45 1 rfl ?_
    refine k_get O (v := .int (w.1 10 3)) (k := 10) (by omega) E_10 rfl 3 (by decide) (fun _ h9 => List.mem_cons_of_mem _ (List.mem_append_left _ (List.mem_append_right _ h9))) (List.mem_of_getElem? (i := 2) rfl) rfl dX2_takeOfWire_46 ?_
    obtain ⟨r6, w5, hc4, h⟩ := bd_some h
    refine k_callVi O (As := [.int (w.1 10 3)]) (rest := []) (k := ((w.1 10 0).toNatClampNeg)) (c_X1_hasTrap (x_l X) X.1 g3 (by omega) hc4) gX2_takeOfWire_X1_hasTrap rfl hd_X1_hasTrap (by decide) (by omega) (E_pl g3) rfl rfl rfl rfl rfl (Nat.le_of_ble_eq_true rfl) dX2_takeOfWire_49 ?_
    refine k_if_eq O 81 dX2_takeOfWire_52 (by decide) (fun c7 => ?_) (fun c7 => ?_)
    · have h := ite_t c7 h
      refine k_iconst O dX2_takeOfWire_81 (v := 0) (by decide) ?_
      exact k_zret O (by decide) dX2_takeOfWire_82 (rt_int h ho)
    · have h := ite_f c7 h
      refine k_aload_n O dX2_takeOfWire_55 1 rfl ?_
      obtain ⟨g8, h⟩ := gd_some h
      have qg8 := plb_lt g8
      refine k_get O (v := .ref (g_ad X.1 ((w5.1 10 0).toNatClampNeg))) (k := 10) (by omega) E_10 rfl 0 (by decide) (fun _ h9 => List.mem_cons_of_mem _ (List.mem_append_left _ (List.mem_append_right _ h9))) (List.mem_of_getElem? (i := 3) rfl) rfl dX2_takeOfWire_56 ?_
      refine k_iload_n O dX2_takeOfWire_59 0 rfl ?_
      obtain ⟨r11, w10, hc9, h⟩ := bd_some h
      refine k_callVi O (As := [.int x1]) (rest := []) (k := ((w5.1 10 0).toNatClampNeg)) (c_X1_hasTrap (x_l X) X.1 g8 (by omega) hc9) gX2_takeOfWire_X1_hasTrap rfl hd_X1_hasTrap (by decide) (by omega) (E_pl g8) rfl rfl rfl rfl rfl (Nat.le_of_ble_eq_true rfl) dX2_takeOfWire_60 ?_
      refine k_if_eq O 81 dX2_takeOfWire_63 (by decide) (fun c12 => ?_) (fun c12 => ?_)
      · have h := ite_t c12 h
        refine k_iconst O dX2_takeOfWire_81 (v := 0) (by decide) ?_
        exact k_zret O (by decide) dX2_takeOfWire_82 (rt_int h ho)
      · have h := ite_f c12 h
        refine k_aload_n O dX2_takeOfWire_66 1 rfl ?_
        refine k_aload_n O dX2_takeOfWire_67 1 rfl ?_
        refine k_get O (v := .int (w10.1 10 3)) (k := 10) (by omega) E_10 rfl 3 (by decide) (fun _ h9 => List.mem_cons_of_mem _ (List.mem_append_left _ (List.mem_append_right _ h9))) (List.mem_of_getElem? (i := 2) rfl) rfl dX2_takeOfWire_68 ?_
        obtain ⟨r15, w14, hc13, h⟩ := bd_some h
        refine k_callVi O (As := [.int (w10.1 10 3)]) (rest := []) (k := 10) (c_X2_wiresLeft (x_l X) X.1 hN hc13) gX2_takeOfWire_X2_wiresLeft rfl hd_X2_wiresLeft (by decide) (by omega) E_10 rfl rfl rfl rfl rfl (Nat.le_of_ble_eq_true rfl) dX2_takeOfWire_71 ?_
        refine k_iload_n O dX2_takeOfWire_74 0 rfl ?_
        refine k_ishr O dX2_takeOfWire_75 ?_
        refine k_iconst O dX2_takeOfWire_76 (v := 1) (by decide) ?_
        refine k_iand O dX2_takeOfWire_77 ?_
        refine k_if_ne O 83 dX2_takeOfWire_78 (by decide) (fun c16 => ?_) (fun c16 => ?_)
        · have h := ite_f c16 h
          refine k_aload_n O dX2_takeOfWire_83 1 rfl ?_
          obtain ⟨g17, h⟩ := gd_some h
          have qg17 := plb_lt g17
          refine k_get O (v := .ref (g_ad X.1 ((w14.1 10 0).toNatClampNeg))) (k := 10) (by omega) E_10 rfl 0 (by decide) (fun _ h9 => List.mem_cons_of_mem _ (List.mem_append_left _ (List.mem_append_right _ h9))) (List.mem_of_getElem? (i := 3) rfl) rfl dX2_takeOfWire_84 ?_
          refine k_get O (v := .ref (g_ad X.1 ((w14.1 10 0).toNatClampNeg + 4))) (k := ((w14.1 10 0).toNatClampNeg)) (by omega) (E_pl g17) rfl 9 (by decide) (fun _ h9 => List.mem_cons_of_mem _ (List.mem_append_right _ h9)) (List.mem_of_getElem? (i := 4) rfl) rfl dX2_takeOfWire_87 ?_
          refine k_aload_n O dX2_takeOfWire_90 1 rfl ?_
          refine k_get O (v := .int (w14.1 10 3)) (k := 10) (by omega) E_10 rfl 3 (by decide) (fun _ h9 => List.mem_cons_of_mem _ (List.mem_append_left _ (List.mem_append_right _ h9))) (List.mem_of_getElem? (i := 2) rfl) rfl dX2_takeOfWire_91 ?_
          refine k_dup2 O dX2_takeOfWire_94 rfl rfl ?_
          obtain ⟨g18, h⟩ := gd_some h
          refine k_iald O (k := ((w14.1 10 0).toNatClampNeg + 4)) (by omega) (E_pl4 g17) g18 dX2_takeOfWire_95 ?_
          refine k_iconst O dX2_takeOfWire_96 (v := 1) (by decide) ?_
          refine k_iload_n O dX2_takeOfWire_97 0 rfl ?_
          refine k_ishl O dX2_takeOfWire_98 ?_
          refine k_ior O dX2_takeOfWire_99 ?_
          obtain ⟨g19, h⟩ := gd_some h
          refine k_iast O (k := ((w14.1 10 0).toNatClampNeg + 4)) (by omega) (E_pl4 g17) (fun _ => (E_pl4 g17)) g19 dX2_takeOfWire_100 ?_
          refine k_nw (fun w20 ew20 => ?_)
          have h := nm_use h w20 ew20
          refine k_aload_n O dX2_takeOfWire_101 1 rfl ?_
          refine k_iconst O dX2_takeOfWire_102 (v := 1) (by decide) ?_
          refine k_puti O (k := 10) tyX2 tyX2_ok nmX2 (by omega) E_10 rfl 1 (by decide) (fun _ h9 => List.mem_cons_of_mem _ (List.mem_append_left _ (List.mem_append_right _ h9))) (List.mem_of_getElem? (i := 5) rfl) rfl rfl rfl (Nat.le_of_ble_eq_true rfl) (E_10.trans rfl) dX2_takeOfWire_103 ?_
          refine k_nw (fun w21 ew21 => ?_)
          have h := nm_use h w21 ew21
          refine k_iconst O dX2_takeOfWire_106 (v := 1) (by decide) ?_
          exact k_zret O (by decide) dX2_takeOfWire_107 (rt_int h ho)
        · have h := ite_t c16 h
          refine k_iconst O dX2_takeOfWire_81 (v := 0) (by decide) ?_
          exact k_zret O (by decide) dX2_takeOfWire_82 (rt_int h ho)
  · have h := ite_t c2 h
    refine k_aload_n O dX2_takeOfWire_12 1 rfl ?_
    refine k_iload_n O dX2_takeOfWire_13 0 rfl ?_
    refine k_puti O (k := 10) tyX2 tyX2_ok nmX2 (by omega) E_10 rfl 3 (by decide) (fun _ h9 => List.mem_cons_of_mem _ (List.mem_append_left _ (List.mem_append_right _ h9))) (List.mem_of_getElem? (i := 2) rfl) rfl rfl rfl (Nat.le_of_ble_eq_true rfl) (E_10.trans rfl) dX2_takeOfWire_14 ?_
    refine k_nw (fun w22 ew22 => ?_)
    have h := nm_use h w22 ew22
    refine k_aload_n O dX2_takeOfWire_17 1 rfl ?_
    refine k_dup O dX2_takeOfWire_18 rfl ?_
    refine k_get O (v := .int (w22.1 10 2)) (k := 10) (by omega) E_10 rfl 2 (by decide) (fun _ h9 => List.mem_cons_of_mem _ (List.mem_append_left _ (List.mem_append_right _ h9))) (List.mem_of_getElem? (i := 1) rfl) rfl dX2_takeOfWire_19 ?_
    refine k_iconst O dX2_takeOfWire_22 (v := 1) (by decide) ?_
    refine k_iadd O dX2_takeOfWire_23 ?_
    refine k_puti O (k := 10) tyX2 tyX2_ok nmX2 (by omega) E_10 rfl 2 (by decide) (fun _ h9 => List.mem_cons_of_mem _ (List.mem_append_left _ (List.mem_append_right _ h9))) (List.mem_of_getElem? (i := 1) rfl) rfl rfl rfl (Nat.le_of_ble_eq_true rfl) (E_10.trans rfl) dX2_takeOfWire_24 ?_
    refine k_nw (fun w23 ew23 => ?_)
    have h := nm_use h w23 ew23
    refine k_aload_n O dX2_takeOfWire_27 1 rfl ?_
    refine k_iload_n O dX2_takeOfWire_28 0 rfl ?_
    obtain ⟨r26, w25, hc24, h⟩ := bd_some h
    refine k_callVi O (As := [.int x1]) (rest := []) (k := 10) (c_X2_wiresLeft (x_l X) X.1 hN hc24) gX2_takeOfWire_X2_wiresLeft rfl hd_X2_wiresLeft (by decide) (by omega) E_10 rfl rfl rfl rfl rfl (Nat.le_of_ble_eq_true rfl) dX2_takeOfWire_29 ?_
    refine k_if_eq O 39 dX2_takeOfWire_32 (by decide) (fun c27 => ?_) (fun c27 => ?_)
    · have h := ite_t c27 h
      refine k_iconst O dX2_takeOfWire_39 (v := 0) (by decide) ?_
      exact k_zret O (by decide) dX2_takeOfWire_40 (rt_int h ho)
    · have h := ite_f c27 h
      refine k_iconst O dX2_takeOfWire_35 (v := 1) (by decide) ?_
      refine k_goto O 40 dX2_takeOfWire_36 (by decide) ?_
      exact k_zret O (by decide) dX2_takeOfWire_40 (rt_int h ho)
theorem c_X2_takeOfWire (l : Launch) (G : Gl) (hN : 105 ≤ g_N G) {w wz : Wd} {v1 : Int32} {rz : Int32} (h : f_X2_takeOfWire w v1 = some (rz, wz)) : Ct l yX2_takeOfWire wsX2_takeOfWire (2) (42) G [.ref (g_ad G 10), .int v1] w (some (.int rz), wz) := by
  refine Ct.start (by decide) rfl rfl rfl (Nat.le_of_ble_eq_true rfl) (fun X hG ho hl O => ?_)
  subst hG
  subst hl
  exact k_sub [0, 1] rfl (w_X2_takeOfWire_0 O hN ho h)
def b_X2_cellsToClose_0 (w : Wd) : Option (Int32 × Wd) := gd (plb (w.1 10 0).toNatClampNeg) (gd (plb (w.1 10 0).toNatClampNeg) (bd (f_X1_startCells ((w.1 10 0).toNatClampNeg) w) (fun r5 w4 => some ((((4095 : Int32)) &&& ((w.1 ((w.1 10 0).toNatClampNeg) 2) ^^^ ((-1 : Int32)))) &&& (r5 ^^^ ((-1 : Int32))), w4))))
def f_X2_cellsToClose (w : Wd) : Option (Int32 × Wd) := b_X2_cellsToClose_0 w 
set_option maxHeartbeats 4000000 in
set_option maxRecDepth 100000 in
theorem w_X2_cellsToClose_0 {X : Cx} {rz : Int32} {wz : Wd} (O : Ok X cX2_cellsToClose RX2 ((some .int)) wsX2_cellsToClose (1) (22) 1) (hN : 105 ≤ g_N X.1) (ho : Ro X (some (.int rz), wz)) {w : Wd} (h : b_X2_cellsToClose_0 w  = some (rz, wz)) : Wk X w 0 [(0, .ref (g_ad X.1 10))] [] := by
  unfold b_X2_cellsToClose_0 at h
  refine k_sipush O dX2_cellsToClose_0 (v := 4095) (by decide) ?_
  refine k_aload_n O dX2_cellsToClose_3 0 rfl ?_
  obtain ⟨g1, h⟩ := gd_some h
  have qg1 := plb_lt g1
  refine k_get O (v := .ref (g_ad X.1 ((w.1 10 0).toNatClampNeg))) (k := 10) (by omega) E_10 rfl 0 (by decide) (fun _ h9 => List.mem_cons_of_mem _ (List.mem_append_left _ (List.mem_append_right _ h9))) (List.mem_of_getElem? (i := 1) rfl) rfl dX2_cellsToClose_4 ?_
  refine k_get O (v := .int (w.1 ((w.1 10 0).toNatClampNeg) 2)) (k := ((w.1 10 0).toNatClampNeg)) (by omega) (E_pl g1) rfl 2 (by decide) (fun _ h9 => List.mem_cons_of_mem _ (List.mem_append_right _ h9)) (List.mem_of_getElem? (i := 2) rfl) rfl dX2_cellsToClose_7 ?_
  refine k_iconst O dX2_cellsToClose_10 (v := -1) (by decide) ?_
  refine k_ixor O dX2_cellsToClose_11 ?_
  refine k_iand O dX2_cellsToClose_12 ?_
  refine k_aload_n O dX2_cellsToClose_13 0 rfl ?_
  obtain ⟨g2, h⟩ := gd_some h
  have qg2 := plb_lt g2
  refine k_get O (v := .ref (g_ad X.1 ((w.1 10 0).toNatClampNeg))) (k := 10) (by omega) E_10 rfl 0 (by decide) (fun _ h9 => List.mem_cons_of_mem _ (List.mem_append_left _ (List.mem_append_right _ h9))) (List.mem_of_getElem? (i := 1) rfl) rfl dX2_cellsToClose_14 ?_
  obtain ⟨r5, w4, hc3, h⟩ := bd_some h
  refine k_callVi O (As := []) (rest := [.int (((4095 : Int32)) &&& ((w.1 ((w.1 10 0).toNatClampNeg) 2) ^^^ ((-1 : Int32))))]) (k := ((w.1 10 0).toNatClampNeg)) (c_X1_startCells (x_l X) X.1 g2 (by omega) hc3) gX2_cellsToClose_X1_startCells rfl hd_X1_startCells (by decide) (by omega) (E_pl g2) rfl rfl rfl rfl rfl (Nat.le_of_ble_eq_true rfl) dX2_cellsToClose_17 ?_
  refine k_iconst O dX2_cellsToClose_20 (v := -1) (by decide) ?_
  refine k_ixor O dX2_cellsToClose_21 ?_
  refine k_iand O dX2_cellsToClose_22 ?_
  exact k_iret O dX2_cellsToClose_23 (rt_int h ho)
theorem c_X2_cellsToClose (l : Launch) (G : Gl) (hN : 105 ≤ g_N G) {w wz : Wd} {rz : Int32} (h : f_X2_cellsToClose w  = some (rz, wz)) : Ct l yX2_cellsToClose wsX2_cellsToClose (1) (22) G [.ref (g_ad G 10)] w (some (.int rz), wz) := by
  refine Ct.start (by decide) rfl rfl rfl (Nat.le_of_ble_eq_true rfl) (fun X hG ho hl O => ?_)
  subst hG
  subst hl
  exact k_sub [0] rfl (w_X2_cellsToClose_0 O hN ho h)
def b_X2_takeOfClosed_0 (w : Wd) (v1 : Int32) : Option (Int32 × Wd) := bd (f_X2_cellsToClose w) (fun r3 w2 => bd (f_X2_takeOfCell w2 v1 r3) (fun r6 w5 => if r6 = 0 then (some ((0 : Int32), w5)) else (if (w5.1 10 2) = ((2 : Int32)) then (gd (plb (w5.1 10 0).toNatClampNeg) (nm (up w5 ((w5.1 10 0).toNatClampNeg) 2 ((w5.1 ((w5.1 10 0).toNatClampNeg) 2) ||| (((1 : Int32)) <<< ((w5.1 10 3) &&& 31)))) (fun w10 => nm (up w10 10 1 ((1 : Int32))) (fun w11 => some ((1 : Int32), w11))))) else (some ((1 : Int32), w5)))))
def f_X2_takeOfClosed (w : Wd) (v1 : Int32) : Option (Int32 × Wd) := b_X2_takeOfClosed_0 w v1
set_option maxHeartbeats 4000000 in
set_option maxRecDepth 100000 in
theorem w_X2_takeOfClosed_0 {X : Cx} {rz : Int32} {wz : Wd} (O : Ok X cX2_takeOfClosed RX2 ((some .boolean)) wsX2_takeOfClosed (2) (43) 2) (hN : 105 ≤ g_N X.1) (ho : Ro X (some (.int rz), wz)) {w : Wd} {v1 : Int32} (h : b_X2_takeOfClosed_0 w v1 = some (rz, wz)) : Wk X w 0 [(0, .ref (g_ad X.1 10)), (1, .int v1)] [] := by
  unfold b_X2_takeOfClosed_0 at h
  refine k_aload_n O dX2_takeOfClosed_0 0 rfl ?_
  refine k_iload_n O dX2_takeOfClosed_1 1 rfl ?_
  refine k_aload_n O dX2_takeOfClosed_2 0 rfl ?_
  obtain ⟨r3, w2, hc1, h⟩ := bd_some h
  refine k_callVi O (As := []) (rest := [.int v1, .ref (g_ad X.1 10)]) (k := 10) (c_X2_cellsToClose (x_l X) X.1 hN hc1) gX2_takeOfClosed_X2_cellsToClose rfl hd_X2_cellsToClose (by decide) (by omega) E_10 rfl rfl rfl rfl rfl (Nat.le_of_ble_eq_true rfl) dX2_takeOfClosed_3 ?_
  obtain ⟨r6, w5, hc4, h⟩ := bd_some h
  refine k_callVi O (As := [.int v1, .int r3]) (rest := []) (k := 10) (c_X2_takeOfCell (x_l X) X.1 hN hc4) gX2_takeOfClosed_X2_takeOfCell rfl hd_X2_takeOfCell (by decide) (by omega) E_10 rfl rfl rfl rfl rfl (Nat.le_of_ble_eq_true rfl) dX2_takeOfClosed_6 ?_
  refine k_if_ne O 14 dX2_takeOfClosed_9 (by decide) (fun c7 => ?_) (fun c7 => ?_)
  · have h := ite_f c7 h
    refine k_aload_n O dX2_takeOfClosed_14 0 rfl ?_
    refine k_get O (v := .int (w5.1 10 2)) (k := 10) (by omega) E_10 rfl 2 (by decide) (fun _ h9 => List.mem_cons_of_mem _ (List.mem_append_left _ (List.mem_append_right _ h9))) (List.mem_of_getElem? (i := 1) rfl) rfl dX2_takeOfClosed_15 ?_
    refine k_iconst O dX2_takeOfClosed_18 (v := 2) (by decide) ?_
    refine k_icmp_ne O 45 dX2_takeOfClosed_19 (by decide) (fun c8 => ?_) (fun c8 => ?_)
    · have h := ite_f c8 h
      refine k_iconst O dX2_takeOfClosed_45 (v := 1) (by decide) ?_
      exact k_zret O (by decide) dX2_takeOfClosed_46 (rt_int h ho)
    · have h := ite_t c8 h
      refine k_aload_n O dX2_takeOfClosed_22 0 rfl ?_
      obtain ⟨g9, h⟩ := gd_some h
      have qg9 := plb_lt g9
      refine k_get O (v := .ref (g_ad X.1 ((w5.1 10 0).toNatClampNeg))) (k := 10) (by omega) E_10 rfl 0 (by decide) (fun _ h9 => List.mem_cons_of_mem _ (List.mem_append_left _ (List.mem_append_right _ h9))) (List.mem_of_getElem? (i := 2) rfl) rfl dX2_takeOfClosed_23 ?_
      refine k_dup O dX2_takeOfClosed_26 rfl ?_
      refine k_get O (v := .int (w5.1 ((w5.1 10 0).toNatClampNeg) 2)) (k := ((w5.1 10 0).toNatClampNeg)) (by omega) (E_pl g9) rfl 2 (by decide) (fun _ h9 => List.mem_cons_of_mem _ (List.mem_append_right _ h9)) (List.mem_of_getElem? (i := 3) rfl) rfl dX2_takeOfClosed_27 ?_
      refine k_iconst O dX2_takeOfClosed_30 (v := 1) (by decide) ?_
      refine k_aload_n O dX2_takeOfClosed_31 0 rfl ?_
      refine k_get O (v := .int (w5.1 10 3)) (k := 10) (by omega) E_10 rfl 3 (by decide) (fun _ h9 => List.mem_cons_of_mem _ (List.mem_append_left _ (List.mem_append_right _ h9))) (List.mem_of_getElem? (i := 4) rfl) rfl dX2_takeOfClosed_32 ?_
      refine k_ishl O dX2_takeOfClosed_35 ?_
      refine k_ior O dX2_takeOfClosed_36 ?_
      refine k_puti O (k := ((w5.1 10 0).toNatClampNeg)) tyX1 tyX1_ok nmX1 (by omega) (E_pl g9) rfl 2 (by decide) (fun _ h9 => List.mem_cons_of_mem _ (List.mem_append_right _ h9)) (List.mem_of_getElem? (i := 3) rfl) rfl rfl rfl (Nat.le_of_ble_eq_true rfl) ((E_pl g9).trans rfl) dX2_takeOfClosed_37 ?_
      refine k_nw (fun w10 ew10 => ?_)
      have h := nm_use h w10 ew10
      refine k_aload_n O dX2_takeOfClosed_40 0 rfl ?_
      refine k_iconst O dX2_takeOfClosed_41 (v := 1) (by decide) ?_
      refine k_puti O (k := 10) tyX2 tyX2_ok nmX2 (by omega) E_10 rfl 1 (by decide) (fun _ h9 => List.mem_cons_of_mem _ (List.mem_append_left _ (List.mem_append_right _ h9))) (List.mem_of_getElem? (i := 5) rfl) rfl rfl rfl (Nat.le_of_ble_eq_true rfl) (E_10.trans rfl) dX2_takeOfClosed_42 ?_
      refine k_nw (fun w11 ew11 => ?_)
      have h := nm_use h w11 ew11
      refine k_iconst O dX2_takeOfClosed_45 (v := 1) (by decide) ?_
      exact k_zret O (by decide) dX2_takeOfClosed_46 (rt_int h ho)
  · have h := ite_t c7 h
    refine k_iconst O dX2_takeOfClosed_12 (v := 0) (by decide) ?_
    exact k_zret O (by decide) dX2_takeOfClosed_13 (rt_int h ho)
theorem c_X2_takeOfClosed (l : Launch) (G : Gl) (hN : 105 ≤ g_N G) {w wz : Wd} {v1 : Int32} {rz : Int32} (h : f_X2_takeOfClosed w v1 = some (rz, wz)) : Ct l yX2_takeOfClosed wsX2_takeOfClosed (2) (43) G [.ref (g_ad G 10), .int v1] w (some (.int rz), wz) := by
  refine Ct.start (by decide) rfl rfl rfl (Nat.le_of_ble_eq_true rfl) (fun X hG ho hl O => ?_)
  subst hG
  subst hl
  exact k_sub [0, 1] rfl (w_X2_takeOfClosed_0 O hN ho h)
def b_X2_takeOfWalker_75 (w : Wd) (s0 : Int32) (s1 : Int32) : Option (Int32 × Wd) := gd (plb (w.1 10 0).toNatClampNeg) (bv (f_X1_addWalker ((w.1 10 0).toNatClampNeg) w s1 s0) (fun w2 => nm (up w2 10 1 ((1 : Int32))) (fun w3 => some ((1 : Int32), w3))))
def b_X2_takeOfWalker_57 (w : Wd) (v2 : Int32) (v3 : Int32) : Option (Int32 × Wd) := gd (plb (w.1 10 0).toNatClampNeg) (if v2 = 0 then (b_X2_takeOfWalker_75 w v3 (w.1 10 3)) else (b_X2_takeOfWalker_75 w ((-9 : Int32)) (w.1 10 3)))
def b_X2_takeOfWalker_38 (w : Wd) (v1 : Int32) (s0 : Int32) : Option (Int32 × Wd) := nm (v1 - ((48 : Int32))) (fun x1 => if s0 = 0 then (bd (f_X7_isSide w x1) (fun r5 w4 => if r5 = 0 then (some ((0 : Int32), w4)) else (b_X2_takeOfWalker_57 w4 s0 x1))) else (b_X2_takeOfWalker_57 w s0 x1))
def b_X2_takeOfWalker_0 (w : Wd) (v1 : Int32) : Option (Int32 × Wd) := if ((2 : Int32)) ≤ (w.1 10 2) then (if v1 = ((45 : Int32)) then (b_X2_takeOfWalker_38 w v1 ((1 : Int32))) else (b_X2_takeOfWalker_38 w v1 ((0 : Int32)))) else (gd (plb (w.1 10 0).toNatClampNeg) (bd (f_X2_takeOfCell w v1 (((4095 : Int32)) &&& ((w.1 ((w.1 10 0).toNatClampNeg) 2) ^^^ ((-1 : Int32))))) (fun r6 w5 => gd (bb r6) (some (r6, w5)))))
def f_X2_takeOfWalker (w : Wd) (v1 : Int32) : Option (Int32 × Wd) := b_X2_takeOfWalker_0 w v1
set_option maxHeartbeats 4000000 in
set_option maxRecDepth 100000 in
theorem w_X2_takeOfWalker_75 {X : Cx} {rz : Int32} {wz : Wd} (O : Ok X cX2_takeOfWalker RX2 ((some .boolean)) wsX2_takeOfWalker (2) (43) 4) (hN : 105 ≤ g_N X.1) (ho : Ro X (some (.int rz), wz)) {w : Wd} {s0 : Int32} {s1 : Int32} (h : b_X2_takeOfWalker_75 w s0 s1 = some (rz, wz)) : Wk X w 75 [(0, .ref (g_ad X.1 10))] [.int s0, .int s1, .ref (g_ad X.1 ((w.1 10 0).toNatClampNeg))] := by
  unfold b_X2_takeOfWalker_75 at h
  obtain ⟨g1, h⟩ := gd_some h
  have qg1 := plb_lt g1
  obtain ⟨w2, hc1, h⟩ := bv_some h
  refine k_callVv O (As := [.int s1, .int s0]) (rest := []) (k := ((w.1 10 0).toNatClampNeg)) (c_X1_addWalker (x_l X) X.1 g1 (by omega) hc1) gX2_takeOfWalker_X1_addWalker rfl hd_X1_addWalker (by decide) (by omega) (E_pl g1) rfl rfl rfl rfl rfl (Nat.le_of_ble_eq_true rfl) dX2_takeOfWalker_75 ?_
  refine k_aload_n O dX2_takeOfWalker_78 0 rfl ?_
  refine k_iconst O dX2_takeOfWalker_79 (v := 1) (by decide) ?_
  refine k_puti O (k := 10) tyX2 tyX2_ok nmX2 (by omega) E_10 rfl 1 (by decide) (fun _ h9 => List.mem_cons_of_mem _ (List.mem_append_left _ (List.mem_append_right _ h9))) (List.mem_of_getElem? (i := 5) rfl) rfl rfl rfl (Nat.le_of_ble_eq_true rfl) (E_10.trans rfl) dX2_takeOfWalker_80 ?_
  refine k_nw (fun w3 ew3 => ?_)
  have h := nm_use h w3 ew3
  refine k_iconst O dX2_takeOfWalker_83 (v := 1) (by decide) ?_
  exact k_zret O (by decide) dX2_takeOfWalker_84 (rt_int h ho)
set_option maxHeartbeats 4000000 in
set_option maxRecDepth 100000 in
theorem w_X2_takeOfWalker_57 {X : Cx} {rz : Int32} {wz : Wd} (O : Ok X cX2_takeOfWalker RX2 ((some .boolean)) wsX2_takeOfWalker (2) (43) 4) (hN : 105 ≤ g_N X.1) (ho : Ro X (some (.int rz), wz)) {w : Wd} {v2 : Int32} {v3 : Int32} (h : b_X2_takeOfWalker_57 w v2 v3 = some (rz, wz)) : Wk X w 57 [(0, .ref (g_ad X.1 10)), (2, .int v2), (3, .int v3)] [] := by
  unfold b_X2_takeOfWalker_57 at h
  refine k_aload_n O dX2_takeOfWalker_57 0 rfl ?_
  obtain ⟨g1, h⟩ := gd_some h
  have qg1 := plb_lt g1
  refine k_get O (v := .ref (g_ad X.1 ((w.1 10 0).toNatClampNeg))) (k := 10) (by omega) E_10 rfl 0 (by decide) (fun _ h9 => List.mem_cons_of_mem _ (List.mem_append_left _ (List.mem_append_right _ h9))) (List.mem_of_getElem? (i := 2) rfl) rfl dX2_takeOfWalker_58 ?_
  refine k_aload_n O dX2_takeOfWalker_61 0 rfl ?_
  refine k_get O (v := .int (w.1 10 3)) (k := 10) (by omega) E_10 rfl 3 (by decide) (fun _ h9 => List.mem_cons_of_mem _ (List.mem_append_left _ (List.mem_append_right _ h9))) (List.mem_of_getElem? (i := 4) rfl) rfl dX2_takeOfWalker_62 ?_
  refine k_iload_n O dX2_takeOfWalker_65 1 rfl ?_
  refine k_if_eq O 74 dX2_takeOfWalker_66 (by decide) (fun c2 => ?_) (fun c2 => ?_)
  · have h := ite_t c2 h
    refine k_iload_n O dX2_takeOfWalker_74 2 rfl ?_
    exact k_sub [0] rfl (w_X2_takeOfWalker_75 O hN ho h)
  · have h := ite_f c2 h
    refine k_bipush O dX2_takeOfWalker_69 (v := -9) (by decide) ?_
    refine k_goto O 75 dX2_takeOfWalker_71 (by decide) ?_
    exact k_sub [0] rfl (w_X2_takeOfWalker_75 O hN ho h)
set_option maxHeartbeats 4000000 in
set_option maxRecDepth 100000 in
theorem w_X2_takeOfWalker_38 {X : Cx} {rz : Int32} {wz : Wd} (O : Ok X cX2_takeOfWalker RX2 ((some .boolean)) wsX2_takeOfWalker (2) (43) 4) (hN : 105 ≤ g_N X.1) (ho : Ro X (some (.int rz), wz)) {w : Wd} {v1 : Int32} {s0 : Int32} (h : b_X2_takeOfWalker_38 w v1 s0 = some (rz, wz)) : Wk X w 38 [(0, .ref (g_ad X.1 10)), (1, .int v1)] [.int s0] := by
  unfold b_X2_takeOfWalker_38 at h
  refine k_istore_n (lv' := [(2, .int s0), (0, .ref (g_ad X.1 10)), (1, .int v1)]) O dX2_takeOfWalker_38 rfl (by decide) rfl ?_
  refine k_iload_n O dX2_takeOfWalker_39 2 rfl ?_
  refine k_bipush O dX2_takeOfWalker_40 (v := 48) (by decide) ?_
  refine k_isub O dX2_takeOfWalker_42 ?_
  refine k_topi (fun x1 ex1 => ?_)
  have h := nm_use h x1 ex1
  refine k_istore_n (lv' := [(3, .int x1), (2, .int s0), (0, .ref (g_ad X.1 10)), (1, .int v1)]) O dX2_takeOfWalker_43 rfl (by decide) rfl ?_
  refine k_iload_n O dX2_takeOfWalker_44 1 rfl ?_
  refine k_if_ne O 57 dX2_takeOfWalker_45 (by decide) (fun c2 => ?_) (fun c2 => ?_)
  · have h := ite_f c2 h
    exact k_sub [2, 1, 0] rfl (w_X2_takeOfWalker_57 O hN ho h)
  · have h := ite_t c2 h
    refine k_iload_n O dX2_takeOfWalker_48 0 rfl ?_
    obtain ⟨r5, w4, hc3, h⟩ := bd_some h
    refine k_callNi O (As := [.int x1]) (rest := []) (c_X7_isSide (x_l X) X.1 hc3) gX2_takeOfWalker_X7_isSide_n89 rfl hd_X7_isSide (by decide) (List.mem_of_getElem? (i := 3) rfl) (List.mem_of_getElem? (i := 12) rfl) (List.mem_of_getElem? (i := 14) rfl) rfl rfl (Nat.le_of_ble_eq_true rfl) dX2_takeOfWalker_49 ?_
    refine k_if_ne O 57 dX2_takeOfWalker_52 (by decide) (fun c6 => ?_) (fun c6 => ?_)
    · have h := ite_f c6 h
      exact k_sub [2, 1, 0] rfl (w_X2_takeOfWalker_57 O hN ho h)
    · have h := ite_t c6 h
      refine k_iconst O dX2_takeOfWalker_55 (v := 0) (by decide) ?_
      exact k_zret O (by decide) dX2_takeOfWalker_56 (rt_int h ho)
set_option maxHeartbeats 4000000 in
set_option maxRecDepth 100000 in
theorem w_X2_takeOfWalker_0 {X : Cx} {rz : Int32} {wz : Wd} (O : Ok X cX2_takeOfWalker RX2 ((some .boolean)) wsX2_takeOfWalker (2) (43) 4) (hN : 105 ≤ g_N X.1) (ho : Ro X (some (.int rz), wz)) {w : Wd} {v1 : Int32} (h : b_X2_takeOfWalker_0 w v1 = some (rz, wz)) : Wk X w 0 [(0, .ref (g_ad X.1 10)), (1, .int v1)] [] := by
  unfold b_X2_takeOfWalker_0 at h
  refine k_aload_n O dX2_takeOfWalker_0 0 rfl ?_
  refine k_get O (v := .int (w.1 10 2)) (k := 10) (by omega) E_10 rfl 2 (by decide) (fun _ h9 => List.mem_cons_of_mem _ (List.mem_append_left _ (List.mem_append_right _ h9))) (List.mem_of_getElem? (i := 1) rfl) rfl dX2_takeOfWalker_1 ?_
  refine k_iconst O dX2_takeOfWalker_4 (v := 2) (by decide) ?_
  refine k_icmp_ge O 27 dX2_takeOfWalker_5 (by decide) (fun c1 => ?_) (fun c1 => ?_)
  · have h := ite_t c1 h
    refine k_iload_n O dX2_takeOfWalker_27 1 rfl ?_
    refine k_bipush O dX2_takeOfWalker_28 (v := 45) (by decide) ?_
    refine k_icmp_ne O 37 dX2_takeOfWalker_30 (by decide) (fun c2 => ?_) (fun c2 => ?_)
    · have h := ite_f c2 h
      refine k_iconst O dX2_takeOfWalker_37 (v := 0) (by decide) ?_
      exact k_sub [0, 1] rfl (w_X2_takeOfWalker_38 O hN ho h)
    · have h := ite_t c2 h
      refine k_iconst O dX2_takeOfWalker_33 (v := 1) (by decide) ?_
      refine k_goto O 38 dX2_takeOfWalker_34 (by decide) ?_
      exact k_sub [0, 1] rfl (w_X2_takeOfWalker_38 O hN ho h)
  · have h := ite_f c1 h
    refine k_aload_n O dX2_takeOfWalker_8 0 rfl ?_
    refine k_iload_n O dX2_takeOfWalker_9 1 rfl ?_
    refine k_sipush O dX2_takeOfWalker_10 (v := 4095) (by decide) ?_
    refine k_aload_n O dX2_takeOfWalker_13 0 rfl ?_
    obtain ⟨g3, h⟩ := gd_some h
    have qg3 := plb_lt g3
    refine k_get O (v := .ref (g_ad X.1 ((w.1 10 0).toNatClampNeg))) (k := 10) (by omega) E_10 rfl 0 (by decide) (fun _ h9 => List.mem_cons_of_mem _ (List.mem_append_left _ (List.mem_append_right _ h9))) (List.mem_of_getElem? (i := 2) rfl) rfl dX2_takeOfWalker_14 ?_
    refine k_get O (v := .int (w.1 ((w.1 10 0).toNatClampNeg) 2)) (k := ((w.1 10 0).toNatClampNeg)) (by omega) (E_pl g3) rfl 2 (by decide) (fun _ h9 => List.mem_cons_of_mem _ (List.mem_append_right _ h9)) (List.mem_of_getElem? (i := 3) rfl) rfl dX2_takeOfWalker_17 ?_
    refine k_iconst O dX2_takeOfWalker_20 (v := -1) (by decide) ?_
    refine k_ixor O dX2_takeOfWalker_21 ?_
    refine k_iand O dX2_takeOfWalker_22 ?_
    obtain ⟨r6, w5, hc4, h⟩ := bd_some h
    refine k_callVi O (As := [.int v1, .int (((4095 : Int32)) &&& ((w.1 ((w.1 10 0).toNatClampNeg) 2) ^^^ ((-1 : Int32))))]) (rest := []) (k := 10) (c_X2_takeOfCell (x_l X) X.1 hN hc4) gX2_takeOfWalker_X2_takeOfCell rfl hd_X2_takeOfCell (by decide) (by omega) E_10 rfl rfl rfl rfl rfl (Nat.le_of_ble_eq_true rfl) dX2_takeOfWalker_23 ?_
    obtain ⟨g7, h⟩ := gd_some h
    exact k_zret O (bb_nar g7) dX2_takeOfWalker_26 (rt_int h ho)
theorem c_X2_takeOfWalker (l : Launch) (G : Gl) (hN : 105 ≤ g_N G) {w wz : Wd} {v1 : Int32} {rz : Int32} (h : f_X2_takeOfWalker w v1 = some (rz, wz)) : Ct l yX2_takeOfWalker wsX2_takeOfWalker (2) (43) G [.ref (g_ad G 10), .int v1] w (some (.int rz), wz) := by
  refine Ct.start (by decide) rfl rfl rfl (Nat.le_of_ble_eq_true rfl) (fun X hG ho hl O => ?_)
  subst hG
  subst hl
  exact k_sub [0, 1] rfl (w_X2_takeOfWalker_0 O hN ho h)
def b_X2_canBeWired_4 : Nat → Wd → Int32 → Int32 → Option (Int32 × Wd)
  | 0, _, _, _ => none
  | n + 1, w, v1, v2 => if ((6 : Int32)) ≤ v2 then (if v1 = 0 then (some ((0 : Int32), w)) else (some ((1 : Int32), w))) else (bd (f_X2_wiresLeft w v2) (fun r5 w4 => nm (v1 ||| r5) (fun x6 => nm (v2 + (1 : Int32)) (fun x7 => b_X2_canBeWired_4 n w4 x6 x7))))
def b_X2_canBeWired_0 (w : Wd) : Option (Int32 × Wd) := b_X2_canBeWired_4 LF w ((0 : Int32)) ((0 : Int32))
def f_X2_canBeWired (w : Wd) : Option (Int32 × Wd) := b_X2_canBeWired_0 w 
set_option maxHeartbeats 4000000 in
set_option maxRecDepth 100000 in
theorem w_X2_canBeWired_4 {X : Cx} {rz : Int32} {wz : Wd} (O : Ok X cX2_canBeWired RX2 ((some .boolean)) wsX2_canBeWired (2) (42) 3) (hN : 105 ≤ g_N X.1) (ho : Ro X (some (.int rz), wz)) (n : Nat) : ∀ {w : Wd} {v1 : Int32} {v2 : Int32}, b_X2_canBeWired_4 n w v1 v2 = some (rz, wz) → Wk X w 4 [(0, .ref (g_ad X.1 10)), (1, .int v1), (2, .int v2)] [] := by
  induction n with
  | zero => intro w v1 v2 h; exact nomatch (show (none : Option (Int32 × Wd)) = some _ from h)
  | succ n ih =>
    intro w v1 v2 h
    rw [b_X2_canBeWired_4] at h
    refine k_iload_n O dX2_canBeWired_4 2 rfl ?_
    refine k_bipush O dX2_canBeWired_5 (v := 6) (by decide) ?_
    refine k_icmp_ge O 24 dX2_canBeWired_7 (by decide) (fun c1 => ?_) (fun c1 => ?_)
    · have h := ite_t c1 h
      refine k_iload_n O dX2_canBeWired_24 1 rfl ?_
      refine k_if_eq O 32 dX2_canBeWired_25 (by decide) (fun c2 => ?_) (fun c2 => ?_)
      · have h := ite_t c2 h
        refine k_iconst O dX2_canBeWired_32 (v := 0) (by decide) ?_
        exact k_zret O (by decide) dX2_canBeWired_33 (rt_int h ho)
      · have h := ite_f c2 h
        refine k_iconst O dX2_canBeWired_28 (v := 1) (by decide) ?_
        refine k_goto O 33 dX2_canBeWired_29 (by decide) ?_
        exact k_zret O (by decide) dX2_canBeWired_33 (rt_int h ho)
    · have h := ite_f c1 h
      refine k_iload_n O dX2_canBeWired_10 1 rfl ?_
      refine k_aload_n O dX2_canBeWired_11 0 rfl ?_
      refine k_iload_n O dX2_canBeWired_12 2 rfl ?_
      obtain ⟨r5, w4, hc3, h⟩ := bd_some h
      refine k_callVi O (As := [.int v2]) (rest := [.int v1]) (k := 10) (c_X2_wiresLeft (x_l X) X.1 hN hc3) gX2_canBeWired_X2_wiresLeft rfl hd_X2_wiresLeft (by decide) (by omega) E_10 rfl rfl rfl rfl rfl (Nat.le_of_ble_eq_true rfl) dX2_canBeWired_13 ?_
      refine k_ior O dX2_canBeWired_16 ?_
      refine k_topi (fun x6 ex6 => ?_)
      have h := nm_use h x6 ex6
      refine k_istore_n (lv' := [(1, .int x6), (0, .ref (g_ad X.1 10)), (2, .int v2)]) O dX2_canBeWired_17 rfl (by decide) rfl ?_
      obtain ⟨x7, ex7⟩ : ∃ z : Int32, z = v2 + (1 : Int32) := ⟨_, rfl⟩
      have h := nm_use h x7 ex7
      refine k_iinc (lv' := [(2, .int x7), (1, .int x6), (0, .ref (g_ad X.1 10))]) O dX2_canBeWired_18 2 rfl (by rw [ex7]; rfl) (by decide) rfl ?_
      refine k_goto O 4 dX2_canBeWired_21 (by decide) ?_
      exact k_sub [2, 1, 0] rfl (ih h)
set_option maxHeartbeats 4000000 in
set_option maxRecDepth 100000 in
theorem w_X2_canBeWired_0 {X : Cx} {rz : Int32} {wz : Wd} (O : Ok X cX2_canBeWired RX2 ((some .boolean)) wsX2_canBeWired (2) (42) 3) (hN : 105 ≤ g_N X.1) (ho : Ro X (some (.int rz), wz)) {w : Wd} (h : b_X2_canBeWired_0 w  = some (rz, wz)) : Wk X w 0 [(0, .ref (g_ad X.1 10))] [] := by
  unfold b_X2_canBeWired_0 at h
  refine k_iconst O dX2_canBeWired_0 (v := 0) (by decide) ?_
  refine k_istore_n (lv' := [(1, .int ((0 : Int32))), (0, .ref (g_ad X.1 10))]) O dX2_canBeWired_1 rfl (by decide) rfl ?_
  refine k_iconst O dX2_canBeWired_2 (v := 0) (by decide) ?_
  refine k_istore_n (lv' := [(2, .int ((0 : Int32))), (1, .int ((0 : Int32))), (0, .ref (g_ad X.1 10))]) O dX2_canBeWired_3 rfl (by decide) rfl ?_
  exact k_sub [2, 1, 0] rfl (w_X2_canBeWired_4 O hN ho LF h)
theorem c_X2_canBeWired (l : Launch) (G : Gl) (hN : 105 ≤ g_N G) {w wz : Wd} {rz : Int32} (h : f_X2_canBeWired w  = some (rz, wz)) : Ct l yX2_canBeWired wsX2_canBeWired (2) (42) G [.ref (g_ad G 10)] w (some (.int rz), wz) := by
  refine Ct.start (by decide) rfl rfl rfl (Nat.le_of_ble_eq_true rfl) (fun X hG ho hl O => ?_)
  subst hG
  subst hl
  exact k_sub [0] rfl (w_X2_canBeWired_0 O hN ho h)
def b_X2_takeFirst_0 (w : Wd) (v1 : Int32) : Option (Int32 × Wd) := nm (up w 10 1 v1) (fun w1 => nm (up w1 10 2 ((0 : Int32))) (fun w2 => if v1 = (71 : Int32) then (gd (plb (w2.1 10 0).toNatClampNeg) (if ((4 : Int32)) ≤ (w2.1 ((w2.1 10 0).toNatClampNeg) 1) then (some ((0 : Int32), w2)) else (gd (plb (w2.1 10 0).toNatClampNeg) (if (w2.1 ((w2.1 10 0).toNatClampNeg) 2) = ((4095 : Int32)) then (some ((0 : Int32), w2)) else (some ((1 : Int32), w2)))))) else (if v1 = (84 : Int32) then (gd (plb (w2.1 10 0).toNatClampNeg) (if ((6 : Int32)) ≤ (w2.1 ((w2.1 10 0).toNatClampNeg) 0) then (some ((0 : Int32), w2)) else (some ((1 : Int32), w2)))) else (if v1 = (87 : Int32) then (bd (f_X2_canBeWired w2) (fun r14 w13 => gd (bb r14) (some (r14, w13)))) else (if v1 = (88 : Int32) then (bd (f_X2_cellsToClose w2) (fun r19 w18 => if r19 = 0 then (some ((0 : Int32), w18)) else (some ((1 : Int32), w18)))) else (some ((0 : Int32), w2)))))))
def f_X2_takeFirst (w : Wd) (v1 : Int32) : Option (Int32 × Wd) := b_X2_takeFirst_0 w v1
set_option maxHeartbeats 4000000 in
set_option maxRecDepth 100000 in
theorem w_X2_takeFirst_0 {X : Cx} {rz : Int32} {wz : Wd} (O : Ok X cX2_takeFirst RX2 ((some .boolean)) wsX2_takeFirst (3) (64) 2) (hN : 105 ≤ g_N X.1) (ho : Ro X (some (.int rz), wz)) {w : Wd} {v1 : Int32} (h : b_X2_takeFirst_0 w v1 = some (rz, wz)) : Wk X w 0 [(0, .ref (g_ad X.1 10)), (1, .int v1)] [] := by
  unfold b_X2_takeFirst_0 at h
  refine k_aload_n O dX2_takeFirst_0 0 rfl ?_
  refine k_iload_n O dX2_takeFirst_1 1 rfl ?_
  refine k_puti O (k := 10) tyX2 tyX2_ok nmX2 (by omega) E_10 rfl 1 (by decide) (fun _ h9 => List.mem_cons_of_mem _ (List.mem_append_left _ (List.mem_append_right _ h9))) (List.mem_of_getElem? (i := 1) rfl) rfl rfl rfl (Nat.le_of_ble_eq_true rfl) (E_10.trans rfl) dX2_takeFirst_2 ?_
  refine k_nw (fun w1 ew1 => ?_)
  have h := nm_use h w1 ew1
  refine k_aload_n O dX2_takeFirst_5 0 rfl ?_
  refine k_iconst O dX2_takeFirst_6 (v := 0) (by decide) ?_
  refine k_puti O (k := 10) tyX2 tyX2_ok nmX2 (by omega) E_10 rfl 2 (by decide) (fun _ h9 => List.mem_cons_of_mem _ (List.mem_append_left _ (List.mem_append_right _ h9))) (List.mem_of_getElem? (i := 2) rfl) rfl rfl rfl (Nat.le_of_ble_eq_true rfl) (E_10.trans rfl) dX2_takeFirst_7 ?_
  refine k_nw (fun w2 ew2 => ?_)
  have h := nm_use h w2 ew2
  refine k_iload_n O dX2_takeFirst_10 1 rfl ?_
  refine (Decidable.em (v1 = (71 : Int32))).elim (fun c3 => ?_) (fun c3 => ?_)
  · have h := ite_t c3 h
    refine k_look (off := 77) O 88 dX2_takeFirst_11 (by decide) (by rw [c3]; try rfl) (by decide) ?_
    refine k_aload_n O dX2_takeFirst_88 0 rfl ?_
    obtain ⟨g4, h⟩ := gd_some h
    have qg4 := plb_lt g4
    refine k_get O (v := .ref (g_ad X.1 ((w2.1 10 0).toNatClampNeg))) (k := 10) (by omega) E_10 rfl 0 (by decide) (fun _ h9 => List.mem_cons_of_mem _ (List.mem_append_left _ (List.mem_append_right _ h9))) (List.mem_of_getElem? (i := 3) rfl) rfl dX2_takeFirst_89 ?_
    refine k_get O (v := .int (w2.1 ((w2.1 10 0).toNatClampNeg) 1)) (k := ((w2.1 10 0).toNatClampNeg)) (by omega) (E_pl g4) rfl 1 (by decide) (fun _ h9 => List.mem_cons_of_mem _ (List.mem_append_right _ h9)) (List.mem_of_getElem? (i := 5) rfl) rfl dX2_takeFirst_92 ?_
    refine k_iconst O dX2_takeFirst_95 (v := 4) (by decide) ?_
    refine k_icmp_ge O 116 dX2_takeFirst_96 (by decide) (fun c5 => ?_) (fun c5 => ?_)
    · have h := ite_t c5 h
      refine k_iconst O dX2_takeFirst_116 (v := 0) (by decide) ?_
      exact k_zret O (by decide) dX2_takeFirst_117 (rt_int h ho)
    · have h := ite_f c5 h
      refine k_aload_n O dX2_takeFirst_99 0 rfl ?_
      obtain ⟨g6, h⟩ := gd_some h
      have qg6 := plb_lt g6
      refine k_get O (v := .ref (g_ad X.1 ((w2.1 10 0).toNatClampNeg))) (k := 10) (by omega) E_10 rfl 0 (by decide) (fun _ h9 => List.mem_cons_of_mem _ (List.mem_append_left _ (List.mem_append_right _ h9))) (List.mem_of_getElem? (i := 3) rfl) rfl dX2_takeFirst_100 ?_
      refine k_get O (v := .int (w2.1 ((w2.1 10 0).toNatClampNeg) 2)) (k := ((w2.1 10 0).toNatClampNeg)) (by omega) (E_pl g6) rfl 2 (by decide) (fun _ h9 => List.mem_cons_of_mem _ (List.mem_append_right _ h9)) (List.mem_of_getElem? (i := 6) rfl) rfl dX2_takeFirst_103 ?_
      refine k_sipush O dX2_takeFirst_106 (v := 4095) (by decide) ?_
      refine k_icmp_eq O 116 dX2_takeFirst_109 (by decide) (fun c7 => ?_) (fun c7 => ?_)
      · have h := ite_t c7 h
        refine k_iconst O dX2_takeFirst_116 (v := 0) (by decide) ?_
        exact k_zret O (by decide) dX2_takeFirst_117 (rt_int h ho)
      · have h := ite_f c7 h
        refine k_iconst O dX2_takeFirst_112 (v := 1) (by decide) ?_
        refine k_goto O 117 dX2_takeFirst_113 (by decide) ?_
        exact k_zret O (by decide) dX2_takeFirst_117 (rt_int h ho)
  · have h := ite_f c3 h
    refine (Decidable.em (v1 = (84 : Int32))).elim (fun c8 => ?_) (fun c8 => ?_)
    · have h := ite_t c8 h
      refine k_look (off := 41) O 52 dX2_takeFirst_11 (by decide) (by rw [c8]; try rfl) (by decide) ?_
      refine k_aload_n O dX2_takeFirst_52 0 rfl ?_
      obtain ⟨g9, h⟩ := gd_some h
      have qg9 := plb_lt g9
      refine k_get O (v := .ref (g_ad X.1 ((w2.1 10 0).toNatClampNeg))) (k := 10) (by omega) E_10 rfl 0 (by decide) (fun _ h9 => List.mem_cons_of_mem _ (List.mem_append_left _ (List.mem_append_right _ h9))) (List.mem_of_getElem? (i := 3) rfl) rfl dX2_takeFirst_53 ?_
      refine k_get O (v := .int (w2.1 ((w2.1 10 0).toNatClampNeg) 0)) (k := ((w2.1 10 0).toNatClampNeg)) (by omega) (E_pl g9) rfl 0 (by decide) (fun _ h9 => List.mem_cons_of_mem _ (List.mem_append_right _ h9)) (List.mem_of_getElem? (i := 4) rfl) rfl dX2_takeFirst_56 ?_
      refine k_bipush O dX2_takeFirst_59 (v := 6) (by decide) ?_
      refine k_icmp_ge O 68 dX2_takeFirst_61 (by decide) (fun c10 => ?_) (fun c10 => ?_)
      · have h := ite_t c10 h
        refine k_iconst O dX2_takeFirst_68 (v := 0) (by decide) ?_
        exact k_zret O (by decide) dX2_takeFirst_69 (rt_int h ho)
      · have h := ite_f c10 h
        refine k_iconst O dX2_takeFirst_64 (v := 1) (by decide) ?_
        refine k_goto O 69 dX2_takeFirst_65 (by decide) ?_
        exact k_zret O (by decide) dX2_takeFirst_69 (rt_int h ho)
    · have h := ite_f c8 h
      refine (Decidable.em (v1 = (87 : Int32))).elim (fun c11 => ?_) (fun c11 => ?_)
      · have h := ite_t c11 h
        refine k_look (off := 59) O 70 dX2_takeFirst_11 (by decide) (by rw [c11]; try rfl) (by decide) ?_
        refine k_aload_n O dX2_takeFirst_70 0 rfl ?_
        obtain ⟨r14, w13, hc12, h⟩ := bd_some h
        refine k_callVi O (As := []) (rest := []) (k := 10) (c_X2_canBeWired (x_l X) X.1 hN hc12) gX2_takeFirst_X2_canBeWired rfl hd_X2_canBeWired (by decide) (by omega) E_10 rfl rfl rfl rfl rfl (Nat.le_of_ble_eq_true rfl) dX2_takeFirst_71 ?_
        obtain ⟨g15, h⟩ := gd_some h
        exact k_zret O (bb_nar g15) dX2_takeFirst_74 (rt_int h ho)
      · have h := ite_f c11 h
        refine (Decidable.em (v1 = (88 : Int32))).elim (fun c16 => ?_) (fun c16 => ?_)
        · have h := ite_t c16 h
          refine k_look (off := 64) O 75 dX2_takeFirst_11 (by decide) (by rw [c16]; try rfl) (by decide) ?_
          refine k_aload_n O dX2_takeFirst_75 0 rfl ?_
          obtain ⟨r19, w18, hc17, h⟩ := bd_some h
          refine k_callVi O (As := []) (rest := []) (k := 10) (c_X2_cellsToClose (x_l X) X.1 hN hc17) gX2_takeFirst_X2_cellsToClose rfl hd_X2_cellsToClose (by decide) (by omega) E_10 rfl rfl rfl rfl rfl (Nat.le_of_ble_eq_true rfl) dX2_takeFirst_76 ?_
          refine k_if_eq O 86 dX2_takeFirst_79 (by decide) (fun c20 => ?_) (fun c20 => ?_)
          · have h := ite_t c20 h
            refine k_iconst O dX2_takeFirst_86 (v := 0) (by decide) ?_
            exact k_zret O (by decide) dX2_takeFirst_87 (rt_int h ho)
          · have h := ite_f c20 h
            refine k_iconst O dX2_takeFirst_82 (v := 1) (by decide) ?_
            refine k_goto O 87 dX2_takeFirst_83 (by decide) ?_
            exact k_zret O (by decide) dX2_takeFirst_87 (rt_int h ho)
        · have h := ite_f c16 h
          refine k_look (off := 107) O 118 dX2_takeFirst_11 (by decide) ((lv_osw c3 (by decide)).trans ((lv_osw c8 (by decide)).trans ((lv_osw c11 (by decide)).trans ((lv_osw c16 (by decide)).trans (rfl))))) (by decide) ?_
          refine k_iconst O dX2_takeFirst_118 (v := 0) (by decide) ?_
          exact k_zret O (by decide) dX2_takeFirst_119 (rt_int h ho)
theorem c_X2_takeFirst (l : Launch) (G : Gl) (hN : 105 ≤ g_N G) {w wz : Wd} {v1 : Int32} {rz : Int32} (h : f_X2_takeFirst w v1 = some (rz, wz)) : Ct l yX2_takeFirst wsX2_takeFirst (3) (64) G [.ref (g_ad G 10), .int v1] w (some (.int rz), wz) := by
  refine Ct.start (by decide) rfl rfl rfl (Nat.le_of_ble_eq_true rfl) (fun X hG ho hl O => ?_)
  subst hG
  subst hl
  exact k_sub [0, 1] rfl (w_X2_takeFirst_0 O hN ho h)
def b_X2_take_0 (w : Wd) (v1 : Int32) : Option (Int32 × Wd) := if (w.1 10 1) = (0 : Int32) then (nm (up w 10 1 ((1 : Int32))) (fun w2 => if v1 = ((70 : Int32)) then (some ((1 : Int32), w2)) else (some ((0 : Int32), w2)))) else (if (w.1 10 1) = (71 : Int32) then (bd (f_X2_takeOfWalker w v1) (fun r7 w6 => gd (bb r7) (some (r7, w6)))) else (if (w.1 10 1) = (84 : Int32) then (bd (f_X2_takeOfTrap w v1) (fun r12 w11 => gd (bb r12) (some (r12, w11)))) else (if (w.1 10 1) = (87 : Int32) then (bd (f_X2_takeOfWire w v1) (fun r17 w16 => gd (bb r17) (some (r17, w16)))) else (if (w.1 10 1) = (88 : Int32) then (bd (f_X2_takeOfClosed w v1) (fun r22 w21 => gd (bb r22) (some (r22, w21)))) else (bd (f_X2_takeFirst w v1) (fun r26 w25 => gd (bb r26) (some (r26, w25))))))))
def f_X2_take (w : Wd) (v1 : Int32) : Option (Int32 × Wd) := b_X2_take_0 w v1
set_option maxHeartbeats 4000000 in
set_option maxRecDepth 100000 in
theorem w_X2_take_0 {X : Cx} {rz : Int32} {wz : Wd} (O : Ok X cX2_take RX2 ((some .boolean)) wsX2_take (4) (85) 2) (hN : 105 ≤ g_N X.1) (ho : Ro X (some (.int rz), wz)) {w : Wd} {v1 : Int32} (h : b_X2_take_0 w v1 = some (rz, wz)) : Wk X w 0 [(0, .ref (g_ad X.1 10)), (1, .int v1)] [] := by
  unfold b_X2_take_0 at h
  refine k_aload_n O dX2_take_0 0 rfl ?_
  refine k_get O (v := .int (w.1 10 1)) (k := 10) (by omega) E_10 rfl 1 (by decide) (fun _ h9 => List.mem_cons_of_mem _ (List.mem_append_left _ (List.mem_append_right _ h9))) (List.mem_of_getElem? (i := 1) rfl) rfl dX2_take_1 ?_
  refine (Decidable.em ((w.1 10 1) = (0 : Int32))).elim (fun c1 => ?_) (fun c1 => ?_)
  · have h := ite_t c1 h
    refine k_look (off := 52) O 56 dX2_take_4 (by decide) (by rw [c1]; try rfl) (by decide) ?_
    refine k_aload_n O dX2_take_56 0 rfl ?_
    refine k_iconst O dX2_take_57 (v := 1) (by decide) ?_
    refine k_puti O (k := 10) tyX2 tyX2_ok nmX2 (by omega) E_10 rfl 1 (by decide) (fun _ h9 => List.mem_cons_of_mem _ (List.mem_append_left _ (List.mem_append_right _ h9))) (List.mem_of_getElem? (i := 1) rfl) rfl rfl rfl (Nat.le_of_ble_eq_true rfl) (E_10.trans rfl) dX2_take_58 ?_
    refine k_nw (fun w2 ew2 => ?_)
    have h := nm_use h w2 ew2
    refine k_iload_n O dX2_take_61 1 rfl ?_
    refine k_bipush O dX2_take_62 (v := 70) (by decide) ?_
    refine k_icmp_ne O 71 dX2_take_64 (by decide) (fun c3 => ?_) (fun c3 => ?_)
    · have h := ite_f c3 h
      refine k_iconst O dX2_take_71 (v := 0) (by decide) ?_
      exact k_zret O (by decide) dX2_take_72 (rt_int h ho)
    · have h := ite_t c3 h
      refine k_iconst O dX2_take_67 (v := 1) (by decide) ?_
      refine k_goto O 72 dX2_take_68 (by decide) ?_
      exact k_zret O (by decide) dX2_take_72 (rt_int h ho)
  · have h := ite_f c1 h
    refine (Decidable.em ((w.1 10 1) = (71 : Int32))).elim (fun c4 => ?_) (fun c4 => ?_)
    · have h := ite_t c4 h
      refine k_look (off := 87) O 91 dX2_take_4 (by decide) (by rw [c4]; try rfl) (by decide) ?_
      refine k_aload_n O dX2_take_91 0 rfl ?_
      refine k_iload_n O dX2_take_92 1 rfl ?_
      obtain ⟨r7, w6, hc5, h⟩ := bd_some h
      refine k_callVi O (As := [.int v1]) (rest := []) (k := 10) (c_X2_takeOfWalker (x_l X) X.1 hN hc5) gX2_take_X2_takeOfWalker rfl hd_X2_takeOfWalker (by decide) (by omega) E_10 rfl rfl rfl rfl rfl (Nat.le_of_ble_eq_true rfl) dX2_take_93 ?_
      obtain ⟨g8, h⟩ := gd_some h
      exact k_zret O (bb_nar g8) dX2_take_96 (rt_int h ho)
    · have h := ite_f c4 h
      refine (Decidable.em ((w.1 10 1) = (84 : Int32))).elim (fun c9 => ?_) (fun c9 => ?_)
      · have h := ite_t c9 h
        refine k_look (off := 69) O 73 dX2_take_4 (by decide) (by rw [c9]; try rfl) (by decide) ?_
        refine k_aload_n O dX2_take_73 0 rfl ?_
        refine k_iload_n O dX2_take_74 1 rfl ?_
        obtain ⟨r12, w11, hc10, h⟩ := bd_some h
        refine k_callVi O (As := [.int v1]) (rest := []) (k := 10) (c_X2_takeOfTrap (x_l X) X.1 hN hc10) gX2_take_X2_takeOfTrap rfl hd_X2_takeOfTrap (by decide) (by omega) E_10 rfl rfl rfl rfl rfl (Nat.le_of_ble_eq_true rfl) dX2_take_75 ?_
        obtain ⟨g13, h⟩ := gd_some h
        exact k_zret O (bb_nar g13) dX2_take_78 (rt_int h ho)
      · have h := ite_f c9 h
        refine (Decidable.em ((w.1 10 1) = (87 : Int32))).elim (fun c14 => ?_) (fun c14 => ?_)
        · have h := ite_t c14 h
          refine k_look (off := 75) O 79 dX2_take_4 (by decide) (by rw [c14]; try rfl) (by decide) ?_
          refine k_aload_n O dX2_take_79 0 rfl ?_
          refine k_iload_n O dX2_take_80 1 rfl ?_
          obtain ⟨r17, w16, hc15, h⟩ := bd_some h
          refine k_callVi O (As := [.int v1]) (rest := []) (k := 10) (c_X2_takeOfWire (x_l X) X.1 hN hc15) gX2_take_X2_takeOfWire rfl hd_X2_takeOfWire (by decide) (by omega) E_10 rfl rfl rfl rfl rfl (Nat.le_of_ble_eq_true rfl) dX2_take_81 ?_
          obtain ⟨g18, h⟩ := gd_some h
          exact k_zret O (bb_nar g18) dX2_take_84 (rt_int h ho)
        · have h := ite_f c14 h
          refine (Decidable.em ((w.1 10 1) = (88 : Int32))).elim (fun c19 => ?_) (fun c19 => ?_)
          · have h := ite_t c19 h
            refine k_look (off := 81) O 85 dX2_take_4 (by decide) (by rw [c19]; try rfl) (by decide) ?_
            refine k_aload_n O dX2_take_85 0 rfl ?_
            refine k_iload_n O dX2_take_86 1 rfl ?_
            obtain ⟨r22, w21, hc20, h⟩ := bd_some h
            refine k_callVi O (As := [.int v1]) (rest := []) (k := 10) (c_X2_takeOfClosed (x_l X) X.1 hN hc20) gX2_take_X2_takeOfClosed rfl hd_X2_takeOfClosed (by decide) (by omega) E_10 rfl rfl rfl rfl rfl (Nat.le_of_ble_eq_true rfl) dX2_take_87 ?_
            obtain ⟨g23, h⟩ := gd_some h
            exact k_zret O (bb_nar g23) dX2_take_90 (rt_int h ho)
          · have h := ite_f c19 h
            refine k_look (off := 93) O 97 dX2_take_4 (by decide) ((lv_osw c1 (by decide)).trans ((lv_osw c4 (by decide)).trans ((lv_osw c9 (by decide)).trans ((lv_osw c14 (by decide)).trans ((lv_osw c19 (by decide)).trans (rfl)))))) (by decide) ?_
            refine k_aload_n O dX2_take_97 0 rfl ?_
            refine k_iload_n O dX2_take_98 1 rfl ?_
            obtain ⟨r26, w25, hc24, h⟩ := bd_some h
            refine k_callVi O (As := [.int v1]) (rest := []) (k := 10) (c_X2_takeFirst (x_l X) X.1 hN hc24) gX2_take_X2_takeFirst rfl hd_X2_takeFirst (by decide) (by omega) E_10 rfl rfl rfl rfl rfl (Nat.le_of_ble_eq_true rfl) dX2_take_99 ?_
            obtain ⟨g27, h⟩ := gd_some h
            exact k_zret O (bb_nar g27) dX2_take_102 (rt_int h ho)
theorem c_X2_take (l : Launch) (G : Gl) (hN : 105 ≤ g_N G) {w wz : Wd} {v1 : Int32} {rz : Int32} (h : f_X2_take w v1 = some (rz, wz)) : Ct l yX2_take wsX2_take (4) (85) G [.ref (g_ad G 10), .int v1] w (some (.int rz), wz) := by
  refine Ct.start (by decide) rfl rfl rfl (Nat.le_of_ble_eq_true rfl) (fun X hG ho hl O => ?_)
  subst hG
  subst hl
  exact k_sub [0, 1] rfl (w_X2_take_0 O hN ho h)
def b_X2_read_54 (p2 : Nat) (w : Wd) : Option (Int32 × Wd) := if (w.1 10 1) = ((1 : Int32)) then (some ((-9 : Int32), w)) else (some (w.1 1 1, w))
def b_X2_read_19 (p2 : Nat) : Nat → Wd → Int32 → Option (Int32 × Wd)
  | 0, _, _ => none
  | n + 1, w, v3 => if ((64 : Int32)) ≤ v3 then (b_X2_read_54 p2 w) else (if (w.1 1 1) ≤ v3 then (b_X2_read_54 p2 w) else (gd (inb v3 64) (bd (f_X2_take w (w.1 2 v3.toNatClampNeg)) (fun r6 w5 => if r6 = 0 then (some (v3, w5)) else (nm (v3 + (1 : Int32)) (fun x8 => b_X2_read_19 p2 n w5 x8))))))
def b_X2_read_0 (p2 : Nat) (w : Wd) : Option (Int32 × Wd) := nm (up w 10 0 (Int32.ofNat p2)) (fun w1 => gd (plb (w1.1 10 0).toNatClampNeg) (bv (f_X1_clear ((w1.1 10 0).toNatClampNeg) w1) (fun w4 => nm (up w4 10 1 ((0 : Int32))) (fun w5 => b_X2_read_19 p2 LF w5 ((0 : Int32))))))
def f_X2_read (p2 : Nat) (w : Wd) : Option (Int32 × Wd) := b_X2_read_0 p2 w 
set_option maxHeartbeats 4000000 in
set_option maxRecDepth 100000 in
theorem w_X2_read_54 {X : Cx} {rz : Int32} {wz : Wd} (O : Ok X cX2_read RX2 ((some .int)) wsX2_read (5) (106) 4) {p2 : Nat} (h_p2 : plb p2 = true) (n_p2 : p2 + 6 < g_N X.1) (hN : 105 ≤ g_N X.1) (ho : Ro X (some (.int rz), wz)) {w : Wd} (h : b_X2_read_54 p2 w  = some (rz, wz)) : Wk X w 54 [(0, .ref (g_ad X.1 10)), (1, .ref (g_ad X.1 1))] [] := by
  unfold b_X2_read_54 at h
  refine k_aload_n O dX2_read_54 0 rfl ?_
  refine k_get O (v := .int (w.1 10 1)) (k := 10) (by omega) E_10 rfl 1 (by decide) (fun _ h9 => List.mem_cons_of_mem _ (List.mem_append_left _ (List.mem_append_left _ (List.mem_append_right _ h9)))) (List.mem_of_getElem? (i := 2) rfl) rfl dX2_read_55 ?_
  refine k_iconst O dX2_read_58 (v := 1) (by decide) ?_
  refine k_icmp_ne O 67 dX2_read_59 (by decide) (fun c1 => ?_) (fun c1 => ?_)
  · have h := ite_f c1 h
    refine k_aload_n O dX2_read_67 1 rfl ?_
    refine k_get O (v := .int (w.1 1 1)) (k := 1) (by omega) E_1 rfl 1 (by decide) (fun _ h9 => List.mem_cons_of_mem _ (List.mem_append_left _ (List.mem_append_right _ h9))) (List.mem_of_getElem? (i := 3) rfl) rfl dX2_read_68 ?_
    exact k_iret O dX2_read_71 (rt_int h ho)
  · have h := ite_t c1 h
    refine k_bipush O dX2_read_62 (v := -9) (by decide) ?_
    refine k_goto O 71 dX2_read_64 (by decide) ?_
    exact k_iret O dX2_read_71 (rt_int h ho)
set_option maxHeartbeats 4000000 in
set_option maxRecDepth 100000 in
theorem w_X2_read_19 {X : Cx} {rz : Int32} {wz : Wd} (O : Ok X cX2_read RX2 ((some .int)) wsX2_read (5) (106) 4) {p2 : Nat} (h_p2 : plb p2 = true) (n_p2 : p2 + 6 < g_N X.1) (hN : 105 ≤ g_N X.1) (ho : Ro X (some (.int rz), wz)) (n : Nat) : ∀ {w : Wd} {v3 : Int32}, b_X2_read_19 p2 n w v3 = some (rz, wz) → Wk X w 19 [(0, .ref (g_ad X.1 10)), (1, .ref (g_ad X.1 1)), (3, .int v3)] [] := by
  induction n with
  | zero => intro w v3 h; exact nomatch (show (none : Option (Int32 × Wd)) = some _ from h)
  | succ n ih =>
    intro w v3 h
    rw [b_X2_read_19] at h
    refine k_iload_n O dX2_read_19 2 rfl ?_
    refine k_bipush O dX2_read_20 (v := 64) (by decide) ?_
    refine k_icmp_ge O 54 dX2_read_22 (by decide) (fun c1 => ?_) (fun c1 => ?_)
    · have h := ite_t c1 h
      exact k_sub [0, 1] rfl (w_X2_read_54 O h_p2 n_p2 hN ho h)
    · have h := ite_f c1 h
      refine k_iload_n O dX2_read_25 2 rfl ?_
      refine k_aload_n O dX2_read_26 1 rfl ?_
      refine k_get O (v := .int (w.1 1 1)) (k := 1) (by omega) E_1 rfl 1 (by decide) (fun _ h9 => List.mem_cons_of_mem _ (List.mem_append_left _ (List.mem_append_right _ h9))) (List.mem_of_getElem? (i := 3) rfl) rfl dX2_read_27 ?_
      refine k_icmp_ge O 54 dX2_read_30 (by decide) (fun c2 => ?_) (fun c2 => ?_)
      · have h := ite_t c2 h
        exact k_sub [0, 1] rfl (w_X2_read_54 O h_p2 n_p2 hN ho h)
      · have h := ite_f c2 h
        refine k_aload_n O dX2_read_33 0 rfl ?_
        refine k_aload_n O dX2_read_34 1 rfl ?_
        refine k_get O (v := .ref (g_ad X.1 2)) (k := 1) (by omega) E_1 rfl 0 (by decide) (fun _ h9 => List.mem_cons_of_mem _ (List.mem_append_left _ (List.mem_append_right _ h9))) (List.mem_of_getElem? (i := 4) rfl) rfl dX2_read_35 ?_
        refine k_iload_n O dX2_read_38 2 rfl ?_
        obtain ⟨g3, h⟩ := gd_some h
        refine k_iald O (k := 2) (by omega) E_2 g3 dX2_read_39 ?_
        obtain ⟨r6, w5, hc4, h⟩ := bd_some h
        refine k_callVi O (As := [.int (w.1 2 v3.toNatClampNeg)]) (rest := []) (k := 10) (c_X2_take (x_l X) X.1 hN hc4) gX2_read_X2_take rfl hd_X2_take (by decide) (by omega) E_10 rfl rfl rfl rfl rfl (Nat.le_of_ble_eq_true rfl) dX2_read_40 ?_
        refine k_if_ne O 48 dX2_read_43 (by decide) (fun c7 => ?_) (fun c7 => ?_)
        · have h := ite_f c7 h
          obtain ⟨x8, ex8⟩ : ∃ z : Int32, z = v3 + (1 : Int32) := ⟨_, rfl⟩
          have h := nm_use h x8 ex8
          refine k_iinc (lv' := [(3, .int x8), (0, .ref (g_ad X.1 10)), (1, .ref (g_ad X.1 1))]) O dX2_read_48 2 rfl (by rw [ex8]; rfl) (by decide) rfl ?_
          refine k_goto O 19 dX2_read_51 (by decide) ?_
          exact k_sub [1, 2, 0] rfl (ih h)
        · have h := ite_t c7 h
          refine k_iload_n O dX2_read_46 2 rfl ?_
          exact k_iret O dX2_read_47 (rt_int h ho)
set_option maxHeartbeats 4000000 in
set_option maxRecDepth 100000 in
theorem w_X2_read_0 {X : Cx} {rz : Int32} {wz : Wd} (O : Ok X cX2_read RX2 ((some .int)) wsX2_read (5) (106) 4) {p2 : Nat} (h_p2 : plb p2 = true) (n_p2 : p2 + 6 < g_N X.1) (hN : 105 ≤ g_N X.1) (ho : Ro X (some (.int rz), wz)) {w : Wd} (h : b_X2_read_0 p2 w  = some (rz, wz)) : Wk X w 0 [(0, .ref (g_ad X.1 10)), (1, .ref (g_ad X.1 1)), (2, .ref (g_ad X.1 p2))] [] := by
  unfold b_X2_read_0 at h
  refine k_aload_n O dX2_read_0 0 rfl ?_
  refine k_aload_n O dX2_read_1 2 rfl ?_
  refine k_put O (k := 10) (v := .ref (g_ad X.1 p2)) (w' := up w 10 0 (Int32.ofNat p2)) tyX2 tyX2_ok nmX2 (by omega) E_10 rfl 0 (by decide) (fun _ h9 => List.mem_cons_of_mem _ (List.mem_append_left _ (List.mem_append_left _ (List.mem_append_right _ h9)))) (List.mem_of_getElem? (i := 1) rfl) rfl rfl rfl (Nat.le_of_ble_eq_true rfl) up_ot (by rw [up_at, E_10]; show _ = (Sum.inr (2, _) : va_E); simp [upd, pl_back h_p2]) dX2_read_2 ?_
  refine k_nw (fun w1 ew1 => ?_)
  have h := nm_use h w1 ew1
  refine k_aload_n O dX2_read_5 0 rfl ?_
  obtain ⟨g2, h⟩ := gd_some h
  have qg2 := plb_lt g2
  refine k_get O (v := .ref (g_ad X.1 ((w1.1 10 0).toNatClampNeg))) (k := 10) (by omega) E_10 rfl 0 (by decide) (fun _ h9 => List.mem_cons_of_mem _ (List.mem_append_left _ (List.mem_append_left _ (List.mem_append_right _ h9)))) (List.mem_of_getElem? (i := 1) rfl) rfl dX2_read_6 ?_
  obtain ⟨w4, hc3, h⟩ := bv_some h
  refine k_callVv O (As := []) (rest := []) (k := ((w1.1 10 0).toNatClampNeg)) (c_X1_clear (x_l X) X.1 g2 (by omega) hc3) gX2_read_X1_clear rfl hd_X1_clear (by decide) (by omega) (E_pl g2) rfl rfl rfl rfl rfl (Nat.le_of_ble_eq_true rfl) dX2_read_9 ?_
  refine k_aload_n O dX2_read_12 0 rfl ?_
  refine k_iconst O dX2_read_13 (v := 0) (by decide) ?_
  refine k_puti O (k := 10) tyX2 tyX2_ok nmX2 (by omega) E_10 rfl 1 (by decide) (fun _ h9 => List.mem_cons_of_mem _ (List.mem_append_left _ (List.mem_append_left _ (List.mem_append_right _ h9)))) (List.mem_of_getElem? (i := 2) rfl) rfl rfl rfl (Nat.le_of_ble_eq_true rfl) (E_10.trans rfl) dX2_read_14 ?_
  refine k_nw (fun w5 ew5 => ?_)
  have h := nm_use h w5 ew5
  refine k_iconst O dX2_read_17 (v := 0) (by decide) ?_
  refine k_istore_n (lv' := [(3, .int ((0 : Int32))), (0, .ref (g_ad X.1 10)), (1, .ref (g_ad X.1 1)), (2, .ref (g_ad X.1 p2))]) O dX2_read_18 rfl (by decide) rfl ?_
  exact k_sub [1, 2, 0] rfl (w_X2_read_19 O h_p2 n_p2 hN ho LF h)
theorem c_X2_read (l : Launch) (G : Gl) {p2 : Nat} (h_p2 : plb p2 = true) (n_p2 : p2 + 6 < g_N G) (hN : 105 ≤ g_N G) {w wz : Wd} {rz : Int32} (h : f_X2_read p2 w  = some (rz, wz)) : Ct l yX2_read wsX2_read (5) (106) G [.ref (g_ad G 10), .ref (g_ad G 1), .ref (g_ad G p2)] w (some (.int rz), wz) := by
  refine Ct.start (by decide) rfl rfl rfl (Nat.le_of_ble_eq_true rfl) (fun X hG ho hl O => ?_)
  subst hG
  subst hl
  exact k_sub [0, 1, 2] rfl (w_X2_read_0 O h_p2 n_p2 hN ho h)
def b_X5_append_5 : Nat → Wd → Int64 → Int32 → Option (Int32 × Wd)
  | 0, _, _, _ => none
  | n + 1, w, v2, v4 => if v4 < 0 then (some (w.1 1 1, w)) else (if (w.1 1 1) < 0 then (some (w.1 1 1, w)) else (if ((64 : Int32)) ≤ (w.1 1 1) then (some (w.1 1 1, w)) else (gd (inb (w.1 1 1) 64) (nm (up w 2 (w.1 1 1).toNatClampNeg ((((((v2).toUInt64 >>> (((((8 : Int32)) * v4)).toInt64.toUInt64 &&& Int64.toUInt64 63)).toInt64)).toInt32) &&& ((255 : Int32)))) (fun w5 => nm (up w5 1 1 ((w5.1 1 1) + ((1 : Int32)))) (fun w6 => nm (v4 + (-1 : Int32)) (fun x7 => b_X5_append_5 n w6 v2 x7)))))))
def b_X5_append_0 (w : Wd) (v1 : Int32) (v2 : Int64) : Option (Int32 × Wd) := nm (v1 - ((1 : Int32))) (fun x1 => b_X5_append_5 LF w v2 x1)
def f_X5_append (w : Wd) (v1 : Int32) (v2 : Int64) : Option (Int32 × Wd) := b_X5_append_0 w v1 v2
set_option maxHeartbeats 4000000 in
set_option maxRecDepth 100000 in
theorem w_X5_append_5 {X : Cx} {rz : Int32} {wz : Wd} (O : Ok X cX5_append RX5 ((some .int)) wsX5_append (0) (0) 5) (hN : 105 ≤ g_N X.1) (ho : Ro X (some (.int rz), wz)) (n : Nat) : ∀ {w : Wd} {v2 : Int64} {v4 : Int32}, b_X5_append_5 n w v2 v4 = some (rz, wz) → Wk X w 5 [(0, .ref (g_ad X.1 1)), (2, .long v2), (4, .int v4)] [] := by
  induction n with
  | zero => intro w v2 v4 h; exact nomatch (show (none : Option (Int32 × Wd)) = some _ from h)
  | succ n ih =>
    intro w v2 v4 h
    rw [b_X5_append_5] at h
    refine k_iload O dX5_append_5 2 rfl ?_
    refine k_if_lt O 63 dX5_append_7 (by decide) (fun c1 => ?_) (fun c1 => ?_)
    · have h := ite_t c1 h
      refine k_aload_n O dX5_append_63 0 rfl ?_
      refine k_get O (v := .int (w.1 1 1)) (k := 1) (by omega) E_1 rfl 1 (by decide) (fun _ h9 => List.mem_cons_of_mem _ (List.mem_append_right _ h9)) (List.mem_of_getElem? (i := 1) rfl) rfl dX5_append_64 ?_
      exact k_iret O dX5_append_67 (rt_int h ho)
    · have h := ite_f c1 h
      refine k_aload_n O dX5_append_10 0 rfl ?_
      refine k_get O (v := .int (w.1 1 1)) (k := 1) (by omega) E_1 rfl 1 (by decide) (fun _ h9 => List.mem_cons_of_mem _ (List.mem_append_right _ h9)) (List.mem_of_getElem? (i := 1) rfl) rfl dX5_append_11 ?_
      refine k_if_lt O 63 dX5_append_14 (by decide) (fun c2 => ?_) (fun c2 => ?_)
      · have h := ite_t c2 h
        refine k_aload_n O dX5_append_63 0 rfl ?_
        refine k_get O (v := .int (w.1 1 1)) (k := 1) (by omega) E_1 rfl 1 (by decide) (fun _ h9 => List.mem_cons_of_mem _ (List.mem_append_right _ h9)) (List.mem_of_getElem? (i := 1) rfl) rfl dX5_append_64 ?_
        exact k_iret O dX5_append_67 (rt_int h ho)
      · have h := ite_f c2 h
        refine k_aload_n O dX5_append_17 0 rfl ?_
        refine k_get O (v := .int (w.1 1 1)) (k := 1) (by omega) E_1 rfl 1 (by decide) (fun _ h9 => List.mem_cons_of_mem _ (List.mem_append_right _ h9)) (List.mem_of_getElem? (i := 1) rfl) rfl dX5_append_18 ?_
        refine k_bipush O dX5_append_21 (v := 64) (by decide) ?_
        refine k_icmp_ge O 63 dX5_append_23 (by decide) (fun c3 => ?_) (fun c3 => ?_)
        · have h := ite_t c3 h
          refine k_aload_n O dX5_append_63 0 rfl ?_
          refine k_get O (v := .int (w.1 1 1)) (k := 1) (by omega) E_1 rfl 1 (by decide) (fun _ h9 => List.mem_cons_of_mem _ (List.mem_append_right _ h9)) (List.mem_of_getElem? (i := 1) rfl) rfl dX5_append_64 ?_
          exact k_iret O dX5_append_67 (rt_int h ho)
        · have h := ite_f c3 h
          refine k_aload_n O dX5_append_26 0 rfl ?_
          refine k_get O (v := .ref (g_ad X.1 2)) (k := 1) (by omega) E_1 rfl 0 (by decide) (fun _ h9 => List.mem_cons_of_mem _ (List.mem_append_right _ h9)) (List.mem_of_getElem? (i := 2) rfl) rfl dX5_append_27 ?_
          refine k_aload_n O dX5_append_30 0 rfl ?_
          refine k_get O (v := .int (w.1 1 1)) (k := 1) (by omega) E_1 rfl 1 (by decide) (fun _ h9 => List.mem_cons_of_mem _ (List.mem_append_right _ h9)) (List.mem_of_getElem? (i := 1) rfl) rfl dX5_append_31 ?_
          refine k_lload_n O dX5_append_34 1 rfl ?_
          refine k_bipush O dX5_append_35 (v := 8) (by decide) ?_
          refine k_iload O dX5_append_37 2 rfl ?_
          refine k_imul O dX5_append_39 ?_
          refine k_lushr O dX5_append_40 ?_
          refine k_l2i O dX5_append_41 ?_
          refine k_sipush O dX5_append_42 (v := 255) (by decide) ?_
          refine k_iand O dX5_append_45 ?_
          obtain ⟨g4, h⟩ := gd_some h
          refine k_iast O (k := 2) (by omega) E_2 (fun _ => E_2) g4 dX5_append_46 ?_
          refine k_nw (fun w5 ew5 => ?_)
          have h := nm_use h w5 ew5
          refine k_aload_n O dX5_append_47 0 rfl ?_
          refine k_dup O dX5_append_48 rfl ?_
          refine k_get O (v := .int (w5.1 1 1)) (k := 1) (by omega) E_1 rfl 1 (by decide) (fun _ h9 => List.mem_cons_of_mem _ (List.mem_append_right _ h9)) (List.mem_of_getElem? (i := 1) rfl) rfl dX5_append_49 ?_
          refine k_iconst O dX5_append_52 (v := 1) (by decide) ?_
          refine k_iadd O dX5_append_53 ?_
          refine k_puti O (k := 1) tyX5 tyX5_ok nmX5 (by omega) E_1 rfl 1 (by decide) (fun _ h9 => List.mem_cons_of_mem _ (List.mem_append_right _ h9)) (List.mem_of_getElem? (i := 1) rfl) rfl rfl rfl (Nat.le_of_ble_eq_true rfl) (E_1.trans rfl) dX5_append_54 ?_
          refine k_nw (fun w6 ew6 => ?_)
          have h := nm_use h w6 ew6
          obtain ⟨x7, ex7⟩ : ∃ z : Int32, z = v4 + (-1 : Int32) := ⟨_, rfl⟩
          have h := nm_use h x7 ex7
          refine k_iinc (lv' := [(4, .int x7), (0, .ref (g_ad X.1 1)), (2, .long v2)]) O dX5_append_57 2 rfl (by rw [ex7]; rfl) (by decide) rfl ?_
          refine k_goto O 5 dX5_append_60 (by decide) ?_
          exact k_sub [1, 2, 0] rfl (ih h)
set_option maxHeartbeats 4000000 in
set_option maxRecDepth 100000 in
theorem w_X5_append_0 {X : Cx} {rz : Int32} {wz : Wd} (O : Ok X cX5_append RX5 ((some .int)) wsX5_append (0) (0) 5) (hN : 105 ≤ g_N X.1) (ho : Ro X (some (.int rz), wz)) {w : Wd} {v1 : Int32} {v2 : Int64} (h : b_X5_append_0 w v1 v2 = some (rz, wz)) : Wk X w 0 [(0, .ref (g_ad X.1 1)), (1, .int v1), (2, .long v2)] [] := by
  unfold b_X5_append_0 at h
  refine k_iload_n O dX5_append_0 1 rfl ?_
  refine k_iconst O dX5_append_1 (v := 1) (by decide) ?_
  refine k_isub O dX5_append_2 ?_
  refine k_topi (fun x1 ex1 => ?_)
  have h := nm_use h x1 ex1
  refine k_istore (lv' := [(4, .int x1), (0, .ref (g_ad X.1 1)), (1, .int v1), (2, .long v2)]) O dX5_append_3 (by decide) rfl ?_
  exact k_sub [1, 3, 0] rfl (w_X5_append_5 O hN ho LF h)
theorem c_X5_append (l : Launch) (G : Gl) (hN : 105 ≤ g_N G) {w wz : Wd} {v1 : Int32} {v2 : Int64} {rz : Int32} (h : f_X5_append w v1 v2 = some (rz, wz)) : Ct l yX5_append wsX5_append (0) (0) G [.ref (g_ad G 1), .int v1, .long v2] w (some (.int rz), wz) := by
  refine Ct.start (by decide) rfl rfl rfl (Nat.le_of_ble_eq_true rfl) (fun X hG ho hl O => ?_)
  subst hG
  subst hl
  exact k_sub [0, 1, 2] rfl (w_X5_append_0 O hN ho h)
