def b_X4_wholeOf_4 : Nat → Wd → Int32 → Int32 → Int32 → Option (Int32 × Wd)
  | 0, _, _, _, _ => none
  | n + 1, w, v0, v1, v2 => if ((4 : Int32)) ≤ v2 then (some (v1, w)) else (if v0 ≤ v2 then (some (v1, w)) else (nm (v1 * ((12 : Int32))) (fun x3 => nm (v2 + (1 : Int32)) (fun x4 => b_X4_wholeOf_4 n w v0 x3 x4))))
def b_X4_wholeOf_0 (w : Wd) (v0 : Int32) : Option (Int32 × Wd) := b_X4_wholeOf_4 LF w v0 ((1 : Int32)) ((0 : Int32))
def f_X4_wholeOf (w : Wd) (v0 : Int32) : Option (Int32 × Wd) := b_X4_wholeOf_0 w v0
set_option maxHeartbeats 4000000 in
set_option maxRecDepth 100000 in
theorem w_X4_wholeOf_4 {X : Cx} {rz : Int32} {wz : Wd} (O : Ok X cX4_wholeOf RX4 ((some .int)) wsX4_wholeOf (0) (0) 3) (ho : Ro X (some (.int rz), wz)) (n : Nat) : ∀ {w : Wd} {v0 : Int32} {v1 : Int32} {v2 : Int32}, b_X4_wholeOf_4 n w v0 v1 v2 = some (rz, wz) → Wk X w 4 [(0, .int v0), (1, .int v1), (2, .int v2)] [] := by
  induction n with
  | zero => intro w v0 v1 v2 h; exact nomatch (show (none : Option (Int32 × Wd)) = some _ from h)
  | succ n ih =>
    intro w v0 v1 v2 h
    rw [b_X4_wholeOf_4] at h
    refine k_iload_n O dX4_wholeOf_4 2 rfl ?_
    refine k_iconst O dX4_wholeOf_5 (v := 4) (by decide) ?_
    refine k_icmp_ge O 25 dX4_wholeOf_6 (by decide) (fun c1 => ?_) (fun c1 => ?_)
    · have h := ite_t c1 h
      refine k_iload_n O dX4_wholeOf_25 1 rfl ?_
      exact k_iret O dX4_wholeOf_26 (rt_int h ho)
    · have h := ite_f c1 h
      refine k_iload_n O dX4_wholeOf_9 2 rfl ?_
      refine k_iload_n O dX4_wholeOf_10 0 rfl ?_
      refine k_icmp_ge O 25 dX4_wholeOf_11 (by decide) (fun c2 => ?_) (fun c2 => ?_)
      · have h := ite_t c2 h
        refine k_iload_n O dX4_wholeOf_25 1 rfl ?_
        exact k_iret O dX4_wholeOf_26 (rt_int h ho)
      · have h := ite_f c2 h
        refine k_iload_n O dX4_wholeOf_14 1 rfl ?_
        refine k_bipush O dX4_wholeOf_15 (v := 12) (by decide) ?_
        refine k_imul O dX4_wholeOf_17 ?_
        refine k_topi (fun x3 ex3 => ?_)
        have h := nm_use h x3 ex3
        refine k_istore_n (lv' := [(1, .int x3), (0, .int v0), (2, .int v2)]) O dX4_wholeOf_18 rfl (by decide) rfl ?_
        obtain ⟨x4, ex4⟩ : ∃ z : Int32, z = v2 + (1 : Int32) := ⟨_, rfl⟩
        have h := nm_use h x4 ex4
        refine k_iinc (lv' := [(2, .int x4), (1, .int x3), (0, .int v0)]) O dX4_wholeOf_19 2 rfl (by rw [ex4]; rfl) (by decide) rfl ?_
        refine k_goto O 4 dX4_wholeOf_22 (by decide) ?_
        exact k_sub [2, 1, 0] rfl (ih h)
set_option maxHeartbeats 4000000 in
set_option maxRecDepth 100000 in
theorem w_X4_wholeOf_0 {X : Cx} {rz : Int32} {wz : Wd} (O : Ok X cX4_wholeOf RX4 ((some .int)) wsX4_wholeOf (0) (0) 3) (ho : Ro X (some (.int rz), wz)) {w : Wd} {v0 : Int32} (h : b_X4_wholeOf_0 w v0 = some (rz, wz)) : Wk X w 0 [(0, .int v0)] [] := by
  unfold b_X4_wholeOf_0 at h
  refine k_iconst O dX4_wholeOf_0 (v := 1) (by decide) ?_
  refine k_istore_n (lv' := [(1, .int ((1 : Int32))), (0, .int v0)]) O dX4_wholeOf_1 rfl (by decide) rfl ?_
  refine k_iconst O dX4_wholeOf_2 (v := 0) (by decide) ?_
  refine k_istore_n (lv' := [(2, .int ((0 : Int32))), (1, .int ((1 : Int32))), (0, .int v0)]) O dX4_wholeOf_3 rfl (by decide) rfl ?_
  exact k_sub [2, 1, 0] rfl (w_X4_wholeOf_4 O ho LF h)
theorem c_X4_wholeOf (l : Launch) (G : Gl) {w wz : Wd} {v0 : Int32} {rz : Int32} (h : f_X4_wholeOf w v0 = some (rz, wz)) : Ct l yX4_wholeOf wsX4_wholeOf (0) (0) G [.int v0] w (some (.int rz), wz) := by
  refine Ct.start (by decide) rfl rfl rfl (Nat.le_of_ble_eq_true rfl) (fun X hG ho hl O => ?_)
  subst hG
  subst hl
  exact k_sub [0] rfl (w_X4_wholeOf_0 O ho h)
def b_X4_caughtOn_56 (rc : Wd → Int32 → Int32 → Int32 → Int32 → Int32 → Option (Int32 × Wd)) (w : Wd) (v1 : Int32) (v2 : Int32) (v3 : Int32) (v4 : Int32) (v5 : Int32) : Option (Int32 × Wd) := bd (rc w v1 v2 v3 (v4 - ((1 : Int32))) v5) (fun r3 w2 => some (r3, w2))
def b_X4_caughtOn_0 (rc : Wd → Int32 → Int32 → Int32 → Int32 → Int32 → Option (Int32 × Wd)) (w : Wd) (v1 : Int32) (v2 : Int32) (v3 : Int32) (v4 : Int32) (v5 : Int32) : Option (Int32 × Wd) := if v1 = (w.1 94 2) then (some (v5, w)) else (nm (v2 &&& ((w.1 11 3) ^^^ ((-1 : Int32)))) (fun x2 => bd (f_X1_trapOn 11 w v1) (fun r5 w4 => bd (f_X1_hasTrap 11 w4 r5) (fun r8 w7 => if r8 = 0 then (b_X4_caughtOn_56 rc w7 v1 v2 v3 v4 v5) else (if ((x2 >>> (r5 &&& 31)) &&& ((1 : Int32))) = 0 then (b_X4_caughtOn_56 rc w7 v1 v2 v3 v4 v5) else (bd (f_X1_onlyWakes 11 w7 r5 v3) (fun r13 w12 => if r13 = 0 then (bd (f_X1_catches 11 w12 r5 (w12.1 94 1)) (fun r17 w16 => if r17 = 0 then (bd (f_X1_spread 11 w16 (((1 : Int32)) <<< (r5 &&& 31)) x2) (fun r21 w20 => bd (rc w20 v1 (v2 &&& (r21 ^^^ ((-1 : Int32)))) (v3 &&& (r21 ^^^ ((-1 : Int32)))) (v4 - ((1 : Int32))) v5) (fun r24 w23 => some (r24, w23)))) else (some (v5, w16)))) else (bd (rc w12 v1 v2 (v3 ||| (((1 : Int32)) <<< (r5 &&& 31))) (v4 - ((1 : Int32))) v5) (fun r27 w26 => some (r27, w26))))))))))
def f_X4_caughtOn (rc : Wd → Int32 → Int32 → Int32 → Int32 → Int32 → Option (Int32 × Wd)) (w : Wd) (v1 : Int32) (v2 : Int32) (v3 : Int32) (v4 : Int32) (v5 : Int32) : Option (Int32 × Wd) := b_X4_caughtOn_0 rc w v1 v2 v3 v4 v5
set_option maxHeartbeats 4000000 in
set_option maxRecDepth 100000 in
theorem w_X4_caughtOn_56 {X : Cx} {rz : Int32} {wz : Wd} {d : Nat} (O : Ok X cX4_caughtOn RX4 ((some .int)) wsX4_caughtOn (2 * d + 6) (130 + 60 * d) 9) {rc : Wd → Int32 → Int32 → Int32 → Int32 → Int32 → Option (Int32 × Wd)} (hrc : ∀ {w wz : Wd} {a1 a2 a3 a4 a5 rz : Int32}, rc w a1 a2 a3 a4 a5 = some (rz, wz) → Ct (x_l X) yX4_caughtFrom wsX4_caughtFrom (2 * d + 5) (100 + 60 * d) X.1 [.ref (g_ad X.1 94), .int a1, .int a2, .int a3, .int a4, .int a5] w (some (.int rz), wz)) (hN : 105 ≤ g_N X.1) (ho : Ro X (some (.int rz), wz)) {w : Wd} {v1 : Int32} {v2 : Int32} {v3 : Int32} {v4 : Int32} {v5 : Int32} (h : b_X4_caughtOn_56 rc w v1 v2 v3 v4 v5 = some (rz, wz)) : Wk X w 56 [(0, .ref (g_ad X.1 94)), (1, .int v1), (2, .int v2), (3, .int v3), (4, .int v4), (5, .int v5)] [] := by
  unfold b_X4_caughtOn_56 at h
  refine k_aload_n O dX4_caughtOn_56 0 rfl ?_
  refine k_iload_n O dX4_caughtOn_57 1 rfl ?_
  refine k_iload_n O dX4_caughtOn_58 2 rfl ?_
  refine k_iload_n O dX4_caughtOn_59 3 rfl ?_
  refine k_iload O dX4_caughtOn_60 4 rfl ?_
  refine k_iconst O dX4_caughtOn_62 (v := 1) (by decide) ?_
  refine k_isub O dX4_caughtOn_63 ?_
  refine k_iload O dX4_caughtOn_64 5 rfl ?_
  obtain ⟨r3, w2, hc1, h⟩ := bd_some h
  refine k_callVi O (As := [.int v1, .int v2, .int v3, .int (v4 - ((1 : Int32))), .int v5]) (rest := []) (k := 94) (hrc hc1) gX4_caughtOn_X4_caughtFrom rfl hd_X4_caughtFrom ⟨by omega, by omega⟩ (by omega) E_94 rfl rfl rfl rfl rfl (Nat.le_of_ble_eq_true rfl) dX4_caughtOn_66 ?_
  exact k_iret O dX4_caughtOn_69 (rt_int h ho)
set_option maxHeartbeats 4000000 in
set_option maxRecDepth 100000 in
theorem w_X4_caughtOn_0 {X : Cx} {rz : Int32} {wz : Wd} {d : Nat} (O : Ok X cX4_caughtOn RX4 ((some .int)) wsX4_caughtOn (2 * d + 6) (130 + 60 * d) 9) {rc : Wd → Int32 → Int32 → Int32 → Int32 → Int32 → Option (Int32 × Wd)} (hrc : ∀ {w wz : Wd} {a1 a2 a3 a4 a5 rz : Int32}, rc w a1 a2 a3 a4 a5 = some (rz, wz) → Ct (x_l X) yX4_caughtFrom wsX4_caughtFrom (2 * d + 5) (100 + 60 * d) X.1 [.ref (g_ad X.1 94), .int a1, .int a2, .int a3, .int a4, .int a5] w (some (.int rz), wz)) (hN : 105 ≤ g_N X.1) (ho : Ro X (some (.int rz), wz)) {w : Wd} {v1 : Int32} {v2 : Int32} {v3 : Int32} {v4 : Int32} {v5 : Int32} (h : b_X4_caughtOn_0 rc w v1 v2 v3 v4 v5 = some (rz, wz)) : Wk X w 0 [(0, .ref (g_ad X.1 94)), (1, .int v1), (2, .int v2), (3, .int v3), (4, .int v4), (5, .int v5)] [] := by
  unfold b_X4_caughtOn_0 at h
  refine k_iload_n O dX4_caughtOn_0 1 rfl ?_
  refine k_aload_n O dX4_caughtOn_1 0 rfl ?_
  refine k_get O (v := .int (w.1 94 2)) (k := 94) (by omega) E_94 rfl 2 (by decide) (fun _ h9 => List.mem_cons_of_mem _ (List.mem_append_left _ (List.mem_append_right _ h9))) (List.mem_of_getElem? (i := 1) rfl) rfl dX4_caughtOn_2 ?_
  refine k_icmp_ne O 11 dX4_caughtOn_5 (by decide) (fun c1 => ?_) (fun c1 => ?_)
  · have h := ite_f c1 h
    refine k_iload_n O dX4_caughtOn_11 2 rfl ?_
    refine k_aload_n O dX4_caughtOn_12 0 rfl ?_
    refine k_get O (v := .ref (g_ad X.1 11)) (k := 94) (by omega) E_94 rfl 0 (by decide) (fun _ h9 => List.mem_cons_of_mem _ (List.mem_append_left _ (List.mem_append_right _ h9))) (List.mem_of_getElem? (i := 2) rfl) rfl dX4_caughtOn_13 ?_
    refine k_get O (v := .int (w.1 11 3)) (k := 11) (by omega) (E_pl (by decide)) rfl 3 (by decide) (fun _ h9 => List.mem_cons_of_mem _ (List.mem_append_right _ h9)) (List.mem_of_getElem? (i := 3) rfl) rfl dX4_caughtOn_16 ?_
    refine k_iconst O dX4_caughtOn_19 (v := -1) (by decide) ?_
    refine k_ixor O dX4_caughtOn_20 ?_
    refine k_iand O dX4_caughtOn_21 ?_
    refine k_topi (fun x2 ex2 => ?_)
    have h := nm_use h x2 ex2
    refine k_istore (lv' := [(6, .int x2), (0, .ref (g_ad X.1 94)), (1, .int v1), (2, .int v2), (3, .int v3), (4, .int v4), (5, .int v5)]) O dX4_caughtOn_22 (by decide) rfl ?_
    refine k_aload_n O dX4_caughtOn_24 1 rfl ?_
    refine k_get O (v := .ref (g_ad X.1 11)) (k := 94) (by omega) E_94 rfl 0 (by decide) (fun _ h9 => List.mem_cons_of_mem _ (List.mem_append_left _ (List.mem_append_right _ h9))) (List.mem_of_getElem? (i := 2) rfl) rfl dX4_caughtOn_25 ?_
    refine k_iload_n O dX4_caughtOn_28 2 rfl ?_
    obtain ⟨r5, w4, hc3, h⟩ := bd_some h
    refine k_callVi O (As := [.int v1]) (rest := []) (k := 11) (c_X1_trapOn (x_l X) X.1 (by decide) (by omega) hc3) gX4_caughtOn_X1_trapOn rfl hd_X1_trapOn ⟨by omega, by omega⟩ (by omega) (E_pl (by decide)) rfl rfl rfl rfl rfl (Nat.le_of_ble_eq_true rfl) dX4_caughtOn_29 ?_
    refine k_istore (lv' := [(7, .int r5), (6, .int x2), (0, .ref (g_ad X.1 94)), (1, .int v1), (2, .int v2), (3, .int v3), (4, .int v4), (5, .int v5)]) O dX4_caughtOn_32 (by decide) rfl ?_
    refine k_aload_n O dX4_caughtOn_34 2 rfl ?_
    refine k_get O (v := .ref (g_ad X.1 11)) (k := 94) (by omega) E_94 rfl 0 (by decide) (fun _ h9 => List.mem_cons_of_mem _ (List.mem_append_left _ (List.mem_append_right _ h9))) (List.mem_of_getElem? (i := 2) rfl) rfl dX4_caughtOn_35 ?_
    refine k_iload O dX4_caughtOn_38 0 rfl ?_
    obtain ⟨r8, w7, hc6, h⟩ := bd_some h
    refine k_callVi O (As := [.int r5]) (rest := []) (k := 11) (c_X1_hasTrap (x_l X) X.1 (by decide) (by omega) hc6) gX4_caughtOn_X1_hasTrap rfl hd_X1_hasTrap ⟨by omega, by omega⟩ (by omega) (E_pl (by decide)) rfl rfl rfl rfl rfl (Nat.le_of_ble_eq_true rfl) dX4_caughtOn_40 ?_
    refine k_if_eq O 56 dX4_caughtOn_43 (by decide) (fun c9 => ?_) (fun c9 => ?_)
    · have h := ite_t c9 h
      exact k_sub [2, 3, 4, 5, 6, 7] rfl (w_X4_caughtOn_56 O hrc hN ho h)
    · have h := ite_f c9 h
      refine k_iload O dX4_caughtOn_46 1 rfl ?_
      refine k_iload O dX4_caughtOn_48 0 rfl ?_
      refine k_ishr O dX4_caughtOn_50 ?_
      refine k_iconst O dX4_caughtOn_51 (v := 1) (by decide) ?_
      refine k_iand O dX4_caughtOn_52 ?_
      refine k_if_ne O 70 dX4_caughtOn_53 (by decide) (fun c10 => ?_) (fun c10 => ?_)
      · have h := ite_f c10 h
        refine k_aload_n O dX4_caughtOn_70 2 rfl ?_
        refine k_get O (v := .ref (g_ad X.1 11)) (k := 94) (by omega) E_94 rfl 0 (by decide) (fun _ h9 => List.mem_cons_of_mem _ (List.mem_append_left _ (List.mem_append_right _ h9))) (List.mem_of_getElem? (i := 2) rfl) rfl dX4_caughtOn_71 ?_
        refine k_iload O dX4_caughtOn_74 0 rfl ?_
        refine k_iload_n O dX4_caughtOn_76 5 rfl ?_
        obtain ⟨r13, w12, hc11, h⟩ := bd_some h
        refine k_callVi O (As := [.int r5, .int v3]) (rest := []) (k := 11) (c_X1_onlyWakes (x_l X) X.1 (by decide) (by omega) hc11) gX4_caughtOn_X1_onlyWakes rfl hd_X1_onlyWakes ⟨by omega, by omega⟩ (by omega) (E_pl (by decide)) rfl rfl rfl rfl rfl (Nat.le_of_ble_eq_true rfl) dX4_caughtOn_77 ?_
        refine k_if_eq O 102 dX4_caughtOn_80 (by decide) (fun c14 => ?_) (fun c14 => ?_)
        · have h := ite_t c14 h
          refine k_aload_n O dX4_caughtOn_102 2 rfl ?_
          refine k_get O (v := .ref (g_ad X.1 11)) (k := 94) (by omega) E_94 rfl 0 (by decide) (fun _ h9 => List.mem_cons_of_mem _ (List.mem_append_left _ (List.mem_append_right _ h9))) (List.mem_of_getElem? (i := 2) rfl) rfl dX4_caughtOn_103 ?_
          refine k_iload O dX4_caughtOn_106 0 rfl ?_
          refine k_aload_n O dX4_caughtOn_108 2 rfl ?_
          refine k_get O (v := .int (w12.1 94 1)) (k := 94) (by omega) E_94 rfl 1 (by decide) (fun _ h9 => List.mem_cons_of_mem _ (List.mem_append_left _ (List.mem_append_right _ h9))) (List.mem_of_getElem? (i := 4) rfl) rfl dX4_caughtOn_109 ?_
          obtain ⟨r17, w16, hc15, h⟩ := bd_some h
          refine k_callVi O (As := [.int r5, .int (w12.1 94 1)]) (rest := []) (k := 11) (c_X1_catches (x_l X) X.1 (by decide) (by omega) hc15) gX4_caughtOn_X1_catches rfl hd_X1_catches ⟨by omega, by omega⟩ (by omega) (E_pl (by decide)) rfl rfl rfl rfl rfl (Nat.le_of_ble_eq_true rfl) dX4_caughtOn_112 ?_
          refine k_if_eq O 121 dX4_caughtOn_115 (by decide) (fun c18 => ?_) (fun c18 => ?_)
          · have h := ite_t c18 h
            refine k_aload_n O dX4_caughtOn_121 2 rfl ?_
            refine k_get O (v := .ref (g_ad X.1 11)) (k := 94) (by omega) E_94 rfl 0 (by decide) (fun _ h9 => List.mem_cons_of_mem _ (List.mem_append_left _ (List.mem_append_right _ h9))) (List.mem_of_getElem? (i := 2) rfl) rfl dX4_caughtOn_122 ?_
            refine k_iconst O dX4_caughtOn_125 (v := 1) (by decide) ?_
            refine k_iload O dX4_caughtOn_126 0 rfl ?_
            refine k_ishl O dX4_caughtOn_128 ?_
            refine k_iload O dX4_caughtOn_129 1 rfl ?_
            obtain ⟨r21, w20, hc19, h⟩ := bd_some h
            refine k_callVi O (As := [.int (((1 : Int32)) <<< (r5 &&& 31)), .int x2]) (rest := []) (k := 11) (c_X1_spread (x_l X) X.1 (by decide) (by omega) hc19) gX4_caughtOn_X1_spread rfl hd_X1_spread ⟨by omega, by omega⟩ (by omega) (E_pl (by decide)) rfl rfl rfl rfl rfl (Nat.le_of_ble_eq_true rfl) dX4_caughtOn_131 ?_
            refine k_istore (lv' := [(8, .int r21), (7, .int r5), (6, .int x2), (0, .ref (g_ad X.1 94)), (1, .int v1), (2, .int v2), (3, .int v3), (4, .int v4), (5, .int v5)]) O dX4_caughtOn_134 (by decide) rfl ?_
            refine k_aload_n O dX4_caughtOn_136 3 rfl ?_
            refine k_iload_n O dX4_caughtOn_137 4 rfl ?_
            refine k_iload_n O dX4_caughtOn_138 5 rfl ?_
            refine k_iload O dX4_caughtOn_139 0 rfl ?_
            refine k_iconst O dX4_caughtOn_141 (v := -1) (by decide) ?_
            refine k_ixor O dX4_caughtOn_142 ?_
            refine k_iand O dX4_caughtOn_143 ?_
            refine k_iload_n O dX4_caughtOn_144 6 rfl ?_
            refine k_iload O dX4_caughtOn_145 0 rfl ?_
            refine k_iconst O dX4_caughtOn_147 (v := -1) (by decide) ?_
            refine k_ixor O dX4_caughtOn_148 ?_
            refine k_iand O dX4_caughtOn_149 ?_
            refine k_iload O dX4_caughtOn_150 7 rfl ?_
            refine k_iconst O dX4_caughtOn_152 (v := 1) (by decide) ?_
            refine k_isub O dX4_caughtOn_153 ?_
            refine k_iload O dX4_caughtOn_154 8 rfl ?_
            obtain ⟨r24, w23, hc22, h⟩ := bd_some h
            refine k_callVi O (As := [.int v1, .int (v2 &&& (r21 ^^^ ((-1 : Int32)))), .int (v3 &&& (r21 ^^^ ((-1 : Int32)))), .int (v4 - ((1 : Int32))), .int v5]) (rest := []) (k := 94) (hrc hc22) gX4_caughtOn_X4_caughtFrom rfl hd_X4_caughtFrom ⟨by omega, by omega⟩ (by omega) E_94 rfl rfl rfl rfl rfl (Nat.le_of_ble_eq_true rfl) dX4_caughtOn_156 ?_
            exact k_iret O dX4_caughtOn_159 (rt_int h ho)
          · have h := ite_f c18 h
            refine k_iload O dX4_caughtOn_118 7 rfl ?_
            exact k_iret O dX4_caughtOn_120 (rt_int h ho)
        · have h := ite_f c14 h
          refine k_aload_n O dX4_caughtOn_83 2 rfl ?_
          refine k_iload_n O dX4_caughtOn_84 3 rfl ?_
          refine k_iload_n O dX4_caughtOn_85 4 rfl ?_
          refine k_iload_n O dX4_caughtOn_86 5 rfl ?_
          refine k_iconst O dX4_caughtOn_87 (v := 1) (by decide) ?_
          refine k_iload O dX4_caughtOn_88 0 rfl ?_
          refine k_ishl O dX4_caughtOn_90 ?_
          refine k_ior O dX4_caughtOn_91 ?_
          refine k_iload O dX4_caughtOn_92 6 rfl ?_
          refine k_iconst O dX4_caughtOn_94 (v := 1) (by decide) ?_
          refine k_isub O dX4_caughtOn_95 ?_
          refine k_iload O dX4_caughtOn_96 7 rfl ?_
          obtain ⟨r27, w26, hc25, h⟩ := bd_some h
          refine k_callVi O (As := [.int v1, .int v2, .int (v3 ||| (((1 : Int32)) <<< (r5 &&& 31))), .int (v4 - ((1 : Int32))), .int v5]) (rest := []) (k := 94) (hrc hc25) gX4_caughtOn_X4_caughtFrom rfl hd_X4_caughtFrom ⟨by omega, by omega⟩ (by omega) E_94 rfl rfl rfl rfl rfl (Nat.le_of_ble_eq_true rfl) dX4_caughtOn_98 ?_
          exact k_iret O dX4_caughtOn_101 (rt_int h ho)
      · have h := ite_t c10 h
        exact k_sub [2, 3, 4, 5, 6, 7] rfl (w_X4_caughtOn_56 O hrc hN ho h)
  · have h := ite_t c1 h
    refine k_iload O dX4_caughtOn_8 5 rfl ?_
    exact k_iret O dX4_caughtOn_10 (rt_int h ho)
theorem c_X4_caughtOn (l : Launch) (G : Gl) {rc : Wd → Int32 → Int32 → Int32 → Int32 → Int32 → Option (Int32 × Wd)} {d : Nat} (hrc : ∀ {w wz : Wd} {a1 a2 a3 a4 a5 rz : Int32}, rc w a1 a2 a3 a4 a5 = some (rz, wz) → Ct l yX4_caughtFrom wsX4_caughtFrom (2 * d + 5) (100 + 60 * d) G [.ref (g_ad G 94), .int a1, .int a2, .int a3, .int a4, .int a5] w (some (.int rz), wz)) (hN : 105 ≤ g_N G) {w wz : Wd} {v1 : Int32} {v2 : Int32} {v3 : Int32} {v4 : Int32} {v5 : Int32} {rz : Int32} (h : f_X4_caughtOn rc w v1 v2 v3 v4 v5 = some (rz, wz)) : Ct l yX4_caughtOn wsX4_caughtOn (2 * d + 6) (130 + 60 * d) G [.ref (g_ad G 94), .int v1, .int v2, .int v3, .int v4, .int v5] w (some (.int rz), wz) := by
  refine Ct.start (by decide) rfl rfl rfl (Nat.le_of_ble_eq_true rfl) (fun X hG ho hl O => ?_)
  subst hG
  subst hl
  exact k_sub [0, 1, 2, 3, 4, 5] rfl (w_X4_caughtOn_0 O hrc hN ho h)
def b_X4_caughtFrom_83 (rc : Wd → Int32 → Int32 → Int32 → Int32 → Int32 → Option (Int32 × Wd)) (kb48 : Wd → Int32 → Int32 → Int32 → Int32 → Int32 → Int32 → Int32 → Option (Int32 × Wd)) (w : Wd) (v2 : Int32) (v3 : Int32) (v4 : Int32) (v6 : Int32) (v8 : Int32) (v10 : Int32) (s0 : Int32) (s1 : Int32) : Option (Int32 × Wd) := nm (s1 + s0) (fun x1 => nm (v10 + (1 : Int32)) (fun x2 => kb48 w v2 v3 v4 v6 v8 x1 x2))
def b_X4_caughtFrom_48 (rc : Wd → Int32 → Int32 → Int32 → Int32 → Int32 → Option (Int32 × Wd)) : Nat → Wd → Int32 → Int32 → Int32 → Int32 → Int32 → Int32 → Int32 → Option (Int32 × Wd)
  | 0, _, _, _, _, _, _, _, _ => none
  | n + 1, w, v2, v3, v4, v6, v8, v9, v10 => if ((12 : Int32)) ≤ v10 then (some (v9, w)) else (if ((v6 >>> (v10 &&& 31)) &&& ((1 : Int32))) = 0 then (b_X4_caughtFrom_83 rc (b_X4_caughtFrom_48 rc n) w v2 v3 v4 v6 v8 v10 ((0 : Int32)) v9) else (bd (f_X4_caughtOn rc w v10 v2 v3 v4 v8) (fun r5 w4 => b_X4_caughtFrom_83 rc (b_X4_caughtFrom_48 rc n) w4 v2 v3 v4 v6 v8 v10 r5 v9)))
def b_X4_caughtFrom_0 (rc : Wd → Int32 → Int32 → Int32 → Int32 → Int32 → Option (Int32 × Wd)) (w : Wd) (v1 : Int32) (v2 : Int32) (v3 : Int32) (v4 : Int32) (v5 : Int32) : Option (Int32 × Wd) := bd (f_X1_waysFrom 11 w v1) (fun r3 w2 => bd (f_J6_bitCount_0f7a4 w2 r3) (fun r6 w5 => if v4 ≤ 0 then (some ((0 : Int32), w5)) else (if ((4 : Int32)) < v4 then (some ((0 : Int32), w5)) else (if r6 = 0 then (some ((0 : Int32), w5)) else (gd (nz r6) (nm (v5 / r6) (fun x11 => b_X4_caughtFrom_48 rc LF w5 v2 v3 v4 r3 x11 ((0 : Int32)) ((0 : Int32)))))))))
def f_X4_caughtFrom : Nat → Wd → Int32 → Int32 → Int32 → Int32 → Int32 → Option (Int32 × Wd)
  | 0, _, _, _, _, _, _ => none
  | d + 1, w, v1, v2, v3, v4, v5 => b_X4_caughtFrom_0 (f_X4_caughtFrom d) w v1 v2 v3 v4 v5
set_option maxHeartbeats 4000000 in
set_option maxRecDepth 100000 in
theorem w_X4_caughtFrom_83 {X : Cx} {rz : Int32} {wz : Wd} {d : Nat} (O : Ok X cX4_caughtFrom RX4 ((some .int)) wsX4_caughtFrom (2 * d + 7) (160 + 60 * d) 11) {rc : Wd → Int32 → Int32 → Int32 → Int32 → Int32 → Option (Int32 × Wd)} (hrc : ∀ {w wz : Wd} {a1 a2 a3 a4 a5 rz : Int32}, rc w a1 a2 a3 a4 a5 = some (rz, wz) → Ct (x_l X) yX4_caughtFrom wsX4_caughtFrom (2 * d + 5) (100 + 60 * d) X.1 [.ref (g_ad X.1 94), .int a1, .int a2, .int a3, .int a4, .int a5] w (some (.int rz), wz)) (hN : 105 ≤ g_N X.1) {kb48 : Wd → Int32 → Int32 → Int32 → Int32 → Int32 → Int32 → Int32 → Option (Int32 × Wd)} (hk48 : ∀ {w : Wd} {v2 : Int32} {v3 : Int32} {v4 : Int32} {v6 : Int32} {v8 : Int32} {v9 : Int32} {v10 : Int32}, kb48 w v2 v3 v4 v6 v8 v9 v10 = some (rz, wz) → Wk X w 48 [(0, .ref (g_ad X.1 94)), (2, .int v2), (3, .int v3), (4, .int v4), (6, .int v6), (8, .int v8), (9, .int v9), (10, .int v10)] []) (ho : Ro X (some (.int rz), wz)) {w : Wd} {v2 : Int32} {v3 : Int32} {v4 : Int32} {v6 : Int32} {v8 : Int32} {v10 : Int32} {s0 : Int32} {s1 : Int32} (h : b_X4_caughtFrom_83 rc kb48 w v2 v3 v4 v6 v8 v10 s0 s1 = some (rz, wz)) : Wk X w 83 [(0, .ref (g_ad X.1 94)), (2, .int v2), (3, .int v3), (4, .int v4), (6, .int v6), (8, .int v8), (10, .int v10)] [.int s0, .int s1] := by
  unfold b_X4_caughtFrom_83 at h
  refine k_iadd O dX4_caughtFrom_83 ?_
  refine k_topi (fun x1 ex1 => ?_)
  have h := nm_use h x1 ex1
  refine k_istore (lv' := [(9, .int x1), (0, .ref (g_ad X.1 94)), (2, .int v2), (3, .int v3), (4, .int v4), (6, .int v6), (8, .int v8), (10, .int v10)]) O dX4_caughtFrom_84 (by decide) rfl ?_
  obtain ⟨x2, ex2⟩ : ∃ z : Int32, z = v10 + (1 : Int32) := ⟨_, rfl⟩
  have h := nm_use h x2 ex2
  refine k_iinc (lv' := [(10, .int x2), (9, .int x1), (0, .ref (g_ad X.1 94)), (2, .int v2), (3, .int v3), (4, .int v4), (6, .int v6), (8, .int v8)]) O dX4_caughtFrom_86 7 rfl (by rw [ex2]; rfl) (by decide) rfl ?_
  refine k_goto O 48 dX4_caughtFrom_89 (by decide) ?_
  exact k_sub [2, 3, 4, 5, 6, 7, 1, 0] rfl (hk48 h)
set_option maxHeartbeats 4000000 in
set_option maxRecDepth 100000 in
theorem w_X4_caughtFrom_48 {X : Cx} {rz : Int32} {wz : Wd} {d : Nat} (O : Ok X cX4_caughtFrom RX4 ((some .int)) wsX4_caughtFrom (2 * d + 7) (160 + 60 * d) 11) {rc : Wd → Int32 → Int32 → Int32 → Int32 → Int32 → Option (Int32 × Wd)} (hrc : ∀ {w wz : Wd} {a1 a2 a3 a4 a5 rz : Int32}, rc w a1 a2 a3 a4 a5 = some (rz, wz) → Ct (x_l X) yX4_caughtFrom wsX4_caughtFrom (2 * d + 5) (100 + 60 * d) X.1 [.ref (g_ad X.1 94), .int a1, .int a2, .int a3, .int a4, .int a5] w (some (.int rz), wz)) (hN : 105 ≤ g_N X.1) (ho : Ro X (some (.int rz), wz)) (n : Nat) : ∀ {w : Wd} {v2 : Int32} {v3 : Int32} {v4 : Int32} {v6 : Int32} {v8 : Int32} {v9 : Int32} {v10 : Int32}, b_X4_caughtFrom_48 rc n w v2 v3 v4 v6 v8 v9 v10 = some (rz, wz) → Wk X w 48 [(0, .ref (g_ad X.1 94)), (2, .int v2), (3, .int v3), (4, .int v4), (6, .int v6), (8, .int v8), (9, .int v9), (10, .int v10)] [] := by
  induction n with
  | zero => intro w v2 v3 v4 v6 v8 v9 v10 h; exact nomatch (show (none : Option (Int32 × Wd)) = some _ from h)
  | succ n ih =>
    intro w v2 v3 v4 v6 v8 v9 v10 h
    rw [b_X4_caughtFrom_48] at h
    refine k_iload O dX4_caughtFrom_48 7 rfl ?_
    refine k_bipush O dX4_caughtFrom_50 (v := 12) (by decide) ?_
    refine k_icmp_ge O 92 dX4_caughtFrom_52 (by decide) (fun c1 => ?_) (fun c1 => ?_)
    · have h := ite_t c1 h
      refine k_iload O dX4_caughtFrom_92 6 rfl ?_
      exact k_iret O dX4_caughtFrom_94 (rt_int h ho)
    · have h := ite_f c1 h
      refine k_iload O dX4_caughtFrom_55 6 rfl ?_
      refine k_iload O dX4_caughtFrom_57 4 rfl ?_
      refine k_iload O dX4_caughtFrom_59 7 rfl ?_
      refine k_ishr O dX4_caughtFrom_61 ?_
      refine k_iconst O dX4_caughtFrom_62 (v := 1) (by decide) ?_
      refine k_iand O dX4_caughtFrom_63 ?_
      refine k_if_eq O 82 dX4_caughtFrom_64 (by decide) (fun c2 => ?_) (fun c2 => ?_)
      · have h := ite_t c2 h
        refine k_iconst O dX4_caughtFrom_82 (v := 0) (by decide) ?_
        exact k_sub [0, 1, 2, 3, 4, 5, 7] rfl (w_X4_caughtFrom_83 O hrc hN (fun {_} {_} {_} {_} {_} {_} {_} {_} h9 => ih h9) ho h)
      · have h := ite_f c2 h
        refine k_aload_n O dX4_caughtFrom_67 0 rfl ?_
        refine k_iload O dX4_caughtFrom_68 7 rfl ?_
        refine k_iload_n O dX4_caughtFrom_70 1 rfl ?_
        refine k_iload_n O dX4_caughtFrom_71 2 rfl ?_
        refine k_iload O dX4_caughtFrom_72 3 rfl ?_
        refine k_iload O dX4_caughtFrom_74 5 rfl ?_
        obtain ⟨r5, w4, hc3, h⟩ := bd_some h
        refine k_callVi O (As := [.int v10, .int v2, .int v3, .int v4, .int v8]) (rest := [.int v9]) (k := 94) (c_X4_caughtOn (x_l X) X.1 (d := d) hrc hN hc3) gX4_caughtFrom_X4_caughtOn rfl hd_X4_caughtOn ⟨by omega, by omega⟩ (by omega) E_94 rfl rfl rfl rfl rfl (Nat.le_of_ble_eq_true rfl) dX4_caughtFrom_76 ?_
        refine k_goto O 83 dX4_caughtFrom_79 (by decide) ?_
        exact k_sub [0, 1, 2, 3, 4, 5, 7] rfl (w_X4_caughtFrom_83 O hrc hN (fun {_} {_} {_} {_} {_} {_} {_} {_} h9 => ih h9) ho h)
set_option maxHeartbeats 4000000 in
set_option maxRecDepth 100000 in
theorem w_X4_caughtFrom_0 {X : Cx} {rz : Int32} {wz : Wd} {d : Nat} (O : Ok X cX4_caughtFrom RX4 ((some .int)) wsX4_caughtFrom (2 * d + 7) (160 + 60 * d) 11) {rc : Wd → Int32 → Int32 → Int32 → Int32 → Int32 → Option (Int32 × Wd)} (hrc : ∀ {w wz : Wd} {a1 a2 a3 a4 a5 rz : Int32}, rc w a1 a2 a3 a4 a5 = some (rz, wz) → Ct (x_l X) yX4_caughtFrom wsX4_caughtFrom (2 * d + 5) (100 + 60 * d) X.1 [.ref (g_ad X.1 94), .int a1, .int a2, .int a3, .int a4, .int a5] w (some (.int rz), wz)) (hN : 105 ≤ g_N X.1) (ho : Ro X (some (.int rz), wz)) {w : Wd} {v1 : Int32} {v2 : Int32} {v3 : Int32} {v4 : Int32} {v5 : Int32} (h : b_X4_caughtFrom_0 rc w v1 v2 v3 v4 v5 = some (rz, wz)) : Wk X w 0 [(0, .ref (g_ad X.1 94)), (1, .int v1), (2, .int v2), (3, .int v3), (4, .int v4), (5, .int v5)] [] := by
  unfold b_X4_caughtFrom_0 at h
  refine k_aload_n O dX4_caughtFrom_0 0 rfl ?_
  refine k_get O (v := .ref (g_ad X.1 11)) (k := 94) (by omega) E_94 rfl 0 (by decide) (fun _ h9 => List.mem_cons_of_mem _ (List.mem_append_left _ (List.mem_append_right _ h9))) (List.mem_of_getElem? (i := 1) rfl) rfl dX4_caughtFrom_1 ?_
  refine k_iload_n O dX4_caughtFrom_4 1 rfl ?_
  obtain ⟨r3, w2, hc1, h⟩ := bd_some h
  refine k_callVi O (As := [.int v1]) (rest := []) (k := 11) (c_X1_waysFrom (x_l X) X.1 (by decide) (by omega) hc1) gX4_caughtFrom_X1_waysFrom rfl hd_X1_waysFrom ⟨by omega, by omega⟩ (by omega) (E_pl (by decide)) rfl rfl rfl rfl rfl (Nat.le_of_ble_eq_true rfl) dX4_caughtFrom_5 ?_
  refine k_istore (lv' := [(6, .int r3), (0, .ref (g_ad X.1 94)), (1, .int v1), (2, .int v2), (3, .int v3), (4, .int v4), (5, .int v5)]) O dX4_caughtFrom_8 (by decide) rfl ?_
  refine k_iload O dX4_caughtFrom_10 0 rfl ?_
  obtain ⟨r6, w5, hc4, h⟩ := bd_some h
  refine k_callSi O (As := [.int r3]) (rest := []) (c_J6_bitCount_0f7a4 (x_l X) X.1 hc4) gX4_caughtFrom_J6_bitCount_0f7a4 rfl hd_J6_bitCount_0f7a4 ⟨by omega, by omega⟩ rfl rfl (Nat.le_of_ble_eq_true rfl) dX4_caughtFrom_12 ?_
  refine k_istore (lv' := [(7, .int r6), (6, .int r3), (0, .ref (g_ad X.1 94)), (1, .int v1), (2, .int v2), (3, .int v3), (4, .int v4), (5, .int v5)]) O dX4_caughtFrom_15 (by decide) rfl ?_
  refine k_iload O dX4_caughtFrom_17 6 rfl ?_
  refine k_if_le O 33 dX4_caughtFrom_19 (by decide) (fun c7 => ?_) (fun c7 => ?_)
  · have h := ite_t c7 h
    refine k_iconst O dX4_caughtFrom_33 (v := 0) (by decide) ?_
    exact k_iret O dX4_caughtFrom_34 (rt_int h ho)
  · have h := ite_f c7 h
    refine k_iload O dX4_caughtFrom_22 6 rfl ?_
    refine k_iconst O dX4_caughtFrom_24 (v := 4) (by decide) ?_
    refine k_icmp_gt O 33 dX4_caughtFrom_25 (by decide) (fun c8 => ?_) (fun c8 => ?_)
    · have h := ite_t c8 h
      refine k_iconst O dX4_caughtFrom_33 (v := 0) (by decide) ?_
      exact k_iret O dX4_caughtFrom_34 (rt_int h ho)
    · have h := ite_f c8 h
      refine k_iload O dX4_caughtFrom_28 0 rfl ?_
      refine k_if_ne O 35 dX4_caughtFrom_30 (by decide) (fun c9 => ?_) (fun c9 => ?_)
      · have h := ite_f c9 h
        refine k_iload O dX4_caughtFrom_35 7 rfl ?_
        refine k_iload O dX4_caughtFrom_37 0 rfl ?_
        obtain ⟨g10, h⟩ := gd_some h
        refine k_idiv O dX4_caughtFrom_39 (nz_ne g10) ?_
        refine k_topi (fun x11 ex11 => ?_)
        have h := nm_use h x11 ex11
        refine k_istore (lv' := [(8, .int x11), (7, .int r6), (6, .int r3), (0, .ref (g_ad X.1 94)), (1, .int v1), (2, .int v2), (3, .int v3), (4, .int v4), (5, .int v5)]) O dX4_caughtFrom_40 (by decide) rfl ?_
        refine k_iconst O dX4_caughtFrom_42 (v := 0) (by decide) ?_
        refine k_istore (lv' := [(9, .int ((0 : Int32))), (8, .int x11), (7, .int r6), (6, .int r3), (0, .ref (g_ad X.1 94)), (1, .int v1), (2, .int v2), (3, .int v3), (4, .int v4), (5, .int v5)]) O dX4_caughtFrom_43 (by decide) rfl ?_
        refine k_iconst O dX4_caughtFrom_45 (v := 0) (by decide) ?_
        refine k_istore (lv' := [(10, .int ((0 : Int32))), (9, .int ((0 : Int32))), (8, .int x11), (7, .int r6), (6, .int r3), (0, .ref (g_ad X.1 94)), (1, .int v1), (2, .int v2), (3, .int v3), (4, .int v4), (5, .int v5)]) O dX4_caughtFrom_46 (by decide) rfl ?_
        exact k_sub [5, 7, 8, 9, 4, 2, 1, 0] rfl (w_X4_caughtFrom_48 O hrc hN ho LF h)
      · have h := ite_t c9 h
        refine k_iconst O dX4_caughtFrom_33 (v := 0) (by decide) ?_
        exact k_iret O dX4_caughtFrom_34 (rt_int h ho)
theorem c_X4_caughtFrom (l : Launch) (G : Gl) (d : Nat) (hN : 105 ≤ g_N G) : ∀ {w wz : Wd} {v1 : Int32} {v2 : Int32} {v3 : Int32} {v4 : Int32} {v5 : Int32} {rz : Int32} , f_X4_caughtFrom d w v1 v2 v3 v4 v5 = some (rz, wz) → Ct l yX4_caughtFrom wsX4_caughtFrom (2 * d + 5) (100 + 60 * d) G [.ref (g_ad G 94), .int v1, .int v2, .int v3, .int v4, .int v5] w (some (.int rz), wz) := by
  induction d with
  | zero => intro w wz v1 v2 v3 v4 v5 rz h; exact nomatch (show (none : Option (Int32 × Wd)) = some _ from h)
  | succ d ih =>
    intro w wz v1 v2 v3 v4 v5 rz h
    refine Ct.start (by decide) rfl rfl rfl (Nat.le_of_ble_eq_true rfl) (fun X hG ho hl O => ?_)
    subst hG
    subst hl
    have O : Ok X cX4_caughtFrom RX4 ((some .int)) wsX4_caughtFrom (2 * d + 7) (160 + 60 * d) 11 := by
      have e1 : 2 * (d + 1) + 5 = 2 * d + 7 := by omega
      have e2 : 100 + 60 * (d + 1) = 160 + 60 * d := by omega
      rw [e1, e2] at O
      exact O
    exact k_sub [0, 1, 2, 3, 4, 5] rfl (w_X4_caughtFrom_0 O (fun h9 => ih h9) hN ho h)
def b_X4_chance_0 (b1 : Nat) (w : Wd) (v2 : Int32) (v3 : Int32) (v4 : Int32) : Option (Int32 × Wd) := if (w.1 b1 3) = 0 then (bd (f_X1_hasWalker 11 w v2) (fun r4 w3 => if r4 = 0 then (some ((0 : Int32), w3)) else (nm (up w3 94 1 v2) (fun w6 => nm (up w6 94 2 v4) (fun w7 => gd (inb v2 4) (bd (f_X4_wholeOf w7 v3) (fun r11 w10 => bd (f_X4_caughtFrom 5 w10 (w7.1 (b1 + 2) v2.toNatClampNeg) (w7.1 b1 1) (w7.1 b1 2) v3 r11) (fun r14 w13 => some (r14, w13))))))))) else (some ((0 : Int32), w))
def f_X4_chance (b1 : Nat) (w : Wd) (v2 : Int32) (v3 : Int32) (v4 : Int32) : Option (Int32 × Wd) := b_X4_chance_0 b1 w v2 v3 v4
set_option maxHeartbeats 4000000 in
set_option maxRecDepth 100000 in
theorem w_X4_chance_0 {X : Cx} {rz : Int32} {wz : Wd} (O : Ok X cX4_chance RX4 ((some .int)) wsX4_chance (16) (430) 5) {b1 : Nat} (h_b1 : scb b1 = true) (n_b1 : b1 + 3 < g_N X.1) (hN : 105 ≤ g_N X.1) (ho : Ro X (some (.int rz), wz)) {w : Wd} {v2 : Int32} {v3 : Int32} {v4 : Int32} (h : b_X4_chance_0 b1 w v2 v3 v4 = some (rz, wz)) : Wk X w 0 [(0, .ref (g_ad X.1 94)), (1, .ref (g_ad X.1 b1)), (2, .int v2), (3, .int v3), (4, .int v4)] [] := by
  have q_b1 := scb_lt h_b1
  unfold b_X4_chance_0 at h
  refine k_aload_n O dX4_chance_0 1 rfl ?_
  refine k_get O (v := .int (w.1 b1 3)) (k := b1) (by omega) (E_sc h_b1) rfl 3 (by decide) (fun _ h9 => List.mem_cons_of_mem _ (List.mem_append_left _ (List.mem_append_left _ (List.mem_append_right _ h9)))) (List.mem_of_getElem? (i := 1) rfl) rfl dX4_chance_1 ?_
  refine k_if_ne O 18 dX4_chance_4 (by decide) (fun c1 => ?_) (fun c1 => ?_)
  · have h := ite_f c1 h
    refine k_iconst O dX4_chance_18 (v := 0) (by decide) ?_
    exact k_iret O dX4_chance_19 (rt_int h ho)
  · have h := ite_t c1 h
    refine k_aload_n O dX4_chance_7 0 rfl ?_
    refine k_get O (v := .ref (g_ad X.1 11)) (k := 94) (by omega) E_94 rfl 0 (by decide) (fun _ h9 => List.mem_cons_of_mem _ (List.mem_append_left _ (List.mem_append_right _ h9))) (List.mem_of_getElem? (i := 2) rfl) rfl dX4_chance_8 ?_
    refine k_iload_n O dX4_chance_11 2 rfl ?_
    obtain ⟨r4, w3, hc2, h⟩ := bd_some h
    refine k_callVi O (As := [.int v2]) (rest := []) (k := 11) (c_X1_hasWalker (x_l X) X.1 (by decide) (by omega) hc2) gX4_chance_X1_hasWalker rfl hd_X1_hasWalker (by decide) (by omega) (E_pl (by decide)) rfl rfl rfl rfl rfl (Nat.le_of_ble_eq_true rfl) dX4_chance_12 ?_
    refine k_if_ne O 20 dX4_chance_15 (by decide) (fun c5 => ?_) (fun c5 => ?_)
    · have h := ite_f c5 h
      refine k_aload_n O dX4_chance_20 0 rfl ?_
      refine k_iload_n O dX4_chance_21 2 rfl ?_
      refine k_puti O (k := 94) tyX4 tyX4_ok nmX4 (by omega) E_94 rfl 1 (by decide) (fun _ h9 => List.mem_cons_of_mem _ (List.mem_append_left _ (List.mem_append_right _ h9))) (List.mem_of_getElem? (i := 3) rfl) rfl rfl rfl (Nat.le_of_ble_eq_true rfl) (E_94.trans rfl) dX4_chance_22 ?_
      refine k_nw (fun w6 ew6 => ?_)
      have h := nm_use h w6 ew6
      refine k_aload_n O dX4_chance_25 0 rfl ?_
      refine k_iload O dX4_chance_26 4 rfl ?_
      refine k_puti O (k := 94) tyX4 tyX4_ok nmX4 (by omega) E_94 rfl 2 (by decide) (fun _ h9 => List.mem_cons_of_mem _ (List.mem_append_left _ (List.mem_append_right _ h9))) (List.mem_of_getElem? (i := 4) rfl) rfl rfl rfl (Nat.le_of_ble_eq_true rfl) (E_94.trans rfl) dX4_chance_28 ?_
      refine k_nw (fun w7 ew7 => ?_)
      have h := nm_use h w7 ew7
      refine k_aload_n O dX4_chance_31 0 rfl ?_
      refine k_aload_n O dX4_chance_32 1 rfl ?_
      refine k_get O (v := .ref (g_ad X.1 (b1 + 2))) (k := b1) (by omega) (E_sc h_b1) rfl 5 (by decide) (fun _ h9 => List.mem_cons_of_mem _ (List.mem_append_left _ (List.mem_append_left _ (List.mem_append_right _ h9)))) (List.mem_of_getElem? (i := 5) rfl) rfl dX4_chance_33 ?_
      refine k_iload_n O dX4_chance_36 2 rfl ?_
      obtain ⟨g8, h⟩ := gd_some h
      refine k_iald O (k := (b1 + 2)) (by omega) (E_sc2 h_b1) g8 dX4_chance_37 ?_
      refine k_aload_n O dX4_chance_38 1 rfl ?_
      refine k_get O (v := .int (w7.1 b1 1)) (k := b1) (by omega) (E_sc h_b1) rfl 1 (by decide) (fun _ h9 => List.mem_cons_of_mem _ (List.mem_append_left _ (List.mem_append_left _ (List.mem_append_right _ h9)))) (List.mem_of_getElem? (i := 6) rfl) rfl dX4_chance_39 ?_
      refine k_aload_n O dX4_chance_42 1 rfl ?_
      refine k_get O (v := .int (w7.1 b1 2)) (k := b1) (by omega) (E_sc h_b1) rfl 2 (by decide) (fun _ h9 => List.mem_cons_of_mem _ (List.mem_append_left _ (List.mem_append_left _ (List.mem_append_right _ h9)))) (List.mem_of_getElem? (i := 7) rfl) rfl dX4_chance_43 ?_
      refine k_iload_n O dX4_chance_46 3 rfl ?_
      refine k_iload_n O dX4_chance_47 3 rfl ?_
      obtain ⟨r11, w10, hc9, h⟩ := bd_some h
      refine k_callSi O (As := [.int v3]) (rest := [.int v3, .int (w7.1 b1 2), .int (w7.1 b1 1), .int (w7.1 (b1 + 2) v2.toNatClampNeg), .ref (g_ad X.1 94)]) (c_X4_wholeOf (x_l X) X.1 hc9) gX4_chance_X4_wholeOf rfl hd_X4_wholeOf (by decide) rfl rfl (Nat.le_of_ble_eq_true rfl) dX4_chance_48 ?_
      obtain ⟨r14, w13, hc12, h⟩ := bd_some h
      refine k_callVi O (As := [.int (w7.1 (b1 + 2) v2.toNatClampNeg), .int (w7.1 b1 1), .int (w7.1 b1 2), .int v3, .int r11]) (rest := []) (k := 94) (c_X4_caughtFrom (x_l X) X.1 5 hN hc12) gX4_chance_X4_caughtFrom rfl hd_X4_caughtFrom (by decide) (by omega) E_94 rfl rfl rfl rfl rfl (Nat.le_of_ble_eq_true rfl) dX4_chance_51 ?_
      exact k_iret O dX4_chance_54 (rt_int h ho)
    · have h := ite_t c5 h
      refine k_iconst O dX4_chance_18 (v := 0) (by decide) ?_
      exact k_iret O dX4_chance_19 (rt_int h ho)
theorem c_X4_chance (l : Launch) (G : Gl) {b1 : Nat} (h_b1 : scb b1 = true) (n_b1 : b1 + 3 < g_N G) (hN : 105 ≤ g_N G) {w wz : Wd} {v2 : Int32} {v3 : Int32} {v4 : Int32} {rz : Int32} (h : f_X4_chance b1 w v2 v3 v4 = some (rz, wz)) : Ct l yX4_chance wsX4_chance (16) (430) G [.ref (g_ad G 94), .ref (g_ad G b1), .int v2, .int v3, .int v4] w (some (.int rz), wz) := by
  refine Ct.start (by decide) rfl rfl rfl (Nat.le_of_ble_eq_true rfl) (fun X hG ho hl O => ?_)
  subst hG
  subst hl
  exact k_sub [0, 1, 2, 3, 4] rfl (w_X4_chance_0 O h_b1 n_b1 hN ho h)
def b_X6_measure_117 (kb63 : Wd → Int32 → Int32 → Int32 → Int32 → Option (Wd)) (kb81 : Wd → Int32 → Int32 → Int32 → Int32 → Int32 → Int32 → Option (Wd)) (w : Wd) (v4 : Int32) (v5 : Int32) (v6 : Int32) (v7 : Int32) (v8 : Int32) (v9 : Int32) : Option (Wd) := nm (v9 + (1 : Int32)) (fun x1 => kb81 w v4 v5 v6 v7 v8 x1)
def b_X6_measure_81 (kb63 : Wd → Int32 → Int32 → Int32 → Int32 → Option (Wd)) : Nat → Wd → Int32 → Int32 → Int32 → Int32 → Int32 → Int32 → Option (Wd)
  | 0, _, _, _, _, _, _, _ => none
  | n + 1, w, v4, v5, v6, v7, v8, v9 => if ((12 : Int32)) ≤ v9 then (nm ((v8 &&& v4) &&& (v6 ^^^ ((-1 : Int32)))) (fun x2 => nm (v6 ||| x2) (fun x3 => nm (v7 + (1 : Int32)) (fun x4 => kb63 w v4 x2 x3 x4)))) else (if ((v5 >>> (v9 &&& 31)) &&& ((1 : Int32))) = 0 then (b_X6_measure_117 kb63 (b_X6_measure_81 kb63 n) w v4 v5 v6 v7 v8 v9) else (gd (inb v9 12) (nm (up w 93 v9.toNatClampNeg v7) (fun w7 => bd (f_X7_neighbours w7 v9) (fun r10 w9 => nm (v8 ||| r10) (fun x11 => b_X6_measure_117 kb63 (b_X6_measure_81 kb63 n) w9 v4 v5 v6 v7 x11 v9))))))
def b_X6_measure_63 : Nat → Wd → Int32 → Int32 → Int32 → Int32 → Option (Wd)
  | 0, _, _, _, _, _ => none
  | n + 1, w, v4, v5, v6, v7 => if ((12 : Int32)) ≤ v7 then (some w) else (if v5 = 0 then (some w) else (b_X6_measure_81 (b_X6_measure_63 n) LF w v4 v5 v6 v7 ((0 : Int32)) ((0 : Int32))))
def b_X6_measure_3 : Nat → Wd → Int32 → Int32 → Int32 → Int32 → Option (Wd)
  | 0, _, _, _, _, _ => none
  | n + 1, w, v1, v2, v3, v4 => if ((12 : Int32)) ≤ v4 then (nm (((((4095 : Int32)) &&& ((w.1 11 2) ^^^ ((-1 : Int32)))) &&& (v3 ^^^ ((-1 : Int32)))) ||| (((1 : Int32)) <<< (v1 &&& 31))) (fun x2 => nm (x2 &&& (((1 : Int32)) <<< (v2 &&& 31))) (fun x3 => b_X6_measure_63 LF w x2 x3 x3 ((0 : Int32))))) else (gd (inb v4 12) (nm (up w 93 v4.toNatClampNeg ((-9 : Int32))) (fun w5 => nm (v4 + (1 : Int32)) (fun x6 => b_X6_measure_3 n w5 v1 v2 v3 x6))))
def b_X6_measure_0 (w : Wd) (v1 : Int32) (v2 : Int32) (v3 : Int32) : Option (Wd) := b_X6_measure_3 LF w v1 v2 v3 ((0 : Int32))
def f_X6_measure (w : Wd) (v1 : Int32) (v2 : Int32) (v3 : Int32) : Option (Wd) := b_X6_measure_0 w v1 v2 v3
set_option maxHeartbeats 4000000 in
set_option maxRecDepth 100000 in
theorem w_X6_measure_117 {X : Cx} {wz : Wd} (O : Ok X cX6_measure RX6 none wsX6_measure (2) (40) 10) (hN : 105 ≤ g_N X.1) {kb63 : Wd → Int32 → Int32 → Int32 → Int32 → Option (Wd)} (hk63 : ∀ {w : Wd} {v4 : Int32} {v5 : Int32} {v6 : Int32} {v7 : Int32}, kb63 w v4 v5 v6 v7 = some wz → Wk X w 63 [(0, .ref (g_ad X.1 92)), (4, .int v4), (5, .int v5), (6, .int v6), (7, .int v7)] []) {kb81 : Wd → Int32 → Int32 → Int32 → Int32 → Int32 → Int32 → Option (Wd)} (hk81 : ∀ {w : Wd} {v4 : Int32} {v5 : Int32} {v6 : Int32} {v7 : Int32} {v8 : Int32} {v9 : Int32}, kb81 w v4 v5 v6 v7 v8 v9 = some wz → Wk X w 81 [(0, .ref (g_ad X.1 92)), (4, .int v4), (5, .int v5), (6, .int v6), (7, .int v7), (8, .int v8), (9, .int v9)] []) (ho : Ro X (none, wz)) {w : Wd} {v4 : Int32} {v5 : Int32} {v6 : Int32} {v7 : Int32} {v8 : Int32} {v9 : Int32} (h : b_X6_measure_117 kb63 kb81 w v4 v5 v6 v7 v8 v9 = some wz) : Wk X w 117 [(0, .ref (g_ad X.1 92)), (4, .int v4), (5, .int v5), (6, .int v6), (7, .int v7), (8, .int v8), (9, .int v9)] [] := by
  unfold b_X6_measure_117 at h
  obtain ⟨x1, ex1⟩ : ∃ z : Int32, z = v9 + (1 : Int32) := ⟨_, rfl⟩
  have h := nm_use h x1 ex1
  refine k_iinc (lv' := [(9, .int x1), (0, .ref (g_ad X.1 92)), (4, .int v4), (5, .int v5), (6, .int v6), (7, .int v7), (8, .int v8)]) O dX6_measure_117 6 rfl (by rw [ex1]; rfl) (by decide) rfl ?_
  refine k_goto O 81 dX6_measure_120 (by decide) ?_
  exact k_sub [1, 2, 3, 4, 5, 6, 0] rfl (hk81 h)
set_option maxHeartbeats 4000000 in
set_option maxRecDepth 100000 in
theorem w_X6_measure_81 {X : Cx} {wz : Wd} (O : Ok X cX6_measure RX6 none wsX6_measure (2) (40) 10) (hN : 105 ≤ g_N X.1) {kb63 : Wd → Int32 → Int32 → Int32 → Int32 → Option (Wd)} (hk63 : ∀ {w : Wd} {v4 : Int32} {v5 : Int32} {v6 : Int32} {v7 : Int32}, kb63 w v4 v5 v6 v7 = some wz → Wk X w 63 [(0, .ref (g_ad X.1 92)), (4, .int v4), (5, .int v5), (6, .int v6), (7, .int v7)] []) (ho : Ro X (none, wz)) (n : Nat) : ∀ {w : Wd} {v4 : Int32} {v5 : Int32} {v6 : Int32} {v7 : Int32} {v8 : Int32} {v9 : Int32}, b_X6_measure_81 kb63 n w v4 v5 v6 v7 v8 v9 = some wz → Wk X w 81 [(0, .ref (g_ad X.1 92)), (4, .int v4), (5, .int v5), (6, .int v6), (7, .int v7), (8, .int v8), (9, .int v9)] [] := by
  induction n with
  | zero => intro w v4 v5 v6 v7 v8 v9 h; exact nomatch (show (none : Option (Wd)) = some _ from h)
  | succ n ih =>
    intro w v4 v5 v6 v7 v8 v9 h
    rw [b_X6_measure_81] at h
    refine k_iload O dX6_measure_81 6 rfl ?_
    refine k_bipush O dX6_measure_83 (v := 12) (by decide) ?_
    refine k_icmp_ge O 123 dX6_measure_85 (by decide) (fun c1 => ?_) (fun c1 => ?_)
    · have h := ite_t c1 h
      refine k_iload O dX6_measure_123 5 rfl ?_
      refine k_iload O dX6_measure_125 1 rfl ?_
      refine k_iand O dX6_measure_127 ?_
      refine k_iload O dX6_measure_128 3 rfl ?_
      refine k_iconst O dX6_measure_130 (v := -1) (by decide) ?_
      refine k_ixor O dX6_measure_131 ?_
      refine k_iand O dX6_measure_132 ?_
      refine k_topi (fun x2 ex2 => ?_)
      have h := nm_use h x2 ex2
      refine k_istore (lv' := [(5, .int x2), (0, .ref (g_ad X.1 92)), (4, .int v4), (6, .int v6), (7, .int v7), (8, .int v8), (9, .int v9)]) O dX6_measure_133 (by decide) rfl ?_
      refine k_iload O dX6_measure_135 3 rfl ?_
      refine k_iload O dX6_measure_137 0 rfl ?_
      refine k_ior O dX6_measure_139 ?_
      refine k_topi (fun x3 ex3 => ?_)
      have h := nm_use h x3 ex3
      refine k_istore (lv' := [(6, .int x3), (5, .int x2), (0, .ref (g_ad X.1 92)), (4, .int v4), (7, .int v7), (8, .int v8), (9, .int v9)]) O dX6_measure_140 (by decide) rfl ?_
      obtain ⟨x4, ex4⟩ : ∃ z : Int32, z = v7 + (1 : Int32) := ⟨_, rfl⟩
      have h := nm_use h x4 ex4
      refine k_iinc (lv' := [(7, .int x4), (6, .int x3), (5, .int x2), (0, .ref (g_ad X.1 92)), (4, .int v4), (8, .int v8), (9, .int v9)]) O dX6_measure_142 4 rfl (by rw [ex4]; rfl) (by decide) rfl ?_
      refine k_goto O 63 dX6_measure_145 (by decide) ?_
      exact k_sub [3, 4, 2, 1, 0] rfl (hk63 h)
    · have h := ite_f c1 h
      refine k_iload O dX6_measure_88 2 rfl ?_
      refine k_iload O dX6_measure_90 6 rfl ?_
      refine k_ishr O dX6_measure_92 ?_
      refine k_iconst O dX6_measure_93 (v := 1) (by decide) ?_
      refine k_iand O dX6_measure_94 ?_
      refine k_if_eq O 117 dX6_measure_95 (by decide) (fun c5 => ?_) (fun c5 => ?_)
      · have h := ite_t c5 h
        exact k_sub [0, 1, 2, 3, 4, 5, 6] rfl (w_X6_measure_117 O hN hk63 (fun {_} {_} {_} {_} {_} {_} {_} h9 => ih h9) ho h)
      · have h := ite_f c5 h
        refine k_aload_n O dX6_measure_98 0 rfl ?_
        refine k_get O (v := .ref (g_ad X.1 93)) (k := 92) (by omega) E_92 rfl 1 (by decide) (fun _ h9 => List.mem_cons_of_mem _ (List.mem_append_left _ (List.mem_append_right _ h9))) (List.mem_of_getElem? (i := 1) rfl) rfl dX6_measure_99 ?_
        refine k_iload O dX6_measure_102 6 rfl ?_
        refine k_iload O dX6_measure_104 4 rfl ?_
        obtain ⟨g6, h⟩ := gd_some h
        refine k_iast O (k := 93) (by omega) E_93 (fun _ => E_93) g6 dX6_measure_106 ?_
        refine k_nw (fun w7 ew7 => ?_)
        have h := nm_use h w7 ew7
        refine k_iload O dX6_measure_107 5 rfl ?_
        refine k_iload O dX6_measure_109 6 rfl ?_
        obtain ⟨r10, w9, hc8, h⟩ := bd_some h
        refine k_callNi O (As := [.int v9]) (rest := [.int v8]) (c_X7_neighbours (x_l X) X.1 hc8) gX6_measure_X7_neighbours_n25 rfl hd_X7_neighbours (by decide) (List.mem_of_getElem? (i := 5) rfl) (List.mem_of_getElem? (i := 5) rfl) (List.mem_of_getElem? (i := 4) rfl) rfl rfl (Nat.le_of_ble_eq_true rfl) dX6_measure_111 ?_
        refine k_ior O dX6_measure_114 ?_
        refine k_topi (fun x11 ex11 => ?_)
        have h := nm_use h x11 ex11
        refine k_istore (lv' := [(8, .int x11), (0, .ref (g_ad X.1 92)), (4, .int v4), (5, .int v5), (6, .int v6), (7, .int v7), (9, .int v9)]) O dX6_measure_115 (by decide) rfl ?_
        exact k_sub [1, 2, 3, 4, 5, 0, 6] rfl (w_X6_measure_117 O hN hk63 (fun {_} {_} {_} {_} {_} {_} {_} h9 => ih h9) ho h)
set_option maxHeartbeats 4000000 in
set_option maxRecDepth 100000 in
theorem w_X6_measure_63 {X : Cx} {wz : Wd} (O : Ok X cX6_measure RX6 none wsX6_measure (2) (40) 10) (hN : 105 ≤ g_N X.1) (ho : Ro X (none, wz)) (n : Nat) : ∀ {w : Wd} {v4 : Int32} {v5 : Int32} {v6 : Int32} {v7 : Int32}, b_X6_measure_63 n w v4 v5 v6 v7 = some wz → Wk X w 63 [(0, .ref (g_ad X.1 92)), (4, .int v4), (5, .int v5), (6, .int v6), (7, .int v7)] [] := by
  induction n with
  | zero => intro w v4 v5 v6 v7 h; exact nomatch (show (none : Option (Wd)) = some _ from h)
  | succ n ih =>
    intro w v4 v5 v6 v7 h
    rw [b_X6_measure_63] at h
    refine k_iload O dX6_measure_63 4 rfl ?_
    refine k_bipush O dX6_measure_65 (v := 12) (by decide) ?_
    refine k_icmp_ge O 148 dX6_measure_67 (by decide) (fun c1 => ?_) (fun c1 => ?_)
    · have h := ite_t c1 h
      exact k_vret O dX6_measure_148 (rt_void h ho)
    · have h := ite_f c1 h
      refine k_iload O dX6_measure_70 2 rfl ?_
      refine k_if_eq O 148 dX6_measure_72 (by decide) (fun c2 => ?_) (fun c2 => ?_)
      · have h := ite_t c2 h
        exact k_vret O dX6_measure_148 (rt_void h ho)
      · have h := ite_f c2 h
        refine k_iconst O dX6_measure_75 (v := 0) (by decide) ?_
        refine k_istore (lv' := [(8, .int ((0 : Int32))), (0, .ref (g_ad X.1 92)), (4, .int v4), (5, .int v5), (6, .int v6), (7, .int v7)]) O dX6_measure_76 (by decide) rfl ?_
        refine k_iconst O dX6_measure_78 (v := 0) (by decide) ?_
        refine k_istore (lv' := [(9, .int ((0 : Int32))), (8, .int ((0 : Int32))), (0, .ref (g_ad X.1 92)), (4, .int v4), (5, .int v5), (6, .int v6), (7, .int v7)]) O dX6_measure_79 (by decide) rfl ?_
        exact k_sub [2, 3, 4, 5, 6, 1, 0] rfl (w_X6_measure_81 O hN (fun {_} {_} {_} {_} {_} h9 => ih h9) ho LF h)
set_option maxHeartbeats 4000000 in
set_option maxRecDepth 100000 in
theorem w_X6_measure_3 {X : Cx} {wz : Wd} (O : Ok X cX6_measure RX6 none wsX6_measure (2) (40) 10) (hN : 105 ≤ g_N X.1) (ho : Ro X (none, wz)) (n : Nat) : ∀ {w : Wd} {v1 : Int32} {v2 : Int32} {v3 : Int32} {v4 : Int32}, b_X6_measure_3 n w v1 v2 v3 v4 = some wz → Wk X w 3 [(0, .ref (g_ad X.1 92)), (1, .int v1), (2, .int v2), (3, .int v3), (4, .int v4)] [] := by
  induction n with
  | zero => intro w v1 v2 v3 v4 h; exact nomatch (show (none : Option (Wd)) = some _ from h)
  | succ n ih =>
    intro w v1 v2 v3 v4 h
    rw [b_X6_measure_3] at h
    refine k_iload O dX6_measure_3 4 rfl ?_
    refine k_bipush O dX6_measure_5 (v := 12) (by decide) ?_
    refine k_icmp_ge O 25 dX6_measure_7 (by decide) (fun c1 => ?_) (fun c1 => ?_)
    · have h := ite_t c1 h
      refine k_sipush O dX6_measure_25 (v := 4095) (by decide) ?_
      refine k_aload_n O dX6_measure_28 0 rfl ?_
      refine k_get O (v := .ref (g_ad X.1 11)) (k := 92) (by omega) E_92 rfl 0 (by decide) (fun _ h9 => List.mem_cons_of_mem _ (List.mem_append_left _ (List.mem_append_right _ h9))) (List.mem_of_getElem? (i := 2) rfl) rfl dX6_measure_29 ?_
      refine k_get O (v := .int (w.1 11 2)) (k := 11) (by omega) (E_pl (by decide)) rfl 2 (by decide) (fun _ h9 => List.mem_cons_of_mem _ (List.mem_append_right _ h9)) (List.mem_of_getElem? (i := 3) rfl) rfl dX6_measure_32 ?_
      refine k_iconst O dX6_measure_35 (v := -1) (by decide) ?_
      refine k_ixor O dX6_measure_36 ?_
      refine k_iand O dX6_measure_37 ?_
      refine k_iload_n O dX6_measure_38 3 rfl ?_
      refine k_iconst O dX6_measure_39 (v := -1) (by decide) ?_
      refine k_ixor O dX6_measure_40 ?_
      refine k_iand O dX6_measure_41 ?_
      refine k_iconst O dX6_measure_42 (v := 1) (by decide) ?_
      refine k_iload_n O dX6_measure_43 1 rfl ?_
      refine k_ishl O dX6_measure_44 ?_
      refine k_ior O dX6_measure_45 ?_
      refine k_topi (fun x2 ex2 => ?_)
      have h := nm_use h x2 ex2
      refine k_istore (lv' := [(4, .int x2), (0, .ref (g_ad X.1 92)), (1, .int v1), (2, .int v2), (3, .int v3)]) O dX6_measure_46 (by decide) rfl ?_
      refine k_iload O dX6_measure_48 0 rfl ?_
      refine k_iconst O dX6_measure_50 (v := 1) (by decide) ?_
      refine k_iload_n O dX6_measure_51 3 rfl ?_
      refine k_ishl O dX6_measure_52 ?_
      refine k_iand O dX6_measure_53 ?_
      refine k_topi (fun x3 ex3 => ?_)
      have h := nm_use h x3 ex3
      refine k_istore (lv' := [(5, .int x3), (4, .int x2), (0, .ref (g_ad X.1 92)), (1, .int v1), (2, .int v2), (3, .int v3)]) O dX6_measure_54 (by decide) rfl ?_
      refine k_iload O dX6_measure_56 0 rfl ?_
      refine k_istore (lv' := [(6, .int x3), (5, .int x3), (4, .int x2), (0, .ref (g_ad X.1 92)), (1, .int v1), (2, .int v2), (3, .int v3)]) O dX6_measure_58 (by decide) rfl ?_
      refine k_iconst O dX6_measure_60 (v := 0) (by decide) ?_
      refine k_istore (lv' := [(7, .int ((0 : Int32))), (6, .int x3), (5, .int x3), (4, .int x2), (0, .ref (g_ad X.1 92)), (1, .int v1), (2, .int v2), (3, .int v3)]) O dX6_measure_61 (by decide) rfl ?_
      exact k_sub [4, 3, 2, 1, 0] rfl (w_X6_measure_63 O hN ho LF h)
    · have h := ite_f c1 h
      refine k_aload_n O dX6_measure_10 0 rfl ?_
      refine k_get O (v := .ref (g_ad X.1 93)) (k := 92) (by omega) E_92 rfl 1 (by decide) (fun _ h9 => List.mem_cons_of_mem _ (List.mem_append_left _ (List.mem_append_right _ h9))) (List.mem_of_getElem? (i := 1) rfl) rfl dX6_measure_11 ?_
      refine k_iload O dX6_measure_14 4 rfl ?_
      refine k_bipush O dX6_measure_16 (v := -9) (by decide) ?_
      obtain ⟨g4, h⟩ := gd_some h
      refine k_iast O (k := 93) (by omega) E_93 (fun _ => E_93) g4 dX6_measure_18 ?_
      refine k_nw (fun w5 ew5 => ?_)
      have h := nm_use h w5 ew5
      obtain ⟨x6, ex6⟩ : ∃ z : Int32, z = v4 + (1 : Int32) := ⟨_, rfl⟩
      have h := nm_use h x6 ex6
      refine k_iinc (lv' := [(4, .int x6), (0, .ref (g_ad X.1 92)), (1, .int v1), (2, .int v2), (3, .int v3)]) O dX6_measure_19 4 rfl (by rw [ex6]; rfl) (by decide) rfl ?_
      refine k_goto O 3 dX6_measure_22 (by decide) ?_
      exact k_sub [1, 2, 3, 4, 0] rfl (ih h)
set_option maxHeartbeats 4000000 in
set_option maxRecDepth 100000 in
theorem w_X6_measure_0 {X : Cx} {wz : Wd} (O : Ok X cX6_measure RX6 none wsX6_measure (2) (40) 10) (hN : 105 ≤ g_N X.1) (ho : Ro X (none, wz)) {w : Wd} {v1 : Int32} {v2 : Int32} {v3 : Int32} (h : b_X6_measure_0 w v1 v2 v3 = some wz) : Wk X w 0 [(0, .ref (g_ad X.1 92)), (1, .int v1), (2, .int v2), (3, .int v3)] [] := by
  unfold b_X6_measure_0 at h
  refine k_iconst O dX6_measure_0 (v := 0) (by decide) ?_
  refine k_istore (lv' := [(4, .int ((0 : Int32))), (0, .ref (g_ad X.1 92)), (1, .int v1), (2, .int v2), (3, .int v3)]) O dX6_measure_1 (by decide) rfl ?_
  exact k_sub [1, 2, 3, 4, 0] rfl (w_X6_measure_3 O hN ho LF h)
theorem c_X6_measure (l : Launch) (G : Gl) (hN : 105 ≤ g_N G) {w wz : Wd} {v1 : Int32} {v2 : Int32} {v3 : Int32} (h : f_X6_measure w v1 v2 v3 = some wz) : Ct l yX6_measure wsX6_measure (2) (40) G [.ref (g_ad G 92), .int v1, .int v2, .int v3] w (none, wz) := by
  refine Ct.start (by decide) rfl rfl rfl (Nat.le_of_ble_eq_true rfl) (fun X hG ho hl O => ?_)
  subst hG
  subst hl
  exact k_sub [0, 1, 2, 3] rfl (w_X6_measure_0 O hN ho h)
def b_X6_stepsFrom_0 (w : Wd) (v1 : Int32) : Option (Int32 × Wd) := bd (f_X7_isCell w v1) (fun r3 w2 => if r3 = 0 then (some ((-9 : Int32), w2)) else (gd (inb v1 12) (some (w2.1 93 v1.toNatClampNeg, w2))))
def f_X6_stepsFrom (w : Wd) (v1 : Int32) : Option (Int32 × Wd) := b_X6_stepsFrom_0 w v1
set_option maxHeartbeats 4000000 in
set_option maxRecDepth 100000 in
theorem w_X6_stepsFrom_0 {X : Cx} {rz : Int32} {wz : Wd} (O : Ok X cX6_stepsFrom RX6 ((some .int)) wsX6_stepsFrom (1) (20) 2) (hN : 105 ≤ g_N X.1) (ho : Ro X (some (.int rz), wz)) {w : Wd} {v1 : Int32} (h : b_X6_stepsFrom_0 w v1 = some (rz, wz)) : Wk X w 0 [(0, .ref (g_ad X.1 92)), (1, .int v1)] [] := by
  unfold b_X6_stepsFrom_0 at h
  refine k_iload_n O dX6_stepsFrom_0 1 rfl ?_
  obtain ⟨r3, w2, hc1, h⟩ := bd_some h
  refine k_callNi O (As := [.int v1]) (rest := []) (c_X7_isCell (x_l X) X.1 hc1) gX6_stepsFrom_X7_isCell_n29 rfl hd_X7_isCell (by decide) (List.mem_of_getElem? (i := 6) rfl) (List.mem_of_getElem? (i := 3) rfl) (List.mem_of_getElem? (i := 2) rfl) rfl rfl (Nat.le_of_ble_eq_true rfl) dX6_stepsFrom_1 ?_
  refine k_if_eq O 16 dX6_stepsFrom_4 (by decide) (fun c4 => ?_) (fun c4 => ?_)
  · have h := ite_t c4 h
    refine k_bipush O dX6_stepsFrom_16 (v := -9) (by decide) ?_
    exact k_iret O dX6_stepsFrom_18 (rt_int h ho)
  · have h := ite_f c4 h
    refine k_aload_n O dX6_stepsFrom_7 0 rfl ?_
    refine k_get O (v := .ref (g_ad X.1 93)) (k := 92) (by omega) E_92 rfl 1 (by decide) (fun _ h9 => List.mem_cons_of_mem _ (List.mem_append_right _ h9)) (List.mem_of_getElem? (i := 1) rfl) rfl dX6_stepsFrom_8 ?_
    refine k_iload_n O dX6_stepsFrom_11 1 rfl ?_
    obtain ⟨g5, h⟩ := gd_some h
    refine k_iald O (k := 93) (by omega) E_93 g5 dX6_stepsFrom_12 ?_
    refine k_goto O 18 dX6_stepsFrom_13 (by decide) ?_
    exact k_iret O dX6_stepsFrom_18 (rt_int h ho)
theorem c_X6_stepsFrom (l : Launch) (G : Gl) (hN : 105 ≤ g_N G) {w wz : Wd} {v1 : Int32} {rz : Int32} (h : f_X6_stepsFrom w v1 = some (rz, wz)) : Ct l yX6_stepsFrom wsX6_stepsFrom (1) (20) G [.ref (g_ad G 92), .int v1] w (some (.int rz), wz) := by
  refine Ct.start (by decide) rfl rfl rfl (Nat.le_of_ble_eq_true rfl) (fun X hG ho hl O => ?_)
  subst hG
  subst hl
  exact k_sub [0, 1] rfl (w_X6_stepsFrom_0 O hN ho h)
def b_X6_nextFrom_58 (kb14 : Wd → Int32 → Int32 → Int32 → Option (Int32 × Wd)) (w : Wd) (v2 : Int32) (v3 : Int32) (v4 : Int32) : Option (Int32 × Wd) := nm (v4 + (1 : Int32)) (fun x1 => kb14 w v2 v3 x1)
def b_X6_nextFrom_14 : Nat → Wd → Int32 → Int32 → Int32 → Option (Int32 × Wd)
  | 0, _, _, _, _ => none
  | n + 1, w, v2, v3, v4 => if ((12 : Int32)) ≤ v4 then (some ((-9 : Int32), w)) else (if ((v2 >>> (v4 &&& 31)) &&& ((1 : Int32))) = 0 then (b_X6_nextFrom_58 (b_X6_nextFrom_14 n) w v2 v3 v4) else (gd (inb v4 12) (if (w.1 93 v4.toNatClampNeg) = ((-9 : Int32)) then (b_X6_nextFrom_58 (b_X6_nextFrom_14 n) w v2 v3 v4) else (gd (inb v4 12) (if (w.1 93 v4.toNatClampNeg) = (v3 - ((1 : Int32))) then (some (v4, w)) else (b_X6_nextFrom_58 (b_X6_nextFrom_14 n) w v2 v3 v4))))))
def b_X6_nextFrom_0 (w : Wd) (v1 : Int32) : Option (Int32 × Wd) := bd (f_X7_neighbours w v1) (fun r3 w2 => bd (f_X6_stepsFrom w2 v1) (fun r6 w5 => b_X6_nextFrom_14 LF w5 r3 r6 ((0 : Int32))))
def f_X6_nextFrom (w : Wd) (v1 : Int32) : Option (Int32 × Wd) := b_X6_nextFrom_0 w v1
set_option maxHeartbeats 4000000 in
set_option maxRecDepth 100000 in
theorem w_X6_nextFrom_58 {X : Cx} {rz : Int32} {wz : Wd} (O : Ok X cX6_nextFrom RX6 ((some .int)) wsX6_nextFrom (2) (41) 5) (hN : 105 ≤ g_N X.1) {kb14 : Wd → Int32 → Int32 → Int32 → Option (Int32 × Wd)} (hk14 : ∀ {w : Wd} {v2 : Int32} {v3 : Int32} {v4 : Int32}, kb14 w v2 v3 v4 = some (rz, wz) → Wk X w 14 [(0, .ref (g_ad X.1 92)), (2, .int v2), (3, .int v3), (4, .int v4)] []) (ho : Ro X (some (.int rz), wz)) {w : Wd} {v2 : Int32} {v3 : Int32} {v4 : Int32} (h : b_X6_nextFrom_58 kb14 w v2 v3 v4 = some (rz, wz)) : Wk X w 58 [(0, .ref (g_ad X.1 92)), (2, .int v2), (3, .int v3), (4, .int v4)] [] := by
  unfold b_X6_nextFrom_58 at h
  obtain ⟨x1, ex1⟩ : ∃ z : Int32, z = v4 + (1 : Int32) := ⟨_, rfl⟩
  have h := nm_use h x1 ex1
  refine k_iinc (lv' := [(4, .int x1), (0, .ref (g_ad X.1 92)), (2, .int v2), (3, .int v3)]) O dX6_nextFrom_58 3 rfl (by rw [ex1]; rfl) (by decide) rfl ?_
  refine k_goto O 14 dX6_nextFrom_61 (by decide) ?_
  exact k_sub [1, 2, 3, 0] rfl (hk14 h)
set_option maxHeartbeats 4000000 in
set_option maxRecDepth 100000 in
theorem w_X6_nextFrom_14 {X : Cx} {rz : Int32} {wz : Wd} (O : Ok X cX6_nextFrom RX6 ((some .int)) wsX6_nextFrom (2) (41) 5) (hN : 105 ≤ g_N X.1) (ho : Ro X (some (.int rz), wz)) (n : Nat) : ∀ {w : Wd} {v2 : Int32} {v3 : Int32} {v4 : Int32}, b_X6_nextFrom_14 n w v2 v3 v4 = some (rz, wz) → Wk X w 14 [(0, .ref (g_ad X.1 92)), (2, .int v2), (3, .int v3), (4, .int v4)] [] := by
  induction n with
  | zero => intro w v2 v3 v4 h; exact nomatch (show (none : Option (Int32 × Wd)) = some _ from h)
  | succ n ih =>
    intro w v2 v3 v4 h
    rw [b_X6_nextFrom_14] at h
    refine k_iload O dX6_nextFrom_14 3 rfl ?_
    refine k_bipush O dX6_nextFrom_16 (v := 12) (by decide) ?_
    refine k_icmp_ge O 64 dX6_nextFrom_18 (by decide) (fun c1 => ?_) (fun c1 => ?_)
    · have h := ite_t c1 h
      refine k_bipush O dX6_nextFrom_64 (v := -9) (by decide) ?_
      exact k_iret O dX6_nextFrom_66 (rt_int h ho)
    · have h := ite_f c1 h
      refine k_iload_n O dX6_nextFrom_21 1 rfl ?_
      refine k_iload O dX6_nextFrom_22 3 rfl ?_
      refine k_ishr O dX6_nextFrom_24 ?_
      refine k_iconst O dX6_nextFrom_25 (v := 1) (by decide) ?_
      refine k_iand O dX6_nextFrom_26 ?_
      refine k_if_eq O 58 dX6_nextFrom_27 (by decide) (fun c2 => ?_) (fun c2 => ?_)
      · have h := ite_t c2 h
        exact k_sub [0, 1, 2, 3] rfl (w_X6_nextFrom_58 O hN (fun {_} {_} {_} {_} h9 => ih h9) ho h)
      · have h := ite_f c2 h
        refine k_aload_n O dX6_nextFrom_30 0 rfl ?_
        refine k_get O (v := .ref (g_ad X.1 93)) (k := 92) (by omega) E_92 rfl 1 (by decide) (fun _ h9 => List.mem_cons_of_mem _ (List.mem_append_right _ h9)) (List.mem_of_getElem? (i := 1) rfl) rfl dX6_nextFrom_31 ?_
        refine k_iload O dX6_nextFrom_34 3 rfl ?_
        obtain ⟨g3, h⟩ := gd_some h
        refine k_iald O (k := 93) (by omega) E_93 g3 dX6_nextFrom_36 ?_
        refine k_bipush O dX6_nextFrom_37 (v := -9) (by decide) ?_
        refine k_icmp_eq O 58 dX6_nextFrom_39 (by decide) (fun c4 => ?_) (fun c4 => ?_)
        · have h := ite_t c4 h
          exact k_sub [0, 1, 2, 3] rfl (w_X6_nextFrom_58 O hN (fun {_} {_} {_} {_} h9 => ih h9) ho h)
        · have h := ite_f c4 h
          refine k_aload_n O dX6_nextFrom_42 0 rfl ?_
          refine k_get O (v := .ref (g_ad X.1 93)) (k := 92) (by omega) E_92 rfl 1 (by decide) (fun _ h9 => List.mem_cons_of_mem _ (List.mem_append_right _ h9)) (List.mem_of_getElem? (i := 1) rfl) rfl dX6_nextFrom_43 ?_
          refine k_iload O dX6_nextFrom_46 3 rfl ?_
          obtain ⟨g5, h⟩ := gd_some h
          refine k_iald O (k := 93) (by omega) E_93 g5 dX6_nextFrom_48 ?_
          refine k_iload_n O dX6_nextFrom_49 2 rfl ?_
          refine k_iconst O dX6_nextFrom_50 (v := 1) (by decide) ?_
          refine k_isub O dX6_nextFrom_51 ?_
          refine k_icmp_ne O 58 dX6_nextFrom_52 (by decide) (fun c6 => ?_) (fun c6 => ?_)
          · have h := ite_f c6 h
            exact k_sub [0, 1, 2, 3] rfl (w_X6_nextFrom_58 O hN (fun {_} {_} {_} {_} h9 => ih h9) ho h)
          · have h := ite_t c6 h
            refine k_iload O dX6_nextFrom_55 3 rfl ?_
            exact k_iret O dX6_nextFrom_57 (rt_int h ho)
set_option maxHeartbeats 4000000 in
set_option maxRecDepth 100000 in
theorem w_X6_nextFrom_0 {X : Cx} {rz : Int32} {wz : Wd} (O : Ok X cX6_nextFrom RX6 ((some .int)) wsX6_nextFrom (2) (41) 5) (hN : 105 ≤ g_N X.1) (ho : Ro X (some (.int rz), wz)) {w : Wd} {v1 : Int32} (h : b_X6_nextFrom_0 w v1 = some (rz, wz)) : Wk X w 0 [(0, .ref (g_ad X.1 92)), (1, .int v1)] [] := by
  unfold b_X6_nextFrom_0 at h
  refine k_iload_n O dX6_nextFrom_0 1 rfl ?_
  obtain ⟨r3, w2, hc1, h⟩ := bd_some h
  refine k_callNi O (As := [.int v1]) (rest := []) (c_X7_neighbours (x_l X) X.1 hc1) gX6_nextFrom_X7_neighbours_n25 rfl hd_X7_neighbours (by decide) (List.mem_of_getElem? (i := 5) rfl) (List.mem_of_getElem? (i := 3) rfl) (List.mem_of_getElem? (i := 2) rfl) rfl rfl (Nat.le_of_ble_eq_true rfl) dX6_nextFrom_1 ?_
  refine k_istore_n (lv' := [(2, .int r3), (0, .ref (g_ad X.1 92)), (1, .int v1)]) O dX6_nextFrom_4 rfl (by decide) rfl ?_
  refine k_aload_n O dX6_nextFrom_5 1 rfl ?_
  refine k_iload_n O dX6_nextFrom_6 2 rfl ?_
  obtain ⟨r6, w5, hc4, h⟩ := bd_some h
  refine k_callVi O (As := [.int v1]) (rest := []) (k := 92) (c_X6_stepsFrom (x_l X) X.1 hN hc4) gX6_nextFrom_X6_stepsFrom rfl hd_X6_stepsFrom (by decide) (by omega) E_92 rfl rfl rfl rfl rfl (Nat.le_of_ble_eq_true rfl) dX6_nextFrom_7 ?_
  refine k_istore_n (lv' := [(3, .int r6), (2, .int r3), (0, .ref (g_ad X.1 92)), (1, .int v1)]) O dX6_nextFrom_10 rfl (by decide) rfl ?_
  refine k_iconst O dX6_nextFrom_11 (v := 0) (by decide) ?_
  refine k_istore (lv' := [(4, .int ((0 : Int32))), (3, .int r6), (2, .int r3), (0, .ref (g_ad X.1 92)), (1, .int v1)]) O dX6_nextFrom_12 (by decide) rfl ?_
  exact k_sub [3, 2, 1, 0] rfl (w_X6_nextFrom_14 O hN ho LF h)
theorem c_X6_nextFrom (l : Launch) (G : Gl) (hN : 105 ≤ g_N G) {w wz : Wd} {v1 : Int32} {rz : Int32} (h : f_X6_nextFrom w v1 = some (rz, wz)) : Ct l yX6_nextFrom wsX6_nextFrom (2) (41) G [.ref (g_ad G 92), .int v1] w (some (.int rz), wz) := by
  refine Ct.start (by decide) rfl rfl rfl (Nat.le_of_ble_eq_true rfl) (fun X hG ho hl O => ?_)
  subst hG
  subst hl
  exact k_sub [0, 1] rfl (w_X6_nextFrom_0 O hN ho h)
def b_X6_cellBehind_21 : Nat → Wd → Int32 → Int32 → Int32 → Option (Int32 × Wd)
  | 0, _, _, _, _ => none
  | n + 1, w, v2, v3, v4 => if v2 < v4 then (some (v3, w)) else (if ((12 : Int32)) ≤ v4 then (some (v3, w)) else (bd (f_X6_nextFrom w v3) (fun r5 w4 => nm (v4 + (1 : Int32)) (fun x6 => b_X6_cellBehind_21 n w4 v2 r5 x6))))
def b_X6_cellBehind_0 (w : Wd) (v1 : Int32) (v2 : Int32) : Option (Int32 × Wd) := if v2 < 0 then (some ((-9 : Int32), w)) else (bd (f_X6_stepsFrom w v1) (fun r4 w3 => if v2 < r4 then (b_X6_cellBehind_21 LF w3 v2 v1 ((0 : Int32))) else (some ((-9 : Int32), w3))))
def f_X6_cellBehind (w : Wd) (v1 : Int32) (v2 : Int32) : Option (Int32 × Wd) := b_X6_cellBehind_0 w v1 v2
set_option maxHeartbeats 4000000 in
set_option maxRecDepth 100000 in
theorem w_X6_cellBehind_21 {X : Cx} {rz : Int32} {wz : Wd} (O : Ok X cX6_cellBehind RX6 ((some .int)) wsX6_cellBehind (3) (65) 5) (hN : 105 ≤ g_N X.1) (ho : Ro X (some (.int rz), wz)) (n : Nat) : ∀ {w : Wd} {v2 : Int32} {v3 : Int32} {v4 : Int32}, b_X6_cellBehind_21 n w v2 v3 v4 = some (rz, wz) → Wk X w 21 [(0, .ref (g_ad X.1 92)), (2, .int v2), (3, .int v3), (4, .int v4)] [] := by
  induction n with
  | zero => intro w v2 v3 v4 h; exact nomatch (show (none : Option (Int32 × Wd)) = some _ from h)
  | succ n ih =>
    intro w v2 v3 v4 h
    rw [b_X6_cellBehind_21] at h
    refine k_iload O dX6_cellBehind_21 3 rfl ?_
    refine k_iload_n O dX6_cellBehind_23 1 rfl ?_
    refine k_icmp_gt O 46 dX6_cellBehind_24 (by decide) (fun c1 => ?_) (fun c1 => ?_)
    · have h := ite_t c1 h
      refine k_iload_n O dX6_cellBehind_46 2 rfl ?_
      exact k_iret O dX6_cellBehind_47 (rt_int h ho)
    · have h := ite_f c1 h
      refine k_iload O dX6_cellBehind_27 3 rfl ?_
      refine k_bipush O dX6_cellBehind_29 (v := 12) (by decide) ?_
      refine k_icmp_ge O 46 dX6_cellBehind_31 (by decide) (fun c2 => ?_) (fun c2 => ?_)
      · have h := ite_t c2 h
        refine k_iload_n O dX6_cellBehind_46 2 rfl ?_
        exact k_iret O dX6_cellBehind_47 (rt_int h ho)
      · have h := ite_f c2 h
        refine k_aload_n O dX6_cellBehind_34 0 rfl ?_
        refine k_iload_n O dX6_cellBehind_35 2 rfl ?_
        obtain ⟨r5, w4, hc3, h⟩ := bd_some h
        refine k_callVi O (As := [.int v3]) (rest := []) (k := 92) (c_X6_nextFrom (x_l X) X.1 hN hc3) gX6_cellBehind_X6_nextFrom rfl hd_X6_nextFrom (by decide) (by omega) E_92 rfl rfl rfl rfl rfl (Nat.le_of_ble_eq_true rfl) dX6_cellBehind_36 ?_
        refine k_istore_n (lv' := [(3, .int r5), (0, .ref (g_ad X.1 92)), (2, .int v2), (4, .int v4)]) O dX6_cellBehind_39 rfl (by decide) rfl ?_
        obtain ⟨x6, ex6⟩ : ∃ z : Int32, z = v4 + (1 : Int32) := ⟨_, rfl⟩
        have h := nm_use h x6 ex6
        refine k_iinc (lv' := [(4, .int x6), (3, .int r5), (0, .ref (g_ad X.1 92)), (2, .int v2)]) O dX6_cellBehind_40 3 rfl (by rw [ex6]; rfl) (by decide) rfl ?_
        refine k_goto O 21 dX6_cellBehind_43 (by decide) ?_
        exact k_sub [2, 3, 1, 0] rfl (ih h)
set_option maxHeartbeats 4000000 in
set_option maxRecDepth 100000 in
theorem w_X6_cellBehind_0 {X : Cx} {rz : Int32} {wz : Wd} (O : Ok X cX6_cellBehind RX6 ((some .int)) wsX6_cellBehind (3) (65) 5) (hN : 105 ≤ g_N X.1) (ho : Ro X (some (.int rz), wz)) {w : Wd} {v1 : Int32} {v2 : Int32} (h : b_X6_cellBehind_0 w v1 v2 = some (rz, wz)) : Wk X w 0 [(0, .ref (g_ad X.1 92)), (1, .int v1), (2, .int v2)] [] := by
  unfold b_X6_cellBehind_0 at h
  refine k_iload_n O dX6_cellBehind_0 2 rfl ?_
  refine k_if_lt O 13 dX6_cellBehind_1 (by decide) (fun c1 => ?_) (fun c1 => ?_)
  · have h := ite_t c1 h
    refine k_bipush O dX6_cellBehind_13 (v := -9) (by decide) ?_
    exact k_iret O dX6_cellBehind_15 (rt_int h ho)
  · have h := ite_f c1 h
    refine k_iload_n O dX6_cellBehind_4 2 rfl ?_
    refine k_aload_n O dX6_cellBehind_5 0 rfl ?_
    refine k_iload_n O dX6_cellBehind_6 1 rfl ?_
    obtain ⟨r4, w3, hc2, h⟩ := bd_some h
    refine k_callVi O (As := [.int v1]) (rest := [.int v2]) (k := 92) (c_X6_stepsFrom (x_l X) X.1 hN hc2) gX6_cellBehind_X6_stepsFrom rfl hd_X6_stepsFrom (by decide) (by omega) E_92 rfl rfl rfl rfl rfl (Nat.le_of_ble_eq_true rfl) dX6_cellBehind_7 ?_
    refine k_icmp_lt O 16 dX6_cellBehind_10 (by decide) (fun c5 => ?_) (fun c5 => ?_)
    · have h := ite_t c5 h
      refine k_iload_n O dX6_cellBehind_16 1 rfl ?_
      refine k_istore_n (lv' := [(3, .int v1), (0, .ref (g_ad X.1 92)), (1, .int v1), (2, .int v2)]) O dX6_cellBehind_17 rfl (by decide) rfl ?_
      refine k_iconst O dX6_cellBehind_18 (v := 0) (by decide) ?_
      refine k_istore (lv' := [(4, .int ((0 : Int32))), (3, .int v1), (0, .ref (g_ad X.1 92)), (1, .int v1), (2, .int v2)]) O dX6_cellBehind_19 (by decide) rfl ?_
      exact k_sub [2, 4, 1, 0] rfl (w_X6_cellBehind_21 O hN ho LF h)
    · have h := ite_f c5 h
      refine k_bipush O dX6_cellBehind_13 (v := -9) (by decide) ?_
      exact k_iret O dX6_cellBehind_15 (rt_int h ho)
theorem c_X6_cellBehind (l : Launch) (G : Gl) (hN : 105 ≤ g_N G) {w wz : Wd} {v1 : Int32} {v2 : Int32} {rz : Int32} (h : f_X6_cellBehind w v1 v2 = some (rz, wz)) : Ct l yX6_cellBehind wsX6_cellBehind (3) (65) G [.ref (g_ad G 92), .int v1, .int v2] w (some (.int rz), wz) := by
  refine Ct.start (by decide) rfl rfl rfl (Nat.le_of_ble_eq_true rfl) (fun X hG ho hl O => ?_)
  subst hG
  subst hl
  exact k_sub [0, 1, 2] rfl (w_X6_cellBehind_0 O hN ho h)
