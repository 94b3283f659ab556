def b_X1_clear_32 (p : Nat) : Nat → Wd → Int32 → Option (Wd)
  | 0, _, _ => none
  | n + 1, w, v1 => if ((6 : Int32)) ≤ v1 then (some w) else (gd (inb v1 6) (nm (up w (p + 4) v1.toNatClampNeg ((0 : Int32))) (fun w3 => nm (v1 + (1 : Int32)) (fun x4 => b_X1_clear_32 p n w3 x4))))
def b_X1_clear_0 (p : Nat) (w : Wd) : Option (Wd) := nm (up w p 0 ((0 : Int32))) (fun w1 => nm (up w1 p 1 ((0 : Int32))) (fun w2 => nm (up w2 p 2 ((0 : Int32))) (fun w3 => nm (up w3 p 3 ((0 : Int32))) (fun w4 => nm (up w4 p 4 ((0 : Int32))) (fun w5 => nm (up w5 p 5 ((0 : Int32))) (fun w6 => b_X1_clear_32 p LF w6 ((0 : Int32))))))))
def f_X1_clear (p : Nat) (w : Wd) : Option (Wd) := b_X1_clear_0 p w 
set_option maxHeartbeats 4000000 in
set_option maxRecDepth 100000 in
theorem w_X1_clear_32 {X : Cx} {wz : Wd} (O : Ok X cX1_clear RX1 none wsX1_clear (0) (0) 2) {p : Nat} (h_p : plb p = true) (n_p : p + 6 < g_N X.1) (ho : Ro X (none, wz)) (n : Nat) : ∀ {w : Wd} {v1 : Int32}, b_X1_clear_32 p n w v1 = some wz → Wk X w 32 [(0, .ref (g_ad X.1 p)), (1, .int v1)] [] := by
  induction n with
  | zero => intro w v1 h; exact nomatch (show (none : Option (Wd)) = some _ from h)
  | succ n ih =>
    intro w v1 h
    rw [b_X1_clear_32] at h
    refine k_iload_n O dX1_clear_32 1 rfl ?_
    refine k_bipush O dX1_clear_33 (v := 6) (by decide) ?_
    refine k_icmp_ge O 51 dX1_clear_35 (by decide) (fun c1 => ?_) (fun c1 => ?_)
    · have h := ite_t c1 h
      exact k_vret O dX1_clear_51 (rt_void h ho)
    · have h := ite_f c1 h
      refine k_aload_n O dX1_clear_38 0 rfl ?_
      refine k_get O (v := .ref (g_ad X.1 (p + 4))) (k := p) (by omega) (E_pl h_p) rfl 9 (by decide) (fun _ h9 => List.mem_cons_of_mem _ (List.mem_append_right _ h9)) (List.mem_of_getElem? (i := 7) rfl) rfl dX1_clear_39 ?_
      refine k_iload_n O dX1_clear_42 1 rfl ?_
      refine k_iconst O dX1_clear_43 (v := 0) (by decide) ?_
      obtain ⟨g2, h⟩ := gd_some h
      refine k_iast O (k := (p + 4)) (by omega) (E_pl4 h_p) (fun _ => (E_pl4 h_p)) g2 dX1_clear_44 ?_
      refine k_nw (fun w3 ew3 => ?_)
      have h := nm_use h w3 ew3
      obtain ⟨x4, ex4⟩ : ∃ z : Int32, z = v1 + (1 : Int32) := ⟨_, rfl⟩
      have h := nm_use h x4 ex4
      refine k_iinc (lv' := [(1, .int x4), (0, .ref (g_ad X.1 p))]) O dX1_clear_45 1 rfl (by rw [ex4]; rfl) (by decide) rfl ?_
      refine k_goto O 32 dX1_clear_48 (by decide) ?_
      exact k_sub [1, 0] rfl (ih h)
set_option maxHeartbeats 4000000 in
set_option maxRecDepth 100000 in
theorem w_X1_clear_0 {X : Cx} {wz : Wd} (O : Ok X cX1_clear RX1 none wsX1_clear (0) (0) 2) {p : Nat} (h_p : plb p = true) (n_p : p + 6 < g_N X.1) (ho : Ro X (none, wz)) {w : Wd} (h : b_X1_clear_0 p w  = some wz) : Wk X w 0 [(0, .ref (g_ad X.1 p))] [] := by
  unfold b_X1_clear_0 at h
  refine k_aload_n O dX1_clear_0 0 rfl ?_
  refine k_iconst O dX1_clear_1 (v := 0) (by decide) ?_
  refine k_puti O (k := p) tyX1 tyX1_ok nmX1 (by omega) (E_pl h_p) rfl 0 (by decide) (fun _ h9 => List.mem_cons_of_mem _ (List.mem_append_right _ h9)) (List.mem_of_getElem? (i := 1) rfl) rfl rfl rfl (Nat.le_of_ble_eq_true rfl) ((E_pl h_p).trans rfl) dX1_clear_2 ?_
  refine k_nw (fun w1 ew1 => ?_)
  have h := nm_use h w1 ew1
  refine k_aload_n O dX1_clear_5 0 rfl ?_
  refine k_iconst O dX1_clear_6 (v := 0) (by decide) ?_
  refine k_puti O (k := p) tyX1 tyX1_ok nmX1 (by omega) (E_pl h_p) rfl 1 (by decide) (fun _ h9 => List.mem_cons_of_mem _ (List.mem_append_right _ h9)) (List.mem_of_getElem? (i := 2) rfl) rfl rfl rfl (Nat.le_of_ble_eq_true rfl) ((E_pl h_p).trans rfl) dX1_clear_7 ?_
  refine k_nw (fun w2 ew2 => ?_)
  have h := nm_use h w2 ew2
  refine k_aload_n O dX1_clear_10 0 rfl ?_
  refine k_iconst O dX1_clear_11 (v := 0) (by decide) ?_
  refine k_puti O (k := p) tyX1 tyX1_ok nmX1 (by omega) (E_pl h_p) rfl 2 (by decide) (fun _ h9 => List.mem_cons_of_mem _ (List.mem_append_right _ h9)) (List.mem_of_getElem? (i := 3) rfl) rfl rfl rfl (Nat.le_of_ble_eq_true rfl) ((E_pl h_p).trans rfl) dX1_clear_12 ?_
  refine k_nw (fun w3 ew3 => ?_)
  have h := nm_use h w3 ew3
  refine k_aload_n O dX1_clear_15 0 rfl ?_
  refine k_iconst O dX1_clear_16 (v := 0) (by decide) ?_
  refine k_puti O (k := p) tyX1 tyX1_ok nmX1 (by omega) (E_pl h_p) rfl 3 (by decide) (fun _ h9 => List.mem_cons_of_mem _ (List.mem_append_right _ h9)) (List.mem_of_getElem? (i := 4) rfl) rfl rfl rfl (Nat.le_of_ble_eq_true rfl) ((E_pl h_p).trans rfl) dX1_clear_17 ?_
  refine k_nw (fun w4 ew4 => ?_)
  have h := nm_use h w4 ew4
  refine k_aload_n O dX1_clear_20 0 rfl ?_
  refine k_iconst O dX1_clear_21 (v := 0) (by decide) ?_
  refine k_puti O (k := p) tyX1 tyX1_ok nmX1 (by omega) (E_pl h_p) rfl 4 (by decide) (fun _ h9 => List.mem_cons_of_mem _ (List.mem_append_right _ h9)) (List.mem_of_getElem? (i := 5) rfl) rfl rfl rfl (Nat.le_of_ble_eq_true rfl) ((E_pl h_p).trans rfl) dX1_clear_22 ?_
  refine k_nw (fun w5 ew5 => ?_)
  have h := nm_use h w5 ew5
  refine k_aload_n O dX1_clear_25 0 rfl ?_
  refine k_iconst O dX1_clear_26 (v := 0) (by decide) ?_
  refine k_puti O (k := p) tyX1 tyX1_ok nmX1 (by omega) (E_pl h_p) rfl 5 (by decide) (fun _ h9 => List.mem_cons_of_mem _ (List.mem_append_right _ h9)) (List.mem_of_getElem? (i := 6) rfl) rfl rfl rfl (Nat.le_of_ble_eq_true rfl) ((E_pl h_p).trans rfl) dX1_clear_27 ?_
  refine k_nw (fun w6 ew6 => ?_)
  have h := nm_use h w6 ew6
  refine k_iconst O dX1_clear_30 (v := 0) (by decide) ?_
  refine k_istore_n (lv' := [(1, .int ((0 : Int32))), (0, .ref (g_ad X.1 p))]) O dX1_clear_31 rfl (by decide) rfl ?_
  exact k_sub [1, 0] rfl (w_X1_clear_32 O h_p n_p ho LF h)
theorem c_X1_clear (l : Launch) (G : Gl) {p : Nat} (h_p : plb p = true) (n_p : p + 6 < g_N G) {w wz : Wd} (h : f_X1_clear p w  = some wz) : Ct l yX1_clear wsX1_clear (0) (0) G [.ref (g_ad G p)] w (none, wz) := by
  refine Ct.start (by decide) rfl rfl rfl (Nat.le_of_ble_eq_true rfl) (fun X hG ho hl O => ?_)
  subst hG
  subst hl
  exact k_sub [0] rfl (w_X1_clear_0 O h_p n_p ho h)
def b_X1_addTrap_115 (p : Nat) (w : Wd) (s0 : Int32) (s1 : Int32) : Option (Wd) := nm (up w p 5 (s1 ||| s0)) (fun w1 => nm (up w1 p 0 ((w1.1 p 0) + ((1 : Int32)))) (fun w2 => some w2))
def b_X1_addTrap_95 (p : Nat) (w : Wd) (v3 : Int32) (v4 : Int32) (s0 : Int32) (s1 : Int32) : Option (Wd) := nm (up w p 4 (s1 ||| s0)) (fun w1 => if v3 = ((4 : Int32)) then (b_X1_addTrap_115 p w1 v4 (w1.1 p 5)) else (b_X1_addTrap_115 p w1 ((0 : Int32)) (w1.1 p 5)))
def b_X1_addTrap_89 (p : Nat) (w : Wd) (v3 : Int32) (v4 : Int32) (s0 : Int32) : Option (Wd) := b_X1_addTrap_95 p w v3 v4 v4 s0
def b_X1_addTrap_71 (p : Nat) (w : Wd) (v3 : Int32) (v4 : Int32) (s0 : Int32) (s1 : Int32) : Option (Wd) := nm (up w p 3 (s1 ||| s0)) (fun w1 => if v3 = 0 then (b_X1_addTrap_89 p w1 v3 v4 (w1.1 p 4)) else (if v3 = ((2 : Int32)) then (b_X1_addTrap_89 p w1 v3 v4 (w1.1 p 4)) else (b_X1_addTrap_95 p w1 v3 v4 ((0 : Int32)) (w1.1 p 4))))
def b_X1_addTrap_0 (p : Nat) (w : Wd) (v1 : Int32) (v2 : Int32) (v3 : Int32) : Option (Wd) := if (w.1 p 0) < 0 then (some w) else (if (w.1 p 0) < ((6 : Int32)) then (nm (((1 : Int32)) <<< ((w.1 p 0) &&& 31)) (fun x3 => gd (inb (w.1 p 0) 6) (nm (up w (p + 1) (w.1 p 0).toNatClampNeg v1) (fun w5 => gd (inb (w5.1 p 0) 6) (nm (up w5 (p + 2) (w5.1 p 0).toNatClampNeg v2) (fun w7 => gd (inb (w7.1 p 0) 6) (nm (up w7 (p + 3) (w7.1 p 0).toNatClampNeg v3) (fun w9 => if v3 = ((3 : Int32)) then (b_X1_addTrap_71 p w9 v3 x3 x3 (w9.1 p 3)) else (b_X1_addTrap_71 p w9 v3 x3 ((0 : Int32)) (w9.1 p 3)))))))))) else (some w))
def f_X1_addTrap (p : Nat) (w : Wd) (v1 : Int32) (v2 : Int32) (v3 : Int32) : Option (Wd) := b_X1_addTrap_0 p w v1 v2 v3
set_option maxHeartbeats 4000000 in
set_option maxRecDepth 100000 in
theorem w_X1_addTrap_115 {X : Cx} {wz : Wd} (O : Ok X cX1_addTrap RX1 none wsX1_addTrap (0) (0) 5) {p : Nat} (h_p : plb p = true) (n_p : p + 6 < g_N X.1) (ho : Ro X (none, wz)) {w : Wd} {s0 : Int32} {s1 : Int32} (h : b_X1_addTrap_115 p w s0 s1 = some wz) : Wk X w 115 [(0, .ref (g_ad X.1 p))] [.int s0, .int s1, .ref (g_ad X.1 p)] := by
  unfold b_X1_addTrap_115 at h
  refine k_ior O dX1_addTrap_115 ?_
  refine k_puti O (k := p) tyX1 tyX1_ok nmX1 (by omega) (E_pl h_p) rfl 5 (by decide) (fun _ h9 => List.mem_cons_of_mem _ (List.mem_append_right _ h9)) (List.mem_of_getElem? (i := 7) rfl) rfl rfl rfl (Nat.le_of_ble_eq_true rfl) ((E_pl h_p).trans rfl) dX1_addTrap_116 ?_
  refine k_nw (fun w1 ew1 => ?_)
  have h := nm_use h w1 ew1
  refine k_aload_n O dX1_addTrap_119 0 rfl ?_
  refine k_dup O dX1_addTrap_120 rfl ?_
  refine k_get O (v := .int (w1.1 p 0)) (k := p) (by omega) (E_pl h_p) rfl 0 (by decide) (fun _ h9 => List.mem_cons_of_mem _ (List.mem_append_right _ h9)) (List.mem_of_getElem? (i := 1) rfl) rfl dX1_addTrap_121 ?_
  refine k_iconst O dX1_addTrap_124 (v := 1) (by decide) ?_
  refine k_iadd O dX1_addTrap_125 ?_
  refine k_puti O (k := p) tyX1 tyX1_ok nmX1 (by omega) (E_pl h_p) rfl 0 (by decide) (fun _ h9 => List.mem_cons_of_mem _ (List.mem_append_right _ h9)) (List.mem_of_getElem? (i := 1) rfl) rfl rfl rfl (Nat.le_of_ble_eq_true rfl) ((E_pl h_p).trans rfl) dX1_addTrap_126 ?_
  refine k_nw (fun w2 ew2 => ?_)
  have h := nm_use h w2 ew2
  exact k_vret O dX1_addTrap_129 (rt_void h ho)
set_option maxHeartbeats 4000000 in
set_option maxRecDepth 100000 in
theorem w_X1_addTrap_95 {X : Cx} {wz : Wd} (O : Ok X cX1_addTrap RX1 none wsX1_addTrap (0) (0) 5) {p : Nat} (h_p : plb p = true) (n_p : p + 6 < g_N X.1) (ho : Ro X (none, wz)) {w : Wd} {v3 : Int32} {v4 : Int32} {s0 : Int32} {s1 : Int32} (h : b_X1_addTrap_95 p w v3 v4 s0 s1 = some wz) : Wk X w 95 [(0, .ref (g_ad X.1 p)), (3, .int v3), (4, .int v4)] [.int s0, .int s1, .ref (g_ad X.1 p)] := by
  unfold b_X1_addTrap_95 at h
  refine k_ior O dX1_addTrap_95 ?_
  refine k_puti O (k := p) tyX1 tyX1_ok nmX1 (by omega) (E_pl h_p) rfl 4 (by decide) (fun _ h9 => List.mem_cons_of_mem _ (List.mem_append_right _ h9)) (List.mem_of_getElem? (i := 6) rfl) rfl rfl rfl (Nat.le_of_ble_eq_true rfl) ((E_pl h_p).trans rfl) dX1_addTrap_96 ?_
  refine k_nw (fun w1 ew1 => ?_)
  have h := nm_use h w1 ew1
  refine k_aload_n O dX1_addTrap_99 0 rfl ?_
  refine k_dup O dX1_addTrap_100 rfl ?_
  refine k_get O (v := .int (w1.1 p 5)) (k := p) (by omega) (E_pl h_p) rfl 5 (by decide) (fun _ h9 => List.mem_cons_of_mem _ (List.mem_append_right _ h9)) (List.mem_of_getElem? (i := 7) rfl) rfl dX1_addTrap_101 ?_
  refine k_iload_n O dX1_addTrap_104 1 rfl ?_
  refine k_iconst O dX1_addTrap_105 (v := 4) (by decide) ?_
  refine k_icmp_ne O 114 dX1_addTrap_106 (by decide) (fun c2 => ?_) (fun c2 => ?_)
  · have h := ite_f c2 h
    refine k_iconst O dX1_addTrap_114 (v := 0) (by decide) ?_
    exact k_sub [0] rfl (w_X1_addTrap_115 O h_p n_p ho h)
  · have h := ite_t c2 h
    refine k_iload O dX1_addTrap_109 2 rfl ?_
    refine k_goto O 115 dX1_addTrap_111 (by decide) ?_
    exact k_sub [0] rfl (w_X1_addTrap_115 O h_p n_p ho h)
set_option maxHeartbeats 4000000 in
set_option maxRecDepth 100000 in
theorem w_X1_addTrap_89 {X : Cx} {wz : Wd} (O : Ok X cX1_addTrap RX1 none wsX1_addTrap (0) (0) 5) {p : Nat} (h_p : plb p = true) (n_p : p + 6 < g_N X.1) (ho : Ro X (none, wz)) {w : Wd} {v3 : Int32} {v4 : Int32} {s0 : Int32} (h : b_X1_addTrap_89 p w v3 v4 s0 = some wz) : Wk X w 89 [(0, .ref (g_ad X.1 p)), (3, .int v3), (4, .int v4)] [.int s0, .ref (g_ad X.1 p)] := by
  unfold b_X1_addTrap_89 at h
  refine k_iload O dX1_addTrap_89 2 rfl ?_
  refine k_goto O 95 dX1_addTrap_91 (by decide) ?_
  exact k_sub [0, 1, 2] rfl (w_X1_addTrap_95 O h_p n_p ho h)
set_option maxHeartbeats 4000000 in
set_option maxRecDepth 100000 in
theorem w_X1_addTrap_71 {X : Cx} {wz : Wd} (O : Ok X cX1_addTrap RX1 none wsX1_addTrap (0) (0) 5) {p : Nat} (h_p : plb p = true) (n_p : p + 6 < g_N X.1) (ho : Ro X (none, wz)) {w : Wd} {v3 : Int32} {v4 : Int32} {s0 : Int32} {s1 : Int32} (h : b_X1_addTrap_71 p w v3 v4 s0 s1 = some wz) : Wk X w 71 [(0, .ref (g_ad X.1 p)), (3, .int v3), (4, .int v4)] [.int s0, .int s1, .ref (g_ad X.1 p)] := by
  unfold b_X1_addTrap_71 at h
  refine k_ior O dX1_addTrap_71 ?_
  refine k_puti O (k := p) tyX1 tyX1_ok nmX1 (by omega) (E_pl h_p) rfl 3 (by decide) (fun _ h9 => List.mem_cons_of_mem _ (List.mem_append_right _ h9)) (List.mem_of_getElem? (i := 5) rfl) rfl rfl rfl (Nat.le_of_ble_eq_true rfl) ((E_pl h_p).trans rfl) dX1_addTrap_72 ?_
  refine k_nw (fun w1 ew1 => ?_)
  have h := nm_use h w1 ew1
  refine k_aload_n O dX1_addTrap_75 0 rfl ?_
  refine k_dup O dX1_addTrap_76 rfl ?_
  refine k_get O (v := .int (w1.1 p 4)) (k := p) (by omega) (E_pl h_p) rfl 4 (by decide) (fun _ h9 => List.mem_cons_of_mem _ (List.mem_append_right _ h9)) (List.mem_of_getElem? (i := 6) rfl) rfl dX1_addTrap_77 ?_
  refine k_iload_n O dX1_addTrap_80 1 rfl ?_
  refine k_if_eq O 89 dX1_addTrap_81 (by decide) (fun c2 => ?_) (fun c2 => ?_)
  · have h := ite_t c2 h
    exact k_sub [0, 1, 2] rfl (w_X1_addTrap_89 O h_p n_p ho h)
  · have h := ite_f c2 h
    refine k_iload_n O dX1_addTrap_84 1 rfl ?_
    refine k_iconst O dX1_addTrap_85 (v := 2) (by decide) ?_
    refine k_icmp_ne O 94 dX1_addTrap_86 (by decide) (fun c3 => ?_) (fun c3 => ?_)
    · have h := ite_f c3 h
      refine k_iconst O dX1_addTrap_94 (v := 0) (by decide) ?_
      exact k_sub [0, 1, 2] rfl (w_X1_addTrap_95 O h_p n_p ho h)
    · have h := ite_t c3 h
      exact k_sub [0, 1, 2] rfl (w_X1_addTrap_89 O h_p n_p ho h)
set_option maxHeartbeats 4000000 in
set_option maxRecDepth 100000 in
theorem w_X1_addTrap_0 {X : Cx} {wz : Wd} (O : Ok X cX1_addTrap RX1 none wsX1_addTrap (0) (0) 5) {p : Nat} (h_p : plb p = true) (n_p : p + 6 < g_N X.1) (ho : Ro X (none, wz)) {w : Wd} {v1 : Int32} {v2 : Int32} {v3 : Int32} (h : b_X1_addTrap_0 p w v1 v2 v3 = some wz) : Wk X w 0 [(0, .ref (g_ad X.1 p)), (1, .int v1), (2, .int v2), (3, .int v3)] [] := by
  unfold b_X1_addTrap_0 at h
  refine k_aload_n O dX1_addTrap_0 0 rfl ?_
  refine k_get O (v := .int (w.1 p 0)) (k := p) (by omega) (E_pl h_p) rfl 0 (by decide) (fun _ h9 => List.mem_cons_of_mem _ (List.mem_append_right _ h9)) (List.mem_of_getElem? (i := 1) rfl) rfl dX1_addTrap_1 ?_
  refine k_if_lt O 16 dX1_addTrap_4 (by decide) (fun c1 => ?_) (fun c1 => ?_)
  · have h := ite_t c1 h
    exact k_vret O dX1_addTrap_16 (rt_void h ho)
  · have h := ite_f c1 h
    refine k_aload_n O dX1_addTrap_7 0 rfl ?_
    refine k_get O (v := .int (w.1 p 0)) (k := p) (by omega) (E_pl h_p) rfl 0 (by decide) (fun _ h9 => List.mem_cons_of_mem _ (List.mem_append_right _ h9)) (List.mem_of_getElem? (i := 1) rfl) rfl dX1_addTrap_8 ?_
    refine k_bipush O dX1_addTrap_11 (v := 6) (by decide) ?_
    refine k_icmp_lt O 17 dX1_addTrap_13 (by decide) (fun c2 => ?_) (fun c2 => ?_)
    · have h := ite_t c2 h
      refine k_iconst O dX1_addTrap_17 (v := 1) (by decide) ?_
      refine k_aload_n O dX1_addTrap_18 0 rfl ?_
      refine k_get O (v := .int (w.1 p 0)) (k := p) (by omega) (E_pl h_p) rfl 0 (by decide) (fun _ h9 => List.mem_cons_of_mem _ (List.mem_append_right _ h9)) (List.mem_of_getElem? (i := 1) rfl) rfl dX1_addTrap_19 ?_
      refine k_ishl O dX1_addTrap_22 ?_
      refine k_topi (fun x3 ex3 => ?_)
      have h := nm_use h x3 ex3
      refine k_istore (lv' := [(4, .int x3), (0, .ref (g_ad X.1 p)), (1, .int v1), (2, .int v2), (3, .int v3)]) O dX1_addTrap_23 (by decide) rfl ?_
      refine k_aload_n O dX1_addTrap_25 1 rfl ?_
      refine k_get O (v := .ref (g_ad X.1 (p + 1))) (k := p) (by omega) (E_pl h_p) rfl 6 (by decide) (fun _ h9 => List.mem_cons_of_mem _ (List.mem_append_right _ h9)) (List.mem_of_getElem? (i := 2) rfl) rfl dX1_addTrap_26 ?_
      refine k_aload_n O dX1_addTrap_29 1 rfl ?_
      refine k_get O (v := .int (w.1 p 0)) (k := p) (by omega) (E_pl h_p) rfl 0 (by decide) (fun _ h9 => List.mem_cons_of_mem _ (List.mem_append_right _ h9)) (List.mem_of_getElem? (i := 1) rfl) rfl dX1_addTrap_30 ?_
      refine k_iload_n O dX1_addTrap_33 2 rfl ?_
      obtain ⟨g4, h⟩ := gd_some h
      refine k_iast O (k := (p + 1)) (by omega) (E_pl1 h_p) (fun _ => (E_pl1 h_p)) g4 dX1_addTrap_34 ?_
      refine k_nw (fun w5 ew5 => ?_)
      have h := nm_use h w5 ew5
      refine k_aload_n O dX1_addTrap_35 1 rfl ?_
      refine k_get O (v := .ref (g_ad X.1 (p + 2))) (k := p) (by omega) (E_pl h_p) rfl 7 (by decide) (fun _ h9 => List.mem_cons_of_mem _ (List.mem_append_right _ h9)) (List.mem_of_getElem? (i := 3) rfl) rfl dX1_addTrap_36 ?_
      refine k_aload_n O dX1_addTrap_39 1 rfl ?_
      refine k_get O (v := .int (w5.1 p 0)) (k := p) (by omega) (E_pl h_p) rfl 0 (by decide) (fun _ h9 => List.mem_cons_of_mem _ (List.mem_append_right _ h9)) (List.mem_of_getElem? (i := 1) rfl) rfl dX1_addTrap_40 ?_
      refine k_iload_n O dX1_addTrap_43 3 rfl ?_
      obtain ⟨g6, h⟩ := gd_some h
      refine k_iast O (k := (p + 2)) (by omega) (E_pl2 h_p) (fun _ => (E_pl2 h_p)) g6 dX1_addTrap_44 ?_
      refine k_nw (fun w7 ew7 => ?_)
      have h := nm_use h w7 ew7
      refine k_aload_n O dX1_addTrap_45 1 rfl ?_
      refine k_get O (v := .ref (g_ad X.1 (p + 3))) (k := p) (by omega) (E_pl h_p) rfl 8 (by decide) (fun _ h9 => List.mem_cons_of_mem _ (List.mem_append_right _ h9)) (List.mem_of_getElem? (i := 4) rfl) rfl dX1_addTrap_46 ?_
      refine k_aload_n O dX1_addTrap_49 1 rfl ?_
      refine k_get O (v := .int (w7.1 p 0)) (k := p) (by omega) (E_pl h_p) rfl 0 (by decide) (fun _ h9 => List.mem_cons_of_mem _ (List.mem_append_right _ h9)) (List.mem_of_getElem? (i := 1) rfl) rfl dX1_addTrap_50 ?_
      refine k_iload_n O dX1_addTrap_53 4 rfl ?_
      obtain ⟨g8, h⟩ := gd_some h
      refine k_iast O (k := (p + 3)) (by omega) (E_pl3 h_p) (fun _ => (E_pl3 h_p)) g8 dX1_addTrap_54 ?_
      refine k_nw (fun w9 ew9 => ?_)
      have h := nm_use h w9 ew9
      refine k_aload_n O dX1_addTrap_55 1 rfl ?_
      refine k_dup O dX1_addTrap_56 rfl ?_
      refine k_get O (v := .int (w9.1 p 3)) (k := p) (by omega) (E_pl h_p) rfl 3 (by decide) (fun _ h9 => List.mem_cons_of_mem _ (List.mem_append_right _ h9)) (List.mem_of_getElem? (i := 5) rfl) rfl dX1_addTrap_57 ?_
      refine k_iload_n O dX1_addTrap_60 4 rfl ?_
      refine k_iconst O dX1_addTrap_61 (v := 3) (by decide) ?_
      refine k_icmp_ne O 70 dX1_addTrap_62 (by decide) (fun c10 => ?_) (fun c10 => ?_)
      · have h := ite_f c10 h
        refine k_iconst O dX1_addTrap_70 (v := 0) (by decide) ?_
        exact k_sub [1, 4, 0] rfl (w_X1_addTrap_71 O h_p n_p ho h)
      · have h := ite_t c10 h
        refine k_iload O dX1_addTrap_65 0 rfl ?_
        refine k_goto O 71 dX1_addTrap_67 (by decide) ?_
        exact k_sub [1, 4, 0] rfl (w_X1_addTrap_71 O h_p n_p ho h)
    · have h := ite_f c2 h
      exact k_vret O dX1_addTrap_16 (rt_void h ho)
theorem c_X1_addTrap (l : Launch) (G : Gl) {p : Nat} (h_p : plb p = true) (n_p : p + 6 < g_N G) {w wz : Wd} {v1 : Int32} {v2 : Int32} {v3 : Int32} (h : f_X1_addTrap p w v1 v2 v3 = some wz) : Ct l yX1_addTrap wsX1_addTrap (0) (0) G [.ref (g_ad G p), .int v1, .int v2, .int v3] w (none, wz) := by
  refine Ct.start (by decide) rfl rfl rfl (Nat.le_of_ble_eq_true rfl) (fun X hG ho hl O => ?_)
  subst hG
  subst hl
  exact k_sub [0, 1, 2, 3] rfl (w_X1_addTrap_0 O h_p n_p ho h)
def b_X1_addWalker_0 (p : Nat) (w : Wd) (v1 : Int32) (v2 : Int32) : Option (Wd) := if (w.1 p 1) < 0 then (some w) else (if (w.1 p 1) < ((4 : Int32)) then (gd (inb (w.1 p 1) 4) (nm (up w (p + 5) (w.1 p 1).toNatClampNeg v1) (fun w4 => gd (inb (w4.1 p 1) 4) (nm (up w4 (p + 6) (w4.1 p 1).toNatClampNeg v2) (fun w6 => nm (up w6 p 1 ((w6.1 p 1) + ((1 : Int32)))) (fun w7 => some w7)))))) else (some w))
def f_X1_addWalker (p : Nat) (w : Wd) (v1 : Int32) (v2 : Int32) : Option (Wd) := b_X1_addWalker_0 p w v1 v2
set_option maxHeartbeats 4000000 in
set_option maxRecDepth 100000 in
theorem w_X1_addWalker_0 {X : Cx} {wz : Wd} (O : Ok X cX1_addWalker RX1 none wsX1_addWalker (0) (0) 3) {p : Nat} (h_p : plb p = true) (n_p : p + 6 < g_N X.1) (ho : Ro X (none, wz)) {w : Wd} {v1 : Int32} {v2 : Int32} (h : b_X1_addWalker_0 p w v1 v2 = some wz) : Wk X w 0 [(0, .ref (g_ad X.1 p)), (1, .int v1), (2, .int v2)] [] := by
  unfold b_X1_addWalker_0 at h
  refine k_aload_n O dX1_addWalker_0 0 rfl ?_
  refine k_get O (v := .int (w.1 p 1)) (k := p) (by omega) (E_pl h_p) rfl 1 (by decide) (fun _ h9 => List.mem_cons_of_mem _ (List.mem_append_right _ h9)) (List.mem_of_getElem? (i := 1) rfl) rfl dX1_addWalker_1 ?_
  refine k_if_lt O 15 dX1_addWalker_4 (by decide) (fun c1 => ?_) (fun c1 => ?_)
  · have h := ite_t c1 h
    exact k_vret O dX1_addWalker_15 (rt_void h ho)
  · have h := ite_f c1 h
    refine k_aload_n O dX1_addWalker_7 0 rfl ?_
    refine k_get O (v := .int (w.1 p 1)) (k := p) (by omega) (E_pl h_p) rfl 1 (by decide) (fun _ h9 => List.mem_cons_of_mem _ (List.mem_append_right _ h9)) (List.mem_of_getElem? (i := 1) rfl) rfl dX1_addWalker_8 ?_
    refine k_iconst O dX1_addWalker_11 (v := 4) (by decide) ?_
    refine k_icmp_lt O 16 dX1_addWalker_12 (by decide) (fun c2 => ?_) (fun c2 => ?_)
    · have h := ite_t c2 h
      refine k_aload_n O dX1_addWalker_16 0 rfl ?_
      refine k_get O (v := .ref (g_ad X.1 (p + 5))) (k := p) (by omega) (E_pl h_p) rfl 10 (by decide) (fun _ h9 => List.mem_cons_of_mem _ (List.mem_append_right _ h9)) (List.mem_of_getElem? (i := 2) rfl) rfl dX1_addWalker_17 ?_
      refine k_aload_n O dX1_addWalker_20 0 rfl ?_
      refine k_get O (v := .int (w.1 p 1)) (k := p) (by omega) (E_pl h_p) rfl 1 (by decide) (fun _ h9 => List.mem_cons_of_mem _ (List.mem_append_right _ h9)) (List.mem_of_getElem? (i := 1) rfl) rfl dX1_addWalker_21 ?_
      refine k_iload_n O dX1_addWalker_24 1 rfl ?_
      obtain ⟨g3, h⟩ := gd_some h
      refine k_iast O (k := (p + 5)) (by omega) (E_pl5 h_p) (fun _ => (E_pl5 h_p)) g3 dX1_addWalker_25 ?_
      refine k_nw (fun w4 ew4 => ?_)
      have h := nm_use h w4 ew4
      refine k_aload_n O dX1_addWalker_26 0 rfl ?_
      refine k_get O (v := .ref (g_ad X.1 (p + 6))) (k := p) (by omega) (E_pl h_p) rfl 11 (by decide) (fun _ h9 => List.mem_cons_of_mem _ (List.mem_append_right _ h9)) (List.mem_of_getElem? (i := 3) rfl) rfl dX1_addWalker_27 ?_
      refine k_aload_n O dX1_addWalker_30 0 rfl ?_
      refine k_get O (v := .int (w4.1 p 1)) (k := p) (by omega) (E_pl h_p) rfl 1 (by decide) (fun _ h9 => List.mem_cons_of_mem _ (List.mem_append_right _ h9)) (List.mem_of_getElem? (i := 1) rfl) rfl dX1_addWalker_31 ?_
      refine k_iload_n O dX1_addWalker_34 2 rfl ?_
      obtain ⟨g5, h⟩ := gd_some h
      refine k_iast O (k := (p + 6)) (by omega) (E_pl6 h_p) (fun _ => (E_pl6 h_p)) g5 dX1_addWalker_35 ?_
      refine k_nw (fun w6 ew6 => ?_)
      have h := nm_use h w6 ew6
      refine k_aload_n O dX1_addWalker_36 0 rfl ?_
      refine k_dup O dX1_addWalker_37 rfl ?_
      refine k_get O (v := .int (w6.1 p 1)) (k := p) (by omega) (E_pl h_p) rfl 1 (by decide) (fun _ h9 => List.mem_cons_of_mem _ (List.mem_append_right _ h9)) (List.mem_of_getElem? (i := 1) rfl) rfl dX1_addWalker_38 ?_
      refine k_iconst O dX1_addWalker_41 (v := 1) (by decide) ?_
      refine k_iadd O dX1_addWalker_42 ?_
      refine k_puti O (k := p) tyX1 tyX1_ok nmX1 (by omega) (E_pl h_p) rfl 1 (by decide) (fun _ h9 => List.mem_cons_of_mem _ (List.mem_append_right _ h9)) (List.mem_of_getElem? (i := 1) rfl) rfl rfl rfl (Nat.le_of_ble_eq_true rfl) ((E_pl h_p).trans rfl) dX1_addWalker_43 ?_
      refine k_nw (fun w7 ew7 => ?_)
      have h := nm_use h w7 ew7
      exact k_vret O dX1_addWalker_46 (rt_void h ho)
    · have h := ite_f c2 h
      exact k_vret O dX1_addWalker_15 (rt_void h ho)
theorem c_X1_addWalker (l : Launch) (G : Gl) {p : Nat} (h_p : plb p = true) (n_p : p + 6 < g_N G) {w wz : Wd} {v1 : Int32} {v2 : Int32} (h : f_X1_addWalker p w v1 v2 = some wz) : Ct l yX1_addWalker wsX1_addWalker (0) (0) G [.ref (g_ad G p), .int v1, .int v2] w (none, wz) := by
  refine Ct.start (by decide) rfl rfl rfl (Nat.le_of_ble_eq_true rfl) (fun X hG ho hl O => ?_)
  subst hG
  subst hl
  exact k_sub [0, 1, 2] rfl (w_X1_addWalker_0 O h_p n_p ho h)
def b_X1_hasTrap_0 (p : Nat) (w : Wd) (v1 : Int32) : Option (Int32 × Wd) := if v1 < 0 then (some ((0 : Int32), w)) else (if (w.1 p 0) ≤ v1 then (some ((0 : Int32), w)) else (if ((6 : Int32)) ≤ v1 then (some ((0 : Int32), w)) else (some ((1 : Int32), w))))
def f_X1_hasTrap (p : Nat) (w : Wd) (v1 : Int32) : Option (Int32 × Wd) := b_X1_hasTrap_0 p w v1
set_option maxHeartbeats 4000000 in
set_option maxRecDepth 100000 in
theorem w_X1_hasTrap_0 {X : Cx} {rz : Int32} {wz : Wd} (O : Ok X cX1_hasTrap RX1 ((some .boolean)) wsX1_hasTrap (0) (0) 2) {p : Nat} (h_p : plb p = true) (n_p : p + 6 < g_N X.1) (ho : Ro X (some (.int rz), wz)) {w : Wd} {v1 : Int32} (h : b_X1_hasTrap_0 p w v1 = some (rz, wz)) : Wk X w 0 [(0, .ref (g_ad X.1 p)), (1, .int v1)] [] := by
  unfold b_X1_hasTrap_0 at h
  refine k_iload_n O dX1_hasTrap_0 1 rfl ?_
  refine k_if_lt O 22 dX1_hasTrap_1 (by decide) (fun c1 => ?_) (fun c1 => ?_)
  · have h := ite_t c1 h
    refine k_iconst O dX1_hasTrap_22 (v := 0) (by decide) ?_
    exact k_zret O (by decide) dX1_hasTrap_23 (rt_int h ho)
  · have h := ite_f c1 h
    refine k_iload_n O dX1_hasTrap_4 1 rfl ?_
    refine k_aload_n O dX1_hasTrap_5 0 rfl ?_
    refine k_get O (v := .int (w.1 p 0)) (k := p) (by omega) (E_pl h_p) rfl 0 (by decide) (fun _ h9 => List.mem_cons_of_mem _ (List.mem_append_right _ h9)) (List.mem_of_getElem? (i := 1) rfl) rfl dX1_hasTrap_6 ?_
    refine k_icmp_ge O 22 dX1_hasTrap_9 (by decide) (fun c2 => ?_) (fun c2 => ?_)
    · have h := ite_t c2 h
      refine k_iconst O dX1_hasTrap_22 (v := 0) (by decide) ?_
      exact k_zret O (by decide) dX1_hasTrap_23 (rt_int h ho)
    · have h := ite_f c2 h
      refine k_iload_n O dX1_hasTrap_12 1 rfl ?_
      refine k_bipush O dX1_hasTrap_13 (v := 6) (by decide) ?_
      refine k_icmp_ge O 22 dX1_hasTrap_15 (by decide) (fun c3 => ?_) (fun c3 => ?_)
      · have h := ite_t c3 h
        refine k_iconst O dX1_hasTrap_22 (v := 0) (by decide) ?_
        exact k_zret O (by decide) dX1_hasTrap_23 (rt_int h ho)
      · have h := ite_f c3 h
        refine k_iconst O dX1_hasTrap_18 (v := 1) (by decide) ?_
        refine k_goto O 23 dX1_hasTrap_19 (by decide) ?_
        exact k_zret O (by decide) dX1_hasTrap_23 (rt_int h ho)
theorem c_X1_hasTrap (l : Launch) (G : Gl) {p : Nat} (h_p : plb p = true) (n_p : p + 6 < g_N G) {w wz : Wd} {v1 : Int32} {rz : Int32} (h : f_X1_hasTrap p w v1 = some (rz, wz)) : Ct l yX1_hasTrap wsX1_hasTrap (0) (0) G [.ref (g_ad G p), .int v1] w (some (.int rz), wz) := by
  refine Ct.start (by decide) rfl rfl rfl (Nat.le_of_ble_eq_true rfl) (fun X hG ho hl O => ?_)
  subst hG
  subst hl
  exact k_sub [0, 1] rfl (w_X1_hasTrap_0 O h_p n_p ho h)
def b_X1_hasWalker_0 (p : Nat) (w : Wd) (v1 : Int32) : Option (Int32 × Wd) := if v1 < 0 then (some ((0 : Int32), w)) else (if (w.1 p 1) ≤ v1 then (some ((0 : Int32), w)) else (if ((4 : Int32)) ≤ v1 then (some ((0 : Int32), w)) else (some ((1 : Int32), w))))
def f_X1_hasWalker (p : Nat) (w : Wd) (v1 : Int32) : Option (Int32 × Wd) := b_X1_hasWalker_0 p w v1
set_option maxHeartbeats 4000000 in
set_option maxRecDepth 100000 in
theorem w_X1_hasWalker_0 {X : Cx} {rz : Int32} {wz : Wd} (O : Ok X cX1_hasWalker RX1 ((some .boolean)) wsX1_hasWalker (0) (0) 2) {p : Nat} (h_p : plb p = true) (n_p : p + 6 < g_N X.1) (ho : Ro X (some (.int rz), wz)) {w : Wd} {v1 : Int32} (h : b_X1_hasWalker_0 p w v1 = some (rz, wz)) : Wk X w 0 [(0, .ref (g_ad X.1 p)), (1, .int v1)] [] := by
  unfold b_X1_hasWalker_0 at h
  refine k_iload_n O dX1_hasWalker_0 1 rfl ?_
  refine k_if_lt O 21 dX1_hasWalker_1 (by decide) (fun c1 => ?_) (fun c1 => ?_)
  · have h := ite_t c1 h
    refine k_iconst O dX1_hasWalker_21 (v := 0) (by decide) ?_
    exact k_zret O (by decide) dX1_hasWalker_22 (rt_int h ho)
  · have h := ite_f c1 h
    refine k_iload_n O dX1_hasWalker_4 1 rfl ?_
    refine k_aload_n O dX1_hasWalker_5 0 rfl ?_
    refine k_get O (v := .int (w.1 p 1)) (k := p) (by omega) (E_pl h_p) rfl 1 (by decide) (fun _ h9 => List.mem_cons_of_mem _ (List.mem_append_right _ h9)) (List.mem_of_getElem? (i := 1) rfl) rfl dX1_hasWalker_6 ?_
    refine k_icmp_ge O 21 dX1_hasWalker_9 (by decide) (fun c2 => ?_) (fun c2 => ?_)
    · have h := ite_t c2 h
      refine k_iconst O dX1_hasWalker_21 (v := 0) (by decide) ?_
      exact k_zret O (by decide) dX1_hasWalker_22 (rt_int h ho)
    · have h := ite_f c2 h
      refine k_iload_n O dX1_hasWalker_12 1 rfl ?_
      refine k_iconst O dX1_hasWalker_13 (v := 4) (by decide) ?_
      refine k_icmp_ge O 21 dX1_hasWalker_14 (by decide) (fun c3 => ?_) (fun c3 => ?_)
      · have h := ite_t c3 h
        refine k_iconst O dX1_hasWalker_21 (v := 0) (by decide) ?_
        exact k_zret O (by decide) dX1_hasWalker_22 (rt_int h ho)
      · have h := ite_f c3 h
        refine k_iconst O dX1_hasWalker_17 (v := 1) (by decide) ?_
        refine k_goto O 22 dX1_hasWalker_18 (by decide) ?_
        exact k_zret O (by decide) dX1_hasWalker_22 (rt_int h ho)
theorem c_X1_hasWalker (l : Launch) (G : Gl) {p : Nat} (h_p : plb p = true) (n_p : p + 6 < g_N G) {w wz : Wd} {v1 : Int32} {rz : Int32} (h : f_X1_hasWalker p w v1 = some (rz, wz)) : Ct l yX1_hasWalker wsX1_hasWalker (0) (0) G [.ref (g_ad G p), .int v1] w (some (.int rz), wz) := by
  refine Ct.start (by decide) rfl rfl rfl (Nat.le_of_ble_eq_true rfl) (fun X hG ho hl O => ?_)
  subst hG
  subst hl
  exact k_sub [0, 1] rfl (w_X1_hasWalker_0 O h_p n_p ho h)
def b_X1_allTraps_0 (p : Nat) (w : Wd) : Option (Int32 × Wd) := some ((((1 : Int32)) <<< ((w.1 p 0) &&& 31)) - ((1 : Int32)), w)
def f_X1_allTraps (p : Nat) (w : Wd) : Option (Int32 × Wd) := b_X1_allTraps_0 p w 
set_option maxHeartbeats 4000000 in
set_option maxRecDepth 100000 in
theorem w_X1_allTraps_0 {X : Cx} {rz : Int32} {wz : Wd} (O : Ok X cX1_allTraps RX1 ((some .int)) wsX1_allTraps (0) (0) 1) {p : Nat} (h_p : plb p = true) (n_p : p + 6 < g_N X.1) (ho : Ro X (some (.int rz), wz)) {w : Wd} (h : b_X1_allTraps_0 p w  = some (rz, wz)) : Wk X w 0 [(0, .ref (g_ad X.1 p))] [] := by
  unfold b_X1_allTraps_0 at h
  refine k_iconst O dX1_allTraps_0 (v := 1) (by decide) ?_
  refine k_aload_n O dX1_allTraps_1 0 rfl ?_
  refine k_get O (v := .int (w.1 p 0)) (k := p) (by omega) (E_pl h_p) rfl 0 (by decide) (fun _ h9 => List.mem_cons_of_mem _ (List.mem_append_right _ h9)) (List.mem_of_getElem? (i := 1) rfl) rfl dX1_allTraps_2 ?_
  refine k_ishl O dX1_allTraps_5 ?_
  refine k_iconst O dX1_allTraps_6 (v := 1) (by decide) ?_
  refine k_isub O dX1_allTraps_7 ?_
  exact k_iret O dX1_allTraps_8 (rt_int h ho)
theorem c_X1_allTraps (l : Launch) (G : Gl) {p : Nat} (h_p : plb p = true) (n_p : p + 6 < g_N G) {w wz : Wd} {rz : Int32} (h : f_X1_allTraps p w  = some (rz, wz)) : Ct l yX1_allTraps wsX1_allTraps (0) (0) G [.ref (g_ad G p)] w (some (.int rz), wz) := by
  refine Ct.start (by decide) rfl rfl rfl (Nat.le_of_ble_eq_true rfl) (fun X hG ho hl O => ?_)
  subst hG
  subst hl
  exact k_sub [0] rfl (w_X1_allTraps_0 O h_p n_p ho h)
def b_X7_isCell_0 (w : Wd) (v0 : Int32) : Option (Int32 × Wd) := if v0 < 0 then (some ((0 : Int32), w)) else (if ((12 : Int32)) ≤ v0 then (some ((0 : Int32), w)) else (some ((1 : Int32), w)))
def f_X7_isCell (w : Wd) (v0 : Int32) : Option (Int32 × Wd) := b_X7_isCell_0 w v0
set_option maxHeartbeats 4000000 in
set_option maxRecDepth 100000 in
theorem w_X7_isCell_0 {X : Cx} {rz : Int32} {wz : Wd} (O : Ok X cX7_isCell RX7 ((some .boolean)) wsX7_isCell (0) (0) 1) (ho : Ro X (some (.int rz), wz)) {w : Wd} {v0 : Int32} (h : b_X7_isCell_0 w v0 = some (rz, wz)) : Wk X w 0 [(0, .int v0)] [] := by
  unfold b_X7_isCell_0 at h
  refine k_iload_n O dX7_isCell_0 0 rfl ?_
  refine k_if_lt O 14 dX7_isCell_1 (by decide) (fun c1 => ?_) (fun c1 => ?_)
  · have h := ite_t c1 h
    refine k_iconst O dX7_isCell_14 (v := 0) (by decide) ?_
    exact k_zret O (by decide) dX7_isCell_15 (rt_int h ho)
  · have h := ite_f c1 h
    refine k_iload_n O dX7_isCell_4 0 rfl ?_
    refine k_bipush O dX7_isCell_5 (v := 12) (by decide) ?_
    refine k_icmp_ge O 14 dX7_isCell_7 (by decide) (fun c2 => ?_) (fun c2 => ?_)
    · have h := ite_t c2 h
      refine k_iconst O dX7_isCell_14 (v := 0) (by decide) ?_
      exact k_zret O (by decide) dX7_isCell_15 (rt_int h ho)
    · have h := ite_f c2 h
      refine k_iconst O dX7_isCell_10 (v := 1) (by decide) ?_
      refine k_goto O 15 dX7_isCell_11 (by decide) ?_
      exact k_zret O (by decide) dX7_isCell_15 (rt_int h ho)
theorem c_X7_isCell (l : Launch) (G : Gl) {w wz : Wd} {v0 : Int32} {rz : Int32} (h : f_X7_isCell w v0 = some (rz, wz)) : Ct l yX7_isCell wsX7_isCell (0) (0) G [.int v0] w (some (.int rz), wz) := by
  refine Ct.start (by decide) rfl rfl rfl (Nat.le_of_ble_eq_true rfl) (fun X hG ho hl O => ?_)
  subst hG
  subst hl
  exact k_sub [0] rfl (w_X7_isCell_0 O ho h)
def b_X7_neighbours_0 (w : Wd) (v0 : Int32) : Option (Int32 × Wd) := bd (f_X7_isCell w v0) (fun r3 w2 => if r3 = 0 then (some ((0 : Int32), w2)) else (gd (inb v0 12) (some (aro v0.toNatClampNeg, w2))))
def f_X7_neighbours (w : Wd) (v0 : Int32) : Option (Int32 × Wd) := b_X7_neighbours_0 w v0
set_option maxHeartbeats 4000000 in
set_option maxRecDepth 100000 in
theorem w_X7_neighbours_0 {X : Cx} {rz : Int32} {wz : Wd} (O : Ok X cX7_neighbours RX7 ((some .int)) wsX7_neighbours (1) (20) 1) (ho : Ro X (some (.int rz), wz)) {w : Wd} {v0 : Int32} (h : b_X7_neighbours_0 w v0 = some (rz, wz)) : Wk X w 0 [(0, .int v0)] [] := by
  unfold b_X7_neighbours_0 at h
  refine k_iload_n O dX7_neighbours_0 0 rfl ?_
  obtain ⟨r3, w2, hc1, h⟩ := bd_some h
  refine k_callSi O (As := [.int v0]) (rest := []) (c_X7_isCell (x_l X) X.1 hc1) gX7_neighbours_X7_isCell rfl hd_X7_isCell (by decide) rfl rfl (Nat.le_of_ble_eq_true rfl) dX7_neighbours_1 ?_
  refine k_if_eq O 15 dX7_neighbours_4 (by decide) (fun c4 => ?_) (fun c4 => ?_)
  · have h := ite_t c4 h
    refine k_iconst O dX7_neighbours_15 (v := 0) (by decide) ?_
    exact k_iret O dX7_neighbours_16 (rt_int h ho)
  · have h := ite_f c4 h
    refine k_gets O (List.mem_of_getElem? (i := 1) rfl) dX7_neighbours_7 ?_
    refine k_iload_n O dX7_neighbours_10 0 rfl ?_
    obtain ⟨g5, h⟩ := gd_some h
    refine k_tald O g5 dX7_neighbours_11 ?_
    refine k_goto O 16 dX7_neighbours_12 (by decide) ?_
    exact k_iret O dX7_neighbours_16 (rt_int h ho)
theorem c_X7_neighbours (l : Launch) (G : Gl) {w wz : Wd} {v0 : Int32} {rz : Int32} (h : f_X7_neighbours w v0 = some (rz, wz)) : Ct l yX7_neighbours wsX7_neighbours (1) (20) G [.int v0] w (some (.int rz), wz) := by
  refine Ct.start (by decide) rfl rfl rfl (Nat.le_of_ble_eq_true rfl) (fun X hG ho hl O => ?_)
  subst hG
  subst hl
  exact k_sub [0] rfl (w_X7_neighbours_0 O ho h)
def b_X1_waysFrom_0 (p : Nat) (w : Wd) (v1 : Int32) : Option (Int32 × Wd) := bd (f_X7_neighbours w v1) (fun r3 w2 => some (r3 &&& ((w2.1 p 2) ^^^ ((-1 : Int32))), w2))
def f_X1_waysFrom (p : Nat) (w : Wd) (v1 : Int32) : Option (Int32 × Wd) := b_X1_waysFrom_0 p w v1
set_option maxHeartbeats 4000000 in
set_option maxRecDepth 100000 in
theorem w_X1_waysFrom_0 {X : Cx} {rz : Int32} {wz : Wd} (O : Ok X cX1_waysFrom RX1 ((some .int)) wsX1_waysFrom (2) (40) 2) {p : Nat} (h_p : plb p = true) (n_p : p + 6 < g_N X.1) (ho : Ro X (some (.int rz), wz)) {w : Wd} {v1 : Int32} (h : b_X1_waysFrom_0 p w v1 = some (rz, wz)) : Wk X w 0 [(0, .ref (g_ad X.1 p)), (1, .int v1)] [] := by
  unfold b_X1_waysFrom_0 at h
  refine k_iload_n O dX1_waysFrom_0 1 rfl ?_
  obtain ⟨r3, w2, hc1, h⟩ := bd_some h
  refine k_callNi O (As := [.int v1]) (rest := []) (c_X7_neighbours (x_l X) X.1 hc1) gX1_waysFrom_X7_neighbours_n49 rfl hd_X7_neighbours (by decide) (List.mem_of_getElem? (i := 4) rfl) (List.mem_of_getElem? (i := 3) rfl) (List.mem_of_getElem? (i := 2) rfl) rfl rfl (Nat.le_of_ble_eq_true rfl) dX1_waysFrom_1 ?_
  refine k_aload_n O dX1_waysFrom_4 0 rfl ?_
  refine k_get O (v := .int (w2.1 p 2)) (k := p) (by omega) (E_pl h_p) rfl 2 (by decide) (fun _ h9 => List.mem_cons_of_mem _ (List.mem_append_right _ h9)) (List.mem_of_getElem? (i := 1) rfl) rfl dX1_waysFrom_5 ?_
  refine k_iconst O dX1_waysFrom_8 (v := -1) (by decide) ?_
  refine k_ixor O dX1_waysFrom_9 ?_
  refine k_iand O dX1_waysFrom_10 ?_
  exact k_iret O dX1_waysFrom_11 (rt_int h ho)
theorem c_X1_waysFrom (l : Launch) (G : Gl) {p : Nat} (h_p : plb p = true) (n_p : p + 6 < g_N G) {w wz : Wd} {v1 : Int32} {rz : Int32} (h : f_X1_waysFrom p w v1 = some (rz, wz)) : Ct l yX1_waysFrom wsX1_waysFrom (2) (40) G [.ref (g_ad G p), .int v1] w (some (.int rz), wz) := by
  refine Ct.start (by decide) rfl rfl rfl (Nat.le_of_ble_eq_true rfl) (fun X hG ho hl O => ?_)
  subst hG
  subst hl
  exact k_sub [0, 1] rfl (w_X1_waysFrom_0 O h_p n_p ho h)
def b_X1_trapOn_2 (p : Nat) : Nat → Wd → Int32 → Int32 → Option (Int32 × Wd)
  | 0, _, _, _ => none
  | n + 1, w, v1, v2 => if ((6 : Int32)) ≤ v2 then (some ((-9 : Int32), w)) else (if (w.1 p 0) ≤ v2 then (some ((-9 : Int32), w)) else (gd (inb v2 6) (if (w.1 (p + 1) v2.toNatClampNeg) = v1 then (some (v2, w)) else (nm (v2 + (1 : Int32)) (fun x5 => b_X1_trapOn_2 p n w v1 x5)))))
def b_X1_trapOn_0 (p : Nat) (w : Wd) (v1 : Int32) : Option (Int32 × Wd) := b_X1_trapOn_2 p LF w v1 ((0 : Int32))
def f_X1_trapOn (p : Nat) (w : Wd) (v1 : Int32) : Option (Int32 × Wd) := b_X1_trapOn_0 p w v1
set_option maxHeartbeats 4000000 in
set_option maxRecDepth 100000 in
theorem w_X1_trapOn_2 {X : Cx} {rz : Int32} {wz : Wd} (O : Ok X cX1_trapOn RX1 ((some .int)) wsX1_trapOn (0) (0) 3) {p : Nat} (h_p : plb p = true) (n_p : p + 6 < g_N X.1) (ho : Ro X (some (.int rz), wz)) (n : Nat) : ∀ {w : Wd} {v1 : Int32} {v2 : Int32}, b_X1_trapOn_2 p n w v1 v2 = some (rz, wz) → Wk X w 2 [(0, .ref (g_ad X.1 p)), (1, .int v1), (2, .int v2)] [] := by
  induction n with
  | zero => intro w v1 v2 h; exact nomatch (show (none : Option (Int32 × Wd)) = some _ from h)
  | succ n ih =>
    intro w v1 v2 h
    rw [b_X1_trapOn_2] at h
    refine k_iload_n O dX1_trapOn_2 2 rfl ?_
    refine k_bipush O dX1_trapOn_3 (v := 6) (by decide) ?_
    refine k_icmp_ge O 34 dX1_trapOn_5 (by decide) (fun c1 => ?_) (fun c1 => ?_)
    · have h := ite_t c1 h
      refine k_bipush O dX1_trapOn_34 (v := -9) (by decide) ?_
      exact k_iret O dX1_trapOn_36 (rt_int h ho)
    · have h := ite_f c1 h
      refine k_iload_n O dX1_trapOn_8 2 rfl ?_
      refine k_aload_n O dX1_trapOn_9 0 rfl ?_
      refine k_get O (v := .int (w.1 p 0)) (k := p) (by omega) (E_pl h_p) rfl 0 (by decide) (fun _ h9 => List.mem_cons_of_mem _ (List.mem_append_right _ h9)) (List.mem_of_getElem? (i := 1) rfl) rfl dX1_trapOn_10 ?_
      refine k_icmp_ge O 34 dX1_trapOn_13 (by decide) (fun c2 => ?_) (fun c2 => ?_)
      · have h := ite_t c2 h
        refine k_bipush O dX1_trapOn_34 (v := -9) (by decide) ?_
        exact k_iret O dX1_trapOn_36 (rt_int h ho)
      · have h := ite_f c2 h
        refine k_aload_n O dX1_trapOn_16 0 rfl ?_
        refine k_get O (v := .ref (g_ad X.1 (p + 1))) (k := p) (by omega) (E_pl h_p) rfl 6 (by decide) (fun _ h9 => List.mem_cons_of_mem _ (List.mem_append_right _ h9)) (List.mem_of_getElem? (i := 2) rfl) rfl dX1_trapOn_17 ?_
        refine k_iload_n O dX1_trapOn_20 2 rfl ?_
        obtain ⟨g3, h⟩ := gd_some h
        refine k_iald O (k := (p + 1)) (by omega) (E_pl1 h_p) g3 dX1_trapOn_21 ?_
        refine k_iload_n O dX1_trapOn_22 1 rfl ?_
        refine k_icmp_ne O 28 dX1_trapOn_23 (by decide) (fun c4 => ?_) (fun c4 => ?_)
        · have h := ite_f c4 h
          obtain ⟨x5, ex5⟩ : ∃ z : Int32, z = v2 + (1 : Int32) := ⟨_, rfl⟩
          have h := nm_use h x5 ex5
          refine k_iinc (lv' := [(2, .int x5), (0, .ref (g_ad X.1 p)), (1, .int v1)]) O dX1_trapOn_28 2 rfl (by rw [ex5]; rfl) (by decide) rfl ?_
          refine k_goto O 2 dX1_trapOn_31 (by decide) ?_
          exact k_sub [1, 2, 0] rfl (ih h)
        · have h := ite_t c4 h
          refine k_iload_n O dX1_trapOn_26 2 rfl ?_
          exact k_iret O dX1_trapOn_27 (rt_int h ho)
set_option maxHeartbeats 4000000 in
set_option maxRecDepth 100000 in
theorem w_X1_trapOn_0 {X : Cx} {rz : Int32} {wz : Wd} (O : Ok X cX1_trapOn RX1 ((some .int)) wsX1_trapOn (0) (0) 3) {p : Nat} (h_p : plb p = true) (n_p : p + 6 < g_N X.1) (ho : Ro X (some (.int rz), wz)) {w : Wd} {v1 : Int32} (h : b_X1_trapOn_0 p w v1 = some (rz, wz)) : Wk X w 0 [(0, .ref (g_ad X.1 p)), (1, .int v1)] [] := by
  unfold b_X1_trapOn_0 at h
  refine k_iconst O dX1_trapOn_0 (v := 0) (by decide) ?_
  refine k_istore_n (lv' := [(2, .int ((0 : Int32))), (0, .ref (g_ad X.1 p)), (1, .int v1)]) O dX1_trapOn_1 rfl (by decide) rfl ?_
  exact k_sub [1, 2, 0] rfl (w_X1_trapOn_2 O h_p n_p ho LF h)
theorem c_X1_trapOn (l : Launch) (G : Gl) {p : Nat} (h_p : plb p = true) (n_p : p + 6 < g_N G) {w wz : Wd} {v1 : Int32} {rz : Int32} (h : f_X1_trapOn p w v1 = some (rz, wz)) : Ct l yX1_trapOn wsX1_trapOn (0) (0) G [.ref (g_ad G p), .int v1] w (some (.int rz), wz) := by
  refine Ct.start (by decide) rfl rfl rfl (Nat.le_of_ble_eq_true rfl) (fun X hG ho hl O => ?_)
  subst hG
  subst hl
  exact k_sub [0, 1] rfl (w_X1_trapOn_0 O h_p n_p ho h)
def b_X1_trapsOn_4 (p : Nat) : Nat → Wd → Int32 → Int32 → Int32 → Option (Int32 × Wd)
  | 0, _, _, _, _ => none
  | n + 1, w, v1, v2, v3 => if ((6 : Int32)) ≤ v3 then (some (v2, w)) else (if (w.1 p 0) ≤ v3 then (some (v2, w)) else (gd (inb v3 6) (nm (v2 ||| (((v1 >>> ((w.1 (p + 1) v3.toNatClampNeg) &&& 31)) &&& ((1 : Int32))) <<< (v3 &&& 31))) (fun x4 => nm (v3 + (1 : Int32)) (fun x5 => b_X1_trapsOn_4 p n w v1 x4 x5)))))
def b_X1_trapsOn_0 (p : Nat) (w : Wd) (v1 : Int32) : Option (Int32 × Wd) := b_X1_trapsOn_4 p LF w v1 ((0 : Int32)) ((0 : Int32))
def f_X1_trapsOn (p : Nat) (w : Wd) (v1 : Int32) : Option (Int32 × Wd) := b_X1_trapsOn_0 p w v1
set_option maxHeartbeats 4000000 in
set_option maxRecDepth 100000 in
theorem w_X1_trapsOn_4 {X : Cx} {rz : Int32} {wz : Wd} (O : Ok X cX1_trapsOn RX1 ((some .int)) wsX1_trapsOn (0) (0) 4) {p : Nat} (h_p : plb p = true) (n_p : p + 6 < g_N X.1) (ho : Ro X (some (.int rz), wz)) (n : Nat) : ∀ {w : Wd} {v1 : Int32} {v2 : Int32} {v3 : Int32}, b_X1_trapsOn_4 p n w v1 v2 v3 = some (rz, wz) → Wk X w 4 [(0, .ref (g_ad X.1 p)), (1, .int v1), (2, .int v2), (3, .int v3)] [] := by
  induction n with
  | zero => intro w v1 v2 v3 h; exact nomatch (show (none : Option (Int32 × Wd)) = some _ from h)
  | succ n ih =>
    intro w v1 v2 v3 h
    rw [b_X1_trapsOn_4] at h
    refine k_iload_n O dX1_trapsOn_4 3 rfl ?_
    refine k_bipush O dX1_trapsOn_5 (v := 6) (by decide) ?_
    refine k_icmp_ge O 39 dX1_trapsOn_7 (by decide) (fun c1 => ?_) (fun c1 => ?_)
    · have h := ite_t c1 h
      refine k_iload_n O dX1_trapsOn_39 2 rfl ?_
      exact k_iret O dX1_trapsOn_40 (rt_int h ho)
    · have h := ite_f c1 h
      refine k_iload_n O dX1_trapsOn_10 3 rfl ?_
      refine k_aload_n O dX1_trapsOn_11 0 rfl ?_
      refine k_get O (v := .int (w.1 p 0)) (k := p) (by omega) (E_pl h_p) rfl 0 (by decide) (fun _ h9 => List.mem_cons_of_mem _ (List.mem_append_right _ h9)) (List.mem_of_getElem? (i := 1) rfl) rfl dX1_trapsOn_12 ?_
      refine k_icmp_ge O 39 dX1_trapsOn_15 (by decide) (fun c2 => ?_) (fun c2 => ?_)
      · have h := ite_t c2 h
        refine k_iload_n O dX1_trapsOn_39 2 rfl ?_
        exact k_iret O dX1_trapsOn_40 (rt_int h ho)
      · have h := ite_f c2 h
        refine k_iload_n O dX1_trapsOn_18 2 rfl ?_
        refine k_iload_n O dX1_trapsOn_19 1 rfl ?_
        refine k_aload_n O dX1_trapsOn_20 0 rfl ?_
        refine k_get O (v := .ref (g_ad X.1 (p + 1))) (k := p) (by omega) (E_pl h_p) rfl 6 (by decide) (fun _ h9 => List.mem_cons_of_mem _ (List.mem_append_right _ h9)) (List.mem_of_getElem? (i := 2) rfl) rfl dX1_trapsOn_21 ?_
        refine k_iload_n O dX1_trapsOn_24 3 rfl ?_
        obtain ⟨g3, h⟩ := gd_some h
        refine k_iald O (k := (p + 1)) (by omega) (E_pl1 h_p) g3 dX1_trapsOn_25 ?_
        refine k_ishr O dX1_trapsOn_26 ?_
        refine k_iconst O dX1_trapsOn_27 (v := 1) (by decide) ?_
        refine k_iand O dX1_trapsOn_28 ?_
        refine k_iload_n O dX1_trapsOn_29 3 rfl ?_
        refine k_ishl O dX1_trapsOn_30 ?_
        refine k_ior O dX1_trapsOn_31 ?_
        refine k_topi (fun x4 ex4 => ?_)
        have h := nm_use h x4 ex4
        refine k_istore_n (lv' := [(2, .int x4), (0, .ref (g_ad X.1 p)), (1, .int v1), (3, .int v3)]) O dX1_trapsOn_32 rfl (by decide) rfl ?_
        obtain ⟨x5, ex5⟩ : ∃ z : Int32, z = v3 + (1 : Int32) := ⟨_, rfl⟩
        have h := nm_use h x5 ex5
        refine k_iinc (lv' := [(3, .int x5), (2, .int x4), (0, .ref (g_ad X.1 p)), (1, .int v1)]) O dX1_trapsOn_33 3 rfl (by rw [ex5]; rfl) (by decide) rfl ?_
        refine k_goto O 4 dX1_trapsOn_36 (by decide) ?_
        exact k_sub [2, 3, 1, 0] rfl (ih h)
set_option maxHeartbeats 4000000 in
set_option maxRecDepth 100000 in
theorem w_X1_trapsOn_0 {X : Cx} {rz : Int32} {wz : Wd} (O : Ok X cX1_trapsOn RX1 ((some .int)) wsX1_trapsOn (0) (0) 4) {p : Nat} (h_p : plb p = true) (n_p : p + 6 < g_N X.1) (ho : Ro X (some (.int rz), wz)) {w : Wd} {v1 : Int32} (h : b_X1_trapsOn_0 p w v1 = some (rz, wz)) : Wk X w 0 [(0, .ref (g_ad X.1 p)), (1, .int v1)] [] := by
  unfold b_X1_trapsOn_0 at h
  refine k_iconst O dX1_trapsOn_0 (v := 0) (by decide) ?_
  refine k_istore_n (lv' := [(2, .int ((0 : Int32))), (0, .ref (g_ad X.1 p)), (1, .int v1)]) O dX1_trapsOn_1 rfl (by decide) rfl ?_
  refine k_iconst O dX1_trapsOn_2 (v := 0) (by decide) ?_
  refine k_istore_n (lv' := [(3, .int ((0 : Int32))), (2, .int ((0 : Int32))), (0, .ref (g_ad X.1 p)), (1, .int v1)]) O dX1_trapsOn_3 rfl (by decide) rfl ?_
  exact k_sub [2, 3, 1, 0] rfl (w_X1_trapsOn_4 O h_p n_p ho LF h)
theorem c_X1_trapsOn (l : Launch) (G : Gl) {p : Nat} (h_p : plb p = true) (n_p : p + 6 < g_N G) {w wz : Wd} {v1 : Int32} {rz : Int32} (h : f_X1_trapsOn p w v1 = some (rz, wz)) : Ct l yX1_trapsOn wsX1_trapsOn (0) (0) G [.ref (g_ad G p), .int v1] w (some (.int rz), wz) := by
  refine Ct.start (by decide) rfl rfl rfl (Nat.le_of_ble_eq_true rfl) (fun X hG ho hl O => ?_)
  subst hG
  subst hl
  exact k_sub [0, 1] rfl (w_X1_trapsOn_0 O h_p n_p ho h)
def b_X1_cellsOf_4 (p : Nat) : Nat → Wd → Int32 → Int32 → Int32 → Option (Int32 × Wd)
  | 0, _, _, _, _ => none
  | n + 1, w, v1, v2, v3 => if ((6 : Int32)) ≤ v3 then (some (v2, w)) else (if (w.1 p 0) ≤ v3 then (some (v2, w)) else (gd (inb v3 6) (nm (v2 ||| (((v1 >>> (v3 &&& 31)) &&& ((1 : Int32))) <<< ((w.1 (p + 1) v3.toNatClampNeg) &&& 31))) (fun x4 => nm (v3 + (1 : Int32)) (fun x5 => b_X1_cellsOf_4 p n w v1 x4 x5)))))
def b_X1_cellsOf_0 (p : Nat) (w : Wd) (v1 : Int32) : Option (Int32 × Wd) := b_X1_cellsOf_4 p LF w v1 ((0 : Int32)) ((0 : Int32))
def f_X1_cellsOf (p : Nat) (w : Wd) (v1 : Int32) : Option (Int32 × Wd) := b_X1_cellsOf_0 p w v1
set_option maxHeartbeats 4000000 in
set_option maxRecDepth 100000 in
theorem w_X1_cellsOf_4 {X : Cx} {rz : Int32} {wz : Wd} (O : Ok X cX1_cellsOf RX1 ((some .int)) wsX1_cellsOf (0) (0) 4) {p : Nat} (h_p : plb p = true) (n_p : p + 6 < g_N X.1) (ho : Ro X (some (.int rz), wz)) (n : Nat) : ∀ {w : Wd} {v1 : Int32} {v2 : Int32} {v3 : Int32}, b_X1_cellsOf_4 p n w v1 v2 v3 = some (rz, wz) → Wk X w 4 [(0, .ref (g_ad X.1 p)), (1, .int v1), (2, .int v2), (3, .int v3)] [] := by
  induction n with
  | zero => intro w v1 v2 v3 h; exact nomatch (show (none : Option (Int32 × Wd)) = some _ from h)
  | succ n ih =>
    intro w v1 v2 v3 h
    rw [b_X1_cellsOf_4] at h
    refine k_iload_n O dX1_cellsOf_4 3 rfl ?_
    refine k_bipush O dX1_cellsOf_5 (v := 6) (by decide) ?_
    refine k_icmp_ge O 39 dX1_cellsOf_7 (by decide) (fun c1 => ?_) (fun c1 => ?_)
    · have h := ite_t c1 h
      refine k_iload_n O dX1_cellsOf_39 2 rfl ?_
      exact k_iret O dX1_cellsOf_40 (rt_int h ho)
    · have h := ite_f c1 h
      refine k_iload_n O dX1_cellsOf_10 3 rfl ?_
      refine k_aload_n O dX1_cellsOf_11 0 rfl ?_
      refine k_get O (v := .int (w.1 p 0)) (k := p) (by omega) (E_pl h_p) rfl 0 (by decide) (fun _ h9 => List.mem_cons_of_mem _ (List.mem_append_right _ h9)) (List.mem_of_getElem? (i := 1) rfl) rfl dX1_cellsOf_12 ?_
      refine k_icmp_ge O 39 dX1_cellsOf_15 (by decide) (fun c2 => ?_) (fun c2 => ?_)
      · have h := ite_t c2 h
        refine k_iload_n O dX1_cellsOf_39 2 rfl ?_
        exact k_iret O dX1_cellsOf_40 (rt_int h ho)
      · have h := ite_f c2 h
        refine k_iload_n O dX1_cellsOf_18 2 rfl ?_
        refine k_iload_n O dX1_cellsOf_19 1 rfl ?_
        refine k_iload_n O dX1_cellsOf_20 3 rfl ?_
        refine k_ishr O dX1_cellsOf_21 ?_
        refine k_iconst O dX1_cellsOf_22 (v := 1) (by decide) ?_
        refine k_iand O dX1_cellsOf_23 ?_
        refine k_aload_n O dX1_cellsOf_24 0 rfl ?_
        refine k_get O (v := .ref (g_ad X.1 (p + 1))) (k := p) (by omega) (E_pl h_p) rfl 6 (by decide) (fun _ h9 => List.mem_cons_of_mem _ (List.mem_append_right _ h9)) (List.mem_of_getElem? (i := 2) rfl) rfl dX1_cellsOf_25 ?_
        refine k_iload_n O dX1_cellsOf_28 3 rfl ?_
        obtain ⟨g3, h⟩ := gd_some h
        refine k_iald O (k := (p + 1)) (by omega) (E_pl1 h_p) g3 dX1_cellsOf_29 ?_
        refine k_ishl O dX1_cellsOf_30 ?_
        refine k_ior O dX1_cellsOf_31 ?_
        refine k_topi (fun x4 ex4 => ?_)
        have h := nm_use h x4 ex4
        refine k_istore_n (lv' := [(2, .int x4), (0, .ref (g_ad X.1 p)), (1, .int v1), (3, .int v3)]) O dX1_cellsOf_32 rfl (by decide) rfl ?_
        obtain ⟨x5, ex5⟩ : ∃ z : Int32, z = v3 + (1 : Int32) := ⟨_, rfl⟩
        have h := nm_use h x5 ex5
        refine k_iinc (lv' := [(3, .int x5), (2, .int x4), (0, .ref (g_ad X.1 p)), (1, .int v1)]) O dX1_cellsOf_33 3 rfl (by rw [ex5]; rfl) (by decide) rfl ?_
        refine k_goto O 4 dX1_cellsOf_36 (by decide) ?_
        exact k_sub [2, 3, 1, 0] rfl (ih h)
set_option maxHeartbeats 4000000 in
set_option maxRecDepth 100000 in
theorem w_X1_cellsOf_0 {X : Cx} {rz : Int32} {wz : Wd} (O : Ok X cX1_cellsOf RX1 ((some .int)) wsX1_cellsOf (0) (0) 4) {p : Nat} (h_p : plb p = true) (n_p : p + 6 < g_N X.1) (ho : Ro X (some (.int rz), wz)) {w : Wd} {v1 : Int32} (h : b_X1_cellsOf_0 p w v1 = some (rz, wz)) : Wk X w 0 [(0, .ref (g_ad X.1 p)), (1, .int v1)] [] := by
  unfold b_X1_cellsOf_0 at h
  refine k_iconst O dX1_cellsOf_0 (v := 0) (by decide) ?_
  refine k_istore_n (lv' := [(2, .int ((0 : Int32))), (0, .ref (g_ad X.1 p)), (1, .int v1)]) O dX1_cellsOf_1 rfl (by decide) rfl ?_
  refine k_iconst O dX1_cellsOf_2 (v := 0) (by decide) ?_
  refine k_istore_n (lv' := [(3, .int ((0 : Int32))), (2, .int ((0 : Int32))), (0, .ref (g_ad X.1 p)), (1, .int v1)]) O dX1_cellsOf_3 rfl (by decide) rfl ?_
  exact k_sub [2, 3, 1, 0] rfl (w_X1_cellsOf_4 O h_p n_p ho LF h)
theorem c_X1_cellsOf (l : Launch) (G : Gl) {p : Nat} (h_p : plb p = true) (n_p : p + 6 < g_N G) {w wz : Wd} {v1 : Int32} {rz : Int32} (h : f_X1_cellsOf p w v1 = some (rz, wz)) : Ct l yX1_cellsOf wsX1_cellsOf (0) (0) G [.ref (g_ad G p), .int v1] w (some (.int rz), wz) := by
  refine Ct.start (by decide) rfl rfl rfl (Nat.le_of_ble_eq_true rfl) (fun X hG ho hl O => ?_)
  subst hG
  subst hl
  exact k_sub [0, 1] rfl (w_X1_cellsOf_0 O h_p n_p ho h)
def b_X1_startCells_4 (p : Nat) : Nat → Wd → Int32 → Int32 → Option (Int32 × Wd)
  | 0, _, _, _ => none
  | n + 1, w, v1, v2 => if ((4 : Int32)) ≤ v2 then (some (v1, w)) else (if (w.1 p 1) ≤ v2 then (some (v1, w)) else (gd (inb v2 4) (nm (v1 ||| (((1 : Int32)) <<< ((w.1 (p + 5) v2.toNatClampNeg) &&& 31))) (fun x4 => nm (v2 + (1 : Int32)) (fun x5 => b_X1_startCells_4 p n w x4 x5)))))
def b_X1_startCells_0 (p : Nat) (w : Wd) : Option (Int32 × Wd) := b_X1_startCells_4 p LF w ((0 : Int32)) ((0 : Int32))
def f_X1_startCells (p : Nat) (w : Wd) : Option (Int32 × Wd) := b_X1_startCells_0 p w 
set_option maxHeartbeats 4000000 in
set_option maxRecDepth 100000 in
theorem w_X1_startCells_4 {X : Cx} {rz : Int32} {wz : Wd} (O : Ok X cX1_startCells RX1 ((some .int)) wsX1_startCells (0) (0) 3) {p : Nat} (h_p : plb p = true) (n_p : p + 6 < g_N X.1) (ho : Ro X (some (.int rz), wz)) (n : Nat) : ∀ {w : Wd} {v1 : Int32} {v2 : Int32}, b_X1_startCells_4 p n w v1 v2 = some (rz, wz) → Wk X w 4 [(0, .ref (g_ad X.1 p)), (1, .int v1), (2, .int v2)] [] := by
  induction n with
  | zero => intro w v1 v2 h; exact nomatch (show (none : Option (Int32 × Wd)) = some _ from h)
  | succ n ih =>
    intro w v1 v2 h
    rw [b_X1_startCells_4] at h
    refine k_iload_n O dX1_startCells_4 2 rfl ?_
    refine k_iconst O dX1_startCells_5 (v := 4) (by decide) ?_
    refine k_icmp_ge O 34 dX1_startCells_6 (by decide) (fun c1 => ?_) (fun c1 => ?_)
    · have h := ite_t c1 h
      refine k_iload_n O dX1_startCells_34 1 rfl ?_
      exact k_iret O dX1_startCells_35 (rt_int h ho)
    · have h := ite_f c1 h
      refine k_iload_n O dX1_startCells_9 2 rfl ?_
      refine k_aload_n O dX1_startCells_10 0 rfl ?_
      refine k_get O (v := .int (w.1 p 1)) (k := p) (by omega) (E_pl h_p) rfl 1 (by decide) (fun _ h9 => List.mem_cons_of_mem _ (List.mem_append_right _ h9)) (List.mem_of_getElem? (i := 1) rfl) rfl dX1_startCells_11 ?_
      refine k_icmp_ge O 34 dX1_startCells_14 (by decide) (fun c2 => ?_) (fun c2 => ?_)
      · have h := ite_t c2 h
        refine k_iload_n O dX1_startCells_34 1 rfl ?_
        exact k_iret O dX1_startCells_35 (rt_int h ho)
      · have h := ite_f c2 h
        refine k_iload_n O dX1_startCells_17 1 rfl ?_
        refine k_iconst O dX1_startCells_18 (v := 1) (by decide) ?_
        refine k_aload_n O dX1_startCells_19 0 rfl ?_
        refine k_get O (v := .ref (g_ad X.1 (p + 5))) (k := p) (by omega) (E_pl h_p) rfl 10 (by decide) (fun _ h9 => List.mem_cons_of_mem _ (List.mem_append_right _ h9)) (List.mem_of_getElem? (i := 2) rfl) rfl dX1_startCells_20 ?_
        refine k_iload_n O dX1_startCells_23 2 rfl ?_
        obtain ⟨g3, h⟩ := gd_some h
        refine k_iald O (k := (p + 5)) (by omega) (E_pl5 h_p) g3 dX1_startCells_24 ?_
        refine k_ishl O dX1_startCells_25 ?_
        refine k_ior O dX1_startCells_26 ?_
        refine k_topi (fun x4 ex4 => ?_)
        have h := nm_use h x4 ex4
        refine k_istore_n (lv' := [(1, .int x4), (0, .ref (g_ad X.1 p)), (2, .int v2)]) O dX1_startCells_27 rfl (by decide) rfl ?_
        obtain ⟨x5, ex5⟩ : ∃ z : Int32, z = v2 + (1 : Int32) := ⟨_, rfl⟩
        have h := nm_use h x5 ex5
        refine k_iinc (lv' := [(2, .int x5), (1, .int x4), (0, .ref (g_ad X.1 p))]) O dX1_startCells_28 2 rfl (by rw [ex5]; rfl) (by decide) rfl ?_
        refine k_goto O 4 dX1_startCells_31 (by decide) ?_
        exact k_sub [2, 1, 0] rfl (ih h)
set_option maxHeartbeats 4000000 in
set_option maxRecDepth 100000 in
theorem w_X1_startCells_0 {X : Cx} {rz : Int32} {wz : Wd} (O : Ok X cX1_startCells RX1 ((some .int)) wsX1_startCells (0) (0) 3) {p : Nat} (h_p : plb p = true) (n_p : p + 6 < g_N X.1) (ho : Ro X (some (.int rz), wz)) {w : Wd} (h : b_X1_startCells_0 p w  = some (rz, wz)) : Wk X w 0 [(0, .ref (g_ad X.1 p))] [] := by
  unfold b_X1_startCells_0 at h
  refine k_iconst O dX1_startCells_0 (v := 0) (by decide) ?_
  refine k_istore_n (lv' := [(1, .int ((0 : Int32))), (0, .ref (g_ad X.1 p))]) O dX1_startCells_1 rfl (by decide) rfl ?_
  refine k_iconst O dX1_startCells_2 (v := 0) (by decide) ?_
  refine k_istore_n (lv' := [(2, .int ((0 : Int32))), (1, .int ((0 : Int32))), (0, .ref (g_ad X.1 p))]) O dX1_startCells_3 rfl (by decide) rfl ?_
  exact k_sub [2, 1, 0] rfl (w_X1_startCells_4 O h_p n_p ho LF h)
theorem c_X1_startCells (l : Launch) (G : Gl) {p : Nat} (h_p : plb p = true) (n_p : p + 6 < g_N G) {w wz : Wd} {rz : Int32} (h : f_X1_startCells p w  = some (rz, wz)) : Ct l yX1_startCells wsX1_startCells (0) (0) G [.ref (g_ad G p)] w (some (.int rz), wz) := by
  refine Ct.start (by decide) rfl rfl rfl (Nat.le_of_ble_eq_true rfl) (fun X hG ho hl O => ?_)
  subst hG
  subst hl
  exact k_sub [0] rfl (w_X1_startCells_0 O h_p n_p ho h)
def b_X1_spread_63 (kb10 : Wd → Int32 → Int32 → Int32 → Int32 → Option (Int32 × Wd)) (kb33 : Wd → Int32 → Int32 → Int32 → Int32 → Int32 → Int32 → Option (Int32 × Wd)) (p : Nat) (w : Wd) (v2 : Int32) (v3 : Int32) (v4 : Int32) (v5 : Int32) (v7 : Int32) (s0 : Int32) (s1 : Int32) : Option (Int32 × Wd) := nm (s1 ||| s0) (fun x1 => nm (v7 + (1 : Int32)) (fun x2 => kb33 w v2 v3 v4 v5 x1 x2))
def b_X1_spread_33 (kb10 : Wd → Int32 → Int32 → Int32 → Int32 → Option (Int32 × Wd)) (p : Nat) : Nat → Wd → Int32 → Int32 → Int32 → Int32 → Int32 → Int32 → Option (Int32 × Wd)
  | 0, _, _, _, _, _, _, _ => none
  | n + 1, w, v2, v3, v4, v5, v6, v7 => if ((6 : Int32)) ≤ v7 then (nm ((v6 &&& v2) &&& (v3 ^^^ ((-1 : Int32)))) (fun x2 => nm (v5 + (1 : Int32)) (fun x3 => kb10 w v2 v3 x2 x3))) else (if ((v4 >>> (v7 &&& 31)) &&& ((1 : Int32))) = 0 then (b_X1_spread_63 kb10 (b_X1_spread_33 kb10 p n) p w v2 v3 v4 v5 v7 ((0 : Int32)) v6) else (gd (inb v7 6) (b_X1_spread_63 kb10 (b_X1_spread_33 kb10 p n) p w v2 v3 v4 v5 v7 (w.1 (p + 4) v7.toNatClampNeg) v6)))
def b_X1_spread_10 (p : Nat) : Nat → Wd → Int32 → Int32 → Int32 → Int32 → Option (Int32 × Wd)
  | 0, _, _, _, _, _ => none
  | n + 1, w, v2, v3, v4, v5 => if ((6 : Int32)) ≤ v5 then (some (v3, w)) else (if v4 = 0 then (some (v3, w)) else (nm (v3 ||| v4) (fun x3 => b_X1_spread_33 (b_X1_spread_10 p n) p LF w v2 x3 v4 v5 ((0 : Int32)) ((0 : Int32)))))
def b_X1_spread_0 (p : Nat) (w : Wd) (v1 : Int32) (v2 : Int32) : Option (Int32 × Wd) := nm (v1 &&& v2) (fun x1 => b_X1_spread_10 p LF w v2 ((0 : Int32)) x1 ((0 : Int32)))
def f_X1_spread (p : Nat) (w : Wd) (v1 : Int32) (v2 : Int32) : Option (Int32 × Wd) := b_X1_spread_0 p w v1 v2
set_option maxHeartbeats 4000000 in
set_option maxRecDepth 100000 in
theorem w_X1_spread_63 {X : Cx} {rz : Int32} {wz : Wd} (O : Ok X cX1_spread RX1 ((some .int)) wsX1_spread (0) (0) 8) {p : Nat} (h_p : plb p = true) (n_p : p + 6 < g_N X.1) {kb10 : Wd → Int32 → Int32 → Int32 → Int32 → Option (Int32 × Wd)} (hk10 : ∀ {w : Wd} {v2 : Int32} {v3 : Int32} {v4 : Int32} {v5 : Int32}, kb10 w v2 v3 v4 v5 = some (rz, wz) → Wk X w 10 [(0, .ref (g_ad X.1 p)), (2, .int v2), (3, .int v3), (4, .int v4), (5, .int v5)] []) {kb33 : Wd → Int32 → Int32 → Int32 → Int32 → Int32 → Int32 → Option (Int32 × Wd)} (hk33 : ∀ {w : Wd} {v2 : Int32} {v3 : Int32} {v4 : Int32} {v5 : Int32} {v6 : Int32} {v7 : Int32}, kb33 w v2 v3 v4 v5 v6 v7 = some (rz, wz) → Wk X w 33 [(0, .ref (g_ad X.1 p)), (2, .int v2), (3, .int v3), (4, .int v4), (5, .int v5), (6, .int v6), (7, .int v7)] []) (ho : Ro X (some (.int rz), wz)) {w : Wd} {v2 : Int32} {v3 : Int32} {v4 : Int32} {v5 : Int32} {v7 : Int32} {s0 : Int32} {s1 : Int32} (h : b_X1_spread_63 kb10 kb33 p w v2 v3 v4 v5 v7 s0 s1 = some (rz, wz)) : Wk X w 63 [(0, .ref (g_ad X.1 p)), (2, .int v2), (3, .int v3), (4, .int v4), (5, .int v5), (7, .int v7)] [.int s0, .int s1] := by
  unfold b_X1_spread_63 at h
  refine k_ior O dX1_spread_63 ?_
  refine k_topi (fun x1 ex1 => ?_)
  have h := nm_use h x1 ex1
  refine k_istore (lv' := [(6, .int x1), (0, .ref (g_ad X.1 p)), (2, .int v2), (3, .int v3), (4, .int v4), (5, .int v5), (7, .int v7)]) O dX1_spread_64 (by decide) rfl ?_
  obtain ⟨x2, ex2⟩ : ∃ z : Int32, z = v7 + (1 : Int32) := ⟨_, rfl⟩
  have h := nm_use h x2 ex2
  refine k_iinc (lv' := [(7, .int x2), (6, .int x1), (0, .ref (g_ad X.1 p)), (2, .int v2), (3, .int v3), (4, .int v4), (5, .int v5)]) O dX1_spread_66 6 rfl (by rw [ex2]; rfl) (by decide) rfl ?_
  refine k_goto O 33 dX1_spread_69 (by decide) ?_
  exact k_sub [2, 3, 4, 5, 6, 1, 0] rfl (hk33 h)
set_option maxHeartbeats 4000000 in
set_option maxRecDepth 100000 in
theorem w_X1_spread_33 {X : Cx} {rz : Int32} {wz : Wd} (O : Ok X cX1_spread RX1 ((some .int)) wsX1_spread (0) (0) 8) {p : Nat} (h_p : plb p = true) (n_p : p + 6 < g_N X.1) {kb10 : Wd → Int32 → Int32 → Int32 → Int32 → Option (Int32 × Wd)} (hk10 : ∀ {w : Wd} {v2 : Int32} {v3 : Int32} {v4 : Int32} {v5 : Int32}, kb10 w v2 v3 v4 v5 = some (rz, wz) → Wk X w 10 [(0, .ref (g_ad X.1 p)), (2, .int v2), (3, .int v3), (4, .int v4), (5, .int v5)] []) (ho : Ro X (some (.int rz), wz)) (n : Nat) : ∀ {w : Wd} {v2 : Int32} {v3 : Int32} {v4 : Int32} {v5 : Int32} {v6 : Int32} {v7 : Int32}, b_X1_spread_33 kb10 p n w v2 v3 v4 v5 v6 v7 = some (rz, wz) → Wk X w 33 [(0, .ref (g_ad X.1 p)), (2, .int v2), (3, .int v3), (4, .int v4), (5, .int v5), (6, .int v6), (7, .int v7)] [] := by
  induction n with
  | zero => intro w v2 v3 v4 v5 v6 v7 h; exact nomatch (show (none : Option (Int32 × Wd)) = some _ from h)
  | succ n ih =>
    intro w v2 v3 v4 v5 v6 v7 h
    rw [b_X1_spread_33] at h
    refine k_iload O dX1_spread_33 6 rfl ?_
    refine k_bipush O dX1_spread_35 (v := 6) (by decide) ?_
    refine k_icmp_ge O 72 dX1_spread_37 (by decide) (fun c1 => ?_) (fun c1 => ?_)
    · have h := ite_t c1 h
      refine k_iload O dX1_spread_72 5 rfl ?_
      refine k_iload_n O dX1_spread_74 1 rfl ?_
      refine k_iand O dX1_spread_75 ?_
      refine k_iload_n O dX1_spread_76 2 rfl ?_
      refine k_iconst O dX1_spread_77 (v := -1) (by decide) ?_
      refine k_ixor O dX1_spread_78 ?_
      refine k_iand O dX1_spread_79 ?_
      refine k_topi (fun x2 ex2 => ?_)
      have h := nm_use h x2 ex2
      refine k_istore (lv' := [(4, .int x2), (0, .ref (g_ad X.1 p)), (2, .int v2), (3, .int v3), (5, .int v5), (6, .int v6), (7, .int v7)]) O dX1_spread_80 (by decide) rfl ?_
      obtain ⟨x3, ex3⟩ : ∃ z : Int32, z = v5 + (1 : Int32) := ⟨_, rfl⟩
      have h := nm_use h x3 ex3
      refine k_iinc (lv' := [(5, .int x3), (4, .int x2), (0, .ref (g_ad X.1 p)), (2, .int v2), (3, .int v3), (6, .int v6), (7, .int v7)]) O dX1_spread_82 4 rfl (by rw [ex3]; rfl) (by decide) rfl ?_
      refine k_goto O 10 dX1_spread_85 (by decide) ?_
      exact k_sub [2, 3, 4, 1, 0] rfl (hk10 h)
    · have h := ite_f c1 h
      refine k_iload O dX1_spread_40 5 rfl ?_
      refine k_iload O dX1_spread_42 3 rfl ?_
      refine k_iload O dX1_spread_44 6 rfl ?_
      refine k_ishr O dX1_spread_46 ?_
      refine k_iconst O dX1_spread_47 (v := 1) (by decide) ?_
      refine k_iand O dX1_spread_48 ?_
      refine k_if_eq O 62 dX1_spread_49 (by decide) (fun c4 => ?_) (fun c4 => ?_)
      · have h := ite_t c4 h
        refine k_iconst O dX1_spread_62 (v := 0) (by decide) ?_
        exact k_sub [0, 1, 2, 3, 4, 6] rfl (w_X1_spread_63 O h_p n_p hk10 (fun {_} {_} {_} {_} {_} {_} {_} h9 => ih h9) ho h)
      · have h := ite_f c4 h
        refine k_aload_n O dX1_spread_52 0 rfl ?_
        refine k_get O (v := .ref (g_ad X.1 (p + 4))) (k := p) (by omega) (E_pl h_p) rfl 9 (by decide) (fun _ h9 => List.mem_cons_of_mem _ (List.mem_append_right _ h9)) (List.mem_of_getElem? (i := 1) rfl) rfl dX1_spread_53 ?_
        refine k_iload O dX1_spread_56 6 rfl ?_
        obtain ⟨g5, h⟩ := gd_some h
        refine k_iald O (k := (p + 4)) (by omega) (E_pl4 h_p) g5 dX1_spread_58 ?_
        refine k_goto O 63 dX1_spread_59 (by decide) ?_
        exact k_sub [0, 1, 2, 3, 4, 6] rfl (w_X1_spread_63 O h_p n_p hk10 (fun {_} {_} {_} {_} {_} {_} {_} h9 => ih h9) ho h)
set_option maxHeartbeats 4000000 in
set_option maxRecDepth 100000 in
theorem w_X1_spread_10 {X : Cx} {rz : Int32} {wz : Wd} (O : Ok X cX1_spread RX1 ((some .int)) wsX1_spread (0) (0) 8) {p : Nat} (h_p : plb p = true) (n_p : p + 6 < g_N X.1) (ho : Ro X (some (.int rz), wz)) (n : Nat) : ∀ {w : Wd} {v2 : Int32} {v3 : Int32} {v4 : Int32} {v5 : Int32}, b_X1_spread_10 p n w v2 v3 v4 v5 = some (rz, wz) → Wk X w 10 [(0, .ref (g_ad X.1 p)), (2, .int v2), (3, .int v3), (4, .int v4), (5, .int v5)] [] := by
  induction n with
  | zero => intro w v2 v3 v4 v5 h; exact nomatch (show (none : Option (Int32 × Wd)) = some _ from h)
  | succ n ih =>
    intro w v2 v3 v4 v5 h
    rw [b_X1_spread_10] at h
    refine k_iload O dX1_spread_10 4 rfl ?_
    refine k_bipush O dX1_spread_12 (v := 6) (by decide) ?_
    refine k_icmp_ge O 88 dX1_spread_14 (by decide) (fun c1 => ?_) (fun c1 => ?_)
    · have h := ite_t c1 h
      refine k_iload_n O dX1_spread_88 2 rfl ?_
      exact k_iret O dX1_spread_89 (rt_int h ho)
    · have h := ite_f c1 h
      refine k_iload O dX1_spread_17 3 rfl ?_
      refine k_if_eq O 88 dX1_spread_19 (by decide) (fun c2 => ?_) (fun c2 => ?_)
      · have h := ite_t c2 h
        refine k_iload_n O dX1_spread_88 2 rfl ?_
        exact k_iret O dX1_spread_89 (rt_int h ho)
      · have h := ite_f c2 h
        refine k_iload_n O dX1_spread_22 2 rfl ?_
        refine k_iload O dX1_spread_23 3 rfl ?_
        refine k_ior O dX1_spread_25 ?_
        refine k_topi (fun x3 ex3 => ?_)
        have h := nm_use h x3 ex3
        refine k_istore_n (lv' := [(3, .int x3), (0, .ref (g_ad X.1 p)), (2, .int v2), (4, .int v4), (5, .int v5)]) O dX1_spread_26 rfl (by decide) rfl ?_
        refine k_iconst O dX1_spread_27 (v := 0) (by decide) ?_
        refine k_istore (lv' := [(6, .int ((0 : Int32))), (3, .int x3), (0, .ref (g_ad X.1 p)), (2, .int v2), (4, .int v4), (5, .int v5)]) O dX1_spread_28 (by decide) rfl ?_
        refine k_iconst O dX1_spread_30 (v := 0) (by decide) ?_
        refine k_istore (lv' := [(7, .int ((0 : Int32))), (6, .int ((0 : Int32))), (3, .int x3), (0, .ref (g_ad X.1 p)), (2, .int v2), (4, .int v4), (5, .int v5)]) O dX1_spread_31 (by decide) rfl ?_
        exact k_sub [3, 4, 2, 5, 6, 1, 0] rfl (w_X1_spread_33 O h_p n_p (fun {_} {_} {_} {_} {_} h9 => ih h9) ho LF h)
set_option maxHeartbeats 4000000 in
set_option maxRecDepth 100000 in
theorem w_X1_spread_0 {X : Cx} {rz : Int32} {wz : Wd} (O : Ok X cX1_spread RX1 ((some .int)) wsX1_spread (0) (0) 8) {p : Nat} (h_p : plb p = true) (n_p : p + 6 < g_N X.1) (ho : Ro X (some (.int rz), wz)) {w : Wd} {v1 : Int32} {v2 : Int32} (h : b_X1_spread_0 p w v1 v2 = some (rz, wz)) : Wk X w 0 [(0, .ref (g_ad X.1 p)), (1, .int v1), (2, .int v2)] [] := by
  unfold b_X1_spread_0 at h
  refine k_iconst O dX1_spread_0 (v := 0) (by decide) ?_
  refine k_istore_n (lv' := [(3, .int ((0 : Int32))), (0, .ref (g_ad X.1 p)), (1, .int v1), (2, .int v2)]) O dX1_spread_1 rfl (by decide) rfl ?_
  refine k_iload_n O dX1_spread_2 2 rfl ?_
  refine k_iload_n O dX1_spread_3 3 rfl ?_
  refine k_iand O dX1_spread_4 ?_
  refine k_topi (fun x1 ex1 => ?_)
  have h := nm_use h x1 ex1
  refine k_istore (lv' := [(4, .int x1), (3, .int ((0 : Int32))), (0, .ref (g_ad X.1 p)), (1, .int v1), (2, .int v2)]) O dX1_spread_5 (by decide) rfl ?_
  refine k_iconst O dX1_spread_7 (v := 0) (by decide) ?_
  refine k_istore (lv' := [(5, .int ((0 : Int32))), (4, .int x1), (3, .int ((0 : Int32))), (0, .ref (g_ad X.1 p)), (1, .int v1), (2, .int v2)]) O dX1_spread_8 (by decide) rfl ?_
  exact k_sub [3, 5, 2, 1, 0] rfl (w_X1_spread_10 O h_p n_p ho LF h)
theorem c_X1_spread (l : Launch) (G : Gl) {p : Nat} (h_p : plb p = true) (n_p : p + 6 < g_N G) {w wz : Wd} {v1 : Int32} {v2 : Int32} {rz : Int32} (h : f_X1_spread p w v1 v2 = some (rz, wz)) : Ct l yX1_spread wsX1_spread (0) (0) G [.ref (g_ad G p), .int v1, .int v2] w (some (.int rz), wz) := by
  refine Ct.start (by decide) rfl rfl rfl (Nat.le_of_ble_eq_true rfl) (fun X hG ho hl O => ?_)
  subst hG
  subst hl
  exact k_sub [0, 1, 2] rfl (w_X1_spread_0 O h_p n_p ho h)
def b_X1_catches_45 (p : Nat) (w : Wd) (v1 : Int32) (s0 : Int32) : Option (Int32 × Wd) := if ((s0 >>> (v1 &&& 31)) &&& ((1 : Int32))) = 0 then (some ((0 : Int32), w)) else (some ((1 : Int32), w))
def b_X1_catches_0 (p : Nat) (w : Wd) (v1 : Int32) (v2 : Int32) : Option (Int32 × Wd) := bd (f_X1_hasTrap p w v1) (fun r3 w2 => if r3 = 0 then (some ((0 : Int32), w2)) else (bd (f_X1_hasWalker p w2 v2) (fun r7 w6 => if r7 = 0 then (some ((0 : Int32), w6)) else (gd (inb v2 4) (if (w6.1 (p + 6) v2.toNatClampNeg) = ((-9 : Int32)) then (b_X1_catches_45 p w6 v1 (w6.1 p 5)) else (b_X1_catches_45 p w6 v1 ((w6.1 p 5) ||| (w6.1 p 4))))))))
def f_X1_catches (p : Nat) (w : Wd) (v1 : Int32) (v2 : Int32) : Option (Int32 × Wd) := b_X1_catches_0 p w v1 v2
set_option maxHeartbeats 4000000 in
set_option maxRecDepth 100000 in
theorem w_X1_catches_45 {X : Cx} {rz : Int32} {wz : Wd} (O : Ok X cX1_catches RX1 ((some .boolean)) wsX1_catches (1) (21) 4) {p : Nat} (h_p : plb p = true) (n_p : p + 6 < g_N X.1) (ho : Ro X (some (.int rz), wz)) {w : Wd} {v1 : Int32} {s0 : Int32} (h : b_X1_catches_45 p w v1 s0 = some (rz, wz)) : Wk X w 45 [(1, .int v1)] [.int s0] := by
  unfold b_X1_catches_45 at h
  refine k_istore_n (lv' := [(3, .int s0), (1, .int v1)]) O dX1_catches_45 rfl (by decide) rfl ?_
  refine k_iload_n O dX1_catches_46 0 rfl ?_
  refine k_iload_n O dX1_catches_47 1 rfl ?_
  refine k_ishr O dX1_catches_48 ?_
  refine k_iconst O dX1_catches_49 (v := 1) (by decide) ?_
  refine k_iand O dX1_catches_50 ?_
  refine k_if_eq O 58 dX1_catches_51 (by decide) (fun c1 => ?_) (fun c1 => ?_)
  · have h := ite_t c1 h
    refine k_iconst O dX1_catches_58 (v := 0) (by decide) ?_
    exact k_zret O (by decide) dX1_catches_59 (rt_int h ho)
  · have h := ite_f c1 h
    refine k_iconst O dX1_catches_54 (v := 1) (by decide) ?_
    refine k_goto O 59 dX1_catches_55 (by decide) ?_
    exact k_zret O (by decide) dX1_catches_59 (rt_int h ho)
set_option maxHeartbeats 4000000 in
set_option maxRecDepth 100000 in
theorem w_X1_catches_0 {X : Cx} {rz : Int32} {wz : Wd} (O : Ok X cX1_catches RX1 ((some .boolean)) wsX1_catches (1) (21) 4) {p : Nat} (h_p : plb p = true) (n_p : p + 6 < g_N X.1) (ho : Ro X (some (.int rz), wz)) {w : Wd} {v1 : Int32} {v2 : Int32} (h : b_X1_catches_0 p w v1 v2 = some (rz, wz)) : Wk X w 0 [(0, .ref (g_ad X.1 p)), (1, .int v1), (2, .int v2)] [] := by
  unfold b_X1_catches_0 at h
  refine k_aload_n O dX1_catches_0 0 rfl ?_
  refine k_iload_n O dX1_catches_1 1 rfl ?_
  obtain ⟨r3, w2, hc1, h⟩ := bd_some h
  refine k_callVi O (As := [.int v1]) (rest := []) (k := p) (c_X1_hasTrap (x_l X) X.1 h_p (by omega) hc1) gX1_catches_X1_hasTrap rfl hd_X1_hasTrap (by decide) (by omega) (E_pl h_p) rfl rfl rfl rfl rfl (Nat.le_of_ble_eq_true rfl) dX1_catches_2 ?_
  refine k_if_eq O 16 dX1_catches_5 (by decide) (fun c4 => ?_) (fun c4 => ?_)
  · have h := ite_t c4 h
    refine k_iconst O dX1_catches_16 (v := 0) (by decide) ?_
    exact k_zret O (by decide) dX1_catches_17 (rt_int h ho)
  · have h := ite_f c4 h
    refine k_aload_n O dX1_catches_8 0 rfl ?_
    refine k_iload_n O dX1_catches_9 2 rfl ?_
    obtain ⟨r7, w6, hc5, h⟩ := bd_some h
    refine k_callVi O (As := [.int v2]) (rest := []) (k := p) (c_X1_hasWalker (x_l X) X.1 h_p (by omega) hc5) gX1_catches_X1_hasWalker rfl hd_X1_hasWalker (by decide) (by omega) (E_pl h_p) rfl rfl rfl rfl rfl (Nat.le_of_ble_eq_true rfl) dX1_catches_10 ?_
    refine k_if_ne O 18 dX1_catches_13 (by decide) (fun c8 => ?_) (fun c8 => ?_)
    · have h := ite_f c8 h
      refine k_aload_n O dX1_catches_18 0 rfl ?_
      refine k_get O (v := .ref (g_ad X.1 (p + 6))) (k := p) (by omega) (E_pl h_p) rfl 11 (by decide) (fun _ h9 => List.mem_cons_of_mem _ (List.mem_append_right _ h9)) (List.mem_of_getElem? (i := 1) rfl) rfl dX1_catches_19 ?_
      refine k_iload_n O dX1_catches_22 2 rfl ?_
      obtain ⟨g9, h⟩ := gd_some h
      refine k_iald O (k := (p + 6)) (by omega) (E_pl6 h_p) g9 dX1_catches_23 ?_
      refine k_bipush O dX1_catches_24 (v := -9) (by decide) ?_
      refine k_icmp_ne O 36 dX1_catches_26 (by decide) (fun c10 => ?_) (fun c10 => ?_)
      · have h := ite_f c10 h
        refine k_aload_n O dX1_catches_36 0 rfl ?_
        refine k_get O (v := .int (w6.1 p 5)) (k := p) (by omega) (E_pl h_p) rfl 5 (by decide) (fun _ h9 => List.mem_cons_of_mem _ (List.mem_append_right _ h9)) (List.mem_of_getElem? (i := 2) rfl) rfl dX1_catches_37 ?_
        refine k_aload_n O dX1_catches_40 0 rfl ?_
        refine k_get O (v := .int (w6.1 p 4)) (k := p) (by omega) (E_pl h_p) rfl 4 (by decide) (fun _ h9 => List.mem_cons_of_mem _ (List.mem_append_right _ h9)) (List.mem_of_getElem? (i := 3) rfl) rfl dX1_catches_41 ?_
        refine k_ior O dX1_catches_44 ?_
        exact k_sub [1] rfl (w_X1_catches_45 O h_p n_p ho h)
      · have h := ite_t c10 h
        refine k_aload_n O dX1_catches_29 0 rfl ?_
        refine k_get O (v := .int (w6.1 p 5)) (k := p) (by omega) (E_pl h_p) rfl 5 (by decide) (fun _ h9 => List.mem_cons_of_mem _ (List.mem_append_right _ h9)) (List.mem_of_getElem? (i := 2) rfl) rfl dX1_catches_30 ?_
        refine k_goto O 45 dX1_catches_33 (by decide) ?_
        exact k_sub [1] rfl (w_X1_catches_45 O h_p n_p ho h)
    · have h := ite_t c8 h
      refine k_iconst O dX1_catches_16 (v := 0) (by decide) ?_
      exact k_zret O (by decide) dX1_catches_17 (rt_int h ho)
theorem c_X1_catches (l : Launch) (G : Gl) {p : Nat} (h_p : plb p = true) (n_p : p + 6 < g_N G) {w wz : Wd} {v1 : Int32} {v2 : Int32} {rz : Int32} (h : f_X1_catches p w v1 v2 = some (rz, wz)) : Ct l yX1_catches wsX1_catches (1) (21) G [.ref (g_ad G p), .int v1, .int v2] w (some (.int rz), wz) := by
  refine Ct.start (by decide) rfl rfl rfl (Nat.le_of_ble_eq_true rfl) (fun X hG ho hl O => ?_)
  subst hG
  subst hl
  exact k_sub [0, 1, 2] rfl (w_X1_catches_0 O h_p n_p ho h)
def b_X1_onlyWakes_0 (p : Nat) (w : Wd) (v1 : Int32) (v2 : Int32) : Option (Int32 × Wd) := bd (f_X1_hasTrap p w v1) (fun r3 w2 => if r3 = 0 then (some ((0 : Int32), w2)) else (gd (inb v1 6) (if (w2.1 (p + 3) v1.toNatClampNeg) = ((2 : Int32)) then (if ((v2 >>> (v1 &&& 31)) &&& ((1 : Int32))) = 0 then (some ((1 : Int32), w2)) else (some ((0 : Int32), w2))) else (some ((0 : Int32), w2)))))
def f_X1_onlyWakes (p : Nat) (w : Wd) (v1 : Int32) (v2 : Int32) : Option (Int32 × Wd) := b_X1_onlyWakes_0 p w v1 v2
set_option maxHeartbeats 4000000 in
set_option maxRecDepth 100000 in
theorem w_X1_onlyWakes_0 {X : Cx} {rz : Int32} {wz : Wd} (O : Ok X cX1_onlyWakes RX1 ((some .boolean)) wsX1_onlyWakes (1) (21) 3) {p : Nat} (h_p : plb p = true) (n_p : p + 6 < g_N X.1) (ho : Ro X (some (.int rz), wz)) {w : Wd} {v1 : Int32} {v2 : Int32} (h : b_X1_onlyWakes_0 p w v1 v2 = some (rz, wz)) : Wk X w 0 [(0, .ref (g_ad X.1 p)), (1, .int v1), (2, .int v2)] [] := by
  unfold b_X1_onlyWakes_0 at h
  refine k_aload_n O dX1_onlyWakes_0 0 rfl ?_
  refine k_iload_n O dX1_onlyWakes_1 1 rfl ?_
  obtain ⟨r3, w2, hc1, h⟩ := bd_some h
  refine k_callVi O (As := [.int v1]) (rest := []) (k := p) (c_X1_hasTrap (x_l X) X.1 h_p (by omega) hc1) gX1_onlyWakes_X1_hasTrap rfl hd_X1_hasTrap (by decide) (by omega) (E_pl h_p) rfl rfl rfl rfl rfl (Nat.le_of_ble_eq_true rfl) dX1_onlyWakes_2 ?_
  refine k_if_eq O 30 dX1_onlyWakes_5 (by decide) (fun c4 => ?_) (fun c4 => ?_)
  · have h := ite_t c4 h
    refine k_iconst O dX1_onlyWakes_30 (v := 0) (by decide) ?_
    exact k_zret O (by decide) dX1_onlyWakes_31 (rt_int h ho)
  · have h := ite_f c4 h
    refine k_aload_n O dX1_onlyWakes_8 0 rfl ?_
    refine k_get O (v := .ref (g_ad X.1 (p + 3))) (k := p) (by omega) (E_pl h_p) rfl 8 (by decide) (fun _ h9 => List.mem_cons_of_mem _ (List.mem_append_right _ h9)) (List.mem_of_getElem? (i := 1) rfl) rfl dX1_onlyWakes_9 ?_
    refine k_iload_n O dX1_onlyWakes_12 1 rfl ?_
    obtain ⟨g5, h⟩ := gd_some h
    refine k_iald O (k := (p + 3)) (by omega) (E_pl3 h_p) g5 dX1_onlyWakes_13 ?_
    refine k_iconst O dX1_onlyWakes_14 (v := 2) (by decide) ?_
    refine k_icmp_ne O 30 dX1_onlyWakes_15 (by decide) (fun c6 => ?_) (fun c6 => ?_)
    · have h := ite_f c6 h
      refine k_iconst O dX1_onlyWakes_30 (v := 0) (by decide) ?_
      exact k_zret O (by decide) dX1_onlyWakes_31 (rt_int h ho)
    · have h := ite_t c6 h
      refine k_iload_n O dX1_onlyWakes_18 2 rfl ?_
      refine k_iload_n O dX1_onlyWakes_19 1 rfl ?_
      refine k_ishr O dX1_onlyWakes_20 ?_
      refine k_iconst O dX1_onlyWakes_21 (v := 1) (by decide) ?_
      refine k_iand O dX1_onlyWakes_22 ?_
      refine k_if_ne O 30 dX1_onlyWakes_23 (by decide) (fun c7 => ?_) (fun c7 => ?_)
      · have h := ite_f c7 h
        refine k_iconst O dX1_onlyWakes_30 (v := 0) (by decide) ?_
        exact k_zret O (by decide) dX1_onlyWakes_31 (rt_int h ho)
      · have h := ite_t c7 h
        refine k_iconst O dX1_onlyWakes_26 (v := 1) (by decide) ?_
        refine k_goto O 31 dX1_onlyWakes_27 (by decide) ?_
        exact k_zret O (by decide) dX1_onlyWakes_31 (rt_int h ho)
theorem c_X1_onlyWakes (l : Launch) (G : Gl) {p : Nat} (h_p : plb p = true) (n_p : p + 6 < g_N G) {w wz : Wd} {v1 : Int32} {v2 : Int32} {rz : Int32} (h : f_X1_onlyWakes p w v1 v2 = some (rz, wz)) : Ct l yX1_onlyWakes wsX1_onlyWakes (1) (21) G [.ref (g_ad G p), .int v1, .int v2] w (some (.int rz), wz) := by
  refine Ct.start (by decide) rfl rfl rfl (Nat.le_of_ble_eq_true rfl) (fun X hG ho hl O => ?_)
  subst hG
  subst hl
  exact k_sub [0, 1, 2] rfl (w_X1_onlyWakes_0 O h_p n_p ho h)
def b_X7_isSide_0 (w : Wd) (v0 : Int32) : Option (Int32 × Wd) := if v0 < 0 then (some ((0 : Int32), w)) else (if ((2 : Int32)) ≤ v0 then (some ((0 : Int32), w)) else (some ((1 : Int32), w)))
def f_X7_isSide (w : Wd) (v0 : Int32) : Option (Int32 × Wd) := b_X7_isSide_0 w v0
set_option maxHeartbeats 4000000 in
set_option maxRecDepth 100000 in
theorem w_X7_isSide_0 {X : Cx} {rz : Int32} {wz : Wd} (O : Ok X cX7_isSide RX7 ((some .boolean)) wsX7_isSide (0) (0) 1) (ho : Ro X (some (.int rz), wz)) {w : Wd} {v0 : Int32} (h : b_X7_isSide_0 w v0 = some (rz, wz)) : Wk X w 0 [(0, .int v0)] [] := by
  unfold b_X7_isSide_0 at h
  refine k_iload_n O dX7_isSide_0 0 rfl ?_
  refine k_if_lt O 13 dX7_isSide_1 (by decide) (fun c1 => ?_) (fun c1 => ?_)
  · have h := ite_t c1 h
    refine k_iconst O dX7_isSide_13 (v := 0) (by decide) ?_
    exact k_zret O (by decide) dX7_isSide_14 (rt_int h ho)
  · have h := ite_f c1 h
    refine k_iload_n O dX7_isSide_4 0 rfl ?_
    refine k_iconst O dX7_isSide_5 (v := 2) (by decide) ?_
    refine k_icmp_ge O 13 dX7_isSide_6 (by decide) (fun c2 => ?_) (fun c2 => ?_)
    · have h := ite_t c2 h
      refine k_iconst O dX7_isSide_13 (v := 0) (by decide) ?_
      exact k_zret O (by decide) dX7_isSide_14 (rt_int h ho)
    · have h := ite_f c2 h
      refine k_iconst O dX7_isSide_9 (v := 1) (by decide) ?_
      refine k_goto O 14 dX7_isSide_10 (by decide) ?_
      exact k_zret O (by decide) dX7_isSide_14 (rt_int h ho)
theorem c_X7_isSide (l : Launch) (G : Gl) {w wz : Wd} {v0 : Int32} {rz : Int32} (h : f_X7_isSide w v0 = some (rz, wz)) : Ct l yX7_isSide wsX7_isSide (0) (0) G [.int v0] w (some (.int rz), wz) := by
  refine Ct.start (by decide) rfl rfl rfl (Nat.le_of_ble_eq_true rfl) (fun X hG ho hl O => ?_)
  subst hG
  subst hl
  exact k_sub [0] rfl (w_X7_isSide_0 O ho h)
def b_J6_bitCount_0f7a4_0 (w : Wd) (v0 : Int32) : Option (Int32 × Wd) := nm (v0 - ((((v0).toUInt32 >>> ((((1 : Int32))).toUInt32 &&& Int32.toUInt32 31)).toInt32) &&& ((1431655765 : Int32)))) (fun x1 => nm ((x1 &&& ((858993459 : Int32))) + ((((x1).toUInt32 >>> ((((2 : Int32))).toUInt32 &&& Int32.toUInt32 31)).toInt32) &&& ((858993459 : Int32)))) (fun x2 => nm ((x2 + (((x2).toUInt32 >>> ((((4 : Int32))).toUInt32 &&& Int32.toUInt32 31)).toInt32)) &&& ((252645135 : Int32))) (fun x3 => nm (x3 + (((x3).toUInt32 >>> ((((8 : Int32))).toUInt32 &&& Int32.toUInt32 31)).toInt32)) (fun x4 => nm (x4 + (((x4).toUInt32 >>> ((((16 : Int32))).toUInt32 &&& Int32.toUInt32 31)).toInt32)) (fun x5 => some (x5 &&& ((63 : Int32)), w))))))
def f_J6_bitCount_0f7a4 (w : Wd) (v0 : Int32) : Option (Int32 × Wd) := b_J6_bitCount_0f7a4_0 w v0
set_option maxHeartbeats 4000000 in
set_option maxRecDepth 100000 in
theorem w_J6_bitCount_0f7a4_0 {X : Cx} {rz : Int32} {wz : Wd} (O : Ok X cJ6_bitCount_0f7a4 RJ6 ((some .int)) wsJ6_bitCount_0f7a4 (0) (0) 1) (ho : Ro X (some (.int rz), wz)) {w : Wd} {v0 : Int32} (h : b_J6_bitCount_0f7a4_0 w v0 = some (rz, wz)) : Wk X w 0 [(0, .int v0)] [] := by
  unfold b_J6_bitCount_0f7a4_0 at h
  refine k_iload_n O dJ6_bitCount_0f7a4_0 0 rfl ?_
  refine k_iload_n O dJ6_bitCount_0f7a4_1 0 rfl ?_
  refine k_iconst O dJ6_bitCount_0f7a4_2 (v := 1) (by decide) ?_
  refine k_iushr O dJ6_bitCount_0f7a4_3 ?_
  refine k_ldcw O dJ6_bitCount_0f7a4_4 (List.mem_of_getElem? (i := 1) rfl) ?_
  refine k_iand O dJ6_bitCount_0f7a4_7 ?_
  refine k_isub O dJ6_bitCount_0f7a4_8 ?_
  refine k_topi (fun x1 ex1 => ?_)
  have h := nm_use h x1 ex1
  refine k_istore_n (lv' := [(0, .int x1)]) O dJ6_bitCount_0f7a4_9 rfl (by decide) rfl ?_
  refine k_iload_n O dJ6_bitCount_0f7a4_10 0 rfl ?_
  refine k_ldcw O dJ6_bitCount_0f7a4_11 (List.mem_of_getElem? (i := 2) rfl) ?_
  refine k_iand O dJ6_bitCount_0f7a4_14 ?_
  refine k_iload_n O dJ6_bitCount_0f7a4_15 0 rfl ?_
  refine k_iconst O dJ6_bitCount_0f7a4_16 (v := 2) (by decide) ?_
  refine k_iushr O dJ6_bitCount_0f7a4_17 ?_
  refine k_ldcw O dJ6_bitCount_0f7a4_18 (List.mem_of_getElem? (i := 2) rfl) ?_
  refine k_iand O dJ6_bitCount_0f7a4_21 ?_
  refine k_iadd O dJ6_bitCount_0f7a4_22 ?_
  refine k_topi (fun x2 ex2 => ?_)
  have h := nm_use h x2 ex2
  refine k_istore_n (lv' := [(0, .int x2)]) O dJ6_bitCount_0f7a4_23 rfl (by decide) rfl ?_
  refine k_iload_n O dJ6_bitCount_0f7a4_24 0 rfl ?_
  refine k_iload_n O dJ6_bitCount_0f7a4_25 0 rfl ?_
  refine k_iconst O dJ6_bitCount_0f7a4_26 (v := 4) (by decide) ?_
  refine k_iushr O dJ6_bitCount_0f7a4_27 ?_
  refine k_iadd O dJ6_bitCount_0f7a4_28 ?_
  refine k_ldcw O dJ6_bitCount_0f7a4_29 (List.mem_of_getElem? (i := 3) rfl) ?_
  refine k_iand O dJ6_bitCount_0f7a4_32 ?_
  refine k_topi (fun x3 ex3 => ?_)
  have h := nm_use h x3 ex3
  refine k_istore_n (lv' := [(0, .int x3)]) O dJ6_bitCount_0f7a4_33 rfl (by decide) rfl ?_
  refine k_iload_n O dJ6_bitCount_0f7a4_34 0 rfl ?_
  refine k_iload_n O dJ6_bitCount_0f7a4_35 0 rfl ?_
  refine k_bipush O dJ6_bitCount_0f7a4_36 (v := 8) (by decide) ?_
  refine k_iushr O dJ6_bitCount_0f7a4_38 ?_
  refine k_iadd O dJ6_bitCount_0f7a4_39 ?_
  refine k_topi (fun x4 ex4 => ?_)
  have h := nm_use h x4 ex4
  refine k_istore_n (lv' := [(0, .int x4)]) O dJ6_bitCount_0f7a4_40 rfl (by decide) rfl ?_
  refine k_iload_n O dJ6_bitCount_0f7a4_41 0 rfl ?_
  refine k_iload_n O dJ6_bitCount_0f7a4_42 0 rfl ?_
  refine k_bipush O dJ6_bitCount_0f7a4_43 (v := 16) (by decide) ?_
  refine k_iushr O dJ6_bitCount_0f7a4_45 ?_
  refine k_iadd O dJ6_bitCount_0f7a4_46 ?_
  refine k_topi (fun x5 ex5 => ?_)
  have h := nm_use h x5 ex5
  refine k_istore_n (lv' := [(0, .int x5)]) O dJ6_bitCount_0f7a4_47 rfl (by decide) rfl ?_
  refine k_iload_n O dJ6_bitCount_0f7a4_48 0 rfl ?_
  refine k_bipush O dJ6_bitCount_0f7a4_49 (v := 63) (by decide) ?_
  refine k_iand O dJ6_bitCount_0f7a4_51 ?_
  exact k_iret O dJ6_bitCount_0f7a4_52 (rt_int h ho)
theorem c_J6_bitCount_0f7a4 (l : Launch) (G : Gl) {w wz : Wd} {v0 : Int32} {rz : Int32} (h : f_J6_bitCount_0f7a4 w v0 = some (rz, wz)) : Ct l yJ6_bitCount_0f7a4 wsJ6_bitCount_0f7a4 (0) (0) G [.int v0] w (some (.int rz), wz) := by
  refine Ct.start (by decide) rfl rfl rfl (Nat.le_of_ble_eq_true rfl) (fun X hG ho hl O => ?_)
  subst hG
  subst hl
  exact k_sub [0] rfl (w_J6_bitCount_0f7a4_0 O ho h)
def b_X7_isSlot_0 (w : Wd) (v0 : Int32) : Option (Int32 × Wd) := if v0 < 0 then (some ((0 : Int32), w)) else (if ((2 : Int32)) ≤ v0 then (some ((0 : Int32), w)) else (some ((1 : Int32), w)))
def f_X7_isSlot (w : Wd) (v0 : Int32) : Option (Int32 × Wd) := b_X7_isSlot_0 w v0
set_option maxHeartbeats 4000000 in
set_option maxRecDepth 100000 in
theorem w_X7_isSlot_0 {X : Cx} {rz : Int32} {wz : Wd} (O : Ok X cX7_isSlot RX7 ((some .boolean)) wsX7_isSlot (0) (0) 1) (ho : Ro X (some (.int rz), wz)) {w : Wd} {v0 : Int32} (h : b_X7_isSlot_0 w v0 = some (rz, wz)) : Wk X w 0 [(0, .int v0)] [] := by
  unfold b_X7_isSlot_0 at h
  refine k_iload_n O dX7_isSlot_0 0 rfl ?_
  refine k_if_lt O 13 dX7_isSlot_1 (by decide) (fun c1 => ?_) (fun c1 => ?_)
  · have h := ite_t c1 h
    refine k_iconst O dX7_isSlot_13 (v := 0) (by decide) ?_
    exact k_zret O (by decide) dX7_isSlot_14 (rt_int h ho)
  · have h := ite_f c1 h
    refine k_iload_n O dX7_isSlot_4 0 rfl ?_
    refine k_iconst O dX7_isSlot_5 (v := 2) (by decide) ?_
    refine k_icmp_ge O 13 dX7_isSlot_6 (by decide) (fun c2 => ?_) (fun c2 => ?_)
    · have h := ite_t c2 h
      refine k_iconst O dX7_isSlot_13 (v := 0) (by decide) ?_
      exact k_zret O (by decide) dX7_isSlot_14 (rt_int h ho)
    · have h := ite_f c2 h
      refine k_iconst O dX7_isSlot_9 (v := 1) (by decide) ?_
      refine k_goto O 14 dX7_isSlot_10 (by decide) ?_
      exact k_zret O (by decide) dX7_isSlot_14 (rt_int h ho)
theorem c_X7_isSlot (l : Launch) (G : Gl) {w wz : Wd} {v0 : Int32} {rz : Int32} (h : f_X7_isSlot w v0 = some (rz, wz)) : Ct l yX7_isSlot wsX7_isSlot (0) (0) G [.int v0] w (some (.int rz), wz) := by
  refine Ct.start (by decide) rfl rfl rfl (Nat.le_of_ble_eq_true rfl) (fun X hG ho hl O => ?_)
  subst hG
  subst hl
  exact k_sub [0] rfl (w_X7_isSlot_0 O ho h)
