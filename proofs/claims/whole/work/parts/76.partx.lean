/-! ===== parts that tell a shut cell, a walker ===== -/
theorem b_iff {x y : Int32} (h : ∀ i, i < 32 → (bt x i = true ↔ bt y i = true)) : x = y := b_ext (fun i hi => Bool.eq_iff_iff.mpr (h i hi))
theorem RdR.shut {p T G : Nat} {x x' y y' : Wd} {z : Int32} {cl kd st : Nat → Nat} (hR : RdR p x y T G cl kd st) (hz : ∀ i, bt z i = true → i < 12) (X2 : x'.1 p 2 = z) (Xp : ∀ j, j ≠ 2 → x'.1 p j = x.1 p j) (Xo : ∀ a, p < a → a ≤ p + 6 → x'.1 a = x.1 a) (Y4 : y'.1 105 4 = z) (Y2 : y'.1 105 2 = y.1 105 2) (Y3 : y'.1 105 3 = y.1 105 3) (Y6 : y'.1 106 = y.1 106) (Y7 : y'.1 107 = y.1 107) : RdR p x' y' T G cl kd st := by
  obtain ⟨a1, a2, a3, a4, a5, a6, a7, a8, a9, b1, b2, b3, b4, b5, b6, b7, b8, b9, d1⟩ := hR
  unfold RdR
  rw [Xp 0 (by decide), Xp 1 (by decide), Xp 3 (by decide), Xp 4 (by decide), Xp 5 (by decide), X2, Y4, Y2, Y3, Y6, Y7, Xo (p + 1) (by omega) (by omega), Xo (p + 2) (by omega) (by omega), Xo (p + 3) (by omega) (by omega), Xo (p + 4) (by omega) (by omega), Xo (p + 5) (by omega) (by omega), Xo (p + 6) (by omega) (by omega)]
  exact ⟨a1, a2, a3, a4, a5, a6, rfl, hz, a9, b1, b2, b3, b4, b5, b6, b7, b8, b9, d1⟩
theorem part_X {p i len T G : Nat} {x y : Wd} {tx cl kd st : Nat → Nat} (h : PH p x y i len tx T G cl kd st) (hc : tx i = 88) : PO p x y i len (nI 88) := by
  obtain ⟨hp, hR, htx, hty, h0, h1, ha, hf, hi⟩ := h
  have h64 := htx.1
  have hR0 := hR
  obtain ⟨a1, a2, a3, a4, a5, a6, a7, a8, a9, b1, b2, b3, b4, b5, b6, b7, b8, b9, d1⟩ := hR
  have d0 := Md.first (a := 88) h0
  obtain ⟨x1, hx1⟩ : ∃ x1, x1 = up (up x 10 1 88) 10 2 0 := ⟨_, rfl⟩
  rw [← hx1] at d0
  obtain ⟨S, eS, hS⟩ := shut_v (y := y) (st := st) a6 a2 (fun g hg => (b9 g hg).2)
  have hM : ∀ i, bt S i = true → i < 12 := fun i q => ((hS i (bt32 q)).mp q).1
  have eC : ∀ z q, Md p x z 88 q → f_X2_cellsToClose z = some (S, z) := fun z q hz => close_v (G := G) (st := st) hp hz.2.1 (by rw [hz.1.1 p (by omega)]; exact a5) a2 (fun g hg => by rw [hz.1.1 (p + 5) (by omega)]; exact ⟨(b9 g hg).1, (b9 g hg).2.2⟩) (by rw [hz.1.1 p (by omega), a7]; exact hS)
  have eF : f_X2_takeFirst x (nI 88) = if S = 0 then some (0, x1) else some (1, x1) := by
    unfold f_X2_takeFirst b_X2_takeFirst_0
    rw [nm_ok, nm_ok, if_neg (by decide), if_neg (by decide), if_neg (by decide), if_pos (by decide), show nI 88 = (88 : Int32) from rfl, ← hx1, eC x1 _ d0, bd_ok]
  have e0 : f_X8_readPart y (nI 88) = b_X8_readPart_169 y (nI 88) := by
    unfold f_X8_readPart b_X8_readPart_0 b_X8_readPart_95
    rw [if_neg (by decide), if_neg (by decide)]
  by_cases hS0 : S = 0
  · refine PO.no (tx := tx) (x' := x1) htx hi ?_ d0.1 ?_
    · rw [hc, take_first h1, eF, if_pos hS0, bd_ok]
      rfl
    · rw [e0]
      unfold b_X8_readPart_169 b_X8_readPart_229
      rw [if_pos (by decide), eS, bd_ok, if_pos hS0, if_neg (by decide)]
      exact part_fail ha hf
  · obtain ⟨y3, hy3⟩ : ∃ y3, y3 = up y 105 17 (nI (i + 1)) := ⟨_, rfl⟩
    have ha3 : y3.1 105 17 = nI (i + 1) := by rw [hy3, up_eq]
    have hf3 : y3.1 105 18 = -9 := by rw [hy3, up_ns (by decide)]; exact hf
    have ht3 : TX y3 105 16 114 len tx := hty.cong (by rw [hy3, up_ns (by decide)]) (by rw [hy3, up_nc (by decide)])
    have eS3 : f_X8_shuttable y3 = some (S, y3) := by
      obtain ⟨S3, e3, h3⟩ := shut_v (y := y3) (st := st) (G := G) (by rw [hy3, up_ns (by decide)]; exact a6) a2 (fun g hg => by rw [hy3, up_nc (by decide)]; exact (b9 g hg).2)
      have : S3 = S := b_iff (fun i hi => by rw [h3 i hi, hS i hi, hy3, up_ns (by decide)])
      rw [e3, this]
    have eP : f_X8_readPart y (nI 88) = bd (f_X8_cell y3 S) (fun r12 w11 => if (w11.1 105 18) = ((-9 : Int32)) then (b_X8_readPart_222 w11 (((1 : Int32)) <<< (r12 &&& 31)) (w11.1 105 4)) else (b_X8_readPart_222 w11 ((0 : Int32)) (w11.1 105 4))) := by
      rw [e0]
      unfold b_X8_readPart_169
      rw [if_pos (by decide), eS, bd_ok, if_neg hS0, ha, nI_1, ← hy3, nm_ok, eS3, bd_ok]
    have s1 : ∀ n, b_X2_read_19 p (n + 1) x (nI i) = b_X2_read_19 p n x1 (nI (i + 1)) := rd_y htx hi (by
      rw [hc, take_first h1, eF, if_neg hS0, bd_ok]
      rfl)
    have ec : ∀ z q s, Md p x z 88 q → f_X2_take z s = bd (bd (f_X2_takeOfCell z s S) (fun r6 w5 => if r6 = 0 then (some ((0 : Int32), w5)) else (if (w5.1 10 2) = ((2 : Int32)) then (gd (plb (w5.1 10 0).toNatClampNeg) (nm (up w5 ((w5.1 10 0).toNatClampNeg) 2 ((w5.1 ((w5.1 10 0).toNatClampNeg) 2) ||| (((1 : Int32)) <<< ((w5.1 10 3) &&& 31)))) (fun w10 => nm (up w10 10 1 ((1 : Int32))) (fun w11 => some ((1 : Int32), w11))))) else (some ((1 : Int32), w5))))) (fun r26 w25 => gd (bb r26) (some (r26, w25))) := fun z q s hz => by
      rw [take_X hz.2.2.1]
      unfold f_X2_takeOfClosed b_X2_takeOfClosed_0
      rw [eC z q hz, bd_ok]
    have t0 : ∀ z b r z', Md p x z 88 0 → f_X2_takeOfCell z (nI b) S = some (r, z') → (r = 0 ∨ r = 1 ∧ z'.1 10 2 = 1) → f_X2_take z (nI b) = some (r, z') := fun z b r z' hz e hr => by
      rw [ec z _ _ hz, e, bd_ok]
      rcases hr with rfl | ⟨rfl, q⟩
      · rw [if_pos rfl]; rfl
      · rw [if_neg (by decide), q, if_neg (by decide)]; rfl
    have t1 : ∀ z b z', Md p x z 88 1 → f_X2_takeOfCell z (nI b) S = some (0, z') → f_X2_take z (nI b) = some (0, z') := fun z b z' hz e => by
      rw [ec z _ _ hz, e, bd_ok, if_pos rfl]; rfl
    rcases CYN len tx (i + 1) S with ⟨u, v, hCY⟩ | ⟨f, hCN⟩
    · obtain ⟨x2, s2, d2, x3, e3, d3, o3⟩ := ccell_y d0 htx t0 hCY
      have hi2 : i + 2 < len := hCY.1
      have hc12 := hCY.2.2.2.2.2.1
      obtain ⟨c, hcc⟩ : ∃ c, c = 10 * u + v := ⟨_, rfl⟩
      rw [← hcc] at hc12 o3
      obtain ⟨x4, hx4⟩ : ∃ x4, x4 = up (up x3 p 2 (x3.1 p 2 ||| ((1 : Int32) <<< (nI c &&& 31)))) 10 1 1 := ⟨_, rfl⟩
      have s3 : ∀ n, b_X2_read_19 p (n + 1) x2 (nI (i + 1 + 1)) = b_X2_read_19 p n x4 (nI (i + 1 + 1 + 1)) := rd_y (htx.fr d2.1) hi2 (by
        rw [ec x2 _ _ d2, e3, bd_ok, if_neg (by decide), d3.2.2.2, if_pos rfl, d3.2.1, nI_clamp (by omega), gd_true (pl_ok hp), o3, nm_ok, nm_ok, ← hx4]
        rfl)
      rw [mcell_y hM ha3 hf3 ht3 hCY, bd_ok, ← hcc, hy3, up_up, if_pos (show (up y 105 17 (nI (i + 1 + 2))).1 105 18 = -9 by rw [up_ns (by decide)]; exact hf)] at eP
      unfold b_X8_readPart_222 at eP
      rw [nm_ok, up_ns (by decide)] at eP
      have hx3p : x3.1 p = x.1 p := d3.1.1 p (by omega)
      refine Or.inr ⟨3, T, G, cl, kd, st, x4, _, by decide, by decide, by omega, fun n => ?_, eP, ?_, ?_, by rw [hx4, up_eq], ?_, ?_, ?_, ?_⟩
      · rw [show n + 3 = (n + 2) + 1 from rfl, s1, show n + 2 = (n + 1) + 1 from rfl, s2, s3]
      · refine hR0.shut (z := y.1 105 4 ||| ((1 : Int32) <<< (nI c &&& 31))) (fun i hi => ?_) ?_ (fun j hj => ?_) (fun a q1 q2 => ?_) up_eq ?_ ?_ ?_ ?_
        · rw [b_or, Bool.or_eq_true, one_t (by omega), decide_eq_true_iff] at hi
          rcases hi with q | q
          · exact a8 i (by rw [a7]; exact q)
          · omega
        · rw [hx4, up_nc (by omega), up_eq, hx3p, a7]
        · rw [hx4, up_nc (by omega), up_ns hj, hx3p]
        · rw [hx4, up_nc (by omega), up_nc (by omega)]
          exact d3.1.1 a (by omega)
        · rw [up_ns (by decide), up_ns (by decide)]
        · rw [up_ns (by decide), up_ns (by decide)]
        · rw [up_nc (by decide), up_nc (by decide)]
        · rw [up_nc (by decide), up_nc (by decide)]
      · rw [hx4, up_ns (by decide), up_nc (by omega)]; exact d3.2.1
      · rw [up_ns (by decide), up_eq]
      · rw [up_ns (by decide), up_ns (by decide)]; exact hf
      · refine ⟨fun a j q => ?_, by rw [hx4]; exact d3.1.2⟩
        rw [hx4, up_nc (fun z => q (Or.inl z)), up_nc (fun z => q (Or.inr (by omega))), d3.1.1 a (fun z => q (Or.inl z))]
      · exact (Only.rf.up (Or.inr (Or.inr ⟨rfl, by omega⟩))).up (Or.inr (Or.inr ⟨rfl, by omega⟩))
    · obtain ⟨hfl, x', ex, fx⟩ := ccell_n d0 (by decide) htx (by omega) t0 t1 hCN
      obtain ⟨r, y4, ey, hy4, oy⟩ := mcell_n hM ha3 hf3 ht3 (by omega) hCN
      rw [ey, bd_ok, if_neg (by rw [hy4]; exact nI_ne9 (by omega))] at eP
      unfold b_X8_readPart_222 at eP
      rw [nm_ok] at eP
      refine Or.inl ⟨f, x', _, hfl, fun n => ?_, eP, ?_, fx.ox, ?_⟩
      · rw [show n + 6 = (n + 5) + 1 from rfl, s1]
        exact ex (n + 3)
      · rw [up_ns (by decide)]; exact hy4
      · rw [hy3] at oy
        exact ((Only.rf.up (Or.inr (Or.inr ⟨rfl, by omega⟩))).tr (S78.sm oy)).up (Or.inr (Or.inr ⟨rfl, by omega⟩))
