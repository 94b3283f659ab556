/-! ===== a part that tells a walker ===== -/
theorem RdR.addG {p T G c : Nat} {x x' y y' : Wd} {s : Int32} {cl kd st st' : Nat → Nat} (Hs : ∀ g, g < G → st' g = st g) (Hs0 : st' G = c) (hR : RdR p x y T G cl kd st) (h4 : G < 4) (hc : c < 12) (hs : s = -9 ∨ s = 0 ∨ s = 1) (X1 : x'.1 p 1 = nI (G + 1)) (Xp : ∀ j, j ≠ 1 → x'.1 p j = x.1 p j) (Xo : ∀ a, p < a → a ≤ p + 4 → x'.1 a = x.1 a) (X5 : ∀ g, x'.1 (p + 5) g = if g = G then nI c else x.1 (p + 5) g) (X6 : ∀ g, x'.1 (p + 6) g = if g = G then s else x.1 (p + 6) g) (Y3 : y'.1 105 3 = nI (G + 1)) (Y2 : y'.1 105 2 = y.1 105 2) (Y4 : y'.1 105 4 = y.1 105 4) (Y6 : y'.1 106 = y.1 106) (Y7 : ∀ j, y'.1 107 j = if j = 2 * G + 1 then s else if j = 2 * G then nI c else y.1 107 j) : RdR p x' y' T (G + 1) cl kd st' := by
  obtain ⟨a1, a2, a3, a4, a5, a6, a7, a8, a9, b1, b2, b3, b4, b5, b6, b7, b8, b9, d1⟩ := hR
  unfold RdR
  rw [Xp 0 (by decide), X1, Xp 2 (by decide), Xp 3 (by decide), Xp 4 (by decide), Xp 5 (by decide), Y4, Y2, Y3, Y6, Xo (p + 1) (by omega) (by omega), Xo (p + 2) (by omega) (by omega), Xo (p + 3) (by omega) (by omega), Xo (p + 4) (by omega) (by omega)]
  refine ⟨a1, by omega, a3, a4, rfl, rfl, a7, a8, a9, b1, b2, b3, b4, b5, b6, b7, b8, fun g hg => ?_, fun g hg => ?_⟩
  · by_cases c0 : g = G
    · rw [c0, X5, if_pos rfl, Y7, if_neg (by omega), if_pos rfl, Hs0]
      exact ⟨rfl, rfl, hc⟩
    · rw [X5, if_neg c0, Y7, if_neg (by omega), if_neg (by omega), Hs g (by omega)]
      exact b9 g (by omega)
  · by_cases c0 : g = G
    · rw [c0, X6, if_pos rfl, Y7, if_pos rfl]
      exact ⟨rfl, hs⟩
    · rw [X6, if_neg c0, Y7, if_neg (by omega), if_neg (by omega)]
      exact d1 g (by omega)
theorem walker_75 {p G : Nat} {z : Wd} {s c : Int32} (hp : p = 3 ∨ p = 11) (h0 : z.1 10 0 = nI p) (hG : z.1 p 1 = nI G) (h4 : G < 4) : b_X2_takeOfWalker_75 z s c = some (1, up (up (up (up z (p + 5) G c) (p + 6) G s) p 1 (nI (G + 1))) 10 1 1) := by
  unfold b_X2_takeOfWalker_75
  rw [h0, nI_clamp (by omega), gd_true (pl_ok hp)]
  unfold f_X1_addWalker b_X1_addWalker_0
  rw [hG, if_neg (nI_lt0 G (by omega)), if_pos (show nI G < (4 : Int32) from nI_lt (b := 4) h4 (by decide)), gd_true (inb_nI h4 (by decide)), nI_clamp (by omega), nm_ok, show (up z (p + 5) G c).1 p 1 = nI G by rw [up_nc (by omega)]; exact hG, gd_true (inb_nI h4 (by decide)), nI_clamp (by omega), nm_ok, nm_ok, show (up (up z (p + 5) G c) (p + 6) G s).1 p 1 = nI G by rw [up_nc (by omega), up_nc (by omega)]; exact hG, nI_1, bv_ok, nm_ok]
theorem mG372 {w : Wd} {G : Nat} {s : Int32} (h4 : G < 4) (h3 : w.1 105 3 = nI G) : b_X8_readPart_372 w s (nI (2 * G + 1)) = if w.1 105 18 = -9 then some (up (up w 107 (2 * G + 1) s) 105 3 (nI (G + 1))) else some (up (up w 107 (2 * G + 1) s) 105 3 (nI G + 0)) := by
  unfold b_X8_readPart_372 b_X8_readPart_392
  rw [gd_true (inb_nI (show 2 * G + 1 < 8 by omega) (by decide)), nI_clamp (by omega), nm_ok, nm_ok, nm_ok, up_nc (by decide), h3, nI_1]
theorem part_G {p i len T G : Nat} {x y : Wd} {tx cl kd st : Nat → Nat} (h : PH p x y i len tx T G cl kd st) (hc : tx i = 71) : PO p x y i len (nI 71) := by
  obtain ⟨hp, hR, htx, hty, h0, h1, ha, hf, hi⟩ := h
  have h64 := htx.1
  have hR0 := hR
  obtain ⟨a1, a2, a3, a4, a5, a6, a7, a8, a9, b1, b2, b3, b4, b5, b6, b7, b8, b9, d1⟩ := hR
  have d0 := Md.first (a := 71) h0
  obtain ⟨x1, hx1⟩ : ∃ x1, x1 = up (up x 10 1 71) 10 2 0 := ⟨_, rfl⟩
  rw [← hx1] at d0
  have eF : f_X2_takeFirst x (nI 71) = if (4 : Int32) ≤ nI G then some (0, x1) else (if x.1 p 2 = 4095 then some (0, x1) else some (1, x1)) := by
    unfold f_X2_takeFirst b_X2_takeFirst_0
    rw [nm_ok, nm_ok, if_pos (by decide), show nI 71 = (71 : Int32) from rfl, ← hx1, d0.2.1, nI_clamp (by omega), gd_true (pl_ok hp), gd_true (pl_ok hp), d0.1.1 p (by omega), a5]
  have e0 : f_X8_readPart y (nI 71) = b_X8_readPart_229 y (nI 71) := by
    unfold f_X8_readPart b_X8_readPart_0 b_X8_readPart_95 b_X8_readPart_169
    rw [if_neg (by decide), if_neg (by decide), if_neg (by decide)]
  by_cases hG4 : G = 4
  · refine PO.no (tx := tx) (x' := x1) htx hi ?_ d0.1 ?_
    · rw [hc, take_first h1, eF, hG4, if_pos (by decide), bd_ok]
      rfl
    · rw [e0]
      unfold b_X8_readPart_229
      rw [if_pos (by decide), a6, hG4, if_pos (by decide)]
      exact part_fail ha hf
  have h4 : G < 4 := by omega
  have n4 : ¬ (4 : Int32) ≤ nI G := nI_ge (b := 4) h4 (by decide)
  by_cases hsh : x.1 p 2 = 4095
  · refine PO.no (tx := tx) (x' := x1) htx hi ?_ d0.1 ?_
    · rw [hc, take_first h1, eF, if_neg n4, if_pos hsh, bd_ok]
      rfl
    · rw [e0]
      unfold b_X8_readPart_229
      rw [if_pos (by decide), a6, if_neg n4, if_pos (by rw [← a7]; exact hsh)]
      exact part_fail ha hf
  obtain ⟨y3, hy3⟩ : ∃ y3, y3 = up y 105 17 (nI (i + 1)) := ⟨_, rfl⟩
  have ha3 : y3.1 105 17 = nI (i + 1) := by rw [hy3, up_eq]
  have hf3 : y3.1 105 18 = -9 := by rw [hy3, up_ns (by decide)]; exact hf
  have ht3 : TX y3 105 16 114 len tx := hty.cong (by rw [hy3, up_ns (by decide)]) (by rw [hy3, up_nc (by decide)])
  obtain ⟨M, hMe⟩ : ∃ M, M = (4095 : Int32) &&& (x.1 p 2 ^^^ (-1)) := ⟨_, rfl⟩
  have hM : ∀ i, bt M i = true → i < 12 := fun i q => by
    rw [hMe, b_and, b_4095, Bool.and_eq_true, decide_eq_true_iff] at q
    exact q.1
  have eP : f_X8_readPart y (nI 71) = bd (f_X8_cell y3 M) (fun r7 w6 => nm (up w6 107 (2 * G) r7) (fun w9 => if (w9.1 105 18) = ((-9 : Int32)) then (if (w9.1 105 16) ≤ (w9.1 105 17) then (b_X8_readPart_326 w9) else (gd (inb (w9.1 105 17) 64) (if (w9.1 114 (w9.1 105 17).toNatClampNeg) = ((45 : Int32)) then (b_X8_readPart_327 w9 ((1 : Int32))) else (b_X8_readPart_326 w9)))) else (b_X8_readPart_326 w9))) := by
    rw [e0]
    unfold b_X8_readPart_229
    rw [if_pos (by decide), a6, if_neg n4, if_neg (by rw [← a7]; exact hsh), ha, nI_1, ← hy3, nm_ok, show y3.1 105 4 = x.1 p 2 by rw [hy3, up_ns (by decide)]; exact a7.symm, ← hMe]
    congr 1
    funext r7 w6
    rw [show y3.1 105 3 = nI G by rw [hy3, up_ns (by decide)]; exact a6, m2n, gd_true (inb_nI (show 2 * G < 8 by omega) (by decide)), nI_clamp (by omega)]
  have s1 : ∀ n, b_X2_read_19 p (n + 1) x (nI i) = b_X2_read_19 p n x1 (nI (i + 1)) := rd_y htx hi (by
    rw [hc, take_first h1, eF, if_neg n4, if_neg hsh, bd_ok]
    rfl)
  have ec : ∀ z q s, Md p x z 71 (nI q) → q < 2 → f_X2_take z s = bd (bd (f_X2_takeOfCell z s M) (fun r26 w25 => gd (bb r26) (some (r26, w25)))) (fun r26 w25 => gd (bb r26) (some (r26, w25))) := fun z q s hz hq => by
    rw [take_G hz.2.2.1]
    unfold f_X2_takeOfWalker b_X2_takeOfWalker_0
    rw [hz.2.2.2, if_neg (show ¬ (2 : Int32) ≤ nI q from nI_ge (b := 2) hq (by decide)), hz.2.1, nI_clamp (by omega), gd_true (pl_ok hp), hz.1.1 p (by omega), ← hMe]
  have t0 : ∀ z b r z', Md p x z 71 0 → f_X2_takeOfCell z (nI b) M = some (r, z') → (r = 0 ∨ r = 1 ∧ z'.1 10 2 = 1) → f_X2_take z (nI b) = some (r, z') := fun z b r z' hz e hr => by
    have hb : bb r = true := bb_of (by rcases hr with q | ⟨q, -⟩; exact Or.inl q; exact Or.inr q)
    rw [ec z 0 _ hz (by decide), e, bd_ok, gd_true hb, bd_ok, gd_true hb]
  have t1' : ∀ z b r z', Md p x z 71 1 → f_X2_takeOfCell z (nI b) M = some (r, z') → (r = 0 ∨ r = 1) → f_X2_take z (nI b) = some (r, z') := fun z b r z' hz e hr => by
    rw [ec z 1 _ hz (by decide), e, bd_ok, gd_true (bb_of hr), bd_ok, gd_true (bb_of hr)]
  -- the reference's tail at a fault
  have tl : ∀ w f, w.1 105 18 = nI f → f < 100 → w.1 105 3 = nI G → ∃ y', b_X8_readPart_326 w = some y' ∧ y'.1 105 18 = nI f ∧ Only SM w y' := fun w f q1 q2 q3 => by
    unfold b_X8_readPart_326 b_X8_readPart_327 b_X8_readPart_342
    rw [if_pos rfl, Int32.add_zero, up_same, nm_ok, if_pos rfl, fig_f q1 q2, bd_ok, q3, m2n, nI_1, mG372 h4 q3, if_neg (by rw [q1]; exact nI_ne9 q2)]
    exact ⟨_, rfl, by rw [up_ns (by decide), up_nc (by decide)]; exact q1, (Only.rf.up (Or.inr (Or.inl rfl))).up (Or.inr (Or.inr ⟨rfl, by omega⟩))⟩
  rcases CYN len tx (i + 1) M with ⟨u, v, hCY⟩ | ⟨f, hCN⟩
  · obtain ⟨x2, s2, d2, x3, e3, d3, o3⟩ := ccell_y d0 htx t0 hCY
    have hi2 : i + 2 < len := hCY.1
    have s3 : ∀ n, b_X2_read_19 p (n + 1) x2 (nI (i + 1 + 1)) = b_X2_read_19 p n x3 (nI (i + 1 + 1 + 1)) := rd_y (htx.fr d2.1) hi2 (t1' x2 _ 1 x3 d2 e3 (Or.inr rfl))
    have hc12 := hCY.2.2.2.2.2.1
    obtain ⟨c, hcc⟩ : ∃ c, c = 10 * u + v := ⟨_, rfl⟩
    rw [← hcc] at hc12 o3
    rw [mcell_y hM ha3 hf3 ht3 hCY, bd_ok, nm_ok, ← hcc, hy3, up_up] at eP
    obtain ⟨w9, h9⟩ : ∃ w9, w9 = up (up y 105 17 (nI (i + 1 + 2))) 107 (2 * G) (nI c) := ⟨_, rfl⟩
    rw [← h9] at eP
    have ha9 : w9.1 105 17 = nI (i + 3) := by rw [h9, up_nc (by decide), up_eq]
    have hf9 : w9.1 105 18 = -9 := by rw [h9, up_nc (by decide), up_ns (by decide)]; exact hf
    have hg9 : w9.1 105 3 = nI G := by rw [h9, up_nc (by decide), up_ns (by decide)]; exact a6
    have ht9 : TX w9 105 16 114 len tx := hty.cong (by rw [h9, up_nc (by decide), up_ns (by decide)]) (by rw [h9, up_nc (by decide), up_nc (by decide)])
    have o9 : Only SM y w9 := by rw [h9]; exact (Only.rf.up (Or.inr (Or.inr ⟨rfl, by omega⟩))).up (Or.inr (Or.inl rfl))
    rw [if_pos hf9, ht9.2.1, ha9] at eP
    -- the class's last byte
    have eW : ∀ s, f_X2_take x3 s = bd (if s = ((45 : Int32)) then (b_X2_takeOfWalker_38 x3 s ((1 : Int32))) else (b_X2_takeOfWalker_38 x3 s ((0 : Int32)))) (fun r26 w25 => gd (bb r26) (some (r26, w25))) := fun s => by
      rw [take_G d3.2.2.1]
      unfold f_X2_takeOfWalker b_X2_takeOfWalker_0
      rw [d3.2.2.2, if_pos (by decide)]
    have hG3 : x3.1 p 1 = nI G := by rw [d3.1.1 p (by omega)]; exact a5
    -- the end of a good part
    have fin : ∀ (s : Int32) (y5 : Wd), (s = -9 ∨ s = 0 ∨ s = 1) → i + 3 < len → f_X2_take x3 (nI (tx (i + 3))) = some (1, up (up (up (up x3 (p + 5) G (nI c)) (p + 6) G s) p 1 (nI (G + 1))) 10 1 1) → f_X8_readPart y (nI 71) = some (up (up y5 107 (2 * G + 1) s) 105 3 (nI (G + 1))) → y5 = up w9 105 17 (nI (i + 4)) → PO p x y i len (nI 71) := fun s y5 hs hl et ey hy5 => by
      obtain ⟨x4, hx4⟩ : ∃ x4, x4 = up (up (up (up x3 (p + 5) G (nI c)) (p + 6) G s) p 1 (nI (G + 1))) 10 1 1 := ⟨_, rfl⟩
      rw [← hx4] at et
      have s4 : ∀ n, b_X2_read_19 p (n + 1) x3 (nI (i + 3)) = b_X2_read_19 p n x4 (nI (i + 3 + 1)) := rd_y (htx.fr d3.1) hl et
      have hx3p : ∀ a, p ≤ a → a ≤ p + 6 → x3.1 a = x.1 a := fun a q1 q2 => d3.1.1 a (by omega)
      refine Or.inr ⟨4, T, G + 1, cl, kd, fun g => if g = G then c else st g, x4, _, by decide, by decide, by omega, fun n => ?_, ey, ?_, ?_, by rw [hx4, up_eq], ?_, ?_, ?_, ?_⟩
      · rw [show n + 4 = (n + 3) + 1 from rfl, s1, show n + 3 = (n + 2) + 1 from rfl, s2, show n + 2 = (n + 1) + 1 from rfl, s3]
        show b_X2_read_19 p (n + 1) x3 (nI (i + 3)) = _
        rw [s4]
      · refine RdR.addG (c := c) (s := s) (fun g hg => if_neg (by omega)) (if_pos rfl) hR0 h4 hc12 hs ?_ (fun j hj => ?_) (fun a q1 q2 => ?_) (fun g => ?_) (fun g => ?_) up_eq ?_ ?_ ?_ (fun j => ?_)
        · rw [hx4, up_nc (by omega), up_eq]
        · rw [hx4, up_nc (by omega), up_ns hj, up_nc (by omega), up_nc (by omega), hx3p p (by omega) (by omega)]
        · rw [hx4, up_nc (by omega), up_nc (by omega), up_nc (by omega), up_nc (by omega), hx3p a (by omega) (by omega)]
        · rw [hx4, up_nc (by omega), up_nc (by omega), up_nc (by omega), up_get, hx3p (p + 5) (by omega) (by omega)]
          simp
        · rw [hx4, up_nc (by omega), up_nc (by omega), up_get, up_nc (by omega), hx3p (p + 6) (by omega) (by omega)]
          simp
        · rw [up_ns (by decide), up_nc (by decide), hy5, up_ns (by decide), h9, up_nc (by decide), up_ns (by decide)]
        · rw [up_ns (by decide), up_nc (by decide), hy5, up_ns (by decide), h9, up_nc (by decide), up_ns (by decide)]
        · rw [up_nc (by decide), up_nc (by decide), hy5, up_nc (by decide), h9, up_nc (by decide), up_nc (by decide)]
        · rw [up_nc (by decide), up_get, hy5, up_nc (by decide), h9, up_get, up_nc (by decide)]
          simp only [true_and]
      · rw [hx4, up_ns (by decide), up_nc (by omega), up_nc (by omega), up_nc (by omega)]; exact d3.2.1
      · rw [up_ns (by decide), up_nc (by decide), hy5, up_eq]
      · rw [up_ns (by decide), up_nc (by decide), hy5, up_ns (by decide)]; exact hf9
      · refine ⟨fun a j q => ?_, by rw [hx4]; exact d3.1.2⟩
        rw [hx4, up_nc (fun z => q (Or.inl z)), up_nc (fun z => q (Or.inr (by omega))), up_nc (fun z => q (Or.inr (by omega))), up_nc (fun z => q (Or.inr (by omega))), d3.1.1 a (fun z => q (Or.inl z))]
      · rw [hy5]
        exact ((o9.up (Or.inr (Or.inr ⟨rfl, by omega⟩))).up (Or.inr (Or.inl rfl))).up (Or.inr (Or.inr ⟨rfl, by omega⟩))
    by_cases hB : i + 3 < len ∧ tx (i + 3) = 45
    · obtain ⟨hl, h45⟩ := hB
      refine fin (-9) (up w9 105 17 (nI (i + 4))) (Or.inl rfl) hl ?_ ?_ rfl
      · rw [eW, h45, if_pos (by decide)]
        unfold b_X2_takeOfWalker_38 b_X2_takeOfWalker_57
        rw [nm_ok, if_neg (by decide), d3.2.1, nI_clamp (by omega), gd_true (pl_ok hp), if_neg (by decide), o3, walker_75 hp d3.2.1 hG3 h4, bd_ok]
        rfl
      · rw [eP, if_neg (nI_ge hl (by omega)), gd_true (inb_nI (show i + 3 < 64 by omega) (by decide)), nI_clamp (by omega), (ht9.2.2 _ hl).1, h45, if_pos (by decide)]
        unfold b_X8_readPart_327 b_X8_readPart_342
        rw [if_neg (by decide), ha9, nI_1, nm_ok, if_neg (by decide), show (up w9 105 17 (nI (i + 3 + 1))).1 105 3 = nI G by rw [up_ns (by decide)]; exact hg9, m2n, nI_1, mG372 h4 (by rw [up_ns (by decide)]; exact hg9), if_pos (by rw [up_ns (by decide)]; exact hf9)]
    · by_cases hS : ∃ s, FY len tx (i + 3) 3 s
      · obtain ⟨s, hS⟩ := hS
        have hl := hS.1
        have hs2 : s < 2 := (b_3 s hS.2.2.1).mp hS.2.2.2
        have h45 : ¬ nI (tx (i + 3)) = 45 := fun z => hB ⟨hl, (nI_eq (b := 45) (by have := (htx.2.2 _ hl).2; omega) (by decide)).mp z⟩
        refine fin (nI s) (up w9 105 17 (nI (i + 4))) (by rcases (show s = 0 ∨ s = 1 by omega) with rfl | rfl; exact Or.inr (Or.inl rfl); exact Or.inr (Or.inr rfl)) hl ?_ ?_ rfl
        · rw [eW, if_neg h45]
          unfold b_X2_takeOfWalker_38 b_X2_takeOfWalker_57
          rw [nm_ok, if_pos rfl, hS.2.1, s48, isSide_yes hs2, bd_ok, if_neg (by decide), d3.2.1, nI_clamp (by omega), gd_true (pl_ok hp), if_pos rfl, o3, walker_75 hp d3.2.1 hG3 h4, bd_ok]
          rfl
        · rw [eP, if_neg (nI_ge hl (by omega)), gd_true (inb_nI (show i + 3 < 64 by omega) (by decide)), nI_clamp (by omega), (ht9.2.2 _ hl).1, if_neg h45]
          unfold b_X8_readPart_326 b_X8_readPart_327 b_X8_readPart_342
          rw [if_pos rfl, Int32.add_zero, up_same, nm_ok, if_pos rfl, fig_y ha9 hf9 ht9 hS, bd_ok, hg9, m2n, nI_1, mG372 h4 (by rw [up_ns (by decide)]; exact hg9), if_pos (by rw [up_ns (by decide)]; exact hf9)]
      · have e326 : f_X8_readPart y (nI 71) = b_X8_readPart_326 w9 := by
          rw [eP]
          by_cases hl : i + 3 < len
          · have h45 : ¬ nI (tx (i + 3)) = 45 := fun z => hB ⟨hl, (nI_eq (b := 45) (by have := (htx.2.2 _ hl).2; omega) (by decide)).mp z⟩
            rw [if_neg (nI_ge hl (by omega)), gd_true (inb_nI (show i + 3 < 64 by omega) (by decide)), nI_clamp (by omega), (ht9.2.2 _ hl).1, if_neg h45]
          · rw [if_pos (nI_le (by omega) (by omega))]
        unfold b_X8_readPart_326 b_X8_readPart_327 b_X8_readPart_342 at e326
        rw [if_pos rfl, Int32.add_zero, up_same, nm_ok, if_pos rfl, fig_n ha9 hf9 ht9 (by omega) hS, bd_ok, hg9, m2n, nI_1, mG372 h4 (by rw [up_ns (by decide)]; exact hg9), if_neg (by rw [up_eq]; exact nI_ne9 (by omega))] at e326
        obtain ⟨x5, e5, f5⟩ := rd_no (p := p) (x0 := x) (i := i + 3) (htx.fr d3.1) (by omega) (by rw [d3.2.2.1]; decide) d3.1 (fun q => by
          have hb := (htx.2.2 (i + 3) q).2
          have h45 : ¬ nI (tx (i + 3)) = 45 := fun z => hB ⟨q, (nI_eq (b := 45) (by omega) (by decide)).mp z⟩
          refine ⟨x3, ?_, d3.1⟩
          rw [eW, if_neg h45]
          unfold b_X2_takeOfWalker_38
          have hno : nI (tx (i + 3)) - 48 < 0 ∨ (2 : Int32) ≤ nI (tx (i + 3)) - 48 := by
            by_cases h48 : tx (i + 3) < 48
            · exact Or.inl (n48 h48)
            · obtain ⟨k, hk⟩ : ∃ k, tx (i + 3) = 48 + k := ⟨tx (i + 3) - 48, by omega⟩
              rw [hk, s48]
              exact Or.inr (nI_le (a := 2) (Nat.le_of_not_lt fun z => hS ⟨k, q, hk, by omega, (b_3 k (by omega)).mpr z⟩) (by omega))
          rw [nm_ok, if_pos rfl, isSide_no hno, bd_ok, if_pos rfl]
          rfl)
        refine Or.inl ⟨i + 3, x5, _, by omega, fun n => ?_, e326, ?_, f5.ox, ?_⟩
        · rw [show n + 6 = (n + 5) + 1 from rfl, s1, show n + 5 = (n + 4) + 1 from rfl, s2, show n + 4 = (n + 3) + 1 from rfl, s3]
          exact e5 (n + 2)
        · rw [up_ns (by decide), up_nc (by decide), up_eq]
        · exact ((o9.up (Or.inr (Or.inr ⟨rfl, by omega⟩))).up (Or.inr (Or.inl rfl))).up (Or.inr (Or.inr ⟨rfl, by omega⟩))
  · obtain ⟨hfl, x', ex, fx⟩ := ccell_n d0 (by decide) htx (by omega) t0 (fun z b z' hz e => t1' z b 0 z' hz e (Or.inl rfl)) hCN
    obtain ⟨r, y4, ey, hy4, oy⟩ := mcell_n hM ha3 hf3 ht3 (by omega) hCN
    have hg4 : y4.1 105 3 = nI G := by
      rw [oy.1 105 3 (fun z => by have := z.2; omega), hy3, up_ns (by decide)]; exact a6
    rw [ey, bd_ok, nm_ok, if_neg (by rw [up_nc (by decide), hy4]; exact nI_ne9 (by omega))] at eP
    obtain ⟨y', ey', hy1, hy2⟩ := tl (up y4 107 (2 * G) r) f (by rw [up_nc (by decide)]; exact hy4) (by omega) (by rw [up_nc (by decide)]; exact hg4)
    rw [ey'] at eP
    refine Or.inl ⟨f, x', y', hfl, fun n => ?_, eP, hy1, fx.ox, ?_⟩
    · rw [show n + 6 = (n + 5) + 1 from rfl, s1]
      exact ex (n + 3)
    · rw [hy3] at oy
      exact (((Only.rf.up (Or.inr (Or.inr ⟨rfl, by omega⟩))).tr (S78.sm oy)).up (Or.inr (Or.inl rfl))).tr hy2
