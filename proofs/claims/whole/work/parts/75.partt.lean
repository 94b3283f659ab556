/-- all that holds before a part -/
def PH (p : Nat) (x y : Wd) (i len : Nat) (tx : Nat → Nat) (T G : Nat) (cl kd st : Nat → Nat) : Prop := (p = 3 ∨ p = 11) ∧ RdR p x y T G cl kd st ∧ TX x 1 1 2 len tx ∧ TX y 105 16 114 len tx ∧ x.1 10 0 = nI p ∧ x.1 10 1 = 1 ∧ y.1 105 17 = nI i ∧ y.1 105 18 = -9 ∧ i < len
theorem b_3 : ∀ v, v ≤ 9 → (bt 3 v = true ↔ v < 2) := by decide +kernel
theorem b_31 : ∀ v, v ≤ 9 → (bt 31 v = true ↔ v < 5) := by decide +kernel
/-- the reference's tail of a trap when a fault is there -/
theorem tailT2 {w : Wd} {T f : Nat} {r : Int32} (h6 : T < 6) (hf : w.1 105 18 = nI f) (f9 : f < 100) : ∃ y', (gd (inb (nI (4 * T) + ((1 : Int32))) 24) (nm (up w 106 (nI (4 * T) + ((1 : Int32))).toNatClampNeg r) (fun w17 => bd (f_X8_figure w17 ((31 : Int32))) (fun r20 w19 => gd (inb (nI (4 * T) + ((2 : Int32))) 24) (nm (up w19 106 (nI (4 * T) + ((2 : Int32))).toNatClampNeg r20) (fun w22 => gd (inb (nI (4 * T) + ((3 : Int32))) 24) (nm (up w22 106 (nI (4 * T) + ((3 : Int32))).toNatClampNeg ((0 : Int32))) (fun w24 => nm (up w24 105 2 ((w24.1 105 2) + ((1 : Int32)))) (fun w25 => some w25))))))))) = some y' ∧ y'.1 105 18 = nI f ∧ Only SM w y' := by
  rw [lit_add' 1 (b := 1) rfl, lit_add' 2 (b := 2) rfl, lit_add' 3 (b := 3) rfl, gd_true (inb_nI (show 4 * T + 1 < 24 by omega) (by decide)), nI_clamp (by omega), nI_clamp (by omega), nI_clamp (by omega), nm_ok, fig_f (f := f) (by rw [up_nc (by decide)]; exact hf) f9, bd_ok, gd_true (inb_nI (show 4 * T + 2 < 24 by omega) (by decide)), nm_ok, gd_true (inb_nI (show 4 * T + 3 < 24 by omega) (by decide)), nm_ok, nm_ok]
  refine ⟨_, rfl, ?_, (((Only.rf.up (Or.inl rfl)).up (Or.inl rfl)).up (Or.inl rfl)).up (Or.inr (Or.inr ⟨rfl, Or.inl rfl⟩))⟩
  rw [up_ns (by decide), up_nc (by decide), up_nc (by decide), up_nc (by decide)]
  exact hf
theorem part_T {p i len T G : Nat} {x y : Wd} {tx cl kd st : Nat → Nat} (h : PH p x y i len tx T G cl kd st) (hc : tx i = 84) : PO p x y i len (nI 84) := by
  obtain ⟨hp, hR, htx, hty, h0, h1, ha, hf, hi⟩ := h
  have h64 := htx.1
  have hR0 := hR
  obtain ⟨a1, a2, a3, a4, a5, a6, a7, a8, a9, b1, -⟩ := hR
  have d0 := Md.first (a := 84) h0
  have eF : f_X2_takeFirst x (nI 84) = if (6 : Int32) ≤ nI T then some (0, up (up x 10 1 84) 10 2 0) else some (1, up (up x 10 1 84) 10 2 0) := by
    unfold f_X2_takeFirst b_X2_takeFirst_0
    rw [nm_ok, nm_ok, if_neg (by decide), if_pos (by decide), show nI 84 = (84 : Int32) from rfl, d0.2.1, nI_clamp (by omega), gd_true (pl_ok hp), d0.1.1 p (by omega), a3]
  by_cases h6 : T = 6
  · refine PO.no (tx := tx) (x' := up (up x 10 1 84) 10 2 0) htx hi ?_ d0.1 ?_
    · rw [hc, take_first h1, eF, h6, if_pos (by decide), bd_ok]
      rfl
    · unfold f_X8_readPart b_X8_readPart_0
      rw [if_pos (by decide), a4, h6, if_pos (by decide)]
      unfold b_X8_readPart_95 b_X8_readPart_169 b_X8_readPart_229
      rw [if_neg (by decide), if_neg (by decide), if_neg (by decide)]
      exact part_fail ha hf
  · have hT6 : T < 6 := by omega
    -- the reference up to the cell
    obtain ⟨y3, hy3⟩ : ∃ y3, y3 = up y 105 17 (nI (i + 1)) := ⟨_, rfl⟩
    have ha3 : y3.1 105 17 = nI (i + 1) := by rw [hy3, up_eq]
    have hf3 : y3.1 105 18 = -9 := by rw [hy3, up_ns (by decide)]; exact hf
    have ht3 : TX y3 105 16 114 len tx := hty.cong (by rw [hy3, up_ns (by decide)]) (by rw [hy3, up_nc (by decide)])
    obtain ⟨F, eFr, hF⟩ := free_v (y := y3) (T := T) (cl := cl) (by rw [hy3, up_ns (by decide)]; exact a4) a1 (fun t ht => by rw [hy3, up_nc (by decide)]; exact (a9 t ht).2)
    have hM : ∀ i, bt F i = true → i < 12 := fun i q => ((hF i (bt32 q)).mp q).1
    have eP : f_X8_readPart y (nI 84) = bd (f_X8_cell y3 F) (fun r10 w9 => nm (up w9 106 (4 * T) r10) (fun w12 => bd (f_X8_figure w12 ((3 : Int32))) (fun r15 w14 => gd (inb (nI (4 * T) + ((1 : Int32))) 24) (nm (up w14 106 (nI (4 * T) + ((1 : Int32))).toNatClampNeg r15) (fun w17 => bd (f_X8_figure w17 ((31 : Int32))) (fun r20 w19 => gd (inb (nI (4 * T) + ((2 : Int32))) 24) (nm (up w19 106 (nI (4 * T) + ((2 : Int32))).toNatClampNeg r20) (fun w22 => gd (inb (nI (4 * T) + ((3 : Int32))) 24) (nm (up w22 106 (nI (4 * T) + ((3 : Int32))).toNatClampNeg ((0 : Int32))) (fun w24 => nm (up w24 105 2 ((w24.1 105 2) + ((1 : Int32)))) (fun w25 => some w25))))))))))) := by
      unfold f_X8_readPart b_X8_readPart_0
      rw [if_pos (by decide), a4, if_neg (show ¬ (6 : Int32) ≤ nI T from nI_ge (b := 6) hT6 (by decide)), ha, nI_1, ← hy3, nm_ok, show y3.1 105 2 = nI T by rw [hy3, up_ns (by decide)]; exact a4, m4, nm_ok, eFr, bd_ok]
      congr 1
      funext r10 w9
      rw [gd_true (inb_nI (show 4 * T < 24 by omega) (by decide)), nI_clamp (by omega)]
    -- the class: the letter
    obtain ⟨x1, hx1⟩ : ∃ x1, x1 = up (up x 10 1 84) 10 2 0 := ⟨_, rfl⟩
    rw [← hx1] at d0 eF
    have s1 : ∀ n, b_X2_read_19 p (n + 1) x (nI i) = b_X2_read_19 p n x1 (nI (i + 1)) := rd_y htx hi (by
      rw [hc, take_first h1, eF, if_neg (show ¬ (6 : Int32) ≤ nI T from nI_ge (b := 6) hT6 (by decide)), bd_ok]
      rfl)
    have ec : ∀ z q s, Md p x z 84 (nI q) → q < 2 → f_X2_take z s = bd (bd (f_X2_takeOfCell z s F) (fun r26 w25 => gd (bb r26) (some (r26, w25)))) (fun r26 w25 => gd (bb r26) (some (r26, w25))) := fun z q s hz hq => by
      rw [take_T hz.2.2.1, takeOfTrap_c (T := T) (cl := cl) hp hz.2.1 hz.2.2.2 hq (by rw [hz.1.1 p (by omega)]; exact a3) a1 (fun t ht => by rw [hz.1.1 (p + 1) (by omega)]; exact ⟨(a9 t ht).1, (a9 t ht).2.2⟩) hF]
    have t0 : ∀ z b r z', Md p x z 84 0 → f_X2_takeOfCell z (nI b) F = some (r, z') → (r = 0 ∨ r = 1 ∧ z'.1 10 2 = 1) → f_X2_take z (nI b) = some (r, z') := fun z b r z' hz e hr => by
      have hb : bb r = true := bb_of (by rcases hr with q | ⟨q, -⟩; exact Or.inl q; exact Or.inr q)
      rw [ec z 0 _ hz (by decide), e, bd_ok, gd_true hb, bd_ok, gd_true hb]
    have t1' : ∀ z b r z', Md p x z 84 1 → f_X2_takeOfCell z (nI b) F = some (r, z') → (r = 0 ∨ r = 1) → f_X2_take z (nI b) = some (r, z') := fun z b r z' hz e hr => by
      rw [ec z 1 _ hz (by decide), e, bd_ok, gd_true (bb_of hr), bd_ok, gd_true (bb_of hr)]
    rcases CYN len tx (i + 1) F with ⟨u, v, hCY⟩ | ⟨f, hCN⟩
    · obtain ⟨x2, s2, d2, x3, e3, d3, o3⟩ := ccell_y d0 htx t0 hCY
      have hi2 : i + 2 < len := hCY.1
      have s3 : ∀ n, b_X2_read_19 p (n + 1) x2 (nI (i + 1 + 1)) = b_X2_read_19 p n x3 (nI (i + 1 + 1 + 1)) := rd_y (htx.fr d2.1) hi2 (t1' x2 _ 1 x3 d2 e3 (Or.inr rfl))
      have hc12 := hCY.2.2.2.2.2.1
      have hcb := ((hF _ (bt32 hCY.2.2.2.2.2.2)).mp hCY.2.2.2.2.2.2).2
      obtain ⟨c, hcc⟩ : ∃ c, c = 10 * u + v := ⟨_, rfl⟩
      rw [← hcc] at hc12 hcb o3
      rw [mcell_y hM ha3 hf3 ht3 hCY, bd_ok, nm_ok, ← hcc, hy3, up_up] at eP
      obtain ⟨w12, h12⟩ : ∃ w12, w12 = up (up y 105 17 (nI (i + 1 + 2))) 106 (4 * T) (nI c) := ⟨_, rfl⟩
      rw [← h12] at eP
      have ha12 : w12.1 105 17 = nI (i + 3) := by rw [h12, up_nc (by decide), up_eq]
      have hf12 : w12.1 105 18 = -9 := by rw [h12, up_nc (by decide), up_ns (by decide)]; exact hf
      have ht12 : TX w12 105 16 114 len tx := hty.cong (by rw [h12, up_nc (by decide), up_ns (by decide)]) (by rw [h12, up_nc (by decide), up_nc (by decide)])
      have o12 : Only SM y w12 := by rw [h12]; exact (Only.rf.up (Or.inr (Or.inr ⟨rfl, by omega⟩))).up (Or.inl rfl)
      by_cases hS : ∃ s, FY len tx (i + 3) 3 s
      · obtain ⟨s, hS⟩ := hS
        have hs2 : s < 2 := (b_3 s hS.2.2.1).mp hS.2.2.2
        rw [fig_y ha12 hf12 ht12 hS, bd_ok, lit_add' 1 (b := 1) rfl, lit_add' 2 (b := 2) rfl, lit_add' 3 (b := 3) rfl, gd_true (inb_nI (show 4 * T + 1 < 24 by omega) (by decide)), nI_clamp (by omega), nI_clamp (by omega), nI_clamp (by omega), nm_ok] at eP
        obtain ⟨w17, h17⟩ : ∃ w17, w17 = up (up w12 105 17 (nI (i + 3 + 1))) 106 (4 * T + 1) (nI s) := ⟨_, rfl⟩
        rw [← h17] at eP
        have ha17 : w17.1 105 17 = nI (i + 4) := by rw [h17, up_nc (by decide), up_eq]
        have hf17 : w17.1 105 18 = -9 := by rw [h17, up_nc (by decide), up_ns (by decide)]; exact hf12
        have ht17 : TX w17 105 16 114 len tx := ht12.cong (by rw [h17, up_nc (by decide), up_ns (by decide)]) (by rw [h17, up_nc (by decide), up_nc (by decide)])
        have o17 : Only SM y w17 := by rw [h17]; exact (o12.up (Or.inr (Or.inr ⟨rfl, by omega⟩))).up (Or.inl rfl)
        obtain ⟨x4, hx4⟩ : ∃ x4, x4 = up (up x3 10 4 (nI s)) 10 2 3 := ⟨_, rfl⟩
        have d4 : Md p x x4 84 3 := by
          rw [hx4]
          exact ⟨d3.1.up.up, by rw [up_ns (by decide), up_ns (by decide)]; exact d3.2.1, by rw [up_ns (by decide), up_ns (by decide)]; exact d3.2.2.1, up_eq⟩
        have o4 : x4.1 10 3 = nI c := by rw [hx4, up_ns (by decide), up_ns (by decide)]; exact o3
        have o4' : x4.1 10 4 = nI s := by rw [hx4, up_ns (by decide), up_eq]
        have s4 : ∀ n, b_X2_read_19 p (n + 1) x3 (nI (i + 3)) = b_X2_read_19 p n x4 (nI (i + 3 + 1)) := rd_y (htx.fr d3.1) hS.1 (by
          rw [take_T d3.2.2.1, hS.2.1]
          unfold f_X2_takeOfTrap b_X2_takeOfTrap_0
          rw [d3.2.2.2, if_pos (by decide), nm_ok, s48, if_pos rfl, nm_ok, up_ns (by decide), d3.2.2.2, show (2 : Int32) + 1 = 3 from rfl, nm_ok, ← hx4, isSide_yes hs2, bd_ok]
          rfl)
        by_cases hK : ∃ k, FY len tx (i + 4) 31 k
        · obtain ⟨k, hK⟩ := hK
          have hk5 : k < 5 := (b_31 k hK.2.2.1).mp hK.2.2.2
          rw [fig_y ha17 hf17 ht17 hK, bd_ok, gd_true (inb_nI (show 4 * T + 2 < 24 by omega) (by decide)), nm_ok, gd_true (inb_nI (show 4 * T + 3 < 24 by omega) (by decide)), nm_ok, nm_ok] at eP
          obtain ⟨w24, h24⟩ : ∃ w24, w24 = up (up (up w17 105 17 (nI (i + 4 + 1))) 106 (4 * T + 2) (nI k)) 106 (4 * T + 3) 0 := ⟨_, rfl⟩
          rw [← h24] at eP
          have g2 : w24.1 105 2 = nI T := by rw [h24, up_nc (by decide), up_nc (by decide), up_ns (by decide), h17, up_nc (by decide), up_ns (by decide), h12, up_nc (by decide), up_ns (by decide)]; exact a4
          rw [g2, nI_1] at eP
          obtain ⟨x5, e5, X, Xc, Xs, Xk, Xo, X2⟩ := addTrap_v (c := c) (s := s) (k := k) (x := x4) hp (by rw [d4.1.1 p (by omega)]; exact a3) hT6 hk5
          have s5 : ∀ n, b_X2_read_19 p (n + 1) x4 (nI (i + 4)) = b_X2_read_19 p n (up x5 10 1 1) (nI (i + 4 + 1)) := rd_y (htx.fr d4.1) hK.1 (by
            rw [take_T d4.2.2.1, hK.2.1]
            unfold f_X2_takeOfTrap b_X2_takeOfTrap_0
            rw [d4.2.2.2, if_pos (by decide), nm_ok, s48, if_neg (by decide), if_neg (nI_lt0 k (by omega)), if_pos (show nI k < (5 : Int32) from nI_lt (b := 5) hk5 (by decide)), d4.2.1, nI_clamp (by omega), gd_true (pl_ok hp), o4, o4', e5, bv_ok, nm_ok, bd_ok]
            rfl)
          have hp10 : ∀ a, p ≤ a → a ≤ p + 6 → a ≠ 10 := fun a _ _ => by omega
          have E : ∀ a, p ≤ a → a ≤ p + 6 → (up x5 10 1 1).1 a = x5.1 a := fun a q1 q2 => up_nc (hp10 a q1 q2)
          have E4 : ∀ a, p ≤ a → a ≤ p + 6 → x4.1 a = x.1 a := fun a q1 q2 => d4.1.1 a (hp10 a q1 q2)
          refine Or.inr ⟨5, T + 1, G, fun t => if t = T then c else cl t, fun t => if t = T then k else kd t, st, up x5 10 1 1, _, by decide, by decide, by have := hK.1; omega, fun n => ?_, eP, ?_, ?_, up_eq, ?_, ?_, ?_, ?_⟩
          · rw [show n + 5 = (n + 4) + 1 from rfl, s1, show n + 4 = (n + 3) + 1 from rfl, s2, show n + 3 = (n + 2) + 1 from rfl, s3, show n + 2 = (n + 1) + 1 from rfl]
            show b_X2_read_19 p (n + 1 + 1) x3 (nI (i + 3)) = _
            rw [s4]
            show b_X2_read_19 p (n + 1) x4 (nI (i + 4)) = _
            rw [s5]
          · refine RdR.addT (c := c) (s := s) (k := k) (fun t ht => if_neg (by omega)) (if_pos rfl) (fun t ht => if_neg (by omega)) (if_pos rfl) hR0 hT6 hc12 (fun t ht => hcb t ht) hs2 hk5 ?_ ?_ ?_ ?_ ?_ ?_ ?_ up_eq ?_ ?_ (fun j => ?_) ?_
            · rw [E p (by omega) (by omega), ← E4 p (by omega) (by omega)]; exact X
            · rw [E (p + 1) (by omega) (by omega), ← E4 (p + 1) (by omega) (by omega)]; exact Xc
            · rw [E (p + 2) (by omega) (by omega), ← E4 (p + 2) (by omega) (by omega)]; exact Xs
            · rw [E (p + 3) (by omega) (by omega), ← E4 (p + 3) (by omega) (by omega)]; exact Xk
            · rw [E (p + 4) (by omega) (by omega), Xo (p + 4) (by omega), E4 (p + 4) (by omega) (by omega)]
            · rw [E (p + 5) (by omega) (by omega), Xo (p + 5) (by omega), E4 (p + 5) (by omega) (by omega)]
            · rw [E (p + 6) (by omega) (by omega), Xo (p + 6) (by omega), E4 (p + 6) (by omega) (by omega)]
            · rw [up_ns (by decide), h24, up_nc (by decide), up_nc (by decide), up_ns (by decide), h17, up_nc (by decide), up_ns (by decide), h12, up_nc (by decide), up_ns (by decide)]
            · rw [up_ns (by decide), h24, up_nc (by decide), up_nc (by decide), up_ns (by decide), h17, up_nc (by decide), up_ns (by decide), h12, up_nc (by decide), up_ns (by decide)]
            · rw [up_nc (by decide), h24, up_get, up_get, up_nc (by decide), h17, up_get, up_nc (by decide), h12, up_get, up_nc (by decide)]
              simp only [true_and]
            · rw [up_nc (by decide), h24, up_nc (by decide), up_nc (by decide), up_nc (by decide), h17, up_nc (by decide), up_nc (by decide), h12, up_nc (by decide), up_nc (by decide)]
          · rw [up_ns (by decide), Xo 10 (by omega)]; exact d4.2.1
          · rw [up_ns (by decide), h24, up_nc (by decide), up_nc (by decide), up_eq]
          · rw [up_ns (by decide), h24, up_nc (by decide), up_nc (by decide), up_ns (by decide)]; exact hf17
          · refine ⟨fun a j q => ?_, by rw [up_2, X2]; exact d4.1.2⟩
            rw [up_nc (fun z => q (Or.inl z)), Xo a (fun z => q (Or.inr (by omega))), d4.1.1 a (fun z => q (Or.inl z))]
          · rw [h24]
            exact (((o17.up (Or.inr (Or.inr ⟨rfl, by omega⟩))).up (Or.inl rfl)).up (Or.inl rfl)).up (Or.inr (Or.inr ⟨rfl, by omega⟩))
        · have hn : i + 4 ≤ len := by have := hS.1; omega
          obtain ⟨x5, e5, f5⟩ := rd_no (p := p) (x0 := x) (i := i + 4) (htx.fr d4.1) hn (by rw [d4.2.2.1]; decide) d4.1 (fun q => by
            have hb := (htx.2.2 (i + 4) q).2
            refine ⟨x4, ?_, d4.1⟩
            rw [take_T d4.2.2.1]
            unfold f_X2_takeOfTrap b_X2_takeOfTrap_0
            rw [d4.2.2.2, if_pos (by decide), nm_ok, if_neg (by decide)]
            by_cases h48 : tx (i + 4) < 48
            · rw [if_pos (n48 h48), bd_ok]; rfl
            · obtain ⟨k, hk⟩ : ∃ k, tx (i + 4) = 48 + k := ⟨tx (i + 4) - 48, by omega⟩
              rw [hk, s48, if_neg (nI_lt0 k (by omega)), if_neg (show ¬ nI k < (5 : Int32) from nI_nlt (b := 5) (Nat.le_of_not_lt fun z => hK ⟨k, q, hk, by omega, (b_31 k (by omega)).mpr z⟩) (by omega)), bd_ok]
              rfl)
          rw [fig_n ha17 hf17 ht17 (by omega) hK, bd_ok, gd_true (inb_nI (show 4 * T + 2 < 24 by omega) (by decide)), nm_ok, gd_true (inb_nI (show 4 * T + 3 < 24 by omega) (by decide)), nm_ok, nm_ok] at eP
          refine Or.inl ⟨i + 4, x5, _, hn, fun n => ?_, eP, ?_, f5.ox, (((o17.up (Or.inr (Or.inr ⟨rfl, by omega⟩))).up (Or.inl rfl)).up (Or.inl rfl)).up (Or.inr (Or.inr ⟨rfl, by omega⟩))⟩
          · rw [show n + 6 = (n + 5) + 1 from rfl, s1, show n + 5 = (n + 4) + 1 from rfl, s2, show n + 4 = (n + 3) + 1 from rfl, s3, show n + 3 = (n + 2) + 1 from rfl]
            show b_X2_read_19 p (n + 2 + 1) x3 (nI (i + 3)) = _
            rw [s4]
            exact e5 (n + 1)
          · rw [up_ns (by decide), up_nc (by decide), up_nc (by decide), up_eq]
      · obtain ⟨x5, e5, f5⟩ := rd_no (p := p) (x0 := x) (i := i + 3) (htx.fr d3.1) (by omega) (by rw [d3.2.2.1]; decide) d3.1 (fun q => by
          have hb := (htx.2.2 (i + 3) q).2
          refine ⟨up (up x3 10 4 (nI (tx (i + 3)) - 48)) 10 2 3, ?_, d3.1.up.up⟩
          rw [take_T d3.2.2.1]
          unfold f_X2_takeOfTrap b_X2_takeOfTrap_0
          rw [d3.2.2.2, if_pos (by decide), nm_ok, if_pos rfl, nm_ok, up_ns (by decide), d3.2.2.2, show (2 : Int32) + 1 = 3 from rfl, nm_ok]
          have hno : nI (tx (i + 3)) - 48 < 0 ∨ (2 : Int32) ≤ nI (tx (i + 3)) - 48 := by
            by_cases h48 : tx (i + 3) < 48
            · exact Or.inl (n48 h48)
            · obtain ⟨k, hk⟩ : ∃ k, tx (i + 3) = 48 + k := ⟨tx (i + 3) - 48, by omega⟩
              rw [hk, s48]
              exact Or.inr (nI_le (a := 2) (Nat.le_of_not_lt fun z => hS ⟨k, q, hk, by omega, (b_3 k (by omega)).mpr z⟩) (by omega))
          rw [isSide_no hno, bd_ok]
          rfl)
        rw [fig_n ha12 hf12 ht12 (by omega) hS, bd_ok] at eP
        obtain ⟨y', ey, hy1, hy2⟩ := tailT2 (w := up w12 105 18 (nI (i + 3))) (r := 0) hT6 up_eq (by omega)
        rw [ey] at eP
        refine Or.inl ⟨i + 3, x5, y', by omega, fun n => ?_, eP, hy1, f5.ox, (o12.up (Or.inr (Or.inr ⟨rfl, by omega⟩))).tr hy2⟩
        rw [show n + 6 = (n + 5) + 1 from rfl, s1, show n + 5 = (n + 4) + 1 from rfl, s2, show n + 4 = (n + 3) + 1 from rfl, s3]
        exact e5 (n + 2)
    · obtain ⟨hfl, x', ex, fx⟩ := ccell_n d0 (by decide) htx (by omega) t0 (fun z b z' hz e => t1' z b 0 z' hz e (Or.inl rfl)) hCN
      obtain ⟨r, y4, ey, hy4, oy⟩ := mcell_n hM ha3 hf3 ht3 (by omega) hCN
      rw [ey, bd_ok, nm_ok, fig_f (f := f) (by rw [up_nc (by decide)]; exact hy4) (by omega), bd_ok] at eP
      obtain ⟨y', ey', hy1, hy2⟩ := tailT2 (w := up y4 106 (4 * T) r) (r := 0) (f := f) hT6 (by rw [up_nc (by decide)]; exact hy4) (by omega)
      rw [ey'] at eP
      refine Or.inl ⟨f, x', y', hfl, fun n => ?_, eP, hy1, fx.ox, ?_⟩
      · rw [show n + 6 = (n + 5) + 1 from rfl, s1]
        exact ex (n + 3)
      · rw [hy3] at oy
        exact (((Only.rf.up (Or.inr (Or.inr ⟨rfl, by omega⟩))).tr (S78.sm oy)).up (Or.inl rfl)).tr hy2
