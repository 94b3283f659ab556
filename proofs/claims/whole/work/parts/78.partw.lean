/-! ===== a part that tells a wire ===== -/
theorem RdR.wire {p T G v q : Nat} {x x' y y' : Wd} {cl kd st : Nat → Nat} (hR : RdR p x y T G cl kd st) (hv : v < T) (hq : q < T) (Xp : ∀ a, p ≤ a → a ≤ p + 6 → a ≠ p + 4 → x'.1 a = x.1 a) (X4 : ∀ t, x'.1 (p + 4) t = if t = v then x.1 (p + 4) v ||| ((1 : Int32) <<< (nI q &&& 31)) else x.1 (p + 4) t) (Y2 : y'.1 105 2 = y.1 105 2) (Y3 : y'.1 105 3 = y.1 105 3) (Y4 : y'.1 105 4 = y.1 105 4) (Y6 : ∀ j, y'.1 106 j = if j = 4 * v + 3 then y.1 106 (4 * v + 3) ||| ((1 : Int32) <<< (nI q &&& 31)) else y.1 106 j) (Y7 : y'.1 107 = y.1 107) : RdR p x' y' T G cl kd st := by
  obtain ⟨a1, a2, a3, a4, a5, a6, a7, a8, a9, b1, b2, b3, b4, b5, b6, b7, b8, b9, d1⟩ := hR
  have eo : ∀ t j, j < 3 → y'.1 106 (4 * t + j) = y.1 106 (4 * t + j) := fun t j hj => by rw [Y6, if_neg (by omega)]
  unfold RdR
  rw [Y2, Y3, Y4, Y7, Xp p (by omega) (by omega) (by omega), Xp (p + 1) (by omega) (by omega) (by omega), Xp (p + 2) (by omega) (by omega) (by omega), Xp (p + 3) (by omega) (by omega) (by omega), Xp (p + 5) (by omega) (by omega) (by omega), Xp (p + 6) (by omega) (by omega) (by omega)]
  refine ⟨a1, a2, a3, a4, a5, a6, a7, a8, fun t ht => ?_, b1, fun t ht => ?_, fun t ht => ?_, fun t ht => ?_, fun t h1 h2 => ?_, b6, b7, b8, b9, d1⟩
  · rw [show y'.1 106 (4 * t) = y.1 106 (4 * t) from eo t 0 (by omega)]
    exact a9 t ht
  · rw [eo t 1 (by omega)]
    exact b2 t ht
  · rw [eo t 2 (by omega)]
    exact b3 t ht
  · by_cases c : t = v
    · subst c
      rw [X4, if_pos rfl, Y6, if_pos rfl, (b4 t ht).1]
      refine ⟨rfl, fun i hi => ?_⟩
      rw [b_or, Bool.or_eq_true, one_t (by omega), decide_eq_true_iff] at hi
      rcases hi with z | z
      · exact (b4 t ht).2 i (by rw [(b4 t ht).1]; exact z)
      · omega
    · rw [X4, if_neg c, Y6, if_neg (by omega)]
      exact b4 t ht
  · rw [X4, if_neg (by omega)]
    exact b5 t h1 h2
theorem part_W {p i len T G : Nat} {x y : Wd} {tx cl kd st : Nat → Nat} (h : PH p x y i len tx T G cl kd st) (hc : tx i = 87) : PO p x y i len (nI 87) := by
  obtain ⟨hp, hR, htx, hty, h0, h1, ha, hf, hi⟩ := h
  have h64 := htx.1
  have hR0 := hR
  obtain ⟨a1, a2, a3, a4, a5, a6, a7, a8, a9, b1, b2, b3, b4, b5, b6, b7, b8, b9, d1⟩ := hR
  have d0 := Md.first (a := 87) h0
  obtain ⟨x1, hx1⟩ : ∃ x1, x1 = up (up x 10 1 87) 10 2 0 := ⟨_, rfl⟩
  rw [← hx1] at d0
  obtain ⟨B, eB, hB⟩ := begins_v (y := y) a4 a1
  have hx4 : ∀ z q, Md p x z 87 q → z.1 p 0 = nI T ∧ z.1 (p + 4) = x.1 (p + 4) := fun z q hz => ⟨by rw [hz.1.1 p (by omega)]; exact a3, hz.1.1 (p + 4) (by omega)⟩
  have eF : f_X2_takeFirst x (nI 87) = if B = 0 then some (0, x1) else some (1, x1) := by
    unfold f_X2_takeFirst b_X2_takeFirst_0
    rw [nm_ok, nm_ok, if_neg (by decide), if_neg (by decide), if_pos (by decide), show nI 87 = (87 : Int32) from rfl, ← hx1, wired_v hp d0.2.1 (hx4 x1 _ d0).1 a1, bd_ok, gd_true bb_01, (hx4 x1 _ d0).2]
    by_cases hB0 : B = 0
    · rw [if_pos hB0, if_neg]
      rintro ⟨j, hj, hq⟩
      rw [(b4 j hj).1] at hq
      have := (hB j).mpr ⟨hj, hq⟩
      rw [hB0, b_0] at this
      cases this
    · rw [if_neg hB0, if_pos]
      refine Decidable.byContradiction fun hn => hB0 (b_ext fun j hj => ?_)
      rw [b_0]
      refine Bool.eq_false_iff.mpr fun z => hn ?_
      obtain ⟨z1, z2⟩ := (hB j).mp z
      exact ⟨j, z1, by rw [(b4 j z1).1]; exact z2⟩
  have e0 : f_X8_readPart y (nI 87) = b_X8_readPart_95 y (nI 87) := by
    unfold f_X8_readPart b_X8_readPart_0
    rw [if_neg (by decide)]
  by_cases hB0 : B = 0
  · refine PO.no (tx := tx) (x' := x1) htx hi ?_ d0.1 ?_
    · rw [hc, take_first h1, eF, if_pos hB0, bd_ok]
      rfl
    · rw [e0]
      unfold b_X8_readPart_95 b_X8_readPart_169 b_X8_readPart_229
      rw [if_pos (by decide), eB, bd_ok, if_pos hB0, if_neg (by decide), if_neg (by decide)]
      exact part_fail ha hf
  obtain ⟨y3, hy3⟩ : ∃ y3, y3 = up y 105 17 (nI (i + 1)) := ⟨_, rfl⟩
  have ha3 : y3.1 105 17 = nI (i + 1) := by rw [hy3, up_eq]
  have hf3 : y3.1 105 18 = -9 := by rw [hy3, up_ns (by decide)]; exact hf
  have hT3 : y3.1 105 2 = nI T := by rw [hy3, up_ns (by decide)]; exact a4
  have h63 : y3.1 106 = y.1 106 := by rw [hy3, up_nc (by decide)]
  have ht3 : TX y3 105 16 114 len tx := hty.cong (by rw [hy3, up_ns (by decide)]) (by rw [hy3, up_nc (by decide)])
  have eB3 : f_X8_begins y3 = some (B, y3) := by
    obtain ⟨B3, e3, h3⟩ := begins_v (y := y3) hT3 a1
    have : B3 = B := b_iff (fun i hi => by rw [h3 i, hB i, h63])
    rw [e3, this]
  have o3 : Only SM y y3 := by rw [hy3]; exact Only.rf.up (Or.inr (Or.inr ⟨rfl, by omega⟩))
  have eP : f_X8_readPart y (nI 87) = bd (f_X8_figure y3 B) (fun r12 w11 => bd (f_X8_openWires w11 r12) (fun r15 w14 => bd (f_X8_figure w14 r15) (fun r18 w17 => gd (inb ((((4 : Int32)) * r12) + ((3 : Int32))) 24) (if (w17.1 105 18) = ((-9 : Int32)) then (b_X8_readPart_164 w17 (((1 : Int32)) <<< (r18 &&& 31)) (w17.1 106 ((((4 : Int32)) * r12) + ((3 : Int32))).toNatClampNeg) ((((4 : Int32)) * r12) + ((3 : Int32)))) else (b_X8_readPart_164 w17 ((0 : Int32)) (w17.1 106 ((((4 : Int32)) * r12) + ((3 : Int32))).toNatClampNeg) ((((4 : Int32)) * r12) + ((3 : Int32)))))))) := by
    rw [e0]
    unfold b_X8_readPart_95
    rw [if_pos (by decide), eB, bd_ok, if_neg hB0, ha, nI_1, ← hy3, nm_ok, eB3, bd_ok]
  have s1 : ∀ n, b_X2_read_19 p (n + 1) x (nI i) = b_X2_read_19 p n x1 (nI (i + 1)) := rd_y htx hi (by
    rw [hc, take_first h1, eF, if_neg hB0, bd_ok]
    rfl)
  -- the class's first figure
  have eW : ∀ s, f_X2_take x1 s = bd (bd (f_X2_wiresLeft (up (up x1 10 3 (s - 48)) 10 2 1) (s - 48)) (fun r26 w25 => if r26 = 0 then (some ((0 : Int32), w25)) else (some ((1 : Int32), w25)))) (fun r26 w25 => gd (bb r26) (some (r26, w25))) := fun s => by
    rw [take_W d0.2.2.1]
    unfold f_X2_takeOfWire b_X2_takeOfWire_0
    rw [nm_ok, if_pos d0.2.2.2, nm_ok, up_ns (by decide), d0.2.2.2, show (0 : Int32) + 1 = 1 from rfl, nm_ok]
  have d1' : ∀ s, Md p x (up (up x1 10 3 s) 10 2 1) 87 1 := fun s => ⟨d0.1.up.up, by rw [up_ns (by decide), up_ns (by decide)]; exact d0.2.1, by rw [up_ns (by decide), up_ns (by decide)]; exact d0.2.2.1, up_eq⟩
  by_cases hV : ∃ v, FY len tx (i + 1) B v
  · obtain ⟨v, hV⟩ := hV
    obtain ⟨hvT, hvO⟩ := (hB v).mp hV.2.2.2
    obtain ⟨x2, hx2⟩ : ∃ x2, x2 = up (up x1 10 3 (nI v)) 10 2 1 := ⟨_, rfl⟩
    have d2 : Md p x x2 87 1 := by rw [hx2]; exact d1' _
    have on2 : x2.1 10 3 = nI v := by rw [hx2, up_ns (by decide), up_eq]
    have wl : f_X2_wiresLeft x2 (nI v) = some (OW T v (y.1 106 (4 * v + 3)), x2) := by
      rw [wleft_y hp d2.2.1 (hx4 x2 _ d2).1 a1 hvT, (hx4 x2 _ d2).2, (b4 v hvT).1]
    have s2 : ∀ n, b_X2_read_19 p (n + 1) x1 (nI (i + 1)) = b_X2_read_19 p n x2 (nI (i + 1 + 1)) := rd_y (htx.fr d0.1) hV.1 (by
      rw [eW, hV.2.1, s48, ← hx2, wl, bd_ok, if_neg hvO, bd_ok]
      rfl)
    have ip : inb (nI (4 * v + 3)) 24 = true := inb_nI (show 4 * v + 3 < 24 by omega) (by decide)
    rw [fig_y ha3 hf3 ht3 hV, bd_ok] at eP
    obtain ⟨w11, h11⟩ : ∃ w11, w11 = up y3 105 17 (nI (i + 1 + 1)) := ⟨_, rfl⟩
    rw [← h11] at eP
    have ha11 : w11.1 105 17 = nI (i + 2) := by rw [h11, up_eq]
    have hf11 : w11.1 105 18 = -9 := by rw [h11, up_ns (by decide)]; exact hf3
    have hT11 : w11.1 105 2 = nI T := by rw [h11, up_ns (by decide)]; exact hT3
    have h611 : w11.1 106 = y.1 106 := by rw [h11, up_nc (by decide)]; exact h63
    have ht11 : TX w11 105 16 114 len tx := ht3.cong (by rw [h11, up_ns (by decide)]) (by rw [h11, up_nc (by decide)])
    have o11 : Only SM y w11 := by rw [h11]; exact o3.up (Or.inr (Or.inr ⟨rfl, by omega⟩))
    rw [open_v hT11 (by omega), bd_ok, h611] at eP
    simp only [m4, lit_add' 3 (b := 3) rfl, gd_true ip, nI_clamp (show 4 * v + 3 < 2 ^ 31 by omega)] at eP
    -- the class's second figure
    have eW2 : ∀ s, f_X2_take x2 s = bd (bd (f_X1_hasTrap p x2 (s - 48)) (fun r11 w10 => if r11 = 0 then (some ((0 : Int32), w10)) else (bd (f_X2_wiresLeft w10 (w10.1 10 3)) (fun r15 w14 => if ((r15 >>> ((s - 48) &&& 31)) &&& ((1 : Int32))) = 0 then (some ((0 : Int32), w14)) else (gd (plb (w14.1 10 0).toNatClampNeg) (gd (inb (w14.1 10 3) 6) (gd (inb (w14.1 10 3) 6) (nm (up w14 ((w14.1 10 0).toNatClampNeg + 4) (w14.1 10 3).toNatClampNeg ((w14.1 ((w14.1 10 0).toNatClampNeg + 4) (w14.1 10 3).toNatClampNeg) ||| (((1 : Int32)) <<< ((s - 48) &&& 31)))) (fun w20 => nm (up w20 10 1 ((1 : Int32))) (fun w21 => some ((1 : Int32), w21)))))))))) ) (fun r26 w25 => gd (bb r26) (some (r26, w25))) := fun s => by
      rw [take_W d2.2.2.1]
      unfold f_X2_takeOfWire b_X2_takeOfWire_0
      rw [nm_ok, if_neg (by rw [d2.2.2.2]; decide), d2.2.1, nI_clamp (by omega), gd_true (pl_ok hp), on2, hasTrap_yes (hx4 x2 _ d2).1 a1 hvT, bd_ok, if_neg (by decide), d2.2.1, nI_clamp (by omega), gd_true (pl_ok hp)]
    by_cases hQ : ∃ q, FY len tx (i + 2) (OW T v (y.1 106 (4 * v + 3))) q
    · obtain ⟨q, hQ⟩ := hQ
      have hqT : q < T := OW_b a1 hQ.2.2.2
      obtain ⟨x3, hx3⟩ : ∃ x3, x3 = up (up x2 (p + 4) v (x2.1 (p + 4) v ||| ((1 : Int32) <<< (nI q &&& 31)))) 10 1 1 := ⟨_, rfl⟩
      have s3 : ∀ n, b_X2_read_19 p (n + 1) x2 (nI (i + 2)) = b_X2_read_19 p n x3 (nI (i + 2 + 1)) := rd_y (htx.fr d2.1) hQ.1 (by
        rw [eW2, hQ.2.1, s48, hasTrap_yes (hx4 x2 _ d2).1 a1 hqT, bd_ok, if_neg (by decide), on2, wl, bd_ok, if_neg (fun z => by rw [tb0 _ (by omega), hQ.2.2.2] at z; cases z), d2.2.1, nI_clamp (by omega), gd_true (pl_ok hp), on2, gd_true (inb_nI (show v < 6 by omega) (by decide)), gd_true (inb_nI (show v < 6 by omega) (by decide)), nI_clamp (by omega), nm_ok, nm_ok, ← hx3, bd_ok]
        rfl)
      rw [fig_y ha11 hf11 ht11 hQ, bd_ok, if_pos (by rw [up_ns (by decide)]; exact hf11)] at eP
      unfold b_X8_readPart_164 at eP
      rw [gd_true ip, nI_clamp (show 4 * v + 3 < 2 ^ 31 by omega), nm_ok, up_nc (by decide), h611] at eP
      refine Or.inr ⟨3, T, G, cl, kd, st, x3, _, by decide, by decide, by have := hQ.1; omega, fun n => ?_, eP, ?_, ?_, by rw [hx3, up_eq], ?_, ?_, ?_, ?_⟩
      · rw [show n + 3 = (n + 2) + 1 from rfl, s1, show n + 2 = (n + 1) + 1 from rfl, s2]
        show b_X2_read_19 p (n + 1) x2 (nI (i + 2)) = _
        rw [s3]
      · refine hR0.wire (v := v) (q := q) hvT hqT (fun a q1 q2 q3 => ?_) (fun t => ?_) ?_ ?_ ?_ (fun j => ?_) ?_
        · rw [hx3, up_nc (by omega), up_nc q3]
          exact d2.1.1 a (by omega)
        · rw [hx3, up_nc (by omega), up_get, (hx4 x2 _ d2).2]
          simp only [true_and]
        · rw [up_nc (by decide), up_ns (by decide), h11, up_ns (by decide), hy3, up_ns (by decide)]
        · rw [up_nc (by decide), up_ns (by decide), h11, up_ns (by decide), hy3, up_ns (by decide)]
        · rw [up_nc (by decide), up_ns (by decide), h11, up_ns (by decide), hy3, up_ns (by decide)]
        · rw [up_get, up_nc (by decide), h611]
          simp only [true_and]
        · rw [up_nc (by decide), up_nc (by decide), h11, up_nc (by decide), hy3, up_nc (by decide)]
      · rw [hx3, up_ns (by decide), up_nc (by omega)]; exact d2.2.1
      · rw [up_nc (by decide), up_eq]
      · rw [up_nc (by decide), up_ns (by decide)]; exact hf11
      · refine ⟨fun a j z => ?_, by rw [hx3]; exact d2.1.2⟩
        rw [hx3, up_nc (fun e => z (Or.inl e)), up_nc (fun e => z (Or.inr (by omega))), d2.1.1 a (fun e => z (Or.inl e))]
      · exact (o11.up (Or.inr (Or.inr ⟨rfl, by omega⟩))).up (Or.inl rfl)
    · have hn : i + 2 ≤ len := by have := hV.1; omega
      obtain ⟨x5, e5, f5⟩ := rd_no (p := p) (x0 := x) (i := i + 2) (htx.fr d2.1) hn (by rw [d2.2.2.1]; decide) d2.1 (fun z => by
        have hb := (htx.2.2 (i + 2) z).2
        refine ⟨x2, ?_, d2.1⟩
        rw [eW2]
        by_cases h48 : tx (i + 2) < 48
        · rw [hasTrap_no (hx4 x2 _ d2).1 (Or.inl (n48 h48)), bd_ok, if_pos rfl]; rfl
        · obtain ⟨k, hk⟩ : ∃ k, tx (i + 2) = 48 + k := ⟨tx (i + 2) - 48, by omega⟩
          rw [hk, s48]
          by_cases hkT : k < T
          · rw [hasTrap_yes (hx4 x2 _ d2).1 a1 hkT, bd_ok, if_neg (by decide), on2, wl, bd_ok, if_pos ((tb0 _ (by omega)).mpr (Bool.eq_false_iff.mpr fun e => hQ ⟨k, z, hk, by omega, e⟩))]; rfl
          · rw [hasTrap_no (hx4 x2 _ d2).1 (Or.inr (nI_le (by omega) (by omega))), bd_ok, if_pos rfl]; rfl)
      rw [fig_n ha11 hf11 ht11 (by omega) hQ, bd_ok, if_neg (by rw [up_eq]; exact nI_ne9 (by omega))] at eP
      unfold b_X8_readPart_164 at eP
      rw [gd_true ip, nI_clamp (show 4 * v + 3 < 2 ^ 31 by omega), nm_ok] at eP
      refine Or.inl ⟨i + 2, x5, _, hn, fun n => ?_, eP, ?_, f5.ox, (o11.up (Or.inr (Or.inr ⟨rfl, by omega⟩))).up (Or.inl rfl)⟩
      · rw [show n + 6 = (n + 5) + 1 from rfl, s1, show n + 5 = (n + 4) + 1 from rfl, s2]
        exact e5 (n + 3)
      · rw [up_nc (by decide), up_eq]
  · obtain ⟨x5, e5, f5⟩ := rd_no (p := p) (x0 := x) (i := i + 1) (htx.fr d0.1) (by omega) (by rw [d0.2.2.1]; decide) d0.1 (fun z => by
      have hb := (htx.2.2 (i + 1) z).2
      refine ⟨up (up x1 10 3 (nI (tx (i + 1)) - 48)) 10 2 1, ?_, d0.1.up.up⟩
      rw [eW]
      have d := d1' (nI (tx (i + 1)) - 48)
      by_cases h48 : tx (i + 1) < 48
      · rw [wleft_n hp d.2.1 (hx4 _ _ d).1 (Or.inl (n48 h48)), bd_ok, if_pos rfl]; rfl
      · obtain ⟨k, hk⟩ : ∃ k, tx (i + 1) = 48 + k := ⟨tx (i + 1) - 48, by omega⟩
        rw [hk, s48] at d
        rw [hk, s48]
        by_cases hkT : k < T
        · rw [wleft_y hp d.2.1 (hx4 _ _ d).1 a1 hkT, bd_ok, (hx4 _ _ d).2, (b4 k hkT).1, if_pos (Decidable.byContradiction fun e => hV ⟨k, z, hk, by omega, (hB k).mpr ⟨hkT, e⟩⟩)]; rfl
        · rw [wleft_n hp d.2.1 (hx4 _ _ d).1 (Or.inr (nI_le (by omega) (by omega))), bd_ok, if_pos rfl]; rfl)
    rw [fig_n ha3 hf3 ht3 (by omega) hV, bd_ok] at eP
    obtain ⟨w11, h11⟩ : ∃ w11, w11 = up y3 105 18 (nI (i + 1)) := ⟨_, rfl⟩
    rw [← h11] at eP
    have hf11 : w11.1 105 18 = nI (i + 1) := by rw [h11, up_eq]
    have hT11 : w11.1 105 2 = nI T := by rw [h11, up_ns (by decide)]; exact hT3
    have eo : f_X8_openWires w11 0 = some (OW T 0 (w11.1 106 3), w11) := open_v (v := 0) hT11 (by decide)
    rw [eo, bd_ok, fig_f hf11 (by omega), bd_ok, if_neg (by rw [hf11]; exact nI_ne9 (by omega)), show (4 : Int32) * 0 + 3 = nI 3 from rfl, gd_true (inb_nI (by decide) (by decide)), nI_clamp (by decide)] at eP
    unfold b_X8_readPart_164 at eP
    rw [gd_true (inb_nI (by decide) (by decide)), nI_clamp (by decide), nm_ok] at eP
    refine Or.inl ⟨i + 1, x5, _, by omega, fun n => ?_, eP, ?_, f5.ox, ?_⟩
    · rw [show n + 6 = (n + 5) + 1 from rfl, s1]
      exact e5 (n + 4)
    · rw [up_nc (by decide)]; exact hf11
    · rw [h11]
      exact (o3.up (Or.inr (Or.inr ⟨rfl, by omega⟩))).up (Or.inl rfl)
