/-- an act on both sides, in one -/
theorem act_both {w : Wd} {T W : Nat} {cl kd : Nat → Nat} (hi : InvT w T W cl kd) : ∃ w1, f_X0_remember 18 w = some w1 ∧ (∀ k j, ¬ (26 ≤ k ∧ k ≤ 91) → w1.1 k j = w.1 k j) ∧ w1.2 = w.2 ∧ ∀ x2, Only (fun k _ => 18 ≤ k ∧ k ≤ 21) w1 x2 → ∃ y1, f_X8_keepAct x2 = some y1 ∧ (∀ k j, k ≠ 115 → ¬ (k = 105 ∧ (j = 19 ∨ j = 20)) → y1.1 k j = x2.1 k j) ∧ y1.2 = x2.2 ∧ ∀ w2, Only (fun k _ => k = 113) y1 w2 → NowR w2 T W → Inv w2 := by
  have hi0 := hi
  obtain ⟨a1, a2, a3, ⟨A, Q, N, hA, hQ, hN, p1, p2, p3, p4, hall⟩, a5, a6⟩ := hi
  have hlt : (Q + A) % 16 < 16 := Nat.mod_lt _ (by decide)
  obtain ⟨w1, e, o1, hcp, q1, q2⟩ := remember_v (w := w) hA hQ p3 p1 a3.2.2.2
  refine ⟨w1, e, fun k j h => o1.1 k j (by omega), o1.2, fun x2 ox => ?_⟩
  have fm : ∀ k j, 92 ≤ k → x2.1 k j = w.1 k j := fun k j hk => by rw [ox.1 k j (by omega), o1.1 k j (by omega)]
  obtain ⟨y1, ey, oy, y2, y3, y4⟩ := keepAct_v (w := x2) hA hN (by rw [fm 105 20 (by omega)]; exact p4) (by rw [fm 105 19 (by omega)]; exact p2)
  refine ⟨y1, ey, fun k j h1 h2 => oy.1 k j (by omega), oy.2, fun w2 ow hnow => ?_⟩
  have om : Only (fun k j => (k = 115 ∧ 12 * N ≤ j ∧ j < 12 * N + 12) ∨ (k = 105 ∧ (j = 19 ∨ j = 20)) ∨ k = 113) x2 w2 := (oy.wd (fun k j z => by omega)).tr (ow.wd (fun k j z => Or.inr (Or.inr z)))
  exact act_frame hi0 hA hQ hN hall o1 hcp q1 q2 ox om (fun k hk => by rw [ow.1 115 _ (by omega), y2 k hk, fm 113 k (by omega)]) (by rw [ow.1 105 20 (by omega)]; exact y3) (by rw [ow.1 105 19 (by omega)]; exact y4) hnow
theorem NowR.of {w : Wd} {T W : Nat} (a v k0 k1 fr : Int32) (at9 by9 : Nat → Int32) (x1 : w.1 18 1 = a) (x2 : w.1 18 2 = v) (x3 : w.1 18 3 = fr) (x4 : w.1 19 0 = k0) (x5 : w.1 19 1 = k1) (x6 : ∀ g, g < W → w.1 20 g = at9 g) (x7 : ∀ g, g < W → w.1 21 g = by9 g) (m1 : w.1 113 0 = a) (m2 : w.1 113 1 = v) (m3 : w.1 113 2 = k0) (m4 : w.1 113 3 = k1) (m5 : ∀ g, g < W → w.1 113 (4 + g) = at9 g) (m6 : ∀ g, g < W → w.1 113 (8 + g) = by9 g) (m7 : w.1 105 13 = fr) (hf : fr = 0 ∨ fr = 1)
    (c1 : ∀ i, bt a i = true → i < T) (c2 : ∀ i, bt v i = true → i < T) (c3 : ∀ i, bt k0 i = true → i < T) (c4 : ∀ i, bt k1 i = true → i < T) (c5 : ∀ g, g < W → ∃ c, c < 12 ∧ at9 g = nI c) (c6 : ∀ g, g < W → by9 g = -9 ∨ ∃ t, t < T ∧ by9 g = nI t) : NowR w T W := by
  refine ⟨⟨?_, ?_, ?_, ?_, ?_, ?_, ?_⟩, ⟨?_, ?_, ?_, ?_, ?_⟩, ?_, ?_⟩
  · rw [x1]; exact c1
  · rw [x2]; exact c2
  · rw [show w.1 (18 + 1) 0 = k0 from x4]; exact c3
  · rw [show w.1 (18 + 1) 1 = k1 from x5]; exact c4
  · intro g hg; rw [show w.1 (18 + 2) g = at9 g from x6 g hg]; exact c5 g hg
  · intro g hg; rw [show w.1 (18 + 3) g = by9 g from x7 g hg]; exact c6 g hg
  · rw [x3]; exact hf
  · rw [x1, m1]
  · rw [x2, m2]
  · rw [show w.1 (18 + 1) 0 = k0 from x4, m3]
  · rw [show w.1 (18 + 1) 1 = k1 from x5, m4]
  · intro g hg
    rw [show w.1 (18 + 2) g = at9 g from x6 g hg, show w.1 (18 + 3) g = by9 g from x7 g hg, Nat.zero_add, Nat.zero_add, m5 g hg, m6 g hg]
    exact ⟨rfl, rfl⟩
  · rw [x3, m7]
  · rw [x3]; exact hf
theorem s_free (v : Int32) : Step (fun w => f_X7_free w v) (fun w => f_X8_free w v) := by
  intro w hw
  obtain ⟨T, W, cl, kd, hi⟩ := hw
  obtain ⟨w1, e, f1, f2, hact⟩ := act_both hi
  have hi0 := hi
  obtain ⟨⟨hT, hW, x0, m0, x1, m1, hs, hs2, hc, hci, hsd, hkd, hwi, hwz, hsh, hsn, hne, hg⟩, -, ⟨⟨b1, b2, b3, b4, b5, b6, b7⟩, ⟨n1, n2, n3, n4, n5⟩, n6, n7⟩, -, -⟩ := hi
  show ∃ r w1 w2, f_X7_free w v = _ ∧ f_X8_free w1 v = _ ∧ _
  rcases ix v (n := W) (by omega) with h | ⟨g, hgW, rfl⟩
  · refine ⟨-1, w, w, ?_, ?_, T, W, cl, kd, hi0⟩
    · unfold f_X7_free b_X7_free_0
      rw [hasWalker_no x1 h]; rfl
    · unfold f_X8_free b_X8_free_0
      rw [mIsWalker_no m1 hW h]; rfl
  · have e8 : w.1 21 g = w.1 113 (8 + g) := by have := (n5 g hgW).2; rw [Nat.zero_add] at this; exact this
    by_cases hb : w.1 21 g = -9
    · refine ⟨-3, w, w, ?_, ?_, T, W, cl, kd, hi0⟩
      · unfold f_X7_free b_X7_free_0
        rw [hasWalker_yes x1 hW hgW, bd_ok, if_neg (show ¬ (1 : Int32) = 0 by decide), isFree_yes x1 hW hgW, bd_ok, if_pos (show w.1 (18 + 3) g = -9 from hb), if_neg (show ¬ (1 : Int32) = 0 by decide)]
      · unfold f_X8_free b_X8_free_0
        rw [mIsWalker_yes m1 hW hgW, bd_ok, if_neg (show ¬ (1 : Int32) = 0 by decide), lit_add 8 (b := 8) rfl, gd_true (inb_nI (show 8 + g < 72 by omega) (by decide)), nI_clamp (by omega), ← e8, if_pos hb]
    · obtain ⟨x2, hx2⟩ : ∃ z, z = up w1 21 g (-9) := ⟨_, rfl⟩
      have ox : Only (fun k _ => 18 ≤ k ∧ k ≤ 21) w1 x2 := by rw [hx2]; exact Only.rf.up ⟨by decide, by decide⟩
      obtain ⟨y1, ey, g1, g2, hfin⟩ := hact x2 ox
      have fx : ∀ k j, k ≠ 21 → ¬ (26 ≤ k ∧ k ≤ 91) → x2.1 k j = w.1 k j := fun k j h1 h2 => by rw [hx2, up_nc h1, f1 k j h2]
      have fy : ∀ j, y1.1 113 j = w.1 113 j := fun j => by rw [g1 113 j (by decide) (by omega), fx 113 j (by decide) (by omega)]
      have ow : Only (fun k _ => k = 113) y1 (up y1 113 (8 + g) (-9)) := Only.rf.up rfl
      refine ⟨w.1 21 g, x2, up y1 113 (8 + g) (-9), ?_, ?_, hfin _ ow ?_⟩
      · unfold f_X7_free b_X7_free_0
        rw [hasWalker_yes x1 hW hgW, bd_ok, if_neg (show ¬ (1 : Int32) = 0 by decide), isFree_yes x1 hW hgW, bd_ok, if_neg (show ¬ w.1 (18 + 3) g = -9 from hb), if_pos rfl, e, bv_ok]
        simp only [nm_ok, gd_true (inb_nI (show g < 4 by omega) (by decide)), nI_clamp (show g < 2 ^ 31 by omega)]
        rw [f1 21 g (by omega), hx2]
      · unfold f_X8_free b_X8_free_0
        rw [mIsWalker_yes (by rw [fx 105 11 (by decide) (by omega)]; exact m1) hW hgW, bd_ok, if_neg (show ¬ (1 : Int32) = 0 by decide), lit_add 8 (b := 8) rfl]
        simp only [gd_true (inb_nI (show 8 + g < 72 by omega) (by decide)), nI_clamp (show 8 + g < 2 ^ 31 by omega)]
        rw [fx 113 (8 + g) (by decide) (by omega), if_neg (by rw [← e8]; exact hb), ey, bv_ok]
        simp only [nm_ok]
        rw [fy, e8]
      · have gk : ∀ k j, k ≠ 113 → k ≠ 115 → ¬ (k = 105 ∧ (j = 19 ∨ j = 20)) → (up y1 113 (8 + g) (-9)).1 k j = x2.1 k j := fun k j h1 h2 h3 => by rw [up_nc h1, g1 k j h2 h3]
        refine NowR.of (w.1 18 1) (w.1 18 2) (w.1 19 0) (w.1 19 1) (w.1 18 3) (fun i => w.1 20 i) (fun i => if i = g then -9 else w.1 21 i) ?_ ?_ ?_ ?_ ?_ ?_ ?_ ?_ ?_ ?_ ?_ ?_ ?_ ?_ n7 b1 b2 b3 b4 b5 ?_
        · rw [gk 18 1 (by decide) (by decide) (by omega), fx 18 1 (by decide) (by omega)]
        · rw [gk 18 2 (by decide) (by decide) (by omega), fx 18 2 (by decide) (by omega)]
        · rw [gk 18 3 (by decide) (by decide) (by omega), fx 18 3 (by decide) (by omega)]
        · rw [gk 19 0 (by decide) (by decide) (by omega), fx 19 0 (by decide) (by omega)]
        · rw [gk 19 1 (by decide) (by decide) (by omega), fx 19 1 (by decide) (by omega)]
        · intro i _; rw [gk 20 i (by decide) (by decide) (by omega), fx 20 i (by decide) (by omega)]
        · intro i _; rw [gk 21 i (by decide) (by decide) (by omega), hx2, up_get, f1 21 i (by omega)]
          by_cases h : i = g
          · rw [if_pos ⟨rfl, h⟩, if_pos h]
          · rw [if_neg (fun z => h z.2), if_neg h]
        · rw [up_ns (by omega), fy]; exact n1.symm
        · rw [up_ns (by omega), fy]; exact n2.symm
        · rw [up_ns (by omega), fy]; exact n3.symm
        · rw [up_ns (by omega), fy]; exact n4.symm
        · intro i hi; rw [up_ns (by omega), fy]; have := (n5 i hi).1; rw [Nat.zero_add] at this; exact this.symm
        · intro i hi; rw [up_get, fy]; have := (n5 i hi).2; rw [Nat.zero_add] at this
          by_cases h : i = g
          · rw [if_pos ⟨rfl, by omega⟩, if_pos h]
          · rw [if_neg (by omega), if_neg h]; exact this.symm
        · rw [up_nc (by decide), g1 105 13 (by decide) (by omega), fx 105 13 (by decide) (by omega)]; exact n6.symm
        · intro i hi
          show (if i = g then (-9 : Int32) else w.1 21 i) = -9 ∨ ∃ t, t < T ∧ (if i = g then (-9 : Int32) else w.1 21 i) = nI t
          by_cases h : i = g
          · rw [if_pos h]; exact Or.inl rfl
          · rw [if_neg h]; exact b6 i hi
/-- what a look from a cell finds -/
theorem unknownFrom_v {w : Wd} {T : Nat} {cl : Nat → Nat} {s c : Nat} (x0 : w.1 11 0 = nI T) (hT : T ≤ 6) (hc : ∀ t, t < T → w.1 12 t = nI (cl t) ∧ cl t < 12) (hs : s < 2) (hcc : c < 12) : f_X7_unknownFrom w (nI s) (nI c) = some (mk (fun t => bt (aro c) (cl t) || decide (cl t = c)) T &&& (w.1 19 s ^^^ (-1)), w) := by
  unfold f_X7_unknownFrom b_X7_unknownFrom_0
  rw [isSide_yes hs, bd_ok, if_neg (show ¬ (1 : Int32) = 0 by decide), isCell_yes hcc, bd_ok, if_neg (show ¬ (1 : Int32) = 0 by decide), neighbours_v hcc, bd_ok, trapsOn_v (cl := cl) x0 hT hc, bd_ok, gd_true (inb_nI hs (by decide)), nI_clamp (by omega)]
  congr 3
  exact mk_cong T (fun t ht => by
    have := (hc t ht).2
    rw [b_or, b_one (by omega) (by omega)])
theorem mFinds_v {w : Wd} {T : Nat} {cl : Nat → Nat} {s c : Nat} (m0 : w.1 105 10 = nI T) (hT : T ≤ 6) (hc : ∀ t, t < T → w.1 108 t = nI (cl t) ∧ cl t < 12) (hs : s < 2) (hcc : c < 12) : f_X8_finds w (nI s) (nI c) = some (mk (fun t => bt (aro c) (cl t) || decide (cl t = c)) T &&& (w.1 113 (2 + s) ^^^ (-1)), w) := by
  unfold f_X8_finds b_X8_finds_0
  have key : ∀ (n t : Nat), T - t < n → t ≤ T → b_X8_finds_5 n w (nI s) (nI c) (mk (fun t => bt (aro c) (cl t) || decide (cl t = c)) t) (nI t) = some (mk (fun t => bt (aro c) (cl t) || decide (cl t = c)) T &&& (w.1 113 (2 + s) ^^^ (-1)), w) := by
    intro n
    induction n with
    | zero => intro t h; omega
    | succ n ih =>
      intro t hn ht
      rw [b_X8_finds_5]
      by_cases h : t = T
      · subst h
        rw [m0, if_pos (nI_le (Nat.le_refl t) (by omega)), lit_add 2 (b := 2) rfl, gd_true (inb_nI (show 2 + s < 72 by omega) (by decide)), nI_clamp (by omega)]
      · have hlt : t < T := by omega
        have hcl := hc t hlt
        have ih' := ih (t + 1) (by omega) (by omega)
        rw [mk] at ih'
        rw [m0, if_neg (nI_ge hlt (by omega))]
        simp only [gd_true (inb_nI (show t < 7 by omega) (by decide)), nI_clamp (show t < 2 ^ 31 by omega), mNeighbours_v hcc, bd_ok, hcl.1]
        unfold b_X8_finds_44 b_X8_finds_52
        simp only [nm_ok, nI_1]
        by_cases h1 : cl t = c
        · rw [if_pos (by rw [h1])]
          simpa [h1] using ih'
        · rw [if_neg (fun z => h1 ((nI_eq (by omega) (by omega)).mp z))]
          by_cases h2 : bt (aro c) (cl t) = true
          · rw [if_pos ((tb1 _ (by omega)).mpr h2)]
            simpa [h1, h2] using ih'
          · rw [if_neg (fun z => h2 ((tb1 _ (by omega)).mp z))]
            simpa [h1, h2] using ih'
  exact key LF 0 (by unfold LF; omega) (by omega)
theorem mIn1_yes {w : Wd} {c : Nat} (h : c < 2) : f_X8_in w (nI c).toInt64 0 1 = some (1, w) := mIn_yes (n := 1) 1 rfl (by omega) (by decide)
theorem mIn1_no {w : Wd} {v : Int32} (hv : v < 0 ∨ (2 : Int32) ≤ v) : f_X8_in w v.toInt64 0 1 = some (0, w) := mIn_no (n := 1) 1 rfl (by decide) hv
