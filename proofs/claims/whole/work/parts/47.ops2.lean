theorem acts_rem {w w1 w2 : Wd} {T W A Q N : Nat} (hW : W ≤ 4) (hA : A ≤ 16) (hQ : Q < 16) (hN : N < 16) (hall : ∀ i, i < A → ScW w T W (28 + 4 * ((Q + i) % 16)) ∧ ScR w W (28 + 4 * ((Q + i) % 16)) 115 (12 * ((N + 16 - A + i) % 16))) (s1 : ScW w T W 18) (s2 : ScR w W 18 113 0)
    (o1 : Only (fun k j => (28 + 4 * ((Q + A) % 16) ≤ k ∧ k ≤ 28 + 4 * ((Q + A) % 16) + 3) ∨ (k = 26 ∧ (j = 1 ∨ j = 2))) w w1) (hc : Cp w w1 (28 + 4 * ((Q + A) % 16)) 18) (q1 : w1.1 26 1 = nI (if A < 16 then Q else (Q + 1) % 16)) (q2 : w1.1 26 2 = nI (if A < 16 then A + 1 else 16)) (hx : ∀ k j, 26 ≤ k → k ≤ 91 → w2.1 k j = w1.1 k j)
    (m1 : ∀ k, k < 12 → w2.1 115 (12 * N + k) = w.1 113 k) (m2 : ∀ j, ¬ (12 * N ≤ j ∧ j < 12 * N + 12) → w2.1 115 j = w.1 115 j) (m3 : w2.1 105 20 = nI ((N + 1) % 16)) (m4 : w2.1 105 19 = nI (if A < 16 then A + 1 else 16)) : ActsR w2 T W := by
  have hlt : (Q + A) % 16 < 16 := Nat.mod_lt _ (by decide)
  have old : ∀ i, i < A → (Q + i) % 16 ≠ (Q + A) % 16 → (N + 16 - A + i) % 16 ≠ N → ScW w2 T W (28 + 4 * ((Q + i) % 16)) ∧ ScR w2 W (28 + 4 * ((Q + i) % 16)) 115 (12 * ((N + 16 - A + i) % 16)) := by
    intro i hi h1 h2
    have hm : (Q + i) % 16 < 16 := Nat.mod_lt _ (by decide)
    have f : ∀ k j, 28 + 4 * ((Q + i) % 16) ≤ k → k ≤ 28 + 4 * ((Q + i) % 16) + 3 → w2.1 k j = w.1 k j := fun k j k1 k2 => by
      rw [hx k j (by omega) (by omega)]
      exact o1.1 k j (by omega)
    have e0 := fun j => f (28 + 4 * ((Q + i) % 16)) j (by omega) (by omega)
    have e1 := fun j => f (28 + 4 * ((Q + i) % 16) + 1) j (by omega) (by omega)
    have e2 := fun j => f (28 + 4 * ((Q + i) % 16) + 2) j (by omega) (by omega)
    have e3 := fun j => f (28 + 4 * ((Q + i) % 16) + 3) j (by omega) (by omega)
    exact ⟨(hall i hi).1.fr e0 e1 e2 e3, (hall i hi).2.fr hW e0 e1 e2 e3 (fun j j1 j2 => m2 j (by omega))⟩
  have hc2 : Cp w w2 (28 + 4 * ((Q + A) % 16)) 18 := by
    obtain ⟨c1, c2, c3, c4, c5⟩ := hc
    refine ⟨?_, ?_, ?_, fun g hg => ?_, fun g hg => ?_⟩
    · rw [hx _ _ (by omega) (by omega)]; exact c1
    · rw [hx _ _ (by omega) (by omega)]; exact c2
    · rw [hx _ _ (by omega) (by omega)]; exact c3
    · rw [hx _ _ (by omega) (by omega)]; exact c4 g hg
    · rw [hx _ _ (by omega) (by omega), hx _ _ (by omega) (by omega)]; exact c5 g hg
  have new : ScW w2 T W (28 + 4 * ((Q + A) % 16)) ∧ ScR w2 W (28 + 4 * ((Q + A) % 16)) 115 (12 * N) := ⟨hc2.W hW s1, hc2.R hW s2 (fun k hk => by rw [Nat.zero_add]; exact m1 k hk)⟩
  by_cases h : A < 16
  · rw [if_pos h] at q1 q2 m4
    refine ⟨A + 1, Q, (N + 1) % 16, by omega, hQ, Nat.mod_lt _ (by decide), by rw [hx 26 2 (by omega) (by omega)]; exact q2, m4, by rw [hx 26 1 (by omega) (by omega)]; exact q1, m3, fun i hi => ?_⟩
    have er : ((N + 1) % 16 + 16 - (A + 1) + i) % 16 = (N + 16 - A + i) % 16 := by omega
    rw [er]
    by_cases hiA : i = A
    · subst hiA
      have : (N + 16 - i + i) % 16 = N := by omega
      rw [this]
      exact new
    · exact old i (by omega) (by omega) (by omega)
  · have hA16 : A = 16 := by omega
    subst hA16
    rw [if_neg h] at q1 q2 m4
    refine ⟨16, (Q + 1) % 16, (N + 1) % 16, by omega, Nat.mod_lt _ (by decide), Nat.mod_lt _ (by decide), by rw [hx 26 2 (by omega) (by omega)]; exact q2, m4, by rw [hx 26 1 (by omega) (by omega)]; exact q1, m3, fun i hi => ?_⟩
    by_cases hi15 : i = 15
    · subst hi15
      have e1 : ((Q + 1) % 16 + 15) % 16 = (Q + 16) % 16 := by omega
      have e2 : ((N + 1) % 16 + 16 - 16 + 15) % 16 = N := by omega
      rw [e1, e2]
      exact new
    · have e1 : ((Q + 1) % 16 + i) % 16 = (Q + (i + 1)) % 16 := by omega
      have e2 : ((N + 1) % 16 + 16 - 16 + i) % 16 = (N + 16 - 16 + (i + 1)) % 16 := by omega
      rw [e1, e2]
      exact old (i + 1) (by omega) (by omega) (by omega)
/-- an act on both sides: what was is remembered, then x changes the scene that is now, y the reference's -/
theorem act_frame {w w1 w2 x2 : Wd} {T W : Nat} {cl kd : Nat → Nat} {A Q N : Nat} (hi : InvT w T W cl kd) (hA : A ≤ 16) (hQ : Q < 16) (hN : N < 16) (hall : ∀ i, i < A → ScW w T W (28 + 4 * ((Q + i) % 16)) ∧ ScR w W (28 + 4 * ((Q + i) % 16)) 115 (12 * ((N + 16 - A + i) % 16)))
    (o1 : Only (fun k j => (28 + 4 * ((Q + A) % 16) ≤ k ∧ k ≤ 28 + 4 * ((Q + A) % 16) + 3) ∨ (k = 26 ∧ (j = 1 ∨ j = 2))) w w1) (hc : Cp w w1 (28 + 4 * ((Q + A) % 16)) 18) (q1 : w1.1 26 1 = nI (if A < 16 then Q else (Q + 1) % 16)) (q2 : w1.1 26 2 = nI (if A < 16 then A + 1 else 16))
    (ox : Only (fun k _ => 18 ≤ k ∧ k ≤ 21) w1 x2)
    (om : Only (fun k j => (k = 115 ∧ 12 * N ≤ j ∧ j < 12 * N + 12) ∨ (k = 105 ∧ (j = 19 ∨ j = 20)) ∨ k = 113) x2 w2) (m1 : ∀ k, k < 12 → w2.1 115 (12 * N + k) = w.1 113 k) (m3 : w2.1 105 20 = nI ((N + 1) % 16)) (m4 : w2.1 105 19 = nI (if A < 16 then A + 1 else 16)) (hnow : NowR w2 T W) : Inv w2 := by
  obtain ⟨a1, a2, a3, a4, a5, a6⟩ := hi
  have hlt : (Q + A) % 16 < 16 := Nat.mod_lt _ (by decide)
  have f : ∀ k j, ¬ (18 ≤ k ∧ k ≤ 21) → ¬ (26 ≤ k ∧ k ≤ 91) → k ≠ 113 → k ≠ 115 → ¬ (k = 105 ∧ (j = 19 ∨ j = 20)) → w2.1 k j = w.1 k j := fun k j h1 h2 h3 h4 h5 => by
    rw [om.1 k j (by omega), ox.1 k j (by omega), o1.1 k j (by omega)]
  refine ⟨T, W, cl, kd, a1.fr (fun k j _ _ => f k j (by omega) (by omega) (by omega) (by omega) (by omega)) (fun j _ _ => f 105 j (by omega) (by omega) (by omega) (by omega) (by omega)) (fun k j _ _ _ => f k j (by omega) (by omega) (by omega) (by omega) (by omega)) (fun j => f 112 j (by omega) (by omega) (by omega) (by omega) (by omega)), a2.fr (f 1 1 (by omega) (by omega) (by omega) (by omega) (by omega)) (fun j => f 2 j (by omega) (by omega) (by omega) (by omega) (by omega)) (f 105 16 (by omega) (by omega) (by omega) (by omega) (by omega)) (fun j => f 114 j (by omega) (by omega) (by omega) (by omega) (by omega)), hnow, ?_, ⟨a5.1.fr (by decide) a1.2.1 (fun k j _ _ => f k j (by omega) (by omega) (by omega) (by omega) (by omega)) (fun j => f 119 j (by omega) (by omega) (by omega) (by omega) (by omega)) (fun j => f 120 j (by omega) (by omega) (by omega) (by omega) (by omega)), a5.2.fr (by decide) a1.2.1 (fun k j _ _ => f k j (by omega) (by omega) (by omega) (by omega) (by omega)) (fun j => f 119 j (by omega) (by omega) (by omega) (by omega) (by omega)) (fun j => f 120 j (by omega) (by omega) (by omega) (by omega) (by omega))⟩, ?_⟩
  · exact acts_rem a1.2.1 hA hQ hN hall a3.1 a3.2.1 o1 hc q1 q2 (fun k j h1 h2 => by rw [om.1 k j (by omega), ox.1 k j (by omega)]) m1 (fun j hj => by rw [om.1 115 j (by omega), ox.1 115 j (by omega), o1.1 115 j (by omega)]) m3 m4
  · rw [om.2, ox.2, o1.2]; exact a6
theorem s_arm (v : Int32) : Step (fun w => f_X7_arm w v) (fun w => f_X8_arm w v) := by
  intro w hw
  obtain ⟨T, W, cl, kd, hi⟩ := hw
  have hi0 := hi
  obtain ⟨⟨hT, hW, x0, m0, x1, m1, hs, hs2, hc, hci, hsd, hkd, hwi, hwz, hsh, hsn, hne, hg⟩, -, ⟨⟨b1, b2, b3, b4, b5, b6, b7⟩, ⟨n1, n2, n3, n4, n5⟩, n6, n7⟩, ⟨A, Q, N, hA, hQ, hN, p1, p2, p3, p4, hall⟩, -⟩ := hi
  show ∃ r w1 w2, f_X7_arm w v = _ ∧ f_X8_arm w1 v = _ ∧ _
  unfold f_X7_arm b_X7_arm_0 f_X8_arm b_X8_arm_0
  rcases ix v (n := T) (by omega) with h | ⟨t, ht, rfl⟩
  · refine ⟨-1, w, w, ?_, ?_, T, W, cl, kd, hi0⟩
    · rw [hasTrap_no x0 h]; rfl
    · rw [mIsTrap_no m0 hT h]; rfl
  · rw [hasTrap_yes x0 hT ht, bd_ok, if_neg (show ¬ (1 : Int32) = 0 by decide)]
    by_cases hb : bt (w.1 18 1) t = true
    · refine ⟨-3, w, w, ?_, ?_, T, W, cl, kd, hi0⟩
      · rw [if_neg (fun z => by rw [tb0 _ (by omega), hb] at z; cases z)]
      · rw [mIsTrap_yes m0 hT ht, bd_ok, if_neg (show ¬ (1 : Int32) = 0 by decide), show w.1 113 ((0 : Int32)).toNatClampNeg = w.1 18 1 from n1.symm, if_pos ((tb1 _ (by omega)).mpr hb)]
    · obtain ⟨w1, e, o1, hcp, q1, q2⟩ := remember_v (w := w) hA hQ p3 p1 n7
      rw [if_pos ((tb0 _ (by omega)).mpr (by cases hq : bt (w.1 18 1) t <;> simp_all)), e, bv_ok]
      simp only [nm_ok]
      have hlt : (Q + A) % 16 < 16 := Nat.mod_lt _ (by decide)
      have f18 : ∀ j, w1.1 18 j = w.1 18 j := fun j => o1.1 18 j (by omega)
      rw [f18 1, up_ns (k := 18) (j := 1) (b := 2) (by decide), f18 2, gd_true (inb_nI (show t < 6 by omega) (by decide)), nI_clamp (show t < 2 ^ 31 by omega), up_nc (k := 18) (a := 13) (by decide), up_nc (k := 18) (a := 13) (by decide), o1.1 13 t (by omega), (hsd t ht).1]
      -- the class's memory behind the call
      obtain ⟨x2, hx2⟩ : ∃ z, z = up (up w1 18 1 (w.1 18 1 ||| (1 : Int32) <<< (nI t &&& 31))) 18 2 (w.1 18 2 &&& ((1 : Int32) <<< (nI t &&& 31) ^^^ (-1))) := ⟨_, rfl⟩
      rw [← hx2]
      have ox : Only (fun k _ => 18 ≤ k ∧ k ≤ 21) w1 x2 := by rw [hx2]; exact (Only.rf.up ⟨by decide, by decide⟩).up ⟨by decide, by decide⟩
      have fm : ∀ k j, 92 ≤ k → x2.1 k j = w.1 k j := fun k j hk => by rw [ox.1 k j (by omega), o1.1 k j (by omega)]
      obtain ⟨y1, ey, oy, y2, y3, y4⟩ := keepAct_v (w := x2) hA hN (by rw [fm 105 20 (by omega)]; exact p4) (by rw [fm 105 19 (by omega)]; exact p2)
      have fy : ∀ j, y1.1 113 j = w.1 113 j := fun j => by rw [oy.1 113 j (by omega), fm 113 j (by omega)]
      refine ⟨w.1 109 t, x2, up (up y1 113 0 (w.1 113 0 ||| (1 : Int32) <<< (nI t &&& 31))) 113 1 (w.1 113 1 &&& ((1 : Int32) <<< (nI t &&& 31) ^^^ (-1))), rfl, ?_, ?_⟩
      · rw [mIsTrap_yes (by rw [fm 105 10 (by omega)]; exact m0) hT ht, bd_ok, if_neg (show ¬ (1 : Int32) = 0 by decide), show x2.1 113 ((0 : Int32)).toNatClampNeg = w.1 18 1 from (fm 113 0 (by omega)).trans n1.symm, if_neg (fun z => hb ((tb1 _ (by omega)).mp z)), ey, bv_ok]
        try simp only [nm_ok]
        rw [show ((0 : Int32)).toNatClampNeg = 0 from rfl, show ((1 : Int32)).toNatClampNeg = 1 from rfl, fy 0, up_ns (k := 113) (j := 0) (b := 1) (by decide), fy 1, gd_true (inb_nI (show t < 7 by omega) (by decide)), up_nc (k := 113) (a := 109) (by decide), up_nc (k := 113) (a := 109) (by decide), oy.1 109 t (by omega), fm 109 t (by omega)]
      · have om : Only (fun k j => (k = 115 ∧ 12 * N ≤ j ∧ j < 12 * N + 12) ∨ (k = 105 ∧ (j = 19 ∨ j = 20)) ∨ k = 113) x2 (up (up y1 113 0 (w.1 113 0 ||| (1 : Int32) <<< (nI t &&& 31))) 113 1 (w.1 113 1 &&& ((1 : Int32) <<< (nI t &&& 31) ^^^ (-1)))) := ((oy.wd (fun k j z => by omega)).up (Or.inr (Or.inr rfl))).up (Or.inr (Or.inr rfl))
        have g13 : ∀ j, 2 ≤ j → (up (up y1 113 0 (w.1 113 0 ||| (1 : Int32) <<< (nI t &&& 31))) 113 1 (w.1 113 1 &&& ((1 : Int32) <<< (nI t &&& 31) ^^^ (-1)))).1 113 j = w.1 113 j := fun j hj => by rw [up_ns (by omega), up_ns (by omega), fy]
        have g18 : ∀ k j, k < 92 → (up (up y1 113 0 (w.1 113 0 ||| (1 : Int32) <<< (nI t &&& 31))) 113 1 (w.1 113 1 &&& ((1 : Int32) <<< (nI t &&& 31) ^^^ (-1)))).1 k j = x2.1 k j := fun k j hk => om.1 k j (by omega)
        have gx : ∀ k j, 18 ≤ k → k ≤ 21 → ¬ (k = 18 ∧ (j = 1 ∨ j = 2)) → x2.1 k j = w.1 k j := fun k j k1 k2 k3 => by rw [hx2, up_get, if_neg (by omega), up_get, if_neg (by omega), o1.1 k j (by omega)]
        have gx1 : x2.1 18 1 = w.1 18 1 ||| (1 : Int32) <<< (nI t &&& 31) := by rw [hx2, up_ns (by decide), up_eq]
        have gx2 : x2.1 18 2 = w.1 18 2 &&& ((1 : Int32) <<< (nI t &&& 31) ^^^ (-1)) := by rw [hx2, up_eq]
        refine act_frame hi0 hA hQ hN hall o1 hcp q1 q2 ox om ?_ ?_ ?_ ⟨⟨?_, ?_, ?_, ?_, ?_, ?_, ?_⟩, ⟨?_, ?_, ?_, ?_, ?_⟩, ?_, ?_⟩
        · intro k hk; rw [up_nc (by decide), up_nc (by decide), y2 k hk, fm 113 k (by omega)]
        · rw [up_nc (by decide), up_nc (by decide)]; exact y3
        · rw [up_nc (by decide), up_nc (by decide)]; exact y4
        · intro i hi; rw [g18 18 1 (by omega), gx1, b_or, Bool.or_eq_true] at hi
          rcases hi with q | q
          · exact b1 i q
          · rw [b_one (by omega) (bt32 q)] at q
            have : i = t := by simpa using q
            omega
        · intro i hi; rw [g18 18 2 (by omega), gx2, b_and, Bool.and_eq_true] at hi; exact b2 i hi.1
        · rw [g18 _ _ (by omega), gx _ _ (by omega) (by omega) (by omega)]; exact b3
        · rw [g18 _ _ (by omega), gx _ _ (by omega) (by omega) (by omega)]; exact b4
        · intro g hg; rw [g18 _ _ (by omega), gx _ _ (by omega) (by omega) (by omega)]; exact b5 g hg
        · intro g hg; rw [g18 _ _ (by omega), gx _ _ (by omega) (by omega) (by omega)]; exact b6 g hg
        · rw [g18 _ _ (by omega), gx _ _ (by omega) (by omega) (by omega)]; exact b7
        · rw [g18 _ _ (by omega), gx1, n1, up_ns (by decide), up_eq]
        · rw [g18 _ _ (by omega), gx2, n2, up_eq]
        · rw [g18 _ _ (by omega), gx _ _ (by omega) (by omega) (by omega), g13 _ (by omega)]; exact n3
        · rw [g18 _ _ (by omega), gx _ _ (by omega) (by omega) (by omega), g13 _ (by omega)]; exact n4
        · intro g hg; rw [g18 _ _ (by omega), gx _ _ (by omega) (by omega) (by omega), g13 _ (by omega), g18 _ _ (by omega), gx _ _ (by omega) (by omega) (by omega), g13 _ (by omega)]; exact n5 g hg
        · rw [g18 _ _ (by omega), gx _ _ (by omega) (by omega) (by omega), om.1 105 13 (by omega), fm 105 13 (by omega)]; exact n6
        · rw [g18 _ _ (by omega), gx _ _ (by omega) (by omega) (by omega)]; exact n7
