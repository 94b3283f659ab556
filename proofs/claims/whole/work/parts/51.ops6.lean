theorem pop_mk {q : Nat → Bool} {n : Nat} (hn : n ≤ 12) : pop (mk q n) = fb_ct q n := by
  unfold pop
  have h1 : fb_ct (bt (mk q n)) (n + (12 - n)) = fb_ct q n + 0 := by
    rw [fb_ct_split, fb_ct_cong (q := q) (fun i hi => by rw [b_mk q n (by omega) i (by omega), decide_eq_true hi, Bool.true_and])]
    congr 1
    exact fb_ct_zero.mpr (fun k hk => by rw [b_mk q n (by omega) (n + k) (by omega), decide_eq_false (by omega), Bool.false_and])
  rw [Nat.add_sub_cancel' hn] at h1
  exact h1
theorem bt_mk_lt {q : Nat → Bool} {n i : Nat} (hn : n ≤ 32) (h : bt (mk q n) i = true) : i < n ∧ q i = true := by
  rw [b_mk q n hn i (bt32 h)] at h
  simpa using h
theorem freeWalkers_v {w : Wd} {W : Nat} (x1 : w.1 11 1 = nI W) (hW : W ≤ 4) : f_X7_freeWalkers w = some (nI (fb_ct (fun g => decide (w.1 21 g = -9)) W), w) := by
  unfold f_X7_freeWalkers b_X7_freeWalkers_0
  rw [caught_v x1 hW, bd_ok, bitCount_v (fun i hi => by have := (bt_mk_lt (by omega) hi).1; omega), bd_ok, pop_mk (by omega), x1, nI_subn (fb_ct_le _ _)]
  have := fb_ct_not (fun g => decide (w.1 21 g = -9)) W
  congr 3
  show W - fb_ct (fun g => !decide (w.1 21 g = -9)) W = _
  omega
theorem freeMany_v {w : Wd} {W : Nat} (m1 : w.1 105 11 = nI W) (hW : W ≤ 4) : f_X8_freeMany w = some (nI (fb_ct (fun g => decide (w.1 113 (8 + g) = -9)) W), w) := by
  unfold f_X8_freeMany b_X8_freeMany_0
  have key : ∀ (n t : Nat), W - t < n → t ≤ W → b_X8_freeMany_4 n w (nI (fb_ct (fun g => decide (w.1 113 (8 + g) = -9)) t)) (nI t) = some (nI (fb_ct (fun g => decide (w.1 113 (8 + g) = -9)) W), w) := by
    intro n
    induction n with
    | zero => intro t h; omega
    | succ n ih =>
      intro t hn ht
      rw [b_X8_freeMany_4, m1]
      by_cases h : t = W
      · subst h
        rw [if_pos (nI_le (Nat.le_refl t) (by omega))]
      · rw [if_neg (nI_ge (show t < W by omega) (by omega)), lit_add 8 (b := 8) rfl, gd_true (inb_nI (by omega) (by omega)), nI_clamp (by omega)]
        unfold b_X8_freeMany_32
        simp only [nm_ok, nI_1]
        have ih' := ih (t + 1) (by omega) (by omega)
        rw [fb_ct_succ] at ih'
        by_cases hb : w.1 113 (8 + t) = -9
        · rw [if_pos hb]
          rw [decide_eq_true hb, if_pos rfl] at ih'
          exact ih'
        · rw [if_neg hb, lit_add' 0 (b := 0) rfl]
          rw [decide_eq_false hb, if_neg (by decide)] at ih'
          exact ih'
  exact key LF 0 (by unfold LF; omega) (by omega)
theorem keep_c {s : Nat} (hs : s < 2) : ∀ (n t : Nat) (v : Wd), 12 - t < n → t ≤ 12 → ∃ w1, b_X8_keep_21 n v (nI s) (nI t) = b_X8_keep_21 1 w1 (nI s) (nI 12) ∧ Only (fun k j => k = 120 ∧ 13 * s ≤ j ∧ j < 13 * s + 12) v w1 ∧ (∀ k, t ≤ k → k < 12 → w1.1 120 (13 * s + k) = v.1 113 k) ∧ ∀ k, k < t → w1.1 120 (13 * s + k) = v.1 120 (13 * s + k) := by
  intro n
  induction n with
  | zero => intro t v h; omega
  | succ n ih =>
    intro t v hn ht
    by_cases h : t = 12
    · subst h
      refine ⟨v, ?_, Only.rf, fun k h1 h2 => by omega, fun k _ => rfl⟩
      rw [b_X8_keep_21, b_X8_keep_21, if_pos (show (12 : Int32) ≤ nI 12 by decide), if_pos (show (12 : Int32) ≤ nI 12 by decide)]
    · have em : (13 : Int32) * nI s + nI t = nI (13 * s + t) := by
        rw [show (13 : Int32) = nI 13 from rfl, pk_mul, nI_add]
      rw [b_X8_keep_21, if_neg (show ¬ (12 : Int32) ≤ nI t from nI_ge (b := 12) (by omega) (by decide)), em]
      simp only [gd_true (inb_nI (show t < 72 by omega) (by decide)), gd_true (inb_nI (show 13 * s + t < 26 by omega) (by decide)), nm_ok, nI_1, nI_clamp (show t < 2 ^ 31 by omega), nI_clamp (show 13 * s + t < 2 ^ 31 by omega)]
      obtain ⟨w1, e, o1, h1, h2⟩ := ih (t + 1) (up v 120 (13 * s + t) (v.1 113 t)) (by omega) (by omega)
      refine ⟨w1, e, (Only.rf.up ⟨rfl, by omega, by omega⟩).tr o1, fun k k1 k2 => ?_, fun k k1 => ?_⟩
      · by_cases hk : k = t
        · subst hk
          rw [h2 k (by omega), up_eq]
        · rw [h1 k (by omega) k2, up_nc (by decide)]
      · rw [h2 k (by omega), up_ns (by omega)]
theorem again_c {s : Nat} (hs : s < 2) : ∀ (n t : Nat) (v : Wd), 12 - t < n → t ≤ 12 → ∃ w1, b_X8_again_26 n v (nI s) (nI t) = b_X8_again_26 1 w1 (nI s) (nI 12) ∧ Only (fun k j => k = 113 ∧ j < 12) v w1 ∧ (∀ k, t ≤ k → k < 12 → w1.1 113 k = v.1 120 (13 * s + k)) ∧ ∀ k, k < t → w1.1 113 k = v.1 113 k := by
  intro n
  induction n with
  | zero => intro t v h; omega
  | succ n ih =>
    intro t v hn ht
    by_cases h : t = 12
    · subst h
      refine ⟨v, ?_, Only.rf, fun k h1 h2 => by omega, fun k _ => rfl⟩
      rw [b_X8_again_26, b_X8_again_26, if_pos (show (12 : Int32) ≤ nI 12 by decide), if_pos (show (12 : Int32) ≤ nI 12 by decide)]
    · have em : (13 : Int32) * nI s + nI t = nI (13 * s + t) := by
        rw [show (13 : Int32) = nI 13 from rfl, pk_mul, nI_add]
      rw [b_X8_again_26, if_neg (show ¬ (12 : Int32) ≤ nI t from nI_ge (b := 12) (by omega) (by decide)), em]
      simp only [gd_true (inb_nI (show t < 72 by omega) (by decide)), gd_true (inb_nI (show 13 * s + t < 26 by omega) (by decide)), nm_ok, nI_1, nI_clamp (show t < 2 ^ 31 by omega), nI_clamp (show 13 * s + t < 2 ^ 31 by omega)]
      obtain ⟨w1, e, o1, h1, h2⟩ := ih (t + 1) (up v 113 t (v.1 120 (13 * s + t))) (by omega) (by omega)
      refine ⟨w1, e, (Only.rf.up ⟨rfl, by omega⟩).tr o1, fun k k1 k2 => ?_, fun k k1 => ?_⟩
      · by_cases hk : k = t
        · subst hk
          rw [h2 k (by omega), up_eq]
        · rw [h1 k (by omega) k2, up_nc (by decide)]
      · rw [h2 k (by omega), up_ns (by omega)]
theorem e13 {s : Nat} : (13 : Int32) * nI s + 12 = nI (13 * s + 12) := by
  rw [show (13 : Int32) = nI 13 from rfl, pk_mul, lit_add' 12 (b := 12) rfl]
theorem s_keep (v : Int32) : Step (fun w => f_X7_keep w v) (fun w => f_X8_keep w v) := by
  intro w hw
  obtain ⟨T, W, cl, kd, hi⟩ := hw
  have hi0 := hi
  obtain ⟨a1, a2, a3, a4, a5, a6⟩ := hi
  have hW := a1.2.1
  have x1 := a1.2.2.2.2.1
  have m1 := a1.2.2.2.2.2.1
  show ∃ r w1 w2, f_X7_keep w v = _ ∧ f_X8_keep w1 v = _ ∧ _
  rcases ix v (n := 2) (by omega) with h | ⟨s, hs, rfl⟩
  · refine ⟨-1, w, w, ?_, ?_, T, W, cl, kd, hi0⟩
    · unfold f_X7_keep b_X7_keep_0
      rw [isSlot_no h]; rfl
    · unfold f_X8_keep b_X8_keep_0
      rw [mIn1_no h]; rfl
  · obtain ⟨v2, e, o1, hcp⟩ := become_v (b := 96 + 4 * s) (b1 := 18) (w := w) (by omega) a3.2.2.2
    obtain ⟨x2, hx2⟩ : ∃ z, z = up v2 104 s 1 := ⟨_, rfl⟩
    have fx : ∀ k j, ¬ (96 + 4 * s ≤ k ∧ k ≤ 96 + 4 * s + 3) → k ≠ 104 → x2.1 k j = w.1 k j := fun k j h1 h2 => by rw [hx2, up_nc h2, o1.1 k j (by omega)]
    obtain ⟨y1, hy1⟩ : ∃ z, z = up x2 119 s 1 := ⟨_, rfl⟩
    obtain ⟨y2, ey, oy, g1, -⟩ := keep_c hs LF 0 y1 (by unfold LF; omega) (by omega)
    have fy1 : ∀ k j, k ≠ 119 → y1.1 k j = x2.1 k j := fun k j h => by rw [hy1, up_nc h]
    have fy : ∀ k j, k ≠ 119 → k ≠ 120 → y2.1 k j = x2.1 k j := fun k j h h2 => by rw [oy.1 k j (by omega), fy1 k j h]
    obtain ⟨y3, hy3⟩ : ∃ z, z = up y2 120 (13 * s + 12) (w.1 18 3) := ⟨_, rfl⟩
    have f3 : ∀ k j, k ≠ 119 → k ≠ 120 → y3.1 k j = x2.1 k j := fun k j h h2 => by rw [hy3, up_nc h2, fy k j h h2]
    have f0 : ∀ k j, ¬ (96 + 4 * s ≤ k ∧ k ≤ 96 + 4 * s + 3) → k ≠ 104 → k ≠ 119 → k ≠ 120 → y3.1 k j = w.1 k j := fun k j h1 h2 h3 h4 => by rw [f3 k j h3 h4, fx k j h1 h2]
    have ns : ∀ g, g < W → w.1 21 g = w.1 113 (8 + g) := fun g hg => by have := (a3.2.1.2.2.2.2 g hg).2; rw [Nat.zero_add] at this; exact this
    refine ⟨nI (fb_ct (fun g => decide (w.1 21 g = -9)) W), x2, y3, ?_, ?_, ?_⟩
    · unfold f_X7_keep b_X7_keep_0
      rw [isSlot_yes hs, bd_ok, if_neg (show ¬ (1 : Int32) = 0 by decide)]
      simp only [gd_true (inb_nI (show s < 2 by omega) (by decide)), nI_clamp (show s < 2 ^ 31 by omega)]
      rw [e, bv_ok, nm_ok, ← hx2, freeWalkers_v (by rw [fx _ _ (by omega) (by decide)]; exact x1) hW, bd_ok]
      congr 3
      exact fb_ct_cong (fun g hg => by rw [fx _ _ (by omega) (by decide)])
    · unfold f_X8_keep b_X8_keep_0
      rw [show (1 : Int64) = (1 : Int32).toInt64 from rfl, mIn_yes (n := 1) 1 rfl (by omega) (by decide), bd_ok, if_neg (show ¬ (1 : Int32) = 0 by decide)]
      simp only [gd_true (inb_nI (show s < 2 by omega) (by decide)), nI_clamp (show s < 2 ^ 31 by omega)]
      rw [nm_ok, ← hy1, show (0 : Int32) = nI 0 from rfl, ey, b_X8_keep_21, if_pos (show (12 : Int32) ≤ nI 12 by decide), show y2.1 105 13 = w.1 18 3 by rw [fy _ _ (by decide) (by decide), fx _ _ (by omega) (by decide)]; exact a3.2.2.1.symm, e13]
      have ej : ∀ z : Int32, z = w.1 18 3 → b_X8_keep_73 y2 z (nI (13 * s + 12)) = some (nI (fb_ct (fun g => decide (w.1 21 g = -9)) W), y3) := fun z hz => by
        unfold b_X8_keep_73
        rw [gd_true (inb_nI (by omega) (by decide)), nm_ok, nI_clamp (by omega), hz, ← hy3, freeMany_v (by rw [f0 _ _ (by omega) (by decide) (by decide) (by decide)]; exact m1) hW, bd_ok]
        congr 3
        exact fb_ct_cong (fun g hg => by rw [f0 _ _ (by omega) (by decide) (by decide) (by decide), ns g hg])
      by_cases hz : w.1 18 3 = 0
      · rw [if_pos hz]; exact ej _ hz.symm
      · rw [if_neg hz]; exact ej _ (a3.2.2.2.resolve_left hz).symm
    · have hnew : SlotR y3 T W s := by
        have q4 : y3.1 104 s = 1 := by rw [f3 _ _ (by decide) (by decide), hx2, up_eq]
        have hcp2 : Cp w y3 (96 + 4 * s) 18 := by
          obtain ⟨c1, c2, c3, c4, c5⟩ := hcp
          have ff : ∀ k j, 96 + 4 * s ≤ k → k ≤ 96 + 4 * s + 3 → y3.1 k j = v2.1 k j := fun k j h1 h2 => by rw [f3 k j (by omega) (by omega), hx2, up_nc (by omega)]
          refine ⟨?_, ?_, ?_, fun g hg => ?_, fun g hg => ?_⟩
          · rw [ff _ _ (by omega) (by omega)]; exact c1
          · rw [ff _ _ (by omega) (by omega)]; exact c2
          · rw [ff _ _ (by omega) (by omega)]; exact c3
          · rw [ff _ _ (by omega) (by omega)]; exact c4 g hg
          · rw [ff _ _ (by omega) (by omega), ff _ _ (by omega) (by omega)]; exact c5 g hg
        refine ⟨?_, Or.inr q4, fun _ => ⟨hcp2.W hW a3.1, hcp2.R hW a3.2.1 (fun k hk => ?_), ?_, ?_⟩⟩
        · rw [q4, hy3, up_nc (by decide), oy.1 119 s (by omega), hy1, up_eq]
        · rw [Nat.zero_add, hy3, up_ns (by omega), g1 k (by omega) hk, fy1 _ _ (by decide), fx _ _ (by omega) (by decide)]
        · rw [hcp2.2.2.1, hy3, up_eq]
        · rw [hcp2.2.2.1]; exact a3.2.2.2
      have hold : ∀ u, u < 2 → u ≠ s → SlotR w T W u → SlotR y3 T W u := fun u hu hus q => by
        obtain ⟨q1, q2, q3⟩ := q
        have g4 : y3.1 104 u = w.1 104 u := by rw [f3 _ _ (by decide) (by decide), hx2, up_ns hus, o1.1 104 u (by omega)]
        have ff : ∀ k j, 96 + 4 * u ≤ k → k ≤ 96 + 4 * u + 3 → y3.1 k j = w.1 k j := fun k j h1 h2 => f0 k j (by omega) (by omega) (by omega) (by omega)
        have e0 := fun j => ff (96 + 4 * u) j (by omega) (by omega)
        have e1 := fun j => ff (96 + 4 * u + 1) j (by omega) (by omega)
        have e2 := fun j => ff (96 + 4 * u + 2) j (by omega) (by omega)
        have e3 := fun j => ff (96 + 4 * u + 3) j (by omega) (by omega)
        have em : ∀ j, 13 * u ≤ j → j < 13 * u + 13 → y3.1 120 j = w.1 120 j := fun j h1 h2 => by
          rw [hy3, up_ns (by omega), oy.1 120 j (by omega), fy1 _ _ (by decide), fx _ _ (by omega) (by decide)]
        refine ⟨?_, by rw [g4]; exact q2, fun z => ?_⟩
        · rw [g4, hy3, up_nc (by decide), oy.1 119 u (by omega), hy1, up_ns hus, fx _ _ (by omega) (by decide)]; exact q1
        · rw [g4] at z
          obtain ⟨z1, z2, z3, z4⟩ := q3 z
          exact ⟨z1.fr e0 e1 e2 e3, z2.fr hW e0 e1 e2 e3 (fun j h1 h2 => em j h1 (by omega)), by rw [e0, em _ (by omega) (by omega)]; exact z3, by rw [e0]; exact z4⟩
      have hslot : ∀ u, u < 2 → SlotR w T W u → SlotR y3 T W u := fun u hu q => by
        by_cases hus : u = s
        · subst hus; exact hnew
        · exact hold u hu hus q
      refine Inv.of2 hi0 (fun k j h1 h2 h3 h4 h5 h6 h7 _ => ?_) ?_ ?_ (hslot 0 (by decide) a5.1) (hslot 1 (by decide) a5.2) ?_
      · exact f0 k j (by omega) (by omega) h6 h7
      · exact a3.fr hW (fun k j _ _ => f0 k j (by omega) (by omega) (by omega) (by omega)) (fun j _ => f0 113 j (by omega) (by omega) (by omega) (by omega)) (f0 105 13 (by omega) (by omega) (by omega) (by omega))
      · exact a4.fr hW (fun k j _ _ => f0 k j (by omega) (by omega) (by omega) (by omega)) (fun j => f0 115 j (by omega) (by omega) (by omega) (by omega)) (f0 105 19 (by omega) (by omega) (by omega) (by omega)) (f0 105 20 (by omega) (by omega) (by omega) (by omega))
      · rw [hy3, up_2, oy.2, hy1, up_2, hx2, up_2, o1.2]; exact a6
theorem s_again (v : Int32) : Step (fun w => f_X7_again w v) (fun w => f_X8_again w v) := by
  intro w hw
  obtain ⟨T, W, cl, kd, hi⟩ := hw
  have hi0 := hi
  obtain ⟨a1, a2, a3, a4, a5, a6⟩ := hi
  have hW := a1.2.1
  have x1 := a1.2.2.2.2.1
  have m1 := a1.2.2.2.2.2.1
  show ∃ r w1 w2, f_X7_again w v = _ ∧ f_X8_again w1 v = _ ∧ _
  rcases ix v (n := 2) (by omega) with h | ⟨s, hs, rfl⟩
  · refine ⟨-1, w, w, ?_, ?_, T, W, cl, kd, hi0⟩
    · unfold f_X7_again b_X7_again_0
      rw [isSlot_no h]; rfl
    · unfold f_X8_again b_X8_again_0
      rw [mIn1_no h]; rfl
  · obtain ⟨q1, q2, q3⟩ : SlotR w T W s := by
      rcases (show s = 0 ∨ s = 1 by omega) with rfl | rfl
      · exact a5.1
      · exact a5.2
    by_cases hz : w.1 104 s = 0
    · refine ⟨-3, w, w, ?_, ?_, T, W, cl, kd, hi0⟩
      · unfold f_X7_again b_X7_again_0
        rw [isSlot_yes hs, bd_ok, if_neg (show ¬ (1 : Int32) = 0 by decide), gd_true (inb_nI (show s < 2 by omega) (by decide)), nI_clamp (show s < 2 ^ 31 by omega), if_pos hz]
      · unfold f_X8_again b_X8_again_0
        rw [show (1 : Int64) = (1 : Int32).toInt64 from rfl, mIn_yes (n := 1) 1 rfl (by omega) (by decide), bd_ok, if_neg (show ¬ (1 : Int32) = 0 by decide), gd_true (inb_nI (show s < 2 by omega) (by decide)), nI_clamp (show s < 2 ^ 31 by omega), if_pos (q1 ▸ hz)]
    · obtain ⟨⟨b1, b2, b3, b4, b5, b6, b7⟩, ⟨r1, r2, r3, r4, r5⟩, z3, z4⟩ := q3 (q2.resolve_left hz)
      obtain ⟨v2, e, o1, c1, c2, c3, c4, c5⟩ := become_v (b := 18) (b1 := 96 + 4 * s) (w := w) (by omega) z4
      obtain ⟨x2, hx2⟩ : ∃ z, z = up v2 26 2 0 := ⟨_, rfl⟩
      have fx : ∀ k j, ¬ (18 ≤ k ∧ k ≤ 21) → ¬ (k = 26 ∧ j = 2) → x2.1 k j = w.1 k j := fun k j h1 h2 => by rw [hx2, up_get, if_neg h2, o1.1 k j (by omega)]
      have gx : ∀ k j, 18 ≤ k → k ≤ 21 → x2.1 k j = v2.1 k j := fun k j h1 h2 => by rw [hx2, up_nc (by omega)]
      have x21 : ∀ g, g < W → x2.1 21 g = w.1 (96 + 4 * s + 3) g := fun g hg => by rw [gx _ _ (by omega) (by omega)]; exact (c5 g (by omega)).2
      obtain ⟨y2, ey, oy, g1, -⟩ := again_c hs LF 0 x2 (by unfold LF; omega) (by omega)
      have m : ∀ k, k < 12 → y2.1 113 k = w.1 120 (13 * s + k) := fun k hk => by rw [g1 k (by omega) hk, fx _ _ (by omega) (by omega)]
      obtain ⟨y3, hy3⟩ : ∃ z, z = up (up y2 105 13 (w.1 (96 + 4 * s) 3)) 105 19 0 := ⟨_, rfl⟩
      have f3 : ∀ k j, k ≠ 113 → ¬ (k = 105 ∧ (j = 13 ∨ j = 19)) → y3.1 k j = x2.1 k j := fun k j h h2 => by rw [hy3, up_get, if_neg (by omega), up_get, if_neg (by omega), oy.1 k j (by omega)]
      have f0 : ∀ k j, k ≠ 113 → ¬ (k = 105 ∧ (j = 13 ∨ j = 19)) → ¬ (18 ≤ k ∧ k ≤ 21) → ¬ (k = 26 ∧ j = 2) → y3.1 k j = w.1 k j := fun k j h1 h2 h3 h4 => by rw [f3 k j h1 h2, fx k j h3 h4]
      have m3 : ∀ k, k < 12 → y3.1 113 k = w.1 120 (13 * s + k) := fun k hk => by rw [hy3, up_nc (by decide), up_nc (by decide), m k hk]
      refine ⟨nI (fb_ct (fun g => decide (w.1 (96 + 4 * s + 3) g = -9)) W), x2, y3, ?_, ?_, ?_⟩
      · unfold f_X7_again b_X7_again_0 f_X0_forget b_X0_forget_0
        rw [isSlot_yes hs, bd_ok, if_neg (show ¬ (1 : Int32) = 0 by decide)]
        simp only [gd_true (inb_nI (show s < 2 by omega) (by decide)), nI_clamp (show s < 2 ^ 31 by omega)]
        rw [if_neg hz, e, bv_ok, nm_ok, ← hx2, bv_ok, freeWalkers_v (by rw [fx _ _ (by omega) (by omega)]; exact x1) hW, bd_ok]
        congr 3
        exact fb_ct_cong (fun g hg => by rw [x21 g hg])
      · unfold f_X8_again b_X8_again_0
        rw [show (1 : Int64) = (1 : Int32).toInt64 from rfl, mIn_yes (n := 1) 1 rfl (by omega) (by decide), bd_ok, if_neg (show ¬ (1 : Int32) = 0 by decide)]
        simp only [gd_true (inb_nI (show s < 2 by omega) (by decide)), nI_clamp (show s < 2 ^ 31 by omega)]
        rw [if_neg (show ¬ x2.1 119 s = 0 by rw [fx _ _ (by omega) (by omega), ← q1]; exact hz), show (0 : Int32) = nI 0 from rfl, ey, b_X8_again_26, if_pos (show (12 : Int32) ≤ nI 12 by decide), e13, gd_true (inb_nI (by omega) (by decide)), nI_clamp (by omega), show y2.1 120 (13 * s + 12) = w.1 (96 + 4 * s) 3 by rw [oy.1 _ _ (by omega), fx _ _ (by omega) (by omega)]; exact z3.symm]
        have ej : ∀ z : Int32, z = w.1 (96 + 4 * s) 3 → b_X8_again_77 y2 z = some (nI (fb_ct (fun g => decide (w.1 (96 + 4 * s + 3) g = -9)) W), y3) := fun z hz => by
          unfold b_X8_again_77
          rw [hz, gd_true (bb_of z4), nm_ok, nm_ok, ← hy3, freeMany_v (by rw [f0 _ _ (by omega) (by omega) (by omega) (by omega)]; exact m1) hW, bd_ok]
          congr 3
          exact fb_ct_cong (fun g hg => by rw [m3 _ (by omega), (r5 g hg).2, Nat.add_assoc])
        by_cases h1 : w.1 (96 + 4 * s) 3 = 1
        · rw [if_pos h1]; exact ej _ h1.symm
        · rw [if_neg h1]; exact ej _ (z4.resolve_right h1).symm
      · refine Inv.of2 hi0 (fun k j h1 h2 h3 h4 h5 h6 h7 _ => ?_) ?_ ?_ ?_ ?_ ?_
        · exact f0 k j h4 (by omega) h1 (by omega)
        · refine NowR.of (w.1 (96 + 4 * s) 1) (w.1 (96 + 4 * s) 2) (w.1 (96 + 4 * s + 1) 0) (w.1 (96 + 4 * s + 1) 1) (w.1 (96 + 4 * s) 3) (fun g => w.1 (96 + 4 * s + 2) g) (fun g => w.1 (96 + 4 * s + 3) g) ?_ ?_ ?_ ?_ ?_ ?_ ?_ ?_ ?_ ?_ ?_ ?_ ?_ ?_ z4 b1 b2 b3 b4 b5 b6
          · rw [f3 _ _ (by decide) (by omega), gx _ _ (by omega) (by omega), c1]
          · rw [f3 _ _ (by decide) (by omega), gx _ _ (by omega) (by omega), c2]
          · rw [f3 _ _ (by decide) (by omega), gx _ _ (by omega) (by omega), c3]
          · rw [f3 _ _ (by decide) (by omega), gx _ _ (by omega) (by omega)]; exact c4 0 (by decide)
          · rw [f3 _ _ (by decide) (by omega), gx _ _ (by omega) (by omega)]; exact c4 1 (by decide)
          · intro g hg; rw [f3 _ _ (by decide) (by omega), gx _ _ (by omega) (by omega)]; exact (c5 g (by omega)).1
          · intro g hg; rw [f3 _ _ (by decide) (by omega), gx _ _ (by omega) (by omega)]; exact (c5 g (by omega)).2
          · rw [m3 0 (by decide), r1]; rfl
          · rw [m3 1 (by decide), r2]
          · rw [m3 2 (by decide), r3]
          · rw [m3 3 (by decide), r4]
          · intro g hg; rw [m3 (4 + g) (by omega), (r5 g hg).1, Nat.add_assoc]
          · intro g hg; rw [m3 (8 + g) (by omega), (r5 g hg).2, Nat.add_assoc]
          · rw [hy3, up_ns (by decide), up_eq]
        · obtain ⟨A, Q, N, hA, hQ, hN, p1, p2, p3, p4, hall⟩ := a4
          exact ⟨0, Q, N, by omega, hQ, hN, by rw [f3 _ _ (by decide) (by omega), hx2, up_eq]; rfl, by rw [hy3, up_eq]; rfl, by rw [f0 _ _ (by decide) (by omega) (by omega) (by omega)]; exact p3, by rw [f0 _ _ (by decide) (by omega) (by omega) (by omega)]; exact p4, fun i hi => by omega⟩
        · exact a5.1.fr (by decide) hW (fun k j _ _ => f0 k j (by omega) (by omega) (by omega) (by omega)) (fun j => f0 119 j (by omega) (by omega) (by omega) (by omega)) (fun j => f0 120 j (by omega) (by omega) (by omega) (by omega))
        · exact a5.2.fr (by decide) hW (fun k j _ _ => f0 k j (by omega) (by omega) (by omega) (by omega)) (fun j => f0 119 j (by omega) (by omega) (by omega) (by omega)) (fun j => f0 120 j (by omega) (by omega) (by omega) (by omega))
        · rw [hy3, up_2, up_2, oy.2, hx2, up_2, o1.2]; exact a6
