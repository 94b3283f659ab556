theorem InvT.fr1 {w w' : Wd} {T W : Nat} {cl kd : Nat → Nat} (h : InvT w T W cl kd) (ho : ∀ k j, ¬ Scr T k j → w'.1 k j = w.1 k j) (h2 : w'.2 0 = w'.2 105) : InvT w' T W cl kd := by
  obtain ⟨a1, a2, a3, a4, a5, -⟩ := InvT.fr (w' := (w'.1, w.2)) h ⟨ho, rfl⟩
  exact ⟨a1, a2, a3, a4, a5, h2⟩
theorem s_night (v : Int32) : Step (fun w => f_X7_night w v) (fun w => f_X8_night w v) := by
  intro w hw
  obtain ⟨T, W, cl, kd, hi⟩ := hw
  have hi0 := hi
  obtain ⟨a1, a2, a3, a4, a5, a6⟩ := hi
  have hW := a1.2.1
  show ∃ r w1 w2, f_X7_night w v = _ ∧ f_X8_night w1 v = _ ∧ _
  have hin : ∀ z : Wd, f_X8_in z v.toInt64 1 40 = some (if (1 : Int32) ≤ v ∧ v ≤ 40 then 1 else 0, z) := fun z => in_i z v 1 40
  by_cases h1 : v < 1
  · refine ⟨-2, w, w, ?_, ?_, T, W, cl, kd, hi0⟩
    · unfold f_X7_night b_X7_night_0
      rw [if_pos h1]
    · unfold f_X8_night b_X8_night_0
      rw [hin, bd_ok, if_neg (show ¬ ((1 : Int32) ≤ v ∧ v ≤ 40) from fun z => by have := z.1; rw [i_le] at this; rw [i_lt] at h1; omega), if_pos rfl]
  · by_cases h8 : v ≤ 40
    · obtain ⟨m, hm1, hm8, rfl⟩ : ∃ m, 1 ≤ m ∧ m ≤ 40 ∧ v = nI m := by
        rcases ix v (n := 41) (by omega) with h | ⟨j, hj, rfl⟩
        · exfalso
          rw [i_lt] at h1
          rw [i_le] at h8
          have e1 : (1 : Int32).toInt = 1 := rfl
          have e8 : (40 : Int32).toInt = 40 := rfl
          have e0 : (0 : Int32).toInt = 0 := rfl
          have e9 : (nI 41).toInt = 41 := rfl
          rcases h with h | h
          · rw [i_lt] at h; omega
          · rw [i_le] at h; omega
        · refine ⟨j, ?_, by omega, rfl⟩
          rcases Nat.eq_zero_or_pos j with q | q
          · subst q; exact absurd (show nI 0 < 1 by decide) h1
          · exact q
      have hle1 : (1 : Int32) ≤ nI m := nI_le (a := 1) hm1 (by omega)
      obtain ⟨w4, e, o1, hcp⟩ := become_v (b := 22) (b1 := 18) (w := w) (by omega) a3.2.2.2
      have f4 : ∀ k j, ¬ (22 ≤ k ∧ k ≤ 25) → w4.1 k j = w.1 k j := fun k j hk => o1.1 k j (by omega)
      have f4k : ∀ k, ¬ (22 ≤ k ∧ k ≤ 25) → w4.1 k = w.1 k := fun k hk => funext fun j => f4 k j hk
      have hDN : ∀ u y, (∀ k j, ¬ (22 ≤ k ∧ k ≤ 25) → u.1 k j = w.1 k j) → u.2 105 = w.2 0 → Only (fun k j => k = 113 ∧ 12 ≤ j) u y → (∀ k, k < 12 → y.1 113 (12 + k) = u.1 113 k) → DN w4 y T W cl kd := fun u y hu hu2 oy hy => by
        have fy : ∀ k, k ≠ 113 → ¬ (22 ≤ k ∧ k ≤ 25) → y.1 k = w4.1 k := fun k h1 h2 => funext fun j => by rw [oy.1 k j (by omega), hu k j h2, f4 k j h2]
        refine ⟨a1.scene (b := 22) (by decide) (by decide) f4, hcp.W hW a3.1, ?_, ?_, ⟨fy 108 (by decide) (by omega), fy 110 (by decide) (by omega), fy 111 (by decide) (by omega), fy 112 (by decide) (by omega)⟩, ?_, ?_, ?_, ?_⟩
        · obtain ⟨c1, c2, c3, c4, c5⟩ := hcp
          obtain ⟨r1, r2, r3, r4, r5⟩ := a3.2.1
          have hy' : ∀ k, k < 12 → y.1 113 (12 + k) = w.1 113 k := fun k hk => by rw [hy k hk, hu 113 k (by omega)]
          refine ⟨?_, ?_, ?_, ?_, fun g hg => ⟨?_, ?_⟩⟩
          · rw [c1, r1]; exact (hy' 0 (by decide)).symm
          · rw [c2, r2]; exact (hy' 1 (by decide)).symm
          · rw [c4 0 (by decide), r3]; exact (hy' 2 (by decide)).symm
          · rw [c4 1 (by decide), r4]; exact (hy' 3 (by decide)).symm
          · rw [(c5 g (by omega)).1, (r5 g hg).1]
            have := hy' (4 + g) (by omega)
            rw [← Nat.add_assoc] at this
            rw [Nat.zero_add]; exact this.symm
          · rw [(c5 g (by omega)).2, (r5 g hg).2]
            have := hy' (8 + g) (by omega)
            rw [← Nat.add_assoc] at this
            rw [Nat.zero_add]; exact this.symm
        · rw [hcp.2.2.1, a3.2.2.1, fy 105 (by decide) (by omega), f4 105 13 (by omega)]
        · rw [fy 105 (by decide) (by omega), f4 105 10 (by omega)]; exact a1.2.2.2.1
        · rw [fy 105 (by decide) (by omega), f4 105 11 (by omega)]; exact a1.2.2.2.2.2.1
        · rw [fy 105 (by decide) (by omega), f4 105 12 (by omega), f4 11 2 (by omega)]; exact a1.2.2.2.2.2.2.1.symm
        · rw [oy.2, hu2, o1.2]
      obtain ⟨yA, eA, oA, gA, -⟩ := night_cp (v1 := nI m) LF 0 w (by unfold LF; omega) (by omega)
      obtain ⟨r, x, zA, x9, -, fx, -, -⟩ := night_k hm8 LF LF 0 w4 yA (by unfold LF; omega) (by unfold LF; omega) (by omega) (hDN w yA (fun _ _ _ => rfl) a6.symm oA (fun k hk => gA k (by omega) hk))
      obtain ⟨yB, eB, oB, gB, -⟩ := night_cp (v1 := nI m) LF 0 x (by unfold LF; omega) (by omega)
      have hux : ∀ k j, ¬ (22 ≤ k ∧ k ≤ 25) → x.1 k j = w.1 k j := fun k j hk => by rw [fx.1 k j hk, f4 k j hk]
      obtain ⟨r', x', z, x9', z9, -, fz, hsd⟩ := night_k hm8 LF LF 0 w4 yB (by unfold LF; omega) (by unfold LF; omega) (by omega) (hDN x yB hux (by rw [fx.2 105 (by decide), o1.2]; exact a6.symm) oB (fun k hk => gB k (by omega) hk))
      rw [x9] at x9'
      have h9 := Option.some.inj x9'
      have hr : r = r' := congrArg Prod.fst h9
      have hx : x = x' := congrArg Prod.snd h9
      subst hr
      subst hx
      refine ⟨r, x, z, ?_, ?_, T, W, cl, kd, hi0.fr1 (fun k j hk => ?_) ?_⟩
      · unfold f_X7_night b_X7_night_0
        rw [if_neg h1, if_pos h8, e, bv_ok]
        exact x9
      · unfold f_X8_night b_X8_night_0
        rw [hin, if_pos (show (1 : Int32) ≤ nI m ∧ nI m ≤ 40 from ⟨hle1, h8⟩), bd_ok, if_neg (show ¬ (1 : Int32) = 0 by decide)]
        rw [show b_X8_night_17 LF x (nI m) 0 = b_X8_night_17 LF x (nI m) (nI 0) from rfl, eB]
        exact z9
      · unfold Scr at hk
        rw [fz.1 k j (by omega), oB.1 k j (by omega), hux k j (by omega)]
      · rw [fz.2 0 (by decide), oB.2, hsd]
    · refine ⟨-2, w, w, ?_, ?_, T, W, cl, kd, hi0⟩
      · unfold f_X7_night b_X7_night_0
        rw [if_neg h1, if_neg h8]
      · unfold f_X8_night b_X8_night_0
        rw [hin, if_neg (show ¬ ((1 : Int32) ≤ v ∧ v ≤ 40) from fun z => h8 z.2), bd_ok, if_pos rfl]
