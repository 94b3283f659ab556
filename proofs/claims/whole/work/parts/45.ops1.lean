/-- a call of the class and the same call of the reference: one answer, and what ties them holds behind it -/
def Step {α : Type} (fx fm : Wd → Option (α × Wd)) : Prop := ∀ w, Inv w → ∃ r w1 w2, fx w = some (r, w1) ∧ fm w1 = some (r, w2) ∧ Inv w2
theorem Step.ro {α : Type} {fx fm : Wd → Option (α × Wd)} (h : ∀ w T W cl kd, InvT w T W cl kd → ∃ r, fx w = some (r, w) ∧ fm w = some (r, w)) : Step fx fm := by
  intro w hw
  obtain ⟨T, W, cl, kd, hi⟩ := hw
  obtain ⟨r, h1, h2⟩ := h w T W cl kd hi
  exact ⟨r, w, w, h1, h2, T, W, cl, kd, hi⟩
theorem s_wipe : Step f_X7_wipe f_X8_wipe := by
  intro w hw
  obtain ⟨T, W, cl, kd, a1, a2, a3, a4, a5, a6⟩ := hw
  obtain ⟨len, t1, t2, t3, t4⟩ := a2
  refine ⟨nI len, up w 1 1 0, up (up w 1 1 0) 105 16 0, ?_, ?_, T, W, cl, kd, ?_, ?_, ?_, ?_, ⟨?_, ?_⟩, a6⟩
  · unfold f_X7_wipe b_X7_wipe_0
    rw [nm_ok, nm_ok, t2]
  · unfold f_X8_wipe b_X8_wipe_0
    rw [nm_ok, nm_ok, up_nc (by decide), t3]
  · have hk : ∀ k j, k ≠ 1 → ¬ (k = 105 ∧ j = 16) → (up (up w 1 1 0) 105 16 0).1 k j = w.1 k j := fun k j h1 h2 => by rw [up_get, if_neg h2, up_nc h1]
    exact a1.fr (fun k j _ _ => hk k j (by omega) (by omega)) (fun j _ _ => hk 105 j (by omega) (by omega)) (fun k j _ _ _ => hk k j (by omega) (by omega)) (fun j => hk 112 j (by omega) (by omega))
  · exact ⟨0, by decide, by rw [up_nc (by decide), up_eq]; rfl, up_eq, fun j h => by omega⟩
  · have hk : ∀ k j, k ≠ 1 → ¬ (k = 105 ∧ j = 16) → (up (up w 1 1 0) 105 16 0).1 k j = w.1 k j := fun k j h1 h2 => by rw [up_get, if_neg h2, up_nc h1]
    exact a3.fr a1.2.1 (fun k j _ _ => hk k j (by omega) (by omega)) (fun j _ => hk 113 j (by omega) (by omega)) (hk 105 13 (by omega) (by omega))
  · have hk : ∀ k j, k ≠ 1 → ¬ (k = 105 ∧ j = 16) → (up (up w 1 1 0) 105 16 0).1 k j = w.1 k j := fun k j h1 h2 => by rw [up_get, if_neg h2, up_nc h1]
    exact a4.fr a1.2.1 (fun k j _ _ => hk k j (by omega) (by omega)) (fun j => hk 115 j (by omega) (by omega)) (hk 105 19 (by omega) (by omega)) (hk 105 20 (by omega) (by omega))
  · have hk : ∀ k j, k ≠ 1 → ¬ (k = 105 ∧ j = 16) → (up (up w 1 1 0) 105 16 0).1 k j = w.1 k j := fun k j h1 h2 => by rw [up_get, if_neg h2, up_nc h1]
    exact a5.1.fr (by decide) a1.2.1 (fun k j _ _ => hk k j (by omega) (by omega)) (fun j => hk 119 j (by omega) (by omega)) (fun j => hk 120 j (by omega) (by omega))
  · have hk : ∀ k j, k ≠ 1 → ¬ (k = 105 ∧ j = 16) → (up (up w 1 1 0) 105 16 0).1 k j = w.1 k j := fun k j h1 h2 => by rw [up_get, if_neg h2, up_nc h1]
    exact a5.2.fr (by decide) a1.2.1 (fun k j _ _ => hk k j (by omega) (by omega)) (fun j => hk 119 j (by omega) (by omega)) (fun j => hk 120 j (by omega) (by omega))
theorem s_seed (v : Int64) : Step (fun w => f_X7_seed w v) (fun w => f_X8_seed w v) := by
  intro w hw
  obtain ⟨T, W, cl, kd, a1, a2, a3, a4, a5, a6⟩ := hw
  refine ⟨w.2 0, upl w 0 v, upl (upl w 0 v) 105 v, rfl, ?_, T, W, cl, kd, a1, a2, a3, a4, a5, ?_⟩
  · show f_X8_seed _ _ = _
    unfold f_X8_seed b_X8_seed_0
    rw [nm_ok, nm_ok, upl_get, if_neg (by decide), ← a6]
  · rw [upl_get, upl_get, upl_get, if_neg (by decide), if_pos rfl, if_pos rfl]
theorem s_frost (v : Int32) (hv : bb v = true) : Step (fun w => f_X7_frost w v) (fun w => f_X8_frost w v) := by
  intro w hw
  obtain ⟨T, W, cl, kd, a1, a2, a3, a4, a5, a6⟩ := hw
  have hk : ∀ k j, ¬ (k = 18 ∧ j = 3) → ¬ (k = 105 ∧ j = 13) → (up (up w 18 3 v) 105 13 v).1 k j = w.1 k j := fun k j h1 h2 => by rw [up_get, if_neg h2, up_get, if_neg h1]
  refine ⟨if v = w.1 18 3 then 0 else 1, up w 18 3 v, up (up w 18 3 v) 105 13 v, ?_, ?_, T, W, cl, kd, ?_, ?_, ?_, ?_, ⟨?_, ?_⟩, a6⟩
  · show f_X7_frost _ _ = _
    unfold f_X7_frost b_X7_frost_0
    rw [gd_true hv, gd_true hv, nm_ok, nm_ok]
    split <;> rfl
  · show f_X8_frost _ _ = _
    unfold f_X8_frost b_X8_frost_0
    rw [nm_ok, gd_true hv, nm_ok, up_nc (by decide), ← a3.2.2.1]
    by_cases h : v = w.1 18 3
    · rw [if_pos h, if_pos h.symm]
    · rw [if_neg h, if_neg (fun z => h z.symm)]
  · exact a1.fr (fun k j _ _ => hk k j (by omega) (by omega)) (fun j _ _ => hk 105 j (by omega) (by omega)) (fun k j _ _ _ => hk k j (by omega) (by omega)) (fun j => hk 112 j (by omega) (by omega))
  · exact a2.fr (hk 1 1 (by omega) (by omega)) (fun j => hk 2 j (by omega) (by omega)) (hk 105 16 (by omega) (by omega)) (fun j => hk 114 j (by omega) (by omega))
  · obtain ⟨⟨b1, b2, b3, b4, b5, b6, -⟩, ⟨c1, c2, c3, c4, c5⟩, -, -⟩ := a3
    refine ⟨⟨?_, ?_, ?_, ?_, ?_, ?_, by rw [up_nc (by decide), up_eq]; exact bb_or hv⟩, ⟨?_, ?_, ?_, ?_, ?_⟩, ?_, ?_⟩
    · rw [hk 18 1 (by omega) (by omega)]; exact b1
    · rw [hk 18 2 (by omega) (by omega)]; exact b2
    · rw [hk (18 + 1) 0 (by omega) (by omega)]; exact b3
    · rw [hk (18 + 1) 1 (by omega) (by omega)]; exact b4
    · intro g hg; rw [hk (18 + 2) g (by omega) (by omega)]; exact b5 g hg
    · intro g hg; rw [hk (18 + 3) g (by omega) (by omega)]; exact b6 g hg
    · rw [hk 18 1 (by omega) (by omega), hk 113 0 (by omega) (by omega)]; exact c1
    · rw [hk 18 2 (by omega) (by omega), hk 113 (0 + 1) (by omega) (by omega)]; exact c2
    · rw [hk (18 + 1) 0 (by omega) (by omega), hk 113 (0 + 2) (by omega) (by omega)]; exact c3
    · rw [hk (18 + 1) 1 (by omega) (by omega), hk 113 (0 + 3) (by omega) (by omega)]; exact c4
    · intro g hg; rw [hk (18 + 2) g (by omega) (by omega), hk (18 + 3) g (by omega) (by omega), hk 113 (0 + 4 + g) (by omega) (by omega), hk 113 (0 + 8 + g) (by omega) (by omega)]; exact c5 g hg
    · rw [up_eq, up_nc (by decide), up_eq]
    · rw [up_nc (by decide), up_eq]; exact bb_or hv
  · exact a4.fr a1.2.1 (fun k j _ _ => hk k j (by omega) (by omega)) (fun j => hk 115 j (by omega) (by omega)) (hk 105 19 (by omega) (by omega)) (hk 105 20 (by omega) (by omega))
  · exact a5.1.fr (by decide) a1.2.1 (fun k j _ _ => hk k j (by omega) (by omega)) (fun j => hk 119 j (by omega) (by omega)) (fun j => hk 120 j (by omega) (by omega))
  · exact a5.2.fr (by decide) a1.2.1 (fun k j _ _ => hk k j (by omega) (by omega)) (fun j => hk 119 j (by omega) (by omega)) (fun j => hk 120 j (by omega) (by omega))
theorem s_near (v : Int32) : Step (fun w => f_X7_near w v) (fun w => f_X8_near w v) := by
  refine Step.ro (fun w T W cl kd hi => ?_)
  obtain ⟨⟨-, -, -, -, -, -, hs, -⟩, -⟩ := hi
  show ∃ r, f_X7_near w v = _ ∧ f_X8_near w v = _
  unfold f_X7_near b_X7_near_0 f_X8_near b_X8_near_0
  rcases ix v (n := 12) (by decide) with h | ⟨c, hc, rfl⟩
  · rw [isCell_no h, mIsCell_no h]
    exact ⟨-1, rfl, rfl⟩
  · rw [isCell_yes hc, mIsCell_yes hc, bd_ok, bd_ok, if_neg (by decide), if_neg (by decide), waysFrom_v hc, mNearTo_v hc, hs]
    exact ⟨_, rfl, rfl⟩
theorem add_lt {a b : Nat} : (nI a) + (nI b) = nI (a + b) := nI_add a b
theorem two_bits (x y : Int32) {t : Nat} (ht : t < 32) : ((x >>> (nI t &&& 31)) &&& 1) ||| (((y >>> (nI t &&& 31)) &&& 1) <<< ((1 : Int32) &&& 31)) = ((x >>> (nI t &&& 31)) &&& 1) + 2 * ((y >>> (nI t &&& 31)) &&& 1) := by
  rw [tb x ht, tb y ht]
  cases bt x t <;> cases bt y t <;> decide
theorem ex_same {c1 c2 : Option (Int32 × Wd)} {w : Wd} (h : ∃ r, c1 = some (r, w)) (e : c2 = c1) : ∃ r, c1 = some (r, w) ∧ c2 = some (r, w) := by
  obtain ⟨r, h⟩ := h
  exact ⟨r, h, e.trans h⟩
theorem s_trap (v u : Int32) : Step (fun w => f_X7_trap w v u) (fun w => f_X8_trap w v u) := by
  refine Step.ro (fun w T W cl kd hi => ?_)
  obtain ⟨⟨hT, hW, x0, m0, x1, m1, hs, hs2, hc, hci, hsd, hkd, hwi, hwz, hsh, hsn, hne, hg⟩, -, ⟨-, ⟨n1, n2, n3, n4, n5⟩, -⟩, -⟩ := hi
  show ∃ r, f_X7_trap w v u = _ ∧ f_X8_trap w v u = _
  unfold f_X7_trap b_X7_trap_0 f_X8_trap b_X8_trap_0
  rcases ix v (n := T) (by omega) with h | ⟨t, ht, rfl⟩
  · rw [hasTrap_no x0 h, mIsTrap_no m0 hT h]
    exact ⟨-1, rfl, rfl⟩
  · rw [hasTrap_yes x0 hT ht, mIsTrap_yes m0 hT ht, bd_ok, bd_ok, if_neg (show ¬ (1 : Int32) = 0 by decide), if_neg (show ¬ (1 : Int32) = 0 by decide)]
    simp only [gd_true (inb_nI (show t < 6 by omega) (by decide)), gd_true (inb_nI (show t < 7 by omega) (by decide)), nI_clamp (show t < 2 ^ 31 by omega)]
    rw [(hc t ht).1, (hc t ht).2.1, (hsd t ht).1, (hkd t ht).1, (hkd t ht).2.1, (hwi t ht).1, n1, n2]
    rw [show w.1 19 ((0 : Int32)).toNatClampNeg = w.1 113 ((2 : Int32)).toNatClampNeg from n3, show w.1 19 ((1 : Int32)).toNatClampNeg = w.1 113 ((3 : Int32)).toNatClampNeg from n4, two_bits _ _ (by omega)]
    refine ex_same ?_ rfl
    (repeat' split) <;> exact ⟨_, rfl⟩
theorem isFree_yes {w : Wd} {W g b : Nat} (x1 : w.1 11 1 = nI W) (hW : W ≤ 4) (hg : g < W) : f_X3_isFree b w (nI g) = some (if w.1 (b + 3) g = -9 then 1 else 0, w) := by
  unfold f_X3_isFree b_X3_isFree_0
  rw [hasWalker_yes x1 hW hg, bd_ok, if_neg (by decide), gd_true (inb_nI (show g < 4 by omega) (by decide)), nI_clamp (by omega)]
  split <;> rfl
theorem isFree_no {w : Wd} {W b : Nat} {v : Int32} (x1 : w.1 11 1 = nI W) (h : v < 0 ∨ nI W ≤ v) : f_X3_isFree b w v = some (0, w) := by
  unfold f_X3_isFree b_X3_isFree_0
  rw [hasWalker_no x1 h, bd_ok, if_pos rfl]
theorem lit_add {a : Nat} (k : Int32) {b : Nat} (hk : k = nI b) : k + nI a = nI (b + a) := by rw [hk, nI_add]
theorem s_walker (v u : Int32) : Step (fun w => f_X7_walker w v u) (fun w => f_X8_walker w v u) := by
  refine Step.ro (fun w T W cl kd hi => ?_)
  obtain ⟨⟨hT, hW, x0, m0, x1, m1, hs, hs2, hc, hci, hsd, hkd, hwi, hwz, hsh, hsn, hne, hg⟩, -, ⟨-, ⟨n1, n2, n3, n4, n5⟩, -⟩, -⟩ := hi
  show ∃ r, f_X7_walker w v u = _ ∧ f_X8_walker w v u = _
  unfold f_X7_walker b_X7_walker_0 f_X8_walker b_X8_walker_0
  rcases ix v (n := W) (by omega) with h | ⟨g, hgW, rfl⟩
  · rw [hasWalker_no x1 h, mIsWalker_no m1 hW h]
    exact ⟨-1, rfl, rfl⟩
  · rw [hasWalker_yes x1 hW hgW, mIsWalker_yes m1 hW hgW, bd_ok, bd_ok, if_neg (show ¬ (1 : Int32) = 0 by decide), if_neg (show ¬ (1 : Int32) = 0 by decide), isFree_yes x1 hW hgW, bd_ok, lit_add 4 (b := 4) rfl, lit_add 8 (b := 8) rfl]
    have e4 := (n5 g hgW).1
    have e8 := (n5 g hgW).2
    rw [Nat.zero_add] at e4 e8
    simp only [gd_true (inb_nI (show g < 4 by omega) (by decide)), gd_true (inb_nI (show 4 + g < 72 by omega) (by decide)), gd_true (inb_nI (show 8 + g < 72 by omega) (by decide)), nI_clamp (show g < 2 ^ 31 by omega), nI_clamp (show 4 + g < 2 ^ 31 by omega), nI_clamp (show 8 + g < 2 ^ 31 by omega)]
    rw [show w.1 20 g = w.1 113 (4 + g) from e4, show w.1 21 g = w.1 113 (8 + g) from e8, (hg g hgW).1]
    have hb : (if (if w.1 113 (8 + g) = -9 then (1 : Int32) else 0) = 0 then some ((1 : Int32), w) else some (0, w)) = (if w.1 113 (8 + g) = -9 then some (0, w) else some (1, w)) := by
      by_cases hb : w.1 113 (8 + g) = -9
      · rw [if_pos hb, if_neg (by decide), if_pos hb]
      · rw [if_neg hb, if_pos rfl, if_neg hb]
    rw [hb]
    refine ex_same ?_ rfl
    (repeat' split) <;> exact ⟨_, rfl⟩
/-- who is caught, as bits -/
theorem caught_v {w : Wd} {W b : Nat} (x1 : w.1 11 1 = nI W) (hW : W ≤ 4) : f_X3_caught b w = some (mk (fun g => !decide (w.1 (b + 3) g = -9)) W, w) := by
  unfold f_X3_caught b_X3_caught_0
  have key : ∀ (n t : Nat), W - t < n → t ≤ W → b_X3_caught_4 b n w (mk (fun g => !decide (w.1 (b + 3) g = -9)) t) (nI t) = some (mk (fun g => !decide (w.1 (b + 3) g = -9)) W, w) := by
    intro n
    induction n with
    | zero => intro t h; omega
    | succ n ih =>
      intro t hn ht
      rw [b_X3_caught_4]
      by_cases h : t = W
      · subst h
        by_cases h9 : (4 : Int32) ≤ nI t
        · rw [if_pos h9]
        · rw [if_neg h9, x1, if_pos (nI_le (Nat.le_refl t) (by omega))]
      · have hlt : t < W := by omega
        rw [if_neg (show ¬ (4 : Int32) ≤ nI t from nI_ge (b := 4) (by omega) (by omega)), x1, if_neg (nI_ge hlt (by omega)), gd_true (inb_nI (by omega) (by omega)), nI_clamp (by omega)]
        unfold b_X3_caught_39
        simp only [nm_ok, nI_1]
        have ih' := ih (t + 1) (by omega) (by omega)
        rw [mk] at ih'
        by_cases hb : w.1 (b + 3) t = -9
        · rw [if_pos hb]
          simpa [hb] using ih'
        · rw [if_neg hb]
          simpa [hb] using ih'
  exact key LF 0 (by unfold LF; omega) (by omega)
theorem mCount_v {w : Wd} {W : Nat} {v : Int32} (m1 : w.1 105 11 = nI W) (hW : W ≤ 4) : ∀ (n t : Nat), W - t < n → t ≤ W → b_X8_count_4 n w v (mk (fun g => !decide (w.1 113 (8 + g) = -9)) t) (nI t) = b_X8_count_4 (W + 1) w v (mk (fun g => !decide (w.1 113 (8 + g) = -9)) W) (nI W) := by
  intro n
  induction n with
  | zero => intro t h; omega
  | succ n ih =>
    intro t hn ht
    by_cases h : t = W
    · subst h
      rw [b_X8_count_4, b_X8_count_4, m1, if_pos (nI_le (Nat.le_refl t) (by omega)), if_pos (nI_le (Nat.le_refl t) (by omega))]
    · have hlt : t < W := by omega
      rw [b_X8_count_4, m1, if_neg (nI_ge hlt (by omega)), lit_add 8 (b := 8) rfl, gd_true (inb_nI (by omega) (by omega)), nI_clamp (by omega)]
      unfold b_X8_count_34
      simp only [nm_ok, nI_1]
      have ih' := ih (t + 1) (by omega) (by omega)
      rw [mk] at ih'
      by_cases hb : w.1 113 (8 + t) = -9
      · rw [if_pos hb]
        simpa [hb] using ih'
      · rw [if_neg hb]
        simpa [hb] using ih'
theorem s_count (v : Int32) : Step (fun w => f_X7_count w v) (fun w => f_X8_count w v) := by
  refine Step.ro (fun w T W cl kd hi => ?_)
  obtain ⟨⟨hT, hW, x0, m0, x1, m1, hs, hs2, hc, hci, hsd, hkd, hwi, hwz, hsh, hsn, hne, hg⟩, ⟨len, -, t2, t3, -⟩, ⟨-, ⟨n1, n2, n3, n4, n5⟩, n6, n7⟩, ⟨A, Q, N, -, -, -, q4, q5, -⟩, -⟩ := hi
  show ∃ r, f_X7_count w v = _ ∧ f_X8_count w v = _
  unfold f_X7_count b_X7_count_0 f_X8_count b_X8_count_0
  rw [show b_X8_count_4 LF w v 0 0 = b_X8_count_4 LF w v (mk (fun g => !decide (w.1 113 (8 + g) = -9)) 0) (nI 0) from rfl, mCount_v m1 hW LF 0 (by unfold LF; omega) (by omega), b_X8_count_4, m1, if_pos (nI_le (Nat.le_refl W) (by omega)), caught_v x1 hW, bd_ok]
  have ec : mk (fun g => !decide (w.1 (18 + 3) g = -9)) W = mk (fun g => !decide (w.1 113 (8 + g) = -9)) W := mk_cong W (fun g hgW => by
    have := (n5 g hgW).2
    rw [Nat.zero_add] at this
    rw [this])
  rw [ec, t2, t3, x0, m0, x1, n1, hs, q4, q5, n6, show w.1 19 ((0 : Int32)).toNatClampNeg = w.1 113 ((2 : Int32)).toNatClampNeg from n3, show w.1 19 ((1 : Int32)).toNatClampNeg = w.1 113 ((3 : Int32)).toNatClampNeg from n4]
  refine ex_same ?_ rfl
  (repeat' split) <;> exact ⟨_, rfl⟩
