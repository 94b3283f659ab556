/-! one byte of a long, by either shift -/
def byX (v : Int64) (k : Int32) : Int32 := (((v).toUInt64 >>> ((((8 : Int32)) * k).toInt64.toUInt64 &&& Int64.toUInt64 63)).toInt64).toInt32 &&& (255 : Int32)
def byM (v : Int64) (k : Int32) : Int32 := ((v >>> ((((8 : Int32)) * k).toInt64 &&& 63)) &&& (255 : Int64)).toInt32
theorem s8u : ∀ k, k < 8 → ((((8 : Int32) * nI k).toInt64.toUInt64 &&& Int64.toUInt64 63).toBitVec % 64).toNat = 8 * k := by decide +kernel
theorem s8s : ∀ k, k < 8 → ((((8 : Int32) * nI k).toInt64 &&& 63).toBitVec.smod 64).toNat = 8 * k := by decide +kernel
theorem l255 : ∀ i, i < 32 → (255 : Int64).toBitVec.getLsbD i = decide (i < 8) := by decide +kernel
theorem by_eq (v : Int64) {k : Nat} (hk : k < 8) : byX v (nI k) = byM v (nI k) := by
  apply b_ext
  intro i hi
  unfold byX byM
  rw [b_and, b_255]
  unfold bt
  rw [Int64.toBitVec_toInt32, Int64.toBitVec_toInt32, BitVec.getLsbD_signExtend, BitVec.getLsbD_signExtend, if_pos (by omega), if_pos (by omega), Int64.toBitVec_and, BitVec.getLsbD_and, l255 i hi]
  have e1 : (v.toUInt64 >>> (((8 : Int32) * nI k).toInt64.toUInt64 &&& Int64.toUInt64 63)).toInt64.toBitVec.getLsbD i = v.toBitVec.getLsbD (8 * k + i) := by
    show (v.toUInt64 >>> (((8 : Int32) * nI k).toInt64.toUInt64 &&& Int64.toUInt64 63)).toBitVec.getLsbD i = v.toUInt64.toBitVec.getLsbD (8 * k + i)
    rw [UInt64.toBitVec_shiftRight]
    show (v.toUInt64.toBitVec >>> ((((8 : Int32) * nI k).toInt64.toUInt64 &&& Int64.toUInt64 63).toBitVec % 64).toNat).getLsbD i = _
    rw [s8u k hk, BitVec.getLsbD_ushiftRight]
  have e2 : i < 8 → (v >>> (((8 : Int32) * nI k).toInt64 &&& 63)).toBitVec.getLsbD i = v.toBitVec.getLsbD (8 * k + i) := fun h8 => by
    rw [Int64.toBitVec_shiftRight]
    show (v.toBitVec.sshiftRight ((((8 : Int32) * nI k).toInt64 &&& 63).toBitVec.smod 64).toNat).getLsbD i = _
    rw [s8s k hk, BitVec.getLsbD_sshiftRight, if_pos (by omega), decide_eq_false (by omega)]
    rfl
  rw [e1]
  by_cases h8 : i < 8
  · rw [e2 h8]
    simp only [Bool.and_assoc]
  · rw [decide_eq_false h8]; simp
theorem by_b (v : Int64) (k : Int32) : ∃ b, b < 256 ∧ byX v k = nI b := by
  obtain ⟨x, hx⟩ : ∃ z, z = byX v k := ⟨_, rfl⟩
  rw [← hx]
  have hb : ∀ i, bt x i = true → i < 8 := fun i hi => by
    rw [hx] at hi
    unfold byX at hi
    rw [b_and, b_255, Bool.and_eq_true] at hi
    simpa using hi.2
  have e : x = nI x.toBitVec.toNat := by
    apply Int32.toBitVec_inj.1
    show x.toBitVec = BitVec.ofNat 32 x.toBitVec.toNat
    simp
  refine ⟨x.toBitVec.toNat, ?_, e⟩
  refine Nat.lt_pow_two_of_testBit (n := 8) _ (fun i hi => ?_)
  cases hb9 : x.toBitVec.toNat.testBit i
  · rfl
  · exact absurd (hb i hb9) (by omega)
theorem m1_neg : ∀ m, m < 9 → 0 < m → nI m - 1 = nI (m - 1) := fun m _ h => sub1 h
theorem append_c {v : Int64} : ∀ (n m len : Nat) (w : Wd), m < n → m ≤ 8 → len + m ≤ 64 → w.1 1 1 = nI len → ∃ w1, b_X5_append_5 n w v (nI m - 1) = some (nI (len + m), w1) ∧ w1.1 1 1 = nI (len + m) ∧ Only (fun k j => (k = 2 ∧ len ≤ j ∧ j < len + m) ∨ (k = 1 ∧ j = 1)) w w1 ∧ ∀ j, j < m → w1.1 2 (len + j) = byX v (nI (m - 1 - j)) := by
  intro n
  induction n with
  | zero => intro m len w h; omega
  | succ n ih =>
    intro m len w hn hm hl e1
    rw [b_X5_append_5]
    by_cases h : m = 0
    · subst h
      rw [if_pos (show nI 0 - 1 < 0 by decide), e1]
      exact ⟨w, rfl, e1, Only.rf, fun j hj => by omega⟩
    · rw [sub1 (by omega), if_neg (nI_lt0 _ (by omega)), e1, if_neg (nI_lt0 _ (by omega)), if_neg (show ¬ (64 : Int32) ≤ nI len from nI_ge (b := 64) (by omega) (by decide)), gd_true (inb_nI (by omega) (by decide)), nI_clamp (by omega)]
      simp only [nm_ok]
      rw [up_nc (k := 2) (a := 1) (by decide), e1, nI_1, show nI (m - 1) + (-1) = nI (m - 1) - 1 from (Int32.sub_eq_add_neg _ _).symm]
      obtain ⟨w1, f1, f2, f3, f4⟩ := ih (m - 1) (len + 1) (up (up w 2 len (byX v (nI (m - 1)))) 1 1 (nI (len + 1))) (by omega) (by omega) (by omega) up_eq
      rw [show len + 1 + (m - 1) = len + m by omega] at f1 f2 f3
      refine ⟨w1, f1, f2, ((Only.rf.up (Or.inl ⟨rfl, by omega, by omega⟩)).up (Or.inr ⟨rfl, rfl⟩)).tr (f3.wd (fun k j z => by omega)), fun j hj => ?_⟩
      by_cases hj0 : j = 0
      · subst hj0
        rw [f3.1 2 (len + 0) (by omega), up_nc (by decide), Nat.add_zero, up_eq, Nat.sub_zero]
      · have := f4 (j - 1) (by omega)
        rw [show len + 1 + (j - 1) = len + j by omega, show m - 1 - 1 - (j - 1) = m - 1 - j by omega] at this
        exact this
theorem write_c {v : Int64} : ∀ (n m len : Nat) (w : Wd), m < n → m ≤ 8 → len + m ≤ 64 → w.1 105 16 = nI len → ∃ w1, b_X8_write_34 n w v (nI m - 1) = some (nI (len + m), w1) ∧ w1.1 105 16 = nI (len + m) ∧ Only (fun k j => (k = 114 ∧ len ≤ j ∧ j < len + m) ∨ (k = 105 ∧ j = 16)) w w1 ∧ ∀ j, j < m → w1.1 114 (len + j) = byM v (nI (m - 1 - j)) := by
  intro n
  induction n with
  | zero => intro m len w h; omega
  | succ n ih =>
    intro m len w hn hm hl e1
    rw [b_X8_write_34]
    by_cases h : m = 0
    · subst h
      rw [if_pos (show nI 0 - 1 < 0 by decide), e1]
      exact ⟨w, rfl, e1, Only.rf, fun j hj => by omega⟩
    · rw [sub1 (by omega), if_neg (nI_lt0 _ (by omega)), e1, gd_true (inb_nI (by omega) (by decide)), nI_clamp (by omega)]
      simp only [nm_ok]
      rw [up_nc (k := 114) (a := 105) (by decide), e1, nI_1, show nI (m - 1) + (-1) = nI (m - 1) - 1 from (Int32.sub_eq_add_neg _ _).symm]
      obtain ⟨w1, f1, f2, f3, f4⟩ := ih (m - 1) (len + 1) (up (up w 114 len (byM v (nI (m - 1)))) 105 16 (nI (len + 1))) (by omega) (by omega) (by omega) up_eq
      rw [show len + 1 + (m - 1) = len + m by omega] at f1 f2 f3
      refine ⟨w1, f1, f2, ((Only.rf.up (Or.inl ⟨rfl, by omega, by omega⟩)).up (Or.inr ⟨rfl, rfl⟩)).tr (f3.wd (fun k j z => by omega)), fun j hj => ?_⟩
      by_cases hj0 : j = 0
      · subst hj0
        rw [f3.1 114 (len + 0) (by omega), up_nc (by decide), Nat.add_zero, up_eq, Nat.sub_zero]
      · have := f4 (j - 1) (by omega)
        rw [show len + 1 + (j - 1) = len + j by omega, show m - 1 - 1 - (j - 1) = m - 1 - j by omega] at this
        exact this
theorem s_write (v : Int32) (u : Int64) : Step (fun w => f_X7_write w v u) (fun w => f_X8_write w v u) := by
  intro w hw
  obtain ⟨T, W, cl, kd, hi⟩ := hw
  have hi0 := hi
  obtain ⟨a1, ⟨len, t1, t2, t3, t4⟩, a3, a4, a5, a6⟩ := hi
  have hW := a1.2.1
  show ∃ r w1 w2, f_X7_write w v u = _ ∧ f_X8_write w1 v u = _ ∧ _
  have hin : ∀ z : Wd, f_X8_in z v.toInt64 1 8 = some (if (1 : Int32) ≤ v ∧ v ≤ 8 then 1 else 0, z) := fun z => in_i z v 1 8
  by_cases h1 : v < 1
  · refine ⟨-2, w, w, ?_, ?_, T, W, cl, kd, hi0⟩
    · unfold f_X7_write b_X7_write_0
      rw [if_pos h1]
    · unfold f_X8_write b_X8_write_0
      rw [hin, bd_ok, if_neg (show ¬ ((1 : Int32) ≤ v ∧ v ≤ 8) from fun z => by have := z.1; rw [i_le] at this; rw [i_lt] at h1; omega), if_pos rfl]
  · by_cases h8 : v ≤ 8
    · obtain ⟨m, hm1, hm8, rfl⟩ : ∃ m, 1 ≤ m ∧ m ≤ 8 ∧ v = nI m := by
        rcases ix v (n := 9) (by omega) with h | ⟨j, hj, rfl⟩
        · exfalso
          rw [i_lt] at h1
          rw [i_le] at h8
          have e1 : (1 : Int32).toInt = 1 := rfl
          have e8 : (8 : Int32).toInt = 8 := rfl
          have e0 : (0 : Int32).toInt = 0 := rfl
          have e9 : (nI 9).toInt = 9 := rfl
          rcases h with h | h
          · rw [i_lt] at h; omega
          · rw [i_le] at h; omega
        · refine ⟨j, ?_, by omega, rfl⟩
          rcases Nat.eq_zero_or_pos j with q | q
          · subst q; exact absurd (show nI 0 < 1 by decide) h1
          · exact q
      have hle1 : (1 : Int32) ≤ nI m := nI_le (a := 1) hm1 (by omega)
      by_cases hl : len + m ≤ 64
      · obtain ⟨x2, f1, f2, f3, f4⟩ := append_c (v := u) LF m len w (by unfold LF; omega) hm8 hl t2
        obtain ⟨y2, g1, g2, g3, g4⟩ := write_c (v := u) LF m len x2 (by unfold LF; omega) hm8 hl (by rw [f3.1 105 16 (by omega)]; exact t3)
        have f0 : ∀ k j, k ≠ 1 → k ≠ 2 → k ≠ 114 → ¬ (k = 105 ∧ j = 16) → y2.1 k j = w.1 k j := fun k j h1 h2 h3 h4 => by rw [g3.1 k j (by omega), f3.1 k j (by omega)]
        refine ⟨nI (len + m), x2, y2, ?_, ?_, T, W, cl, kd, ?_, ?_, ?_, ?_, ⟨?_, ?_⟩, ?_⟩
        · unfold f_X7_write b_X7_write_0 f_X5_append b_X5_append_0
          rw [if_neg h1, if_pos h8, t2, nI_add, if_pos (show nI (len + m) ≤ 64 from nI_le (b := 64) hl (by decide)), nm_ok, f1, bd_ok]
        · unfold f_X8_write b_X8_write_0
          rw [hin, if_pos (show (1 : Int32) ≤ nI m ∧ nI m ≤ 8 from ⟨hle1, h8⟩), bd_ok, if_neg (show ¬ (1 : Int32) = 0 by decide), show x2.1 105 16 = nI len by rw [f3.1 105 16 (by omega)]; exact t3, nI_add, if_pos (show nI (len + m) ≤ 64 from nI_le (b := 64) hl (by decide)), nm_ok, g1]
        · exact a1.fr (fun k j _ _ => f0 k j (by omega) (by omega) (by omega) (by omega)) (fun j _ _ => f0 105 j (by omega) (by omega) (by omega) (by omega)) (fun k j _ _ _ => f0 k j (by omega) (by omega) (by omega) (by omega)) (fun j => f0 112 j (by omega) (by omega) (by omega) (by omega))
        · refine ⟨len + m, hl, by rw [g3.1 1 1 (by omega)]; exact f2, g2, fun j hj => ?_⟩
          rw [g3.1 2 j (by omega)]
          by_cases hjl : j < len
          · rw [f3.1 2 j (by omega), g3.1 114 j (by omega), f3.1 114 j (by omega)]
            exact t4 j hjl
          · have q1 := f4 (j - len) (by omega)
            have q2 := g4 (j - len) (by omega)
            rw [show len + (j - len) = j by omega] at q1 q2
            rw [q1, q2]
            exact ⟨by_eq u (by omega), by_b u _⟩
        · exact a3.fr hW (fun k j _ _ => f0 k j (by omega) (by omega) (by omega) (by omega)) (fun j _ => f0 113 j (by omega) (by omega) (by omega) (by omega)) (f0 105 13 (by omega) (by omega) (by omega) (by omega))
        · exact a4.fr hW (fun k j _ _ => f0 k j (by omega) (by omega) (by omega) (by omega)) (fun j => f0 115 j (by omega) (by omega) (by omega) (by omega)) (f0 105 19 (by omega) (by omega) (by omega) (by omega)) (f0 105 20 (by omega) (by omega) (by omega) (by omega))
        · exact a5.1.fr (by decide) hW (fun k j _ _ => f0 k j (by omega) (by omega) (by omega) (by omega)) (fun j => f0 119 j (by omega) (by omega) (by omega) (by omega)) (fun j => f0 120 j (by omega) (by omega) (by omega) (by omega))
        · exact a5.2.fr (by decide) hW (fun k j _ _ => f0 k j (by omega) (by omega) (by omega) (by omega)) (fun j => f0 119 j (by omega) (by omega) (by omega) (by omega)) (fun j => f0 120 j (by omega) (by omega) (by omega) (by omega))
        · rw [g3.2, f3.2]; exact a6
      · refine ⟨-4, w, w, ?_, ?_, T, W, cl, kd, hi0⟩
        · unfold f_X7_write b_X7_write_0
          rw [if_neg h1, if_pos h8, t2, nI_add, if_neg (show ¬ nI (len + m) ≤ 64 from nI_ge (a := 64) (by omega) (by omega))]
        · unfold f_X8_write b_X8_write_0
          rw [hin, if_pos (show (1 : Int32) ≤ nI m ∧ nI m ≤ 8 from ⟨hle1, h8⟩), bd_ok, if_neg (show ¬ (1 : Int32) = 0 by decide), t3, nI_add, if_neg (show ¬ nI (len + m) ≤ 64 from nI_ge (a := 64) (by omega) (by omega))]
    · refine ⟨-2, w, w, ?_, ?_, T, W, cl, kd, hi0⟩
      · unfold f_X7_write b_X7_write_0
        rw [if_neg h1, if_neg h8]
      · unfold f_X8_write b_X8_write_0
        rw [hin, if_neg (show ¬ ((1 : Int32) ≤ v ∧ v ≤ 8) from fun z => h8 z.2), bd_ok, if_pos rfl]
