def bt (x : Int32) (i : Nat) : Bool := x.toBitVec.getLsbD i
theorem b_ext {x y : Int32} (h : ∀ i, i < 32 → bt x i = bt y i) : x = y := Int32.toBitVec_inj.mp (BitVec.eq_of_getLsbD_eq (fun i hi => h i hi))
theorem b_or (x y : Int32) (i : Nat) : bt (x ||| y) i = (bt x i || bt y i) := by unfold bt; rw [Int32.toBitVec_or, BitVec.getLsbD_or]
theorem b_and (x y : Int32) (i : Nat) : bt (x &&& y) i = (bt x i && bt y i) := by unfold bt; rw [Int32.toBitVec_and, BitVec.getLsbD_and]
theorem b_xor (x y : Int32) (i : Nat) : bt (x ^^^ y) i = (bt x i ^^ bt y i) := by unfold bt; rw [Int32.toBitVec_xor, BitVec.getLsbD_xor]
theorem b_big {x : Int32} {i : Nat} (h : 32 ≤ i) : bt x i = false := BitVec.getLsbD_of_ge _ _ h
theorem b_255 (i : Nat) : bt 255 i = decide (i < 8) := by
  rcases Nat.lt_or_ge i 32 with h | h
  · exact (by decide +kernel : ∀ i, i < 32 → bt 255 i = decide (i < 8)) i h
  · rw [b_big h, decide_eq_false (by omega)]
theorem b_65535 (i : Nat) : bt 65535 i = decide (i < 16) := by
  rcases Nat.lt_or_ge i 32 with h | h
  · exact (by decide +kernel : ∀ i, i < 32 → bt 65535 i = decide (i < 16)) i h
  · rw [b_big h, decide_eq_false (by omega)]
theorem b_m1 : ∀ i, i < 32 → bt (-1) i = true := by decide +kernel
theorem b_0 (i : Nat) : bt 0 i = false := BitVec.getLsbD_zero
theorem s_l : ∀ n, n < 32 → ((nI n &&& 31).toBitVec.smod 32).toNat = n := by decide +kernel
theorem s_u : ∀ n, n < 32 → (((nI n).toUInt32 &&& Int32.toUInt32 31).toBitVec % 32).toNat = n := by decide +kernel
theorem b_shl (n : Nat) (hn : n < 32) (x : Int32) {i : Nat} (hi : i < 32) : bt (x <<< (nI n &&& 31)) i = (decide (n ≤ i) && bt x (i - n)) := by
  unfold bt
  rw [Int32.toBitVec_shiftLeft]
  show (x.toBitVec <<< ((nI n &&& 31).toBitVec.smod 32).toNat).getLsbD i = _
  rw [s_l n hn, BitVec.getLsbD_shiftLeft]
  rcases Nat.lt_or_ge i n with h | h
  · simp [h, Nat.not_le.mpr h]
  · simp [hi, h, Nat.not_lt.mpr h]
theorem b_ushr (n : Nat) (hn : n < 32) (x : Int32) (i : Nat) : bt ((x.toUInt32 >>> ((nI n).toUInt32 &&& Int32.toUInt32 31)).toInt32) i = bt x (n + i) := by
  show (x.toUInt32 >>> ((nI n).toUInt32 &&& Int32.toUInt32 31)).toBitVec.getLsbD i = x.toUInt32.toBitVec.getLsbD (n + i)
  rw [UInt32.toBitVec_shiftRight]
  show (x.toUInt32.toBitVec >>> (((nI n).toUInt32 &&& Int32.toUInt32 31).toBitVec % 32).toNat).getLsbD i = _
  rw [s_u n hn, BitVec.getLsbD_ushiftRight]
theorem b_sshr (n : Nat) (hn : n < 32) (x : Int32) {i : Nat} (hi : i < 32) : bt (x >>> (nI n &&& 31)) i = if n + i < 32 then bt x (n + i) else bt x 31 := by
  unfold bt
  rw [Int32.toBitVec_shiftRight]
  show (x.toBitVec.sshiftRight ((nI n &&& 31).toBitVec.smod 32).toNat).getLsbD i = _
  rw [s_l n hn, BitVec.getLsbD_sshiftRight, BitVec.msb_eq_getLsbD_last]
  simp [hi]
theorem b_shl8 (x : Int32) {i : Nat} (hi : i < 32) : bt (x <<< ((8 : Int32) &&& 31)) i = (decide (8 ≤ i) && bt x (i - 8)) := b_shl 8 (by omega) x hi
theorem b_shl16 (x : Int32) {i : Nat} (hi : i < 32) : bt (x <<< ((16 : Int32) &&& 31)) i = (decide (16 ≤ i) && bt x (i - 16)) := b_shl 16 (by omega) x hi
theorem b_shl24 (x : Int32) {i : Nat} (hi : i < 32) : bt (x <<< ((24 : Int32) &&& 31)) i = (decide (24 ≤ i) && bt x (i - 24)) := b_shl 24 (by omega) x hi
theorem b_sshr8 (x : Int32) {i : Nat} (hi : i < 32) : bt (x >>> ((8 : Int32) &&& 31)) i = if 8 + i < 32 then bt x (8 + i) else bt x 31 := b_sshr 8 (by omega) x hi
theorem up_eq {w : Wd} {k j : Nat} {x : Int32} : (up w k j x).1 k j = x := by simp [up, va_up, upd]
theorem up_nc {w : Wd} {k j a : Nat} {x : Int32} (h : a ≠ k) : (up w k j x).1 a = w.1 a := by simp [up, va_up, h]
theorem up_ns {w : Wd} {k j b : Nat} {x : Int32} (h : b ≠ j) : (up w k j x).1 k b = w.1 k b := by simp [up, va_up, upd, h]
theorem up_get (w : Wd) (k j a b : Nat) (x : Int32) : (up w k j x).1 a b = if a = k ∧ b = j then x else w.1 a b := by
  by_cases h : a = k
  · subst h
    by_cases h2 : b = j
    · subst h2; rw [up_eq, if_pos ⟨rfl, rfl⟩]
    · rw [up_ns h2, if_neg (fun z => h2 z.2)]
  · rw [up_nc h, if_neg (fun z => h z.1)]
theorem up_2 {w : Wd} {k j : Nat} {x : Int32} : (up w k j x).2 = w.2 := rfl
theorem upl_1 {w : Wd} {k : Nat} {x : Int64} : (upl w k x).1 = w.1 := rfl
theorem upl_get (w : Wd) (k a : Nat) (x : Int64) : (upl w k x).2 a = if a = k then x else w.2 a := rfl
theorem bd_ok {α β : Type} {r : α} {w : Wd} {k : α → Wd → Option β} : bd (some (r, w)) k = k r w := rfl
theorem bv_ok {β : Type} {w : Wd} {k : Wd → Option β} : bv (some w) k = k w := rfl
theorem nm_ok {α β : Type} {e : α} {k : α → β} : nm e k = k e := rfl
theorem inb_nI {i n : Nat} (h : i < n) (hn : n < 2 ^ 31) : inb (nI i) n = true := decide_eq_true (nI_in h hn)
theorem lit (n : Nat) : (OfNat.ofNat n : Int32) = nI n := rfl
/-- one bit of a set -/
theorem tb (x : Int32) {t : Nat} (ht : t < 32) : (x >>> (nI t &&& 31)) &&& 1 = if bt x t then 1 else 0 := by
  apply b_ext
  intro i hi
  rw [b_and, b_sshr t ht x hi]
  have h1 : bt 1 i = decide (i = 0) := (by decide +kernel : ∀ i, i < 32 → bt 1 i = decide (i = 0)) i hi
  rw [h1]
  by_cases h : i = 0
  · subst h
    rw [if_pos (by omega), Nat.add_zero]
    cases bt x t <;> rfl
  · rw [decide_eq_false h, Bool.and_false]
    cases bt x t
    · exact (b_0 i).symm
    · rw [if_pos rfl, h1, decide_eq_false h]
theorem tb0 (x : Int32) {t : Nat} (ht : t < 32) : ((x >>> (nI t &&& 31)) &&& 1 = 0) ↔ bt x t = false := by
  rw [tb x ht]
  cases bt x t <;> simp
theorem tb1 (x : Int32) {t : Nat} (ht : t < 32) : ((x >>> (nI t &&& 31)) &&& 1 = 1) ↔ bt x t = true := by
  rw [tb x ht]
  cases bt x t <;> simp
theorem b_one {t i : Nat} (ht : t < 32) (hi : i < 32) : bt ((1 : Int32) <<< (nI t &&& 31)) i = decide (i = t) := by
  rw [b_shl t ht 1 hi]
  have h1 : ∀ j, j < 32 → bt 1 j = decide (j = 0) := by decide +kernel
  rw [h1 (i - t) (by omega)]
  by_cases h : i = t
  · subst h; simp
  · rw [decide_eq_false h]
    by_cases h2 : t ≤ i
    · rw [decide_eq_false (show ¬ i - t = 0 by omega), Bool.and_false]
    · rw [decide_eq_false h2, Bool.false_and]
theorem b_not (x : Int32) {i : Nat} (hi : i < 32) : bt (x ^^^ (-1)) i = !bt x i := by
  rw [b_xor, b_m1 i hi]
  cases bt x i <;> rfl
/-- the first T bits -/
theorem b_all : ∀ T, T < 7 → ∀ i, i < 32 → bt (((1 : Int32) <<< (nI T &&& 31)) - 1) i = decide (i < T) := by decide +kernel
theorem b_ite (c : Prop) [Decidable c] (x y : Int32) (i : Nat) : bt (if c then x else y) i = if c then bt x i else bt y i := by
  by_cases h : c
  · rw [if_pos h, if_pos h]
  · rw [if_neg h, if_neg h]
theorem nI_lt0 (n : Nat) (h : n < 2 ^ 31) : ¬ nI n < 0 := nI_pos h
/-- what a number is, of n things -/
theorem ix (v : Int32) {n : Nat} (hn : n < 2 ^ 31) : (v < 0 ∨ nI n ≤ v) ∨ ∃ j, j < n ∧ v = nI j := by
  rcases pk_ix v hn with h | h | h
  · exact Or.inl (Or.inl h)
  · exact Or.inl (Or.inr h)
  · exact Or.inr h
theorem le_tr {a b c : Int32} (h : a ≤ b) (h2 : b ≤ c) : a ≤ c := Int32.le_trans h h2
theorem hasTrap_yes {p : Nat} {w : Wd} {T t : Nat} (hT : w.1 p 0 = nI T) (h6 : T ≤ 6) (ht : t < T) : f_X1_hasTrap p w (nI t) = some (1, w) := by
  unfold f_X1_hasTrap b_X1_hasTrap_0
  rw [if_neg (nI_lt0 t (by omega)), hT, if_neg (nI_ge ht (by omega)), if_neg (show ¬ (6 : Int32) ≤ nI t from nI_ge (b := 6) (by omega) (by omega))]
theorem hasTrap_no {p : Nat} {w : Wd} {T : Nat} {v : Int32} (hT : w.1 p 0 = nI T) (hv : v < 0 ∨ nI T ≤ v) : f_X1_hasTrap p w v = some (0, w) := by
  unfold f_X1_hasTrap b_X1_hasTrap_0
  rcases hv with h | h
  · rw [if_pos h]
  · by_cases h0 : v < 0
    · rw [if_pos h0]
    · rw [if_neg h0, hT, if_pos h]
theorem hasWalker_yes {p : Nat} {w : Wd} {T t : Nat} (hT : w.1 p 1 = nI T) (h6 : T ≤ 4) (ht : t < T) : f_X1_hasWalker p w (nI t) = some (1, w) := by
  unfold f_X1_hasWalker b_X1_hasWalker_0
  rw [if_neg (nI_lt0 t (by omega)), hT, if_neg (nI_ge ht (by omega)), if_neg (show ¬ (4 : Int32) ≤ nI t from nI_ge (b := 4) (by omega) (by omega))]
theorem hasWalker_no {p : Nat} {w : Wd} {T : Nat} {v : Int32} (hT : w.1 p 1 = nI T) (hv : v < 0 ∨ nI T ≤ v) : f_X1_hasWalker p w v = some (0, w) := by
  unfold f_X1_hasWalker b_X1_hasWalker_0
  rcases hv with h | h
  · rw [if_pos h]
  · by_cases h0 : v < 0
    · rw [if_pos h0]
    · rw [if_neg h0, hT, if_pos h]
theorem isCell_yes {w : Wd} {c : Nat} (h : c < 12) : f_X7_isCell w (nI c) = some (1, w) := by
  unfold f_X7_isCell b_X7_isCell_0
  rw [if_neg (nI_lt0 c (by omega)), if_neg (show ¬ (12 : Int32) ≤ nI c from nI_ge (b := 12) h (by omega))]
theorem isCell_no {w : Wd} {v : Int32} (hv : v < 0 ∨ (12 : Int32) ≤ v) : f_X7_isCell w v = some (0, w) := by
  unfold f_X7_isCell b_X7_isCell_0
  rcases hv with h | h
  · rw [if_pos h]
  · by_cases h0 : v < 0
    · rw [if_pos h0]
    · rw [if_neg h0, if_pos h]
theorem isSide_yes {w : Wd} {c : Nat} (h : c < 2) : f_X7_isSide w (nI c) = some (1, w) := by
  unfold f_X7_isSide b_X7_isSide_0
  rw [if_neg (nI_lt0 c (by omega)), if_neg (show ¬ (2 : Int32) ≤ nI c from nI_ge (b := 2) h (by omega))]
theorem isSide_no {w : Wd} {v : Int32} (hv : v < 0 ∨ (2 : Int32) ≤ v) : f_X7_isSide w v = some (0, w) := by
  unfold f_X7_isSide b_X7_isSide_0
  rcases hv with h | h
  · rw [if_pos h]
  · by_cases h0 : v < 0
    · rw [if_pos h0]
    · rw [if_neg h0, if_pos h]
theorem isSlot_yes {w : Wd} {c : Nat} (h : c < 2) : f_X7_isSlot w (nI c) = some (1, w) := by
  unfold f_X7_isSlot b_X7_isSlot_0
  rw [if_neg (nI_lt0 c (by omega)), if_neg (show ¬ (2 : Int32) ≤ nI c from nI_ge (b := 2) h (by omega))]
theorem isSlot_no {w : Wd} {v : Int32} (hv : v < 0 ∨ (2 : Int32) ≤ v) : f_X7_isSlot w v = some (0, w) := by
  unfold f_X7_isSlot b_X7_isSlot_0
  rcases hv with h | h
  · rw [if_pos h]
  · by_cases h0 : v < 0
    · rw [if_pos h0]
    · rw [if_neg h0, if_pos h]
theorem neighbours_v {w : Wd} {c : Nat} (h : c < 12) : f_X7_neighbours w (nI c) = some (aro c, w) := by
  unfold f_X7_neighbours b_X7_neighbours_0
  rw [isCell_yes h, bd_ok, if_neg (by decide), gd_true (inb_nI h (by decide)), nI_clamp (by omega)]
theorem waysFrom_v {p : Nat} {w : Wd} {c : Nat} (h : c < 12) : f_X1_waysFrom p w (nI c) = some (aro c &&& (w.1 p 2 ^^^ (-1)), w) := by
  unfold f_X1_waysFrom b_X1_waysFrom_0
  rw [neighbours_v h, bd_ok]

/-! numbers by their integers -/
theorem i_lt (a b : Int32) : a < b ↔ a.toInt < b.toInt := Int32.lt_iff_toInt_lt
theorem i_le (a b : Int32) : a ≤ b ↔ a.toInt ≤ b.toInt := Int32.le_iff_toInt_le
theorem i_eq (a b : Int32) : a = b ↔ a.toInt = b.toInt := Int32.toInt_inj.symm
theorem l_lt (a b : Int64) : a < b ↔ a.toInt < b.toInt := Int64.lt_iff_toInt_lt
theorem l_le (a b : Int64) : a ≤ b ↔ a.toInt ≤ b.toInt := Int64.le_iff_toInt_le
theorem rngI (x : Int32) : -2147483648 ≤ x.toInt ∧ x.toInt < 2147483648 := ⟨Int32.le_toInt x, Int32.toInt_lt x⟩
theorem wideI (x : Int32) : x.toInt64.toInt = x.toInt := Int32.toInt_toInt64 x
theorem in_v (w : Wd) (a b c : Int64) : f_X8_in w a b c = some (if b ≤ a ∧ a ≤ c then 1 else 0, w) := by
  unfold f_X8_in b_X8_in_0
  have h1 : lg_cmp a b < 0 ↔ a < b := by
    unfold lg_cmp
    rw [l_lt]
    by_cases c1 : a > b
    · rw [if_pos c1]; rw [gt_iff_lt, l_lt] at c1
      exact ⟨fun z => absurd z (by decide), fun z => absurd z (by omega)⟩
    · rw [if_neg c1]; rw [gt_iff_lt, l_lt] at c1
      by_cases c2 : a = b
      · rw [if_pos c2]; subst c2
        exact ⟨fun z => absurd z (by decide), fun z => absurd z (by omega)⟩
      · rw [if_neg c2]
        have : a.toInt ≠ b.toInt := fun z => c2 (Int64.toInt_inj.mp z)
        exact ⟨fun _ => by omega, fun _ => by decide⟩
  have h2 : 0 < lg_cmp a c ↔ c < a := by
    unfold lg_cmp
    rw [l_lt]
    by_cases c1 : a > c
    · rw [if_pos c1]; rw [gt_iff_lt, l_lt] at c1
      exact ⟨fun _ => c1, fun _ => by decide⟩
    · rw [if_neg c1]; rw [gt_iff_lt, l_lt] at c1
      by_cases c2 : a = c
      · rw [if_pos c2]; exact ⟨fun z => absurd z (by decide), fun z => absurd z c1⟩
      · rw [if_neg c2]; exact ⟨fun z => absurd z (by decide), fun z => absurd z c1⟩
  by_cases c1 : a < b
  · rw [if_pos (h1.mpr c1), if_neg (fun z => ?_)]
    have := z.1
    rw [l_le] at this; rw [l_lt] at c1; omega
  · rw [if_neg (fun z => c1 (h1.mp z))]
    by_cases c2 : c < a
    · rw [if_pos (h2.mpr c2), if_neg (fun z => ?_)]
      have := z.2
      rw [l_le] at this; rw [l_lt] at c2; omega
    · rw [if_neg (fun z => c2 (h2.mp z)), if_pos]
      rw [l_lt] at c1 c2; rw [l_le, l_le]; omega
theorem in_i (w : Wd) (v a b : Int32) : f_X8_in w v.toInt64 a.toInt64 b.toInt64 = some (if a ≤ v ∧ v ≤ b then 1 else 0, w) := by
  rw [in_v]
  congr 2
  simp only [l_le, i_le, wideI]
theorem bb_01 {c : Prop} [Decidable c] : bb (if c then 1 else 0) = true := by
  by_cases h : c
  · rw [if_pos h]; rfl
  · rw [if_neg h]; rfl
