/-! a set out of a property -/
def mk (q : Nat → Bool) : Nat → Int32
  | 0 => 0
  | n + 1 => mk q n ||| (if q n then (1 : Int32) <<< (nI n &&& 31) else 0)
theorem b_mk (q : Nat → Bool) : ∀ n, n ≤ 32 → ∀ i, i < 32 → bt (mk q n) i = (decide (i < n) && q i)
  | 0, _, i, _ => by rw [mk, b_0, decide_eq_false (Nat.not_lt_zero i), Bool.false_and]
  | n + 1, hn, i, hi => by
    rw [mk, b_or, b_mk q n (by omega) i hi]
    have h1 : bt (if q n then (1 : Int32) <<< (nI n &&& 31) else 0) i = (decide (i = n) && q n) := by
      cases hq : q n
      · rw [if_neg (by decide), b_0, Bool.and_false]
      · rw [if_pos rfl, b_one (by omega) hi, Bool.and_true]
    rw [h1]
    by_cases h : i = n
    · subst h
      simp
    · by_cases h2 : i < n
      · simp [h, h2, Nat.lt_succ_of_lt h2]
      · simp [h, h2, show ¬ i < n + 1 by omega]
theorem mk_cong {q r : Nat → Bool} : ∀ n, (∀ i, i < n → q i = r i) → mk q n = mk r n
  | 0, _ => rfl
  | n + 1, h => by rw [mk, mk, mk_cong n (fun i hi => h i (by omega)), h n (by omega)]
theorem mk_eq {q : Nat → Bool} {n : Nat} (hn : n ≤ 32) {x : Int32} (h : ∀ i, i < 32 → bt x i = (decide (i < n) && q i)) : x = mk q n := b_ext (fun i hi => by rw [h i hi, b_mk q n hn i hi])
theorem mk_more {q : Nat → Bool} {n m : Nat} (hnm : n ≤ m) (h : ∀ i, n ≤ i → i < m → q i = false) : mk q m = mk q n := by
  induction m with
  | zero => have : n = 0 := by omega
            subst this; rfl
  | succ m ih =>
    by_cases hm : n = m + 1
    · subst hm; rfl
    · rw [mk, ih (by omega) (fun i h1 h2 => h i h1 (by omega)), h m (by omega) (by omega)]
      simp
theorem shl_bit {x : Int32} {t : Nat} (ht : t < 32) (b : Bool) (hx : x = if b then 1 else 0) : x <<< (nI t &&& 31) = if b then (1 : Int32) <<< (nI t &&& 31) else 0 := by
  subst hx
  cases b
  · rw [if_neg (by decide), if_neg (by decide)]
    apply b_ext
    intro i hi
    rw [b_shl t ht 0 hi, b_0, b_0, Bool.and_false]
  · rfl
theorem trapOn_loop {p T : Nat} {w : Wd} {v : Int32} (hT : w.1 p 0 = nI T) (h6 : T ≤ 6) : ∀ (n t : Nat), T - t < n → t ≤ T → (∃ u, t ≤ u ∧ u < T ∧ w.1 (p + 1) u = v ∧ (∀ x, t ≤ x → x < u → w.1 (p + 1) x ≠ v) ∧ b_X1_trapOn_2 p n w v (nI t) = some (nI u, w)) ∨ ((∀ u, t ≤ u → u < T → w.1 (p + 1) u ≠ v) ∧ b_X1_trapOn_2 p n w v (nI t) = some (-9, w)) := by
  intro n
  induction n with
  | zero => intro t h; omega
  | succ n ih =>
    intro t hn ht
    rw [b_X1_trapOn_2]
    by_cases h : t = T
    · subst h
      refine Or.inr ⟨fun u h1 h2 => by omega, ?_⟩
      by_cases h9 : (6 : Int32) ≤ nI t
      · rw [if_pos h9]
      · rw [if_neg h9, hT, if_pos (nI_le (Nat.le_refl t) (by omega))]
    · have hlt : t < T := by omega
      rw [if_neg (show ¬ (6 : Int32) ≤ nI t from nI_ge (b := 6) (by omega) (by omega)), hT, if_neg (nI_ge hlt (by omega)), gd_true (inb_nI (by omega) (by omega)), nI_clamp (by omega)]
      by_cases hv : w.1 (p + 1) t = v
      · rw [if_pos hv]
        exact Or.inl ⟨t, Nat.le_refl t, hlt, hv, fun x h1 h2 => by omega, rfl⟩
      · rw [if_neg hv, nm_ok, nI_1]
        rcases ih (t + 1) (by omega) (by omega) with ⟨u, h1, h2, h3, h4, h5⟩ | ⟨h1, h2⟩
        · refine Or.inl ⟨u, by omega, h2, h3, fun x hx1 hx2 => ?_, h5⟩
          by_cases hxt : x = t
          · subst hxt; exact hv
          · exact h4 x (by omega) hx2
        · refine Or.inr ⟨fun u hu1 hu2 => ?_, h2⟩
          by_cases hut : u = t
          · subst hut; exact hv
          · exact h1 u (by omega) hu2
theorem trapOn_yes {p T t : Nat} {w : Wd} {v : Int32} (hT : w.1 p 0 = nI T) (h6 : T ≤ 6) (ht : t < T) (hv : w.1 (p + 1) t = v) (hd : ∀ u, u < t → w.1 (p + 1) u ≠ v) : f_X1_trapOn p w v = some (nI t, w) := by
  unfold f_X1_trapOn b_X1_trapOn_0
  rcases trapOn_loop (v := v) hT h6 LF 0 (by unfold LF; omega) (by omega) with ⟨u, h1, h2, h3, h4, h5⟩ | ⟨h1, -⟩
  · have : u = t := by
      rcases Nat.lt_trichotomy u t with q | q | q
      · exact absurd h3 (hd u q)
      · exact q
      · exact absurd hv (h4 t (by omega) q)
    subst this
    exact h5
  · exact absurd hv (h1 t (by omega) ht)
theorem trapOn_no {p T : Nat} {w : Wd} {v : Int32} (hT : w.1 p 0 = nI T) (h6 : T ≤ 6) (hd : ∀ u, u < T → w.1 (p + 1) u ≠ v) : f_X1_trapOn p w v = some (-9, w) := by
  unfold f_X1_trapOn b_X1_trapOn_0
  rcases trapOn_loop (v := v) hT h6 LF 0 (by unfold LF; omega) (by omega) with ⟨u, h1, h2, h3, h4, h5⟩ | ⟨h1, h2⟩
  · exact absurd h3 (hd u h2)
  · exact h2
theorem trapsOn_v {p T : Nat} {w : Wd} {v : Int32} {cl : Nat → Nat} (hT : w.1 p 0 = nI T) (h6 : T ≤ 6) (hc : ∀ t, t < T → w.1 (p + 1) t = nI (cl t) ∧ cl t < 12) : f_X1_trapsOn p w v = some (mk (fun t => bt v (cl t)) T, w) := by
  unfold f_X1_trapsOn b_X1_trapsOn_0
  have key : ∀ (n t : Nat), T - t < n → t ≤ T → b_X1_trapsOn_4 p n w v (mk (fun t => bt v (cl t)) t) (nI t) = some (mk (fun t => bt v (cl t)) T, w) := by
    intro n
    induction n with
    | zero => intro t h; omega
    | succ n ih =>
      intro t hn ht
      rw [b_X1_trapsOn_4]
      by_cases h : t = T
      · subst h
        by_cases h9 : (6 : Int32) ≤ nI t
        · rw [if_pos h9]
        · rw [if_neg h9, hT, if_pos (nI_le (Nat.le_refl t) (by omega))]
      · have hlt : t < T := by omega
        rw [if_neg (show ¬ (6 : Int32) ≤ nI t from nI_ge (b := 6) (by omega) (by omega)), hT, if_neg (nI_ge hlt (by omega)), gd_true (inb_nI (by omega) (by omega)), nI_clamp (by omega), (hc t hlt).1, nm_ok, nm_ok, nI_1, shl_bit (by omega) (bt v (cl t)) (tb v (by have := (hc t hlt).2; omega))]
        exact ih (t + 1) (by omega) (by omega)
  exact key LF 0 (by unfold LF; omega) (by omega)
/-- the cells of some traps -/
theorem cellsOf_v {p T : Nat} {w : Wd} {v : Int32} {cl : Nat → Nat} (hT : w.1 p 0 = nI T) (h6 : T ≤ 6) (hc : ∀ t, t < T → w.1 (p + 1) t = nI (cl t) ∧ cl t < 12) : ∃ r, f_X1_cellsOf p w v = some (r, w) ∧ ∀ i, i < 32 → (bt r i = true ↔ ∃ t, t < T ∧ bt v t = true ∧ cl t = i) := by
  unfold f_X1_cellsOf b_X1_cellsOf_0
  have key : ∀ (n t : Nat) (x : Int32), T - t < n → t ≤ T → (∀ i, i < 32 → (bt x i = true ↔ ∃ u, u < t ∧ bt v u = true ∧ cl u = i)) → ∃ r, b_X1_cellsOf_4 p n w v x (nI t) = some (r, w) ∧ ∀ i, i < 32 → (bt r i = true ↔ ∃ u, u < T ∧ bt v u = true ∧ cl u = i) := by
    intro n
    induction n with
    | zero => intro t x h; omega
    | succ n ih =>
      intro t x hn ht hx
      rw [b_X1_cellsOf_4]
      by_cases h : t = T
      · subst h
        refine ⟨x, ?_, hx⟩
        by_cases h9 : (6 : Int32) ≤ nI t
        · rw [if_pos h9]
        · rw [if_neg h9, hT, if_pos (nI_le (Nat.le_refl t) (by omega))]
      · have hlt : t < T := by omega
        have hcl := hc t hlt
        rw [if_neg (show ¬ (6 : Int32) ≤ nI t from nI_ge (b := 6) (by omega) (by omega)), hT, if_neg (nI_ge hlt (by omega)), gd_true (inb_nI (by omega) (by omega)), nI_clamp (by omega), hcl.1, nm_ok, nm_ok, nI_1, shl_bit (show cl t < 32 by omega) (bt v t) (tb v (by omega))]
        refine ih (t + 1) _ (by omega) (by omega) (fun i hi => ?_)
        rw [b_or, Bool.or_eq_true, hx i hi]
        have h1 : bt (if bt v t then (1 : Int32) <<< (nI (cl t) &&& 31) else 0) i = true ↔ bt v t = true ∧ cl t = i := by
          cases hq : bt v t
          · rw [if_neg (by decide), b_0]; simp
          · rw [if_pos rfl, b_one (by omega) hi]; simp; omega
        rw [h1]
        constructor
        · rintro (⟨u, h2, h3, h4⟩ | ⟨h2, h3⟩)
          · exact ⟨u, by omega, h3, h4⟩
          · exact ⟨t, by omega, h2, h3⟩
        · rintro ⟨u, h2, h3, h4⟩
          by_cases hu : u = t
          · subst hu; exact Or.inr ⟨h3, h4⟩
          · exact Or.inl ⟨u, by omega, h3, h4⟩
  exact key LF 0 0 (by unfold LF; omega) (by omega) (fun i hi => by rw [b_0]; simp)
/-! the reference's small ones -/
theorem mNeighbours_v {w : Wd} {c : Nat} (h : c < 12) : f_X8_neighbours w (nI c) = some (aro c, w) := by
  rcases (show c = 0 ∨ c = 1 ∨ c = 2 ∨ c = 3 ∨ c = 4 ∨ c = 5 ∨ c = 6 ∨ c = 7 ∨ c = 8 ∨ c = 9 ∨ c = 10 ∨ c = 11 by omega) with rfl | rfl | rfl | rfl | rfl | rfl | rfl | rfl | rfl | rfl | rfl | rfl <;> rfl
theorem mNearTo_v {w : Wd} {c : Nat} (h : c < 12) : f_X8_nearTo w (nI c) = some (aro c &&& (w.1 105 12 ^^^ (-1)), w) := by
  unfold f_X8_nearTo b_X8_nearTo_0
  rw [mNeighbours_v h, bd_ok]
theorem sub1_toInt {T : Nat} (h : T < 2 ^ 30) : (nI T - 1).toInt = (T : Int) - 1 := pk_sub_toInt (b := 1) h (by decide)
theorem mIsTrap_yes {w : Wd} {T t : Nat} (hT : w.1 105 10 = nI T) (h6 : T ≤ 6) (ht : t < T) : f_X8_isTrap w (nI t) = some (1, w) := by
  unfold f_X8_isTrap b_X8_isTrap_0
  rw [show (0 : Int64) = (0 : Int32).toInt64 from rfl, in_i, bd_ok, gd_true bb_01, if_pos]
  rw [i_le, i_le, hT, sub1_toInt (by omega), nI_toInt (by omega)]
  exact ⟨by show (0 : Int) ≤ _; omega, by omega⟩
theorem mIsTrap_no {w : Wd} {T : Nat} {v : Int32} (hT : w.1 105 10 = nI T) (h6 : T ≤ 6) (hv : v < 0 ∨ nI T ≤ v) : f_X8_isTrap w v = some (0, w) := by
  unfold f_X8_isTrap b_X8_isTrap_0
  rw [show (0 : Int64) = (0 : Int32).toInt64 from rfl, in_i, bd_ok, gd_true bb_01, if_neg]
  rw [i_le, i_le, hT, sub1_toInt (by omega)]
  rw [i_lt, i_le, nI_toInt (by omega)] at hv
  have h0 : (0 : Int32).toInt = 0 := rfl
  omega
theorem mIsWalker_yes {w : Wd} {T t : Nat} (hT : w.1 105 11 = nI T) (h6 : T ≤ 4) (ht : t < T) : f_X8_isWalker w (nI t) = some (1, w) := by
  unfold f_X8_isWalker b_X8_isWalker_0
  rw [show (0 : Int64) = (0 : Int32).toInt64 from rfl, in_i, bd_ok, gd_true bb_01, if_pos]
  rw [i_le, i_le, hT, sub1_toInt (by omega), nI_toInt (by omega)]
  exact ⟨by show (0 : Int) ≤ _; omega, by omega⟩
theorem mIsWalker_no {w : Wd} {T : Nat} {v : Int32} (hT : w.1 105 11 = nI T) (h6 : T ≤ 4) (hv : v < 0 ∨ nI T ≤ v) : f_X8_isWalker w v = some (0, w) := by
  unfold f_X8_isWalker b_X8_isWalker_0
  rw [show (0 : Int64) = (0 : Int32).toInt64 from rfl, in_i, bd_ok, gd_true bb_01, if_neg]
  rw [i_le, i_le, hT, sub1_toInt (by omega)]
  rw [i_lt, i_le, nI_toInt (by omega)] at hv
  have h0 : (0 : Int32).toInt = 0 := rfl
  omega
theorem mIn_yes {w : Wd} {c n : Nat} (m : Int32) (hm : m.toInt = n) (h : c ≤ n) (hn : n < 2 ^ 31) : f_X8_in w (nI c).toInt64 0 m.toInt64 = some (1, w) := by
  rw [show (0 : Int64) = (0 : Int32).toInt64 from rfl, in_i, if_pos]
  rw [i_le, i_le, hm, nI_toInt (by omega)]
  exact ⟨by show (0 : Int) ≤ _; omega, by omega⟩
theorem mIn_no {w : Wd} {n : Nat} {v : Int32} (m : Int32) (hm : m.toInt = n) (hn : n + 1 < 2 ^ 31) (hv : v < 0 ∨ nI (n + 1) ≤ v) : f_X8_in w v.toInt64 0 m.toInt64 = some (0, w) := by
  rw [show (0 : Int64) = (0 : Int32).toInt64 from rfl, in_i, if_neg]
  rw [i_le, i_le, hm]
  rw [i_lt, i_le, nI_toInt (by omega)] at hv
  have h0 : (0 : Int32).toInt = 0 := rfl
  omega
theorem mIsCell_yes {w : Wd} {c : Nat} (h : c < 12) : f_X8_isCell w (nI c) = some (1, w) := by
  unfold f_X8_isCell b_X8_isCell_0
  rw [show (11 : Int64) = (11 : Int32).toInt64 from rfl, mIn_yes (n := 11) 11 rfl (by omega) (by decide), bd_ok]
  rfl
theorem mIsCell_no {w : Wd} {v : Int32} (hv : v < 0 ∨ (12 : Int32) ≤ v) : f_X8_isCell w v = some (0, w) := by
  unfold f_X8_isCell b_X8_isCell_0
  rw [show (11 : Int64) = (11 : Int32).toInt64 from rfl, mIn_no (n := 11) 11 rfl (by decide) hv, bd_ok]
  rfl
/-- the last trap told there, of many -/
theorem trapAt_loop {m : Nat} {w : Wd} {v : Int32} (h7 : m ≤ 7) : ∀ (n t : Nat) (x : Int32), m - t < n → t ≤ m → (∃ u, t ≤ u ∧ u < m ∧ w.1 108 u = v ∧ (∀ y, u < y → y < m → w.1 108 y ≠ v) ∧ b_X8_trapAt_6 n w v (nI m) x (nI t) = some (nI u, w)) ∨ ((∀ u, t ≤ u → u < m → w.1 108 u ≠ v) ∧ b_X8_trapAt_6 n w v (nI m) x (nI t) = some (x, w)) := by
  intro n
  induction n with
  | zero => intro t x h; omega
  | succ n ih =>
    intro t x hn ht
    rw [b_X8_trapAt_6]
    by_cases h : t = m
    · subst h
      rw [if_pos (nI_le (Nat.le_refl t) (by omega))]
      exact Or.inr ⟨fun u h1 h2 => by omega, rfl⟩
    · have hlt : t < m := by omega
      rw [if_neg (nI_ge hlt (by omega)), gd_true (inb_nI (by omega) (by omega)), nI_clamp (by omega)]
      unfold b_X8_trapAt_29
      simp only [nm_ok, nI_1]
      by_cases hv : w.1 108 t = v
      · rw [if_pos hv]
        rcases ih (t + 1) (nI t) (by omega) (by omega) with ⟨u, h1, h2, h3, h4, h5⟩ | ⟨h1, h2⟩
        · exact Or.inl ⟨u, by omega, h2, h3, h4, h5⟩
        · exact Or.inl ⟨t, Nat.le_refl t, hlt, hv, fun y hy1 hy2 => h1 y hy1 hy2, h2⟩
      · rw [if_neg hv]
        rcases ih (t + 1) x (by omega) (by omega) with ⟨u, h1, h2, h3, h4, h5⟩ | ⟨h1, h2⟩
        · exact Or.inl ⟨u, by omega, h2, h3, h4, h5⟩
        · refine Or.inr ⟨fun u hu1 hu2 => ?_, h2⟩
          by_cases hut : u = t
          · subst hut; exact hv
          · exact h1 u (by omega) hu2
theorem trapAt_yes {m t : Nat} {w : Wd} {v : Int32} (h7 : m ≤ 7) (ht : t < m) (hv : w.1 108 t = v) (hd : ∀ u, u < m → w.1 108 u = v → u = t) : f_X8_trapAt w v (nI m) = some (nI t, w) := by
  unfold f_X8_trapAt b_X8_trapAt_0
  rcases trapAt_loop (v := v) (w := w) h7 LF 0 (-9) (by unfold LF; omega) (by omega) with ⟨u, h1, h2, h3, h4, h5⟩ | ⟨h1, -⟩
  · have : u = t := hd u h2 h3
    subst this
    exact h5
  · exact absurd hv (h1 t (by omega) ht)
theorem trapAt_no {m : Nat} {w : Wd} {v : Int32} (h7 : m ≤ 7) (hd : ∀ u, u < m → w.1 108 u ≠ v) : f_X8_trapAt w v (nI m) = some (-9, w) := by
  unfold f_X8_trapAt b_X8_trapAt_0
  rcases trapAt_loop (v := v) (w := w) h7 LF 0 (-9) (by unfold LF; omega) (by omega) with ⟨u, h1, h2, h3, h4, h5⟩ | ⟨h1, h2⟩
  · exact absurd h3 (hd u h2)
  · exact h2
