/-- what is ready to spring, as the reference has it -/
def mrd (w : Wd) (v1 : Int32) : Nat → Bool := fun j => bt v1 j && (decide (j < 7) && !decide (w.1 110 j = 3))
theorem mrd_t {w : Wd} {v1 : Int32} {j : Nat} : mrd w v1 j = true ↔ bt v1 j = true ∧ j < 7 ∧ ¬ w.1 110 j = 3 := by
  unfold mrd
  simp
theorem wave_j {kb30 : Wd → Int32 → Int32 → Int32 → Option (Int32 × Wd)} {kb40 : Wd → Int32 → Int32 → Int32 → Int32 → Option (Int32 × Wd)} {w : Wd} {v1 v4 v5 v6 : Int32} : ∀ (n t : Nat) (x : Int32), 7 - t < n → t ≤ 7 → ∃ s, (∀ j, bt s j = true ↔ bt x j = true ∨ (t ≤ j ∧ j < 7 ∧ bt v6 j = true ∧ ¬ w.1 110 j = 3)) ∧ b_X8_wave_75 kb30 kb40 n w v1 x v4 v5 v6 (nI t) = kb40 w v1 s v4 (v5 + 1) := by
  intro n
  induction n with
  | zero => intro t x h; omega
  | succ n ih =>
    intro t x hn ht
    rw [b_X8_wave_75]
    by_cases h : t = 7
    · subst h
      refine ⟨x, fun j => ⟨Or.inl, fun z => z.elim id (fun q => absurd q.1 (by omega))⟩, ?_⟩
      rw [if_pos (show (7 : Int32) ≤ nI 7 by decide), nm_ok]
    · rw [if_neg (show ¬ (7 : Int32) ≤ nI t from nI_ge (b := 7) (by omega) (by omega))]
      unfold b_X8_wave_112 b_X8_wave_113
      simp only [nm_ok, nI_1]
      have step : ∀ y : Int32, (∀ j, bt y j = true ↔ bt x j = true ∨ (j = t ∧ bt v6 j = true ∧ ¬ w.1 110 j = 3)) → ∃ s, (∀ j, bt s j = true ↔ bt x j = true ∨ (t ≤ j ∧ j < 7 ∧ bt v6 j = true ∧ ¬ w.1 110 j = 3)) ∧ b_X8_wave_75 kb30 kb40 n w v1 y v4 v5 v6 (nI (t + 1)) = kb40 w v1 s v4 (v5 + 1) := by
        intro y hy
        obtain ⟨s, h1, h2⟩ := ih (t + 1) y (by omega) (by omega)
        refine ⟨s, fun j => ?_, h2⟩
        rw [h1 j, hy j]
        constructor
        · rintro ((q | ⟨q1, q2, q3⟩) | ⟨q1, q2, q3⟩)
          · exact Or.inl q
          · exact Or.inr ⟨by omega, by omega, q2, q3⟩
          · exact Or.inr ⟨by omega, q2, q3⟩
        · rintro (q | ⟨q1, q2, q3, q4⟩)
          · exact Or.inl (Or.inl q)
          · by_cases hj : j = t
            · exact Or.inl (Or.inr ⟨hj, q3, q4⟩)
            · exact Or.inr ⟨by omega, q2, q3, q4⟩
      have h0 : ∀ j, bt (x ||| 0) j = bt x j := fun j => by rw [b_or, b_0, Bool.or_false]
      by_cases hb : bt v6 t = true
      · rw [if_pos ((tb1 _ (by omega)).mpr hb), gd_true (inb_nI (by omega) (by omega)), nI_clamp (by omega)]
        by_cases hk : w.1 110 t = 3
        · rw [if_pos hk]
          refine step (x ||| 0) (fun j => ?_)
          rw [h0]
          exact ⟨Or.inl, fun z => z.elim id (fun q => absurd (by rw [q.1]; exact hk) q.2.2)⟩
        · rw [if_neg hk]
          refine step _ (fun j => ?_)
          rw [b_or, Bool.or_eq_true]
          constructor
          · rintro (q | q)
            · exact Or.inl q
            · have hj := bt32 q
              rw [b_one (by omega) hj] at q
              have : j = t := by simpa using q
              subst this
              exact Or.inr ⟨rfl, hb, hk⟩
          · rintro (q | ⟨q1, q2, q3⟩)
            · exact Or.inl q
            · subst q1
              exact Or.inr (by rw [b_one (by omega) (by omega)]; simp)
      · rw [if_neg (fun z => hb ((tb1 _ (by omega)).mp z))]
        refine step (x ||| 0) (fun j => ?_)
        rw [h0]
        exact ⟨Or.inl, fun z => z.elim id (fun q => absurd (by rw [← q.1]; exact q.2.1) hb)⟩
theorem wave_i {kb30 : Wd → Int32 → Int32 → Int32 → Option (Int32 × Wd)} {w : Wd} {v1 v4 : Int32} : ∀ (n t : Nat) (x : Int32), 7 - t < n → t ≤ 7 → ∃ s, (∀ i, bt x i = true → bt s i = true) ∧ (∀ i j, t ≤ i → i < 7 → bt x i = true → bt (w.1 111 i) j = true → mrd w v1 j = true → bt s j = true) ∧ (∀ y : Nat → Bool, (∀ i, bt x i = true → y i = true) → (∀ i j, y i = true → bt (w.1 111 i) j = true → mrd w v1 j = true → y j = true) → ∀ i, bt s i = true → y i = true) ∧ (∀ i, bt s i = true → bt x i = true ∨ mrd w v1 i = true) ∧ b_X8_wave_40 kb30 n w v1 x v4 (nI t) = kb30 w v1 s (v4 + 1) := by
  intro n
  induction n with
  | zero => intro t x h; omega
  | succ n ih =>
    intro t x hn ht
    rw [b_X8_wave_40]
    by_cases h : t = 7
    · subst h
      refine ⟨x, fun _ => id, fun i j h1 h2 => by omega, fun y h1 h2 i hi => h1 i hi, fun i => Or.inl, ?_⟩
      rw [if_pos (show (7 : Int32) ≤ nI 7 by decide), nm_ok]
    · rw [if_neg (show ¬ (7 : Int32) ≤ nI t from nI_ge (b := 7) (by omega) (by omega))]
      unfold b_X8_wave_70
      by_cases hb : bt x t = true
      · rw [if_pos ((tb1 _ (by omega)).mpr hb), gd_true (inb_nI (by omega) (by omega)), nI_clamp (by omega)]
        obtain ⟨x1, hx1, e1⟩ := wave_j (kb30 := kb30) (kb40 := b_X8_wave_40 kb30 n) (w := w) (v1 := v1) (v4 := v4) (v5 := nI t) (v6 := w.1 111 t &&& v1) LF 0 x (by unfold LF; omega) (by omega)
        rw [show (0 : Int32) = nI 0 from rfl, e1, nI_1]
        have hj : ∀ j, bt x1 j = true ↔ bt x j = true ∨ (bt (w.1 111 t) j = true ∧ mrd w v1 j = true) := fun j => by
          rw [hx1 j, mrd_t, b_and, Bool.and_eq_true]
          constructor
          · rintro (q | ⟨_, q2, q3, q4⟩)
            · exact Or.inl q
            · exact Or.inr ⟨q3.1, q3.2, q2, q4⟩
          · rintro (q | ⟨q1, q2, q3, q4⟩)
            · exact Or.inl q
            · exact Or.inr ⟨by omega, q3, ⟨q1, q2⟩, q4⟩
        obtain ⟨s, a1, a2, a3, a4, a5⟩ := ih (t + 1) x1 (by omega) (by omega)
        refine ⟨s, fun i hi => a1 i ((hj i).mpr (Or.inl hi)), fun i j h1 h2 h3 h4 h5 => ?_, fun y h1 h2 i hi => a3 y (fun i hi => ?_) h2 i hi, fun i hi => ?_, a5⟩
        · by_cases hit : i = t
          · subst hit
            exact a1 j ((hj j).mpr (Or.inr ⟨h4, h5⟩))
          · exact a2 i j (by omega) h2 ((hj i).mpr (Or.inl h3)) h4 h5
        · rcases (hj i).mp hi with q | ⟨q1, q2⟩
          · exact h1 i q
          · exact h2 t i (h1 t hb) q1 q2
        · rcases a4 i hi with q | q
          · rcases (hj i).mp q with q | ⟨q1, q2⟩
            · exact Or.inl q
            · exact Or.inr q2
          · exact Or.inr q
      · rw [if_neg (fun z => hb ((tb1 _ (by omega)).mp z))]
        obtain ⟨x1, hx1, e1⟩ := wave_j (kb30 := kb30) (kb40 := b_X8_wave_40 kb30 n) (w := w) (v1 := v1) (v4 := v4) (v5 := nI t) (v6 := 0) LF 0 x (by unfold LF; omega) (by omega)
        rw [show b_X8_wave_75 kb30 (b_X8_wave_40 kb30 n) LF w v1 x v4 (nI t) 0 0 = b_X8_wave_75 kb30 (b_X8_wave_40 kb30 n) LF w v1 x v4 (nI t) 0 (nI 0) from rfl, e1, nI_1]
        have hj : ∀ j, bt x1 j = true ↔ bt x j = true := fun j => by
          rw [hx1 j, b_0]; simp
        obtain ⟨s, a1, a2, a3, a4, a5⟩ := ih (t + 1) x1 (by omega) (by omega)
        refine ⟨s, fun i hi => a1 i ((hj i).mpr hi), fun i j h1 h2 h3 h4 h5 => ?_, fun y h1 h2 i hi => a3 y (fun i hi => h1 i ((hj i).mp hi)) h2 i hi, fun i hi => (a4 i hi).imp (hj i).mp id, a5⟩
        by_cases hit : i = t
        · subst hit; exact absurd h3 hb
        · exact a2 i j (by omega) h2 ((hj i).mpr h3) h4 h5
theorem wave_k {w : Wd} {v1 : Int32} {st : Nat → Bool} : ∀ (n k : Nat) (x : Int32), 7 - k < n → k ≤ 7 → (∀ i, bt x i = true → mrd w v1 i = true) → (∀ i, st i = true → mrd w v1 i = true → bt x i = true) → (∀ y : Nat → Bool, (∀ i, st i = true → mrd w v1 i = true → y i = true) → (∀ i j, y i = true → bt (w.1 111 i) j = true → mrd w v1 j = true → y j = true) → ∀ i, bt x i = true → y i = true) → ((∀ i j, bt x i = true → bt (w.1 111 i) j = true → mrd w v1 j = true → bt x j = true) ∨ k ≤ fb_ct (bt x) 7) → ∃ r, b_X8_wave_30 n w v1 x (nI k) = some (r, w) ∧ IsClo (fun i j => bt (w.1 111 i) j) (mrd w v1) st (bt r) := by
  intro n
  induction n with
  | zero => intro k x h; omega
  | succ n ih =>
    intro k x hn hk a1 a2 a3 a4
    rw [b_X8_wave_30]
    by_cases h : k = 7
    · subst h
      rw [if_pos (show (7 : Int32) ≤ nI 7 by decide)]
      refine ⟨x, rfl, a2, ?_, a3⟩
      rcases a4 with q | q
      · exact q
      · have hall := fb_ct_all.mp (Nat.le_antisymm (fb_ct_le _ _) q)
        exact fun i j h1 h2 h3 => hall j (mrd_t.mp h3).2.1
    · rw [if_neg (show ¬ (7 : Int32) ≤ nI k from nI_ge (b := 7) (by omega) (by omega))]
      obtain ⟨s, b1, b2, b3, b4, b5⟩ := wave_i (kb30 := b_X8_wave_30 n) (w := w) (v1 := v1) (v4 := nI k) LF 0 x (by unfold LF; omega) (by omega)
      rw [show (0 : Int32) = nI 0 from rfl, b5, nI_1]
      refine ih (k + 1) s (by omega) (by omega) (fun i hi => ?_) (fun i h1 h2 => b1 i (a2 i h1 h2)) (fun y h1 h2 i hi => b3 y (fun i hi => a3 y h1 h2 i hi) h2 i hi) ?_
      · rcases b4 i hi with q | q
        · exact a1 i q
        · exact q
      · by_cases hc : ∀ i j, bt x i = true → bt (w.1 111 i) j = true → mrd w v1 j = true → bt x j = true
        · left
          intro i j h1 h2 h3
          exact b1 j (hc i j (b3 (bt x) (fun _ => id) hc i h1) h2 h3)
        · rcases a4 with q | q
          · exact absurd q hc
          · right
            have hex : ∃ i j, bt x i = true ∧ bt (w.1 111 i) j = true ∧ mrd w v1 j = true ∧ ¬ bt x j = true := by
              refine Classical.byContradiction fun hn => hc (fun i j h1 h2 h3 => ?_)
              refine Classical.byContradiction fun h4 => hn ⟨i, j, h1, h2, h3, h4⟩
            obtain ⟨i, j, h1, h2, h3, h4⟩ := hex
            have hs : bt s j = true := b2 i j (by omega) (mrd_t.mp (a1 i h1)).2.1 h1 h2 h3
            have e1 := fb_ct_upd (bt x) true (i := j) (n := 7) (mrd_t.mp h3).2.1
            have e2 : fb_ct (fun k => if k = j then true else bt x k) 7 ≤ fb_ct (bt s) 7 := fb_ct_sub (fun k _ hk => by
              by_cases hkj : k = j
              · subst hkj; exact hs
              · rw [if_neg hkj] at hk; exact b1 k hk)
            rw [if_neg h4, if_pos rfl] at e1
            omega
/-- what the reference finds that springs -/
theorem wave_clo {w : Wd} {v1 : Int32} {t : Nat} (ht : t < 7) : ∃ r, f_X8_wave w v1 (nI t) = some (r, w) ∧ IsClo (fun i j => bt (w.1 111 i) j) (mrd w v1) (fun i => decide (i = t)) (bt r) := by
  unfold f_X8_wave b_X8_wave_0 b_X8_wave_25 b_X8_wave_26
  have hz : ¬ mrd w v1 t = true → ∃ r, b_X8_wave_30 LF w v1 0 0 = some (r, w) ∧ IsClo (fun i j => bt (w.1 111 i) j) (mrd w v1) (fun i => decide (i = t)) (bt r) := by
    intro hm
    refine wave_k LF 0 0 (by unfold LF; omega) (by omega) (fun i hi => by rw [b_0] at hi; cases hi) (fun i h1 h2 => ?_) (fun y h1 h2 i hi => by rw [b_0] at hi; cases hi) (Or.inr (Nat.zero_le _))
    have : i = t := by simpa using h1
    subst this
    exact absurd h2 hm
  by_cases hb : bt v1 t = true
  · rw [if_pos ((tb1 _ (by omega)).mpr hb), gd_true (inb_nI ht (by omega)), nI_clamp (by omega)]
    by_cases hk : w.1 110 t = 3
    · rw [if_pos hk]
      exact hz (fun z => (mrd_t.mp z).2.2 hk)
    · rw [if_neg hk]
      have hone : ∀ i, bt ((1 : Int32) <<< (nI t &&& 31)) i = true ↔ i = t := fun i => by
        constructor
        · intro q
          rw [b_one (by omega) (bt32 q)] at q
          simpa using q
        · intro q
          subst q
          rw [b_one (by omega) (by omega)]
          simp
      have hm : mrd w v1 t = true := mrd_t.mpr ⟨hb, ht, hk⟩
      refine wave_k LF 0 _ (by unfold LF; omega) (by omega) (fun i hi => by rw [(hone i).mp hi]; exact hm) (fun i h1 h2 => (hone i).mpr (by simpa using h1)) (fun y h1 h2 i hi => by rw [(hone i).mp hi]; exact h1 t (by simp) hm) (Or.inr (Nat.zero_le _))
  · rw [if_neg (fun z => hb ((tb1 _ (by omega)).mp z))]
    exact hz (fun z => hb (mrd_t.mp z).1)
