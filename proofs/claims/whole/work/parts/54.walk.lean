theorem and_m0 (x : Int32) : x &&& ((0 : Int32) ^^^ (-1)) = x := b_ext (fun i hi => by rw [b_and, b_not _ hi, b_0]; simp)
theorem or_0 (x : Int32) : x ||| 0 = x := b_ext (fun i hi => by rw [b_or, b_0]; simp)
theorem ByC.no {q : Nat → Prop} {x : Int32} (h : ∀ i, q i → False) : ByC q x x := ⟨fun i hi => (h i hi).elim, fun _ => rfl⟩
/-- what a step springs (r) and wakes (wk) -/
def StR (w : Wd) (M : Nat) (a v fr : Int32) (c : Nat) (r wk : Int32) : Prop :=
  ((∀ u, u < M → ¬ w.1 108 u = nI c) ∧ r = 0 ∧ wk = 0) ∨
  ∃ t, t < M ∧ w.1 108 t = nI c ∧ (((bt a t = true ∧ fr = 0 ∧ w.1 110 t = 2 ∧ bt v t = false) ∧ r = 0 ∧ wk = (1 : Int32) <<< (nI t &&& 31)) ∨
    (¬ (bt a t = true ∧ fr = 0 ∧ w.1 110 t = 2 ∧ bt v t = false) ∧ r = (if fr = 0 then wvv w a t else 0) ∧ wk = 0))
theorem StR.ex (w : Wd) (M : Nat) (a v fr : Int32) (c : Nat) : ∃ r wk, StR w M a v fr c r wk := by
  by_cases h : ∃ t, t < M ∧ w.1 108 t = nI c
  · obtain ⟨t, h1, h2⟩ := h
    by_cases h3 : bt a t = true ∧ fr = 0 ∧ w.1 110 t = 2 ∧ bt v t = false
    · exact ⟨_, _, Or.inr ⟨t, h1, h2, Or.inl ⟨h3, rfl, rfl⟩⟩⟩
    · exact ⟨_, _, Or.inr ⟨t, h1, h2, Or.inr ⟨h3, rfl, rfl⟩⟩⟩
  · exact ⟨0, 0, Or.inl ⟨fun u h1 h2 => h ⟨u, h1, h2⟩, rfl, rfl⟩⟩
theorem StR.sub {w : Wd} {M : Nat} {a v fr : Int32} {c : Nat} {r wk : Int32} (h : StR w M a v fr c r wk) (hM : M ≤ 7) {i : Nat} (hi : bt r i = true) : bt a i = true := by
  rcases h with ⟨-, rfl, -⟩ | ⟨t, h1, -, ⟨-, rfl, -⟩ | ⟨-, rfl, -⟩⟩
  · rw [b_0] at hi; cases hi
  · rw [b_0] at hi; cases hi
  · by_cases hf : fr = 0
    · rw [if_pos hf] at hi; exact (wvv_sub (by omega) hi).1
    · rw [if_neg hf, b_0] at hi; cases hi
def ResM (w w1 : Wd) (W f g c : Nat) (r wk : Int32) : Prop :=
  Only (fun k j => k = 113 ∧ f ≤ j ∧ j < f + 12) w w1 ∧ w1.1 113 f = w.1 113 f &&& (r ^^^ (-1)) ∧ w1.1 113 (f + 1) = (w.1 113 (f + 1) ||| wk) &&& (r ^^^ (-1)) ∧ w1.1 113 (f + 2) = w.1 113 (f + 2) ||| r ∧ w1.1 113 (f + 3) = w.1 113 (f + 3) ||| r ∧
  (∀ u, u < W → w1.1 113 (f + 4 + u) = if u = g then nI c else w.1 113 (f + 4 + u)) ∧
  ∀ u, u < W → ByC (fun i => i < 7 ∧ bt r i = true ∧ (if u = g then nI c else w.1 113 (f + 4 + u)) = w.1 108 i ∧ catI (w.1 110 i) (w.1 112 u) = true) (w.1 113 (f + 8 + u)) (w1.1 113 (f + 8 + u))
theorem mspring_27 {w : Wd} {W f M : Nat} {r : Int32} (hW : W ≤ 4) (hf : f + 12 ≤ 72) (m1 : w.1 105 11 = nI W) (hr : ∀ i, bt r i = true → i < M) (hinj : ∀ i j, i < M → j < M → w.1 108 i = w.1 108 j → i = j) : ∃ w1, b_X8_spring_27 w (nI f) r = some (r, w1) ∧ Only (fun k j => k = 113 ∧ f ≤ j ∧ j < f + 12) w w1 ∧ w1.1 113 f = w.1 113 f &&& (r ^^^ (-1)) ∧ w1.1 113 (f + 1) = w.1 113 (f + 1) &&& (r ^^^ (-1)) ∧ w1.1 113 (f + 2) = w.1 113 (f + 2) ||| r ∧ w1.1 113 (f + 3) = w.1 113 (f + 3) ||| r ∧ (∀ u, u < W → w1.1 113 (f + 4 + u) = w.1 113 (f + 4 + u)) ∧ ∀ u, u < W → ByC (fun i => i < 7 ∧ bt r i = true ∧ w.1 113 (f + 4 + u) = w.1 108 i ∧ catI (w.1 110 i) (w.1 112 u) = true) (w.1 113 (f + 8 + u)) (w1.1 113 (f + 8 + u)) := by
  unfold b_X8_spring_27
  rw [lit_add' 1 (b := 1) rfl, lit_add' 2 (b := 2) rfl, lit_add' 3 (b := 3) rfl]
  simp only [gd_true (inb_nI (show f < 72 by omega) (by decide)), gd_true (inb_nI (show f + 1 < 72 by omega) (by decide)), gd_true (inb_nI (show f + 2 < 72 by omega) (by decide)), gd_true (inb_nI (show f + 3 < 72 by omega) (by decide)), nI_clamp (show f < 2 ^ 31 by omega), nI_clamp (show f + 1 < 2 ^ 31 by omega), nI_clamp (show f + 2 < 2 ^ 31 by omega), nI_clamp (show f + 3 < 2 ^ 31 by omega), nm_ok]
  rw [up_ns (k := 113) (j := f) (b := f + 1) (by omega), up_ns (k := 113) (j := f + 1) (b := f + 2) (by omega), up_ns (k := 113) (j := f) (b := f + 2) (by omega), up_ns (k := 113) (j := f + 2) (b := f + 3) (by omega), up_ns (k := 113) (j := f + 1) (b := f + 3) (by omega), up_ns (k := 113) (j := f) (b := f + 3) (by omega)]
  obtain ⟨x, hx⟩ : ∃ z, z = up (up (up (up w 113 f (w.1 113 f &&& (r ^^^ (-1)))) 113 (f + 1) (w.1 113 (f + 1) &&& (r ^^^ (-1)))) 113 (f + 2) (w.1 113 (f + 2) ||| r)) 113 (f + 3) (w.1 113 (f + 3) ||| r) := ⟨_, rfl⟩
  rw [← hx]
  have fr : ∀ k, k ≠ 113 → x.1 k = w.1 k := fun k hk => by rw [hx, up_nc hk, up_nc hk, up_nc hk, up_nc hk]
  have fr2 : ∀ j, ¬ (f ≤ j ∧ j < f + 4) → x.1 113 j = w.1 113 j := fun j hj => by rw [hx, up_ns (by omega), up_ns (by omega), up_ns (by omega), up_ns (by omega)]
  obtain ⟨w1, e1, o1, g1⟩ := mspring_out (r := r) hW hf LF 0 x (by unfold LF; omega) (by omega) (by rw [fr 105 (by decide)]; exact m1) (fun i j _ _ a b c => by rw [fr 108 (by decide)] at c; exact hinj i j (hr i a) (hr j b) c)
  rw [show (0 : Int32) = nI 0 from rfl]
  refine ⟨w1, e1, ?_, ?_, ?_, ?_, ?_, fun u hu => ?_, fun u hu => ?_⟩
  · have ox : Only (fun k j => k = 113 ∧ f ≤ j ∧ j < f + 12) w x := by rw [hx]; exact (((Only.rf.up ⟨rfl, by omega, by omega⟩).up ⟨rfl, by omega, by omega⟩).up ⟨rfl, by omega, by omega⟩).up ⟨rfl, by omega, by omega⟩
    exact ox.tr (o1.wd (fun k j z => by omega))
  · rw [o1.1 _ _ (by omega), hx, up_ns (by omega), up_ns (by omega), up_ns (by omega), up_eq]
  · rw [o1.1 _ _ (by omega), hx, up_ns (by omega), up_ns (by omega), up_eq]
  · rw [o1.1 _ _ (by omega), hx, up_ns (by omega), up_eq]
  · rw [o1.1 _ _ (by omega), hx, up_eq]
  · rw [o1.1 _ _ (by omega), fr2 _ (by omega)]
  · have q := g1 u hu
    rw [fr2 (f + 8 + u) (by omega), fr2 (f + 4 + u) (by omega), fr 108 (by decide), fr 110 (by decide), fr 112 (by decide)] at q
    exact q.cong (fun i => ⟨fun z => ⟨by omega, z⟩, fun z => z.2⟩)
theorem mspring_v {w : Wd} {W d t M : Nat} (hW : W ≤ 4) (hd : d < 6) (m1 : w.1 105 11 = nI W) (ht : t < M) (hM : M ≤ 7) (ha : ∀ i, bt (w.1 113 (12 * d)) i = true → i < M) (hinj : ∀ i j, i < M → j < M → w.1 108 i = w.1 108 j → i = j) : f_X8_spring w (nI d) (nI t) = b_X8_spring_27 w (nI (12 * d)) (if w.1 105 13 = 0 then wvv w (w.1 113 (12 * d)) t else 0) := by
  unfold f_X8_spring b_X8_spring_0
  rw [show (12 : Int32) * nI d = nI (12 * d) from pk_mul 12 d, nm_ok]
  by_cases h : w.1 105 13 = 0
  · rw [if_pos h, if_pos h, gd_true (inb_nI (show 12 * d < 72 by omega) (by decide)), nI_clamp (by omega), (wave_v (show t < 7 by omega)).1, bd_ok]
  · rw [if_neg h, if_neg h]
/-- a step of the reference -/
theorem stepOn_v {w : Wd} {W d g c M : Nat} {r wk : Int32} (hW : W ≤ 4) (hd : d < 6) (hg : g < W) (m1 : w.1 105 11 = nI W) (hM : M ≤ 7) (ha : ∀ i, bt (w.1 113 (12 * d)) i = true → i < M) (hinj : ∀ i j, i < M → j < M → w.1 108 i = w.1 108 j → i = j) (hs : StR w M (w.1 113 (12 * d)) (w.1 113 (12 * d + 1)) (w.1 105 13) c r wk) : ∃ w1, f_X8_stepOn w (nI d) (nI g) (nI c) (nI M) = some (r, w1) ∧ ResM w w1 W (12 * d) g c r wk := by
  obtain ⟨f, hf⟩ : ∃ z, z = 12 * d := ⟨_, rfl⟩
  unfold f_X8_stepOn b_X8_stepOn_0
  rw [show (12 : Int32) * nI d = nI (12 * d) from pk_mul 12 d, nm_ok, lit_add' 4 (b := 4) rfl, nI_add, gd_true (inb_nI (show 12 * d + 4 + g < 72 by omega) (by decide)), nI_clamp (by omega), nm_ok]
  rw [← hf] at ha hs ⊢
  obtain ⟨x, hx⟩ : ∃ z, z = up w 113 (f + 4 + g) (nI c) := ⟨_, rfl⟩
  rw [← hx]
  have fr : ∀ k, k ≠ 113 → x.1 k = w.1 k := fun k hk => by rw [hx, up_nc hk]
  have fr2 : ∀ j, j ≠ f + 4 + g → x.1 113 j = w.1 113 j := fun j hj => by rw [hx, up_ns hj]
  have fg : x.1 113 (f + 4 + g) = nI c := by rw [hx, up_eq]
  have fat : ∀ u, u < W → x.1 113 (f + 4 + u) = if u = g then nI c else w.1 113 (f + 4 + u) := fun u _ => by
    by_cases h : u = g
    · subst h; rw [if_pos rfl, fg]
    · rw [if_neg h, fr2 _ (by omega)]
  have ox : Only (fun k j => k = 113 ∧ f ≤ j ∧ j < f + 12) w x := by rw [hx]; exact Only.rf.up ⟨rfl, by omega, by omega⟩
  have fin : ∀ t, t < M → r = (if w.1 105 13 = 0 then wvv w (w.1 113 f) t else 0) → wk = 0 → ∃ w1, b_X8_stepOn_117 x (nI d) (nI t) = some (r, w1) ∧ ResM w w1 W f g c r wk := fun t ht hrr hwk => by
    unfold b_X8_stepOn_117
    rw [mspring_v (M := M) hW hd (by rw [fr 105 (by decide)]; exact m1) ht hM (by rw [← hf, fr2 f (by omega)]; exact ha) (by rw [fr 108 (by decide)]; exact hinj), ← hf, fr 105 (by decide), fr2 f (by omega), wvv_cong (w := w) (by omega) (fun i _ _ => by rw [fr 110 (by decide)]) (fun i _ _ => by rw [fr 111 (by decide)]), ← hrr]
    obtain ⟨w1, e1, o1, q1, q2, q3, q4, q5, q6⟩ := mspring_27 (r := r) (M := M) hW (show f + 12 ≤ 72 by omega) (by rw [fr 105 (by decide)]; exact m1) (fun i hi => ha i (by
      rw [hrr] at hi
      by_cases h : w.1 105 13 = 0
      · rw [if_pos h] at hi; exact (wvv_sub (by omega) hi).1
      · rw [if_neg h, b_0] at hi; cases hi)) (by rw [fr 108 (by decide)]; exact hinj)
    rw [e1, bd_ok]
    rw [fr2 _ (by omega)] at q1 q2 q3 q4
    refine ⟨w1, rfl, ox.tr o1, q1, by rw [q2, hwk, or_0], q3, q4, fun u hu => by rw [q5 u hu, fat u hu], fun u hu => ?_⟩
    have q := q6 u hu
    rw [fat u hu, fr2 _ (by omega), fr 108 (by decide), fr 110 (by decide), fr 112 (by decide)] at q
    exact q
  rcases hs with ⟨hn, rfl, rfl⟩ | ⟨t, ht, htc, hs⟩
  · rw [trapAt_no (by omega) (by rw [fr 108 (by decide)]; exact hn), bd_ok, if_pos rfl]
    refine ⟨x, rfl, ox, ?_, ?_, ?_, ?_, fat, fun u hu => ?_⟩
    · rw [and_m0, fr2 _ (by omega)]
    · rw [and_m0, or_0, fr2 _ (by omega)]
    · rw [or_0, fr2 _ (by omega)]
    · rw [or_0, fr2 _ (by omega)]
    · rw [fr2 _ (by omega)]
      exact ByC.no (fun i hi => by have := hi.2.1; rw [b_0] at this; cases this)
  · rw [trapAt_yes (t := t) (by omega) ht (by rw [fr 108 (by decide)]; exact htc) (fun u hu hq => by rw [fr 108 (by decide)] at hq; exact hinj u t hu ht (hq.trans htc.symm)), bd_ok, if_neg (nI_ne9 (by omega)), gd_true (inb_nI (show f < 72 by omega) (by decide)), nI_clamp (show f < 2 ^ 31 by omega), fr2 f (by omega), fr 105 (by decide)]
    unfold b_X8_stepOn_63 b_X8_stepOn_64
    rw [lit_add' 1 (b := 1) rfl]
    simp only [gd_true (inb_nI (show t < 7 by omega) (by decide)), gd_true (inb_nI (show f + 1 < 72 by omega) (by decide)), nI_clamp (show t < 2 ^ 31 by omega), nI_clamp (show f + 1 < 2 ^ 31 by omega), nm_ok]
    rw [fr 110 (by decide), fr2 (f + 1) (by omega), if_neg (show ¬ (1 : Int32) = 0 by decide), if_pos trivial]
    rcases hs with ⟨⟨h1, h2, h3, h4⟩, rfl, rfl⟩ | ⟨hno, hrr, hwk⟩
    · rw [if_pos ((tb1 _ (by omega)).mpr h1), if_pos h2, if_pos h3, if_pos ((tb0 _ (by omega)).mpr h4)]
      refine ⟨_, rfl, ox.up ⟨rfl, by omega, by omega⟩, ?_, ?_, ?_, ?_, fun u hu => ?_, fun u hu => ?_⟩
      · rw [and_m0, up_ns (by omega), fr2 _ (by omega)]
      · rw [and_m0, up_eq]
      · rw [or_0, up_ns (by omega), fr2 _ (by omega)]
      · rw [or_0, up_ns (by omega), fr2 _ (by omega)]
      · rw [up_ns (by omega), fat u hu]
      · rw [up_ns (by omega), fr2 _ (by omega)]
        exact ByC.no (fun i hi => by have := hi.2.1; rw [b_0] at this; cases this)
    · have hf := fin t ht hrr hwk
      by_cases h1 : bt (w.1 113 f) t = true
      · rw [if_pos ((tb1 _ (by omega)).mpr h1)]
        by_cases h2 : w.1 105 13 = 0
        · rw [if_pos h2]
          by_cases h3 : w.1 110 t = 2
          · rw [if_pos h3]
            by_cases h4 : bt (w.1 113 (f + 1)) t = false
            · exact absurd ⟨h1, h2, h3, h4⟩ hno
            · rw [if_neg (fun z => h4 ((tb0 _ (by omega)).mp z))]; exact hf
          · rw [if_neg h3]; exact hf
        · rw [if_neg h2]; exact hf
      · rw [if_neg (fun z => h1 ((tb1 _ (by omega)).mp z))]; exact hf
