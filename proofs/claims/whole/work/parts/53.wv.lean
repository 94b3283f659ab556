/-! what springs, as one value -/
def spv (w : Wd) (st rd : Int32) : Int32 := ((f_X1_spread 11 w st rd).getD (0, w)).1
def wvv (w : Wd) (a : Int32) (t : Nat) : Int32 := ((f_X8_wave w a (nI t)).getD (0, w)).1
theorem spread_v {w : Wd} {st rd : Int32} (h6 : ∀ i, bt rd i = true → i < 6) : f_X1_spread 11 w st rd = some (spv w st rd, w) ∧ IsClo (fun i j => bt (w.1 15 i) j) (bt rd) (bt st) (bt (spv w st rd)) := by
  obtain ⟨r, h1, h2⟩ := spread_clo (p := 11) (w := w) (v1 := st) (v2 := rd) h6
  have : spv w st rd = r := by unfold spv; rw [h1]; rfl
  rw [this]
  exact ⟨h1, h2⟩
theorem wave_v {w : Wd} {a : Int32} {t : Nat} (ht : t < 7) : f_X8_wave w a (nI t) = some (wvv w a t, w) ∧ IsClo (fun i j => bt (w.1 111 i) j) (mrd w a) (fun i => decide (i = t)) (bt (wvv w a t)) := by
  obtain ⟨r, h1, h2⟩ := wave_clo (w := w) (v1 := a) ht
  have : wvv w a t = r := by unfold wvv; rw [h1]; rfl
  rw [this]
  exact ⟨h1, h2⟩
theorem clo_val {wi : Nat → Nat → Bool} {rd st : Nat → Bool} {x y : Int32} (hx : IsClo wi rd st (bt x)) (hy : IsClo wi rd st (bt y)) : x = y := b_ext (fun i _ => clo_one hx hy i)
theorem wvv_sub {w : Wd} {a : Int32} {t i : Nat} (ht : t < 7) (h : bt (wvv w a t) i = true) : bt a i = true ∧ i < 7 ∧ ¬ w.1 110 i = 3 := mrd_t.mp (clo_rd (wave_v ht).2 h)
/-- only kinds and wires of what is armed count -/
theorem wvv_cong {w w' : Wd} {a : Int32} {t : Nat} (ht : t < 7) (h1 : ∀ i, bt a i = true → i < 7 → w'.1 110 i = w.1 110 i) (h2 : ∀ i, bt a i = true → i < 7 → w'.1 111 i = w.1 111 i) : wvv w' a t = wvv w a t := by
  have hr : ∀ i, mrd w' a i = mrd w a i := fun i => by
    have : mrd w' a i = true ↔ mrd w a i = true := by
      rw [mrd_t, mrd_t]
      constructor
      · rintro ⟨q1, q2, q3⟩; exact ⟨q1, q2, by rw [← h1 i q1 q2]; exact q3⟩
      · rintro ⟨q1, q2, q3⟩; exact ⟨q1, q2, by rw [h1 i q1 q2]; exact q3⟩
    cases hx : mrd w' a i <;> cases hy : mrd w a i <;> simp_all
  refine clo_val (clo_cong hr (fun _ _ => rfl) (fun i j q _ => ?_) (wave_v ht).2) (wave_v ht).2
  have := mrd_t.mp q
  show bt (w'.1 111 i) j = bt (w.1 111 i) j
  rw [h2 i this.1 this.2.1]
theorem k3 {k : Nat} (h : k < 5) : nI k = 3 ↔ k = 3 := by
  show nI k = nI 3 ↔ _
  exact nI_eq (by omega) (by omega)
theorem rd_eq {w : Wd} {T W : Nat} {cl kd : Nat → Nat} (hp : PlanR w T W cl kd) {a : Int32} (ha : ∀ i, bt a i = true → i < T) (i : Nat) : bt (a &&& (w.1 11 3 ^^^ (-1))) i = mrd w a i := by
  obtain ⟨hT, hW, x0, m0, x1, m1, hs, hs2, hc, hci, hsd, hkd, hwi, hwz, hsh, hsn, hne, hg⟩ := hp
  have : bt (a &&& (w.1 11 3 ^^^ (-1))) i = true ↔ mrd w a i = true := by
    rw [mrd_t, b_and, Bool.and_eq_true]
    constructor
    · rintro ⟨q1, q2⟩
      have hi := ha i q1
      rw [b_not _ (by omega)] at q2
      refine ⟨q1, by omega, ?_⟩
      rw [(hkd i hi).2.1, k3 (hkd i hi).2.2]
      intro z
      rw [(hsh i).mpr ⟨hi, z⟩] at q2
      cases q2
    · rintro ⟨q1, q2, q3⟩
      have hi := ha i q1
      refine ⟨q1, ?_⟩
      rw [b_not _ (by omega)]
      rw [(hkd i hi).2.1, k3 (hkd i hi).2.2] at q3
      cases hb : bt (w.1 11 3) i
      · rfl
      · exact absurd ((hsh i).mp hb).2 q3
  cases hx : bt (a &&& (w.1 11 3 ^^^ (-1))) i <;> cases hy : mrd w a i <;> simp_all
theorem one_t {t : Nat} (ht : t < 32) (i : Nat) : bt ((1 : Int32) <<< (nI t &&& 31)) i = decide (i = t) := by
  rcases Nat.lt_or_ge i 32 with h | h
  · exact b_one ht h
  · rw [b_big h, decide_eq_false (by omega)]
/-- class and reference find the same -/
theorem wv_sp {w : Wd} {T W : Nat} {cl kd : Nat → Nat} (hp : PlanR w T W cl kd) {a : Int32} (ha : ∀ i, bt a i = true → i < T) {t : Nat} (ht : t < 7) : spv w ((1 : Int32) <<< (nI t &&& 31)) (a &&& (w.1 11 3 ^^^ (-1))) = wvv w a t := by
  have hT := hp.1
  have h6 : ∀ i, bt (a &&& (w.1 11 3 ^^^ (-1))) i = true → i < 6 := fun i hi => by
    rw [b_and, Bool.and_eq_true] at hi
    have := ha i hi.1
    omega
  refine clo_val (clo_cong (rd_eq hp ha) (fun i _ => one_t (by omega) i) (fun i j q _ => ?_) (spread_v h6).2) (wave_v ht).2
  rw [rd_eq hp ha] at q
  have hi := ha i (mrd_t.mp q).1
  have := (hp.2.2.2.2.2.2.2.2.2.2.2.2.1 i hi).1
  show bt (w.1 15 i) j = bt (w.1 111 i) j
  rw [this]
/-! who is caught -/
def catI (k sd : Int32) : Bool := decide (k = 4) || ((decide (k = 0) || decide (k = 2)) && !decide (sd = -9))
theorem mcatches_v {w : Wd} {i g : Nat} (hi : i < 7) (hg : g < 4) : f_X8_catches w (nI i) (nI g) = some (if catI (w.1 110 i) (w.1 112 g) then 1 else 0, w) := by
  unfold f_X8_catches b_X8_catches_0 b_X8_catches_21 b_X8_catches_32 catI
  simp only [gd_true (inb_nI hi (by decide)), gd_true (inb_nI hg (by decide)), nI_clamp (show i < 2 ^ 31 by omega), nI_clamp (show g < 2 ^ 31 by omega), nm_ok]
  by_cases h4 : w.1 110 i = 4
  · simp [h4]
  · by_cases h0 : w.1 110 i = 0
    · by_cases h9 : w.1 112 g = -9 <;> simp [h0, h9]
    · by_cases h2 : w.1 110 i = 2
      · by_cases h9 : w.1 112 g = -9 <;> simp [h2, h9]
      · simp [h4, h0, h2]
theorem nk {k : Nat} (h : k < 5) (n : Nat) (hn : n < 5) : nI k = nI n ↔ k = n := nI_eq (by omega) (by omega)
theorem catches_v {w : Wd} {T W : Nat} {cl kd : Nat → Nat} (hp : PlanR w T W cl kd) {t g : Nat} (ht : t < T) (hgW : g < W) : f_X1_catches 11 w (nI t) (nI g) = some (if catI (w.1 110 t) (w.1 112 g) then 1 else 0, w) := by
  obtain ⟨hT, hW, x0, m0, x1, m1, hs, hs2, hc, hci, hsd, hkd, hwi, hwz, hsh, hsn, hne, hg⟩ := hp
  unfold f_X1_catches b_X1_catches_0 b_X1_catches_45 catI
  rw [hasTrap_yes x0 hT ht, bd_ok, if_neg (show ¬ (1 : Int32) = 0 by decide), hasWalker_yes x1 hW hgW, bd_ok, if_neg (show ¬ (1 : Int32) = 0 by decide), gd_true (inb_nI (show g < 4 by omega) (by decide)), nI_clamp (show g < 2 ^ 31 by omega), (hkd t ht).2.1, show w.1 (11 + 6) g = w.1 112 g from (hg g hgW).1]
  have hk := (hkd t ht).2.2
  have e4 : (nI (kd t) = 4) ↔ kd t = 4 := nk hk 4 (by decide)
  have e0 : (nI (kd t) = 0) ↔ kd t = 0 := nk hk 0 (by decide)
  have e2 : (nI (kd t) = 2) ↔ kd t = 2 := nk hk 2 (by decide)
  simp only [e4, e0, e2]
  have h5 : bt (w.1 11 5) t = decide (kd t = 4) := by
    cases hb : bt (w.1 11 5) t
    · exact (decide_eq_false (fun z => by have := (hne t).mpr ⟨ht, z⟩; rw [hb] at this; cases this)).symm
    · exact (decide_eq_true ((hne t).mp hb).2).symm
  have h4 : bt (w.1 11 4) t = (decide (kd t = 0) || decide (kd t = 2)) := by
    cases hb : bt (w.1 11 4) t
    · have : ¬ (kd t = 0 ∨ kd t = 2) := fun z => by have := (hsn t).mpr ⟨ht, z⟩; rw [hb] at this; cases this
      simp [show ¬ kd t = 0 from fun z => this (Or.inl z), show ¬ kd t = 2 from fun z => this (Or.inr z)]
    · rcases ((hsn t).mp hb).2 with z | z <;> simp [z]
  by_cases h9 : w.1 112 g = -9
  · rw [if_pos h9, tb _ (by omega), h5]
    by_cases hk4 : kd t = 4 <;> simp [hk4, h9]
  · rw [if_neg h9, tb _ (by omega), b_or, h5, h4]
    by_cases hk4 : kd t = 4
    · simp [hk4]
    · by_cases hk0 : kd t = 0
      · simp [hk0, h9]
      · by_cases hk2 : kd t = 2
        · simp [hk2, h9]
        · simp [hk4, hk0, hk2]
/-- how a trap becomes the one that holds a walker -/
def ByC (q : Nat → Prop) (x0 x1 : Int32) : Prop := (∀ i, q i → x0 = -9 → x1 = nI i) ∧ ((∀ i, q i → ¬ x0 = -9) → x1 = x0)
theorem ByC.one {q : Nat → Prop} {x0 x1 y1 : Int32} (h1 : ByC q x0 x1) (h2 : ByC q x0 y1) : x1 = y1 := by
  by_cases h : ∃ i, q i ∧ x0 = -9
  · obtain ⟨i, hi, h9⟩ := h
    rw [h1.1 i hi h9, h2.1 i hi h9]
  · have hn : ∀ i, q i → ¬ x0 = -9 := fun i hi h9 => h ⟨i, hi, h9⟩
    rw [h1.2 hn, h2.2 hn]
theorem ByC.cong {q p : Nat → Prop} {x0 x1 : Int32} (h : ByC q x0 x1) (e : ∀ i, p i ↔ q i) : ByC p x0 x1 := ⟨fun i hi => h.1 i ((e i).mp hi), fun hn => h.2 (fun i hi => hn i ((e i).mpr hi))⟩
/-- the reference's inner loop: all walkers on one trap that springs -/
theorem mspring_in {kb86 : Wd → Int32 → Int32 → Int32 → Option (Int32 × Wd)} {W f i : Nat} {r : Int32} (hW : W ≤ 4) (hf : f + 12 ≤ 72) (hi : i < 7) : ∀ (n t : Nat) (w : Wd), W - t < n → t ≤ W → w.1 105 11 = nI W → ∃ w1, b_X8_spring_96 kb86 n w (nI f) r (nI i) (nI t) = kb86 w1 (nI f) r (nI (i + 1)) ∧ Only (fun k j => k = 113 ∧ f + 8 ≤ j ∧ j < f + 8 + W) w w1 ∧ (∀ u, t ≤ u → u < W → w1.1 113 (f + 8 + u) = if bt r i && (decide (w.1 113 (f + 4 + u) = w.1 108 i) && (decide (w.1 113 (f + 8 + u) = -9) && catI (w.1 110 i) (w.1 112 u))) then nI i else w.1 113 (f + 8 + u)) ∧ ∀ u, u < t → w1.1 113 (f + 8 + u) = w.1 113 (f + 8 + u) := by
  intro n
  induction n with
  | zero => intro t w h; omega
  | succ n ih =>
    intro t w hn ht m1
    rw [b_X8_spring_96, m1]
    by_cases h : t = W
    · subst h
      rw [if_pos (nI_le (Nat.le_refl t) (by omega))]
      unfold b_X8_spring_212
      rw [nm_ok, nI_1]
      exact ⟨w, rfl, Only.rf, fun u h1 h2 => by omega, fun u _ => rfl⟩
    · rw [if_neg (nI_ge (show t < W by omega) (by omega))]
      by_cases hb : bt r i = true
      · have e4 : nI f + 4 + nI t = nI (f + 4 + t) := by rw [lit_add' 4 (b := 4) rfl, nI_add]
        have e8 : nI f + 8 + nI t = nI (f + 8 + t) := by rw [lit_add' 8 (b := 8) rfl, nI_add]
        rw [if_pos ((tb1 _ (by omega)).mpr hb), e4, e8]
        simp only [gd_true (inb_nI (show f + 4 + t < 72 by omega) (by decide)), gd_true (inb_nI (show f + 8 + t < 72 by omega) (by decide)), gd_true (inb_nI (show i < 7 by omega) (by decide)), nI_clamp (show f + 4 + t < 2 ^ 31 by omega), nI_clamp (show f + 8 + t < 2 ^ 31 by omega), nI_clamp (show i < 2 ^ 31 by omega), mcatches_v hi (show t < 4 by omega), bd_ok]
        have jn : ∀ x : Int32, x = (if bt r i && (decide (w.1 113 (f + 4 + t) = w.1 108 i) && (decide (w.1 113 (f + 8 + t) = -9) && catI (w.1 110 i) (w.1 112 t))) then nI i else w.1 113 (f + 8 + t)) → ∃ w1, b_X8_spring_205 kb86 (b_X8_spring_96 kb86 n) w (nI f) r (nI i) (nI t) x (nI (f + 8 + t)) = kb86 w1 (nI f) r (nI (i + 1)) ∧ Only (fun k j => k = 113 ∧ f + 8 ≤ j ∧ j < f + 8 + W) w w1 ∧ (∀ u, t ≤ u → u < W → w1.1 113 (f + 8 + u) = if bt r i && (decide (w.1 113 (f + 4 + u) = w.1 108 i) && (decide (w.1 113 (f + 8 + u) = -9) && catI (w.1 110 i) (w.1 112 u))) then nI i else w.1 113 (f + 8 + u)) ∧ ∀ u, u < t → w1.1 113 (f + 8 + u) = w.1 113 (f + 8 + u) := fun x hx => by
          unfold b_X8_spring_205
          rw [gd_true (inb_nI (by omega) (by decide)), nm_ok, nm_ok, nI_1, nI_clamp (by omega)]
          obtain ⟨w1, g1, g2, g3, g4⟩ := ih (t + 1) (up w 113 (f + 8 + t) x) (by omega) (by omega) (by rw [up_nc (by decide)]; exact m1)
          refine ⟨w1, g1, (Only.rf.up ⟨rfl, by omega, by omega⟩).tr g2, fun u h1 h2 => ?_, fun u h1 => ?_⟩
          · by_cases hu : u = t
            · subst hu
              rw [g4 u (by omega), up_eq, hx]
            · rw [g3 u (by omega) h2, up_ns (show f + 4 + u ≠ f + 8 + t by omega), up_ns (show f + 8 + u ≠ f + 8 + t by omega), up_nc (by decide), up_nc (by decide), up_nc (by decide)]
          · rw [g4 u (by omega), up_ns (by omega)]
        unfold b_X8_spring_169 b_X8_spring_170
        simp only [e8, gd_true (inb_nI (show f + 8 + t < 72 by omega) (by decide)), nI_clamp (show f + 8 + t < 2 ^ 31 by omega)]
        by_cases h1 : w.1 113 (f + 4 + t) = w.1 108 i
        · rw [if_pos h1]
          by_cases h2 : w.1 113 (f + 8 + t) = -9
          · rw [if_pos h2]
            cases h3 : catI (w.1 110 i) (w.1 112 t)
            · rw [if_pos (show (if false = true then (1 : Int32) else 0) = 0 by decide), if_pos trivial]
              exact jn _ (by simp [h3])
            · rw [if_pos rfl, if_neg (by decide), if_neg (by decide)]
              exact jn _ (by simp [h3, h1, h2, hb])
          · rw [if_neg h2, if_pos trivial]
            exact jn _ (by simp [h2])
        · rw [if_neg h1, if_pos trivial]
          exact jn _ (by simp [h1])
      · rw [if_neg (fun z => hb ((tb1 _ (by omega)).mp z))]
        unfold b_X8_spring_212
        rw [nm_ok, nI_1]
        exact ⟨w, rfl, Only.rf, fun u h1 h2 => by simp [show bt r i = false by cases hq : bt r i <;> simp_all], fun u _ => rfl⟩
theorem nI_ne9 {i : Nat} (h : i < 100) : ¬ nI i = -9 := fun z => by
  rw [i_eq, nI_toInt (by omega)] at z
  have : (-9 : Int32).toInt = -9 := rfl
  omega
theorem mspring_out {W f : Nat} {r : Int32} (hW : W ≤ 4) (hf : f + 12 ≤ 72) : ∀ (n t : Nat) (w : Wd), 7 - t < n → t ≤ 7 → w.1 105 11 = nI W → (∀ i j, i < 7 → j < 7 → bt r i = true → bt r j = true → w.1 108 i = w.1 108 j → i = j) → ∃ w1, b_X8_spring_86 n w (nI f) r (nI t) = some (r, w1) ∧ Only (fun k j => k = 113 ∧ f + 8 ≤ j ∧ j < f + 8 + W) w w1 ∧ ∀ u, u < W → ByC (fun i => t ≤ i ∧ i < 7 ∧ bt r i = true ∧ w.1 113 (f + 4 + u) = w.1 108 i ∧ catI (w.1 110 i) (w.1 112 u) = true) (w.1 113 (f + 8 + u)) (w1.1 113 (f + 8 + u)) := by
  intro n
  induction n with
  | zero => intro t w h; omega
  | succ n ih =>
    intro t w hn ht m1 hu
    rw [b_X8_spring_86]
    by_cases h : t = 7
    · subst h
      rw [if_pos (show (7 : Int32) ≤ nI 7 by decide)]
      exact ⟨w, rfl, Only.rf, fun u _ => ⟨fun i hi => by omega, fun _ => rfl⟩⟩
    · rw [if_neg (show ¬ (7 : Int32) ≤ nI t from nI_ge (b := 7) (by omega) (by decide))]
      obtain ⟨w1, e1, o1, g1, -⟩ := mspring_in (kb86 := b_X8_spring_86 n) (W := W) (f := f) (i := t) (r := r) hW hf (by omega) LF 0 w (by unfold LF; omega) (by omega) m1
      rw [show (0 : Int32) = nI 0 from rfl, e1]
      have fr : ∀ k, k ≠ 113 → w1.1 k = w.1 k := fun k hk => funext fun j => o1.1 k j (by omega)
      have f4 : ∀ u, u < W → w1.1 113 (f + 4 + u) = w.1 113 (f + 4 + u) := fun u h9 => o1.1 _ _ (by omega)
      obtain ⟨w2, e2, o2, g2⟩ := ih (t + 1) w1 (by omega) (by omega) (by rw [fr 105 (by decide)]; exact m1) (fun i j a b c d => by rw [fr 108 (by decide)]; exact hu i j a b c d)
      refine ⟨w2, e2, o1.tr o2, fun u hu9 => ?_⟩
      have q := g2 u hu9
      have z := g1 u (by omega) hu9
      rw [f4 u hu9, fr 108 (by decide), fr 110 (by decide), fr 112 (by decide)] at q
      by_cases hc : bt r t = true ∧ w.1 113 (f + 4 + u) = w.1 108 t ∧ catI (w.1 110 t) (w.1 112 u) = true
      · obtain ⟨c1, c2, c3⟩ := hc
        by_cases h9 : w.1 113 (f + 8 + u) = -9
        · rw [if_pos (by simp [c1, c2, c3, h9])] at z
          rw [z] at q
          have e := q.2 (fun i _ => nI_ne9 (by omega))
          rw [e]
          refine ⟨fun i hi _ => ?_, fun hn => absurd h9 (hn t ⟨Nat.le_refl t, by omega, c1, c2, c3⟩)⟩
          rw [hu i t hi.2.1 (by omega) hi.2.2.1 c1 (by rw [← hi.2.2.2.1, c2])]
        · rw [if_neg (by simp [h9])] at z
          rw [z] at q
          exact ⟨fun i _ z9 => absurd z9 h9, fun _ => q.2 (fun i _ => h9)⟩
      · rw [if_neg (fun z9 => hc (by simp only [Bool.and_eq_true, decide_eq_true_eq] at z9; exact ⟨z9.1, z9.2.1, z9.2.2.2⟩))] at z
        rw [z] at q
        refine q.cong (fun i => ?_)
        constructor
        · rintro ⟨a1, a2, a3⟩
          refine ⟨?_, a2, a3⟩
          rcases Nat.lt_or_ge t i with z8 | z8
          · exact z8
          · have : i = t := by omega
            subst this
            exact absurd a3 hc
        · rintro ⟨a1, a2, a3⟩
          exact ⟨by omega, a2, a3⟩
