/-! the fewest steps, as walks -/
def Fpw (D : Nat → Prop) (st go : Nat) : Nat → Nat → Prop
  | 0, c => c = go ∧ (¬ D go ∨ go = st)
  | n + 1, c => ∃ d, d < 12 ∧ bt (aro c) d = true ∧ ¬ D d ∧ Fpw D st go n d
def Fow (D : Nat → Prop) (st c : Nat) : Prop := c < 12 ∧ (¬ D c ∨ c = st)
def Fqw (D : Nat → Prop) (st go : Nat) : Nat → Nat → Prop
  | 0, c => c = go ∧ Fow D st c
  | n + 1, c => Fow D st c ∧ ∃ d, d < 12 ∧ bt (aro c) d = true ∧ Fqw D st go n d
theorem Fqw.o {D : Nat → Prop} {st go : Nat} : ∀ {n c : Nat}, Fqw D st go n c → Fow D st c
  | 0, _, h => h.2
  | _ + 1, _, h => h.1
theorem Fpq {D : Nat → Prop} {st go : Nat} : ∀ {n c : Nat}, Fow D st c → Fpw D st go n c → Fqw D st go n c
  | 0, c, ho, h => ⟨h.1, ho⟩
  | n + 1, c, ho, ⟨d, h1, h2, h3, h4⟩ => ⟨ho, d, h1, h2, Fpq ⟨h1, Or.inl h3⟩ h4⟩
theorem Fqp {D : Nat → Prop} {st go : Nat} : ∀ {n c : Nat}, Fqw D st go n c → Fpw D st go n c ∨ ∃ m, m < n ∧ Fqw D st go m st
  | 0, c, h => Or.inl ⟨h.1, by rw [← h.1]; exact h.2.2⟩
  | n + 1, c, ⟨ho, d, h1, h2, h3⟩ => by
    rcases Fqp h3 with q | ⟨m, q1, q2⟩
    · rcases (Fqw.o h3).2 with z | z
      · exact Or.inl ⟨d, h1, h2, z, q⟩
      · exact Or.inr ⟨n, by omega, by have h4 := h3; rw [z] at h4; exact h4⟩
    · exact Or.inr ⟨m, by omega, q2⟩
theorem aro_sym : ∀ c, c < 12 → ∀ d, d < 12 → bt (aro c) d = bt (aro d) c := by decide +kernel
/-- what the class measures -/
def LeftOK (D : Nat → Prop) (st go : Nat) (x : Int32) (c : Nat) : Prop := (∃ n, n < 12 ∧ x = nI n ∧ Fqw D st go n c ∧ ∀ m, m < n → ¬ Fqw D st go m c) ∨ (x = -9 ∧ ∀ n, ¬ Fqw D st go n c)
theorem meas_in {kb63 : Wd → Int32 → Int32 → Int32 → Int32 → Option Wd} {v4 v5 v6 v7 : Int32} : ∀ (n t : Nat) (w : Wd) (x : Int32), 12 - t < n → t ≤ 12 → (∀ j, bt x j = true ↔ ∃ c, c < t ∧ bt v5 c = true ∧ bt (aro c) j = true) → ∃ w1 nx, b_X6_measure_81 kb63 n w v4 v5 v6 v7 x (nI t) = kb63 w1 v4 ((nx &&& v4) &&& (v6 ^^^ (-1))) (v6 ||| ((nx &&& v4) &&& (v6 ^^^ (-1)))) (v7 + 1) ∧ Only (fun k _ => k = 93) w w1 ∧ (∀ j, bt nx j = true ↔ ∃ c, c < 12 ∧ bt v5 c = true ∧ bt (aro c) j = true) ∧ (∀ c, t ≤ c → c < 12 → w1.1 93 c = if bt v5 c then v7 else w.1 93 c) ∧ ∀ c, c < t → w1.1 93 c = w.1 93 c := by
  intro n
  induction n with
  | zero => intro t w x h; omega
  | succ n ih =>
    intro t w x hn ht hx
    rw [b_X6_measure_81]
    by_cases h : t = 12
    · subst h
      rw [if_pos (show (12 : Int32) ≤ nI 12 by decide), nm_ok, nm_ok, nm_ok]
      exact ⟨w, x, rfl, Only.rf, hx, fun c h1 h2 => by omega, fun c _ => rfl⟩
    · rw [if_neg (show ¬ (12 : Int32) ≤ nI t from nI_ge (b := 12) (by omega) (by decide))]
      unfold b_X6_measure_117
      simp only [nm_ok, nI_1, neighbours_v (show t < 12 by omega), bd_ok, gd_true (inb_nI (show t < 12 by omega) (by decide)), nI_clamp (show t < 2 ^ 31 by omega)]
      by_cases hb : bt v5 t = true
      · rw [if_neg (fun z => by rw [tb0 _ (by omega), hb] at z; cases z)]
        obtain ⟨w1, nx, e1, o1, g1, g2, g3⟩ := ih (t + 1) (up w 93 t v7) (x ||| aro t) (by omega) (by omega) (fun j => by
          rw [b_or, Bool.or_eq_true, hx j]
          constructor
          · rintro (⟨c, q1, q2⟩ | q)
            · exact ⟨c, by omega, q2⟩
            · exact ⟨t, by omega, hb, q⟩
          · rintro ⟨c, q1, q2, q3⟩
            rcases Nat.lt_or_ge c t with z | z
            · exact Or.inl ⟨c, z, q2, q3⟩
            · have : c = t := by omega
              subst this
              exact Or.inr q3)
        refine ⟨w1, nx, e1, (Only.up (S := fun k _ => k = 93) Only.rf rfl).tr o1, g1, fun c h1 h2 => ?_, fun c h1 => ?_⟩
        · by_cases hc : c = t
          · subst hc; rw [g3 c (by omega), up_eq, if_pos hb]
          · rw [g2 c (by omega) h2, up_ns hc]
        · rw [g3 c (by omega), up_ns (by omega)]
      · have hbf : bt v5 t = false := by cases hq : bt v5 t <;> simp_all
        rw [if_pos ((tb0 _ (by omega)).mpr hbf)]
        obtain ⟨w1, nx, e1, o1, g1, g2, g3⟩ := ih (t + 1) w x (by omega) (by omega) (fun j => by
          rw [hx j]
          constructor
          · rintro ⟨c, q1, q2⟩; exact ⟨c, by omega, q2⟩
          · rintro ⟨c, q1, q2, q3⟩
            refine ⟨c, ?_, q2, q3⟩
            rcases Nat.lt_or_ge c t with z | z
            · exact z
            · have : c = t := by omega
              subst this
              exact absurd q2 hb)
        refine ⟨w1, nx, e1, o1, g1, fun c h1 h2 => ?_, fun c h1 => g3 c (by omega)⟩
        by_cases hc : c = t
        · subst hc; rw [g3 c (by omega), if_neg hb]
        · exact g2 c (by omega) h2
theorem meas_out {D : Nat → Prop} {st go : Nat} {v4 : Int32} (hgo : go < 12) (ho : ∀ c, bt v4 c = true ↔ Fow D st c) : ∀ (n s : Nat) (w : Wd) (v sn : Int32), 12 - s < n → s ≤ 12 → (∀ c, bt v c = true ↔ Fqw D st go s c ∧ ∀ m, m < s → ¬ Fqw D st go m c) → (∀ c, bt sn c = true ↔ ∃ m, m ≤ s ∧ Fqw D st go m c) → (∀ c, c < 12 → (∃ m, m < s ∧ w.1 93 c = nI m ∧ Fqw D st go m c ∧ ∀ k, k < m → ¬ Fqw D st go k c) ∨ ((∀ m, m < s → ¬ Fqw D st go m c) ∧ w.1 93 c = -9)) → s ≤ fb_ct (fun c => bt sn c && !bt v c) 12 → ∃ w1, b_X6_measure_63 n w v4 v sn (nI s) = some w1 ∧ Only (fun k _ => k = 93) w w1 ∧ ∀ c, c < 12 → LeftOK D st go (w1.1 93 c) c := by
  intro n
  induction n with
  | zero => intro s w v sn h; omega
  | succ n ih =>
    intro s w v sn hn hs a1 a2 a3 a4
    rw [b_X6_measure_63]
    -- when no cell is new at s, nothing more is reached
    have stop : (∀ c, ¬ bt v c = true) → ∀ k c, Fqw D st go k c → ∃ m, m < s ∧ Fqw D st go m c := by
      intro hv k
      have hat : ∀ c, Fqw D st go s c → ∃ m, m < s ∧ Fqw D st go m c := fun c hc => Classical.byContradiction fun hno => hv c ((a1 c).mpr ⟨hc, fun m hm hq => hno ⟨m, hm, hq⟩⟩)
      induction k with
      | zero =>
        intro c hc
        rcases Nat.eq_zero_or_pos s with q | q
        · subst q; exact hat c hc
        · exact ⟨0, q, hc⟩
      | succ k ihk =>
        intro c hc
        obtain ⟨h1, d, h2, h3, h4⟩ := hc
        obtain ⟨m, hm, hq⟩ := ihk d h4
        have hq2 : Fqw D st go (m + 1) c := ⟨h1, d, h2, h3, hq⟩
        by_cases hms : m + 1 = s
        · rw [hms] at hq2; exact hat c hq2
        · exact ⟨m + 1, by omega, hq2⟩
    have fin : (∀ c, ¬ bt v c = true) → ∀ c, c < 12 → LeftOK D st go (w.1 93 c) c := fun hv c hc => by
      rcases a3 c hc with ⟨m, h1, h2, h3, h4⟩ | ⟨h1, h2⟩
      · exact Or.inl ⟨m, by omega, h2, h3, h4⟩
      · refine Or.inr ⟨h2, fun k hk => ?_⟩
        obtain ⟨m, hm, hq⟩ := stop hv k c hk
        exact h1 m hm hq
    by_cases h : s = 12
    · subst h
      rw [if_pos (show (12 : Int32) ≤ nI 12 by decide)]
      refine ⟨w, rfl, Only.rf, fin (fun c hc => ?_)⟩
      have hall := fb_ct_all.mp (Nat.le_antisymm (fb_ct_le _ _) a4)
      have hc12 : c < 12 := (Fqw.o ((a1 c).mp hc).1).1
      have := hall c hc12
      simp [hc] at this
    · rw [if_neg (show ¬ (12 : Int32) ≤ nI s from nI_ge (b := 12) (by omega) (by decide))]
      by_cases hv : v = 0
      · rw [if_pos hv]
        exact ⟨w, rfl, Only.rf, fin (fun c hc => by rw [b0_of hv] at hc; cases hc)⟩
      · rw [if_neg hv]
        obtain ⟨w1, nx, e1, o1, g1, g2, -⟩ := meas_in (kb63 := b_X6_measure_63 n) (v4 := v4) (v5 := v) (v6 := sn) (v7 := nI s) LF 0 w 0 (by unfold LF; omega) (by omega) (fun j => by rw [b_0]; simp)
        rw [show b_X6_measure_81 (b_X6_measure_63 n) LF w v4 v sn (nI s) 0 0 = b_X6_measure_81 (b_X6_measure_63 n) LF w v4 v sn (nI s) 0 (nI 0) from rfl, e1, nI_1]
        have hnv : ∀ c, bt ((nx &&& v4) &&& (sn ^^^ (-1))) c = true ↔ Fqw D st go (s + 1) c ∧ ∀ m, m < s + 1 → ¬ Fqw D st go m c := fun c => by
          constructor
          · intro q
            have h32 := bt32 q
            rw [b_and, Bool.and_eq_true, b_and, Bool.and_eq_true, b_not _ h32] at q
            obtain ⟨⟨q1, q2⟩, q3⟩ := q
            have hO := (ho c).mp q2
            obtain ⟨d, d1, d2, d3⟩ := (g1 c).mp q1
            have hdq := ((a1 d).mp d2).1
            refine ⟨⟨hO, d, d1, by rw [aro_sym c hO.1 d d1]; exact d3, hdq⟩, fun m hm hq => ?_⟩
            have := (a2 c).mpr ⟨m, by omega, hq⟩
            rw [this] at q3; cases q3
          · rintro ⟨⟨hO, d, d1, d2, d3⟩, hno⟩
            have h32 : c < 32 := by have := hO.1; omega
            rw [b_and, Bool.and_eq_true, b_and, Bool.and_eq_true, b_not _ h32]
            refine ⟨⟨(g1 c).mpr ⟨d, d1, (a1 d).mpr ⟨d3, fun m hm hq => ?_⟩, by rw [aro_sym d d1 c hO.1]; exact d2⟩, (ho c).mpr hO⟩, ?_⟩
            · exact hno (m + 1) (by omega) ⟨hO, d, d1, d2, hq⟩
            · cases hb : bt sn c
              · rfl
              · obtain ⟨m, hm, hq⟩ := (a2 c).mp hb
                exact absurd hq (hno m (by omega))
        obtain ⟨nv, hnv9⟩ : ∃ z, z = (nx &&& v4) &&& (sn ^^^ (-1)) := ⟨_, rfl⟩
        rw [← hnv9] at hnv ⊢
        obtain ⟨w2, e2, o2, g4⟩ := ih (s + 1) w1 nv (sn ||| nv) (by omega) (by omega) hnv (fun c => by
          rw [b_or, Bool.or_eq_true, a2 c, hnv c]
          constructor
          · rintro (⟨m, q1, q2⟩ | ⟨q1, q2⟩)
            · exact ⟨m, by omega, q2⟩
            · exact ⟨s + 1, Nat.le_refl _, q1⟩
          · rintro ⟨m, q1, q2⟩
            by_cases hex : ∃ m, m ≤ s ∧ Fqw D st go m c
            · exact Or.inl hex
            · refine Or.inr ⟨?_, fun k hk hq => hex ⟨k, by omega, hq⟩⟩
              by_cases hm : m = s + 1
              · rw [← hm]; exact q2
              · exact absurd ⟨m, by omega, q2⟩ hex) (fun c hc => by
          rw [g2 c (by omega) hc]
          by_cases hb : bt v c = true
          · obtain ⟨q1, q2⟩ := (a1 c).mp hb
            rw [if_pos hb]
            exact Or.inl ⟨s, by omega, rfl, q1, q2⟩
          · rw [if_neg hb]
            rcases a3 c hc with ⟨m, h1, h2⟩ | ⟨h1, h2⟩
            · exact Or.inl ⟨m, by omega, h2⟩
            · refine Or.inr ⟨fun m hm hq => ?_, h2⟩
              by_cases hms : m = s
              · subst hms; exact hb ((a1 c).mpr ⟨hq, h1⟩)
              · exact h1 m (by omega) hq) (by
          have e9 : fb_ct (fun c => (bt sn c && !bt v c) || bt v c) 12 = fb_ct (fun c => bt sn c && !bt v c) 12 + fb_ct (bt v) 12 := fb_ct_or (fun c _ z => by
            have := z.1
            rw [z.2] at this
            simp at this)
          have e8 : fb_ct (fun c => (bt sn c && !bt v c) || bt v c) 12 ≤ fb_ct (fun c => bt (sn ||| nv) c && !bt nv c) 12 := fb_ct_sub (fun c _ hc => by
            have hsn : bt sn c = true := by
              rw [Bool.or_eq_true, Bool.and_eq_true] at hc
              rcases hc with q | q
              · exact q.1
              · exact (a2 c).mpr ⟨s, Nat.le_refl _, ((a1 c).mp q).1⟩
            have hnn : bt nv c = false := by
              cases hb : bt nv c
              · rfl
              · obtain ⟨m, hm, hq⟩ := (a2 c).mp hsn
                exact absurd hq (((hnv c).mp hb).2 m (by omega))
            rw [b_or, hsn, hnn]; rfl)
          obtain ⟨c, hc, hb⟩ := bne hv
          have hc12 : c < 12 := (Fqw.o ((a1 c).mp hb).1).1
          have : 0 < fb_ct (bt v) 12 := fb_ct_pos.mpr ⟨c, hc12, hb⟩
          omega)
        exact ⟨w2, e2, o1.tr o2, g4⟩
theorem meas_0 {v1 v2 v3 : Int32} : ∀ (n t : Nat) (w : Wd), 12 - t < n → t ≤ 12 → ∃ w1, b_X6_measure_3 n w v1 v2 v3 (nI t) = b_X6_measure_3 1 w1 v1 v2 v3 (nI 12) ∧ Only (fun k _ => k = 93) w w1 ∧ (∀ c, t ≤ c → c < 12 → w1.1 93 c = -9) ∧ ∀ c, c < t → w1.1 93 c = w.1 93 c := by
  intro n
  induction n with
  | zero => intro t w h; omega
  | succ n ih =>
    intro t w hn ht
    by_cases h : t = 12
    · subst h
      refine ⟨w, ?_, Only.rf, fun c h1 h2 => by omega, fun c _ => rfl⟩
      rw [b_X6_measure_3, b_X6_measure_3, if_pos (show (12 : Int32) ≤ nI 12 by decide), if_pos (show (12 : Int32) ≤ nI 12 by decide)]
    · rw [b_X6_measure_3, if_neg (show ¬ (12 : Int32) ≤ nI t from nI_ge (b := 12) (by omega) (by decide)), gd_true (inb_nI (show t < 12 by omega) (by decide)), nm_ok, nm_ok, nI_1, nI_clamp (by omega)]
      obtain ⟨w1, e1, o1, g1, g2⟩ := ih (t + 1) (up w 93 t (-9)) (by omega) (by omega)
      refine ⟨w1, e1, (Only.up (S := fun k _ => k = 93) Only.rf rfl).tr o1, fun c h1 h2 => ?_, fun c h1 => ?_⟩
      · by_cases hc : c = t
        · subst hc; rw [g2 c (by omega), up_eq]
        · exact g1 c (by omega) h2
      · rw [g2 c (by omega), up_ns (by omega)]
theorem b_4095 (i : Nat) : bt 4095 i = decide (i < 12) := by
  rcases Nat.lt_or_ge i 32 with h | h
  · exact (by decide +kernel : ∀ i, i < 32 → bt 4095 i = decide (i < 12)) i h
  · rw [b_big h, decide_eq_false (by omega)]
theorem measure_v {w : Wd} {D : Nat → Prop} {st go : Nat} {dv : Int32} (hst : st < 12) (hgo : go < 12) (hD : ∀ c, c < 12 → (D c ↔ bt (w.1 11 2) c = true ∨ bt dv c = true)) : ∃ w1, f_X6_measure w (nI st) (nI go) dv = some w1 ∧ Only (fun k _ => k = 93) w w1 ∧ ∀ c, c < 12 → LeftOK D st go (w1.1 93 c) c := by
  unfold f_X6_measure b_X6_measure_0
  obtain ⟨w1, e1, o1, g1, -⟩ := meas_0 (v1 := nI st) (v2 := nI go) (v3 := dv) LF 0 w (by unfold LF; omega) (by omega)
  rw [show b_X6_measure_3 LF w (nI st) (nI go) dv 0 = b_X6_measure_3 LF w (nI st) (nI go) dv (nI 0) from rfl, e1, b_X6_measure_3, if_pos (show (12 : Int32) ≤ nI 12 by decide), nm_ok, nm_ok, o1.1 11 2 (by decide)]
  obtain ⟨v4, hv4⟩ : ∃ z, z = ((((4095 : Int32) &&& (w.1 11 2 ^^^ (-1))) &&& (dv ^^^ (-1))) ||| ((1 : Int32) <<< (nI st &&& 31))) := ⟨_, rfl⟩
  rw [← hv4]
  have ho : ∀ c, bt v4 c = true ↔ Fow D st c := fun c => by
    unfold Fow
    rcases Nat.lt_or_ge c 32 with h32 | h32
    · rw [hv4, b_or, Bool.or_eq_true, b_and, Bool.and_eq_true, b_and, Bool.and_eq_true, b_not _ h32, b_not _ h32, b_4095, one_t (by omega)]
      constructor
      · rintro (⟨⟨q1, q2⟩, q3⟩ | q)
        · have hc : c < 12 := by simpa using q1
          refine ⟨hc, Or.inl (fun z => ?_)⟩
          rcases (hD c hc).mp z with z | z
          · rw [z] at q2; cases q2
          · rw [z] at q3; cases q3
        · have : c = st := by simpa using q
          exact ⟨by omega, Or.inr this⟩
      · rintro ⟨h1, h2 | h2⟩
        · refine Or.inl ⟨⟨by simpa using h1, ?_⟩, ?_⟩
          · cases hb : bt (w.1 11 2) c
            · rfl
            · exact absurd ((hD c h1).mpr (Or.inl hb)) h2
          · cases hb : bt dv c
            · rfl
            · exact absurd ((hD c h1).mpr (Or.inr hb)) h2
        · exact Or.inr (by simpa using h2)
    · rw [b_big h32]
      exact ⟨fun z => (by cases z), fun z => (by omega)⟩
  have hw0 : ∀ c, bt (v4 &&& ((1 : Int32) <<< (nI go &&& 31))) c = true ↔ Fqw D st go 0 c := fun c => by
    rw [b_and, Bool.and_eq_true, one_t (by omega), ho c]
    show _ ↔ c = go ∧ Fow D st c
    constructor
    · rintro ⟨q1, q2⟩; exact ⟨by simpa using q2, q1⟩
    · rintro ⟨q1, q2⟩; exact ⟨q2, by simpa using q1⟩
  obtain ⟨w2, e2, o2, g2⟩ := meas_out (v4 := v4) hgo ho LF 0 w1 (v4 &&& ((1 : Int32) <<< (nI go &&& 31))) (v4 &&& ((1 : Int32) <<< (nI go &&& 31))) (by unfold LF; omega) (by omega) (fun c => by rw [hw0 c]; exact ⟨fun q => ⟨q, fun m hm => by omega⟩, fun q => q.1⟩) (fun c => by
    rw [hw0 c]
    exact ⟨fun q => ⟨0, by omega, q⟩, fun ⟨m, hm, q⟩ => by rw [show m = 0 by omega] at q; exact q⟩) (fun c hc => Or.inr ⟨fun m hm => by omega, g1 c (by omega) hc⟩) (Nat.zero_le _)
  exact ⟨w2, e2, o1.tr o2, g2⟩
