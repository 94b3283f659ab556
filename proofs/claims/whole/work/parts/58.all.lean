theorem spv_full {w : Wd} {st rd : Int32} (h6 : ∀ i, bt rd i = true → i < 6) (h : ∀ i, bt rd i = true → bt st i = true) : spv w st rd = rd :=
  clo_val (spread_v h6).2 ⟨fun i _ h2 => h2, fun i j _ _ h3 => h3, fun y h1 _ i hi => h1 i (h i hi) hi⟩
/-- what the reference finds of a set that springs -/
theorem allBy_v {w : Wd} {T W : Nat} {cl kd : Nat → Nat} (hp : PlanR w T W cl kd) {fr a S rd : Int32} (m13 : w.1 105 13 = fr) (ha9 : w.1 113 0 = a) (ha : ∀ i, bt a i = true → i < T) (hrd : rd = if fr = 0 then a &&& (w.1 11 3 ^^^ (-1)) else 0) (hS : ∀ i, bt S i = true → i < T) : f_X8_allBy w S = some (spv w S rd, w) := by
  have hT := hp.1
  have m0 := hp.2.2.2.1
  unfold f_X8_allBy b_X8_allBy_0
  have key : ∀ (n t : Nat) (x : Int32), T - t < n → t ≤ T → (∀ i, bt x i = true ↔ ∃ u, u < t ∧ bt S u = true ∧ fr = 0 ∧ bt (wvv w a u) i = true) → ∃ r, b_X8_allBy_4 n w S x (nI t) = some (r, w) ∧ ∀ i, bt r i = true ↔ ∃ u, u < T ∧ bt S u = true ∧ fr = 0 ∧ bt (wvv w a u) i = true := by
    intro n
    induction n with
    | zero => intro t x h; omega
    | succ n ih =>
      intro t x hn ht hx
      rw [b_X8_allBy_4, m0, m13]
      by_cases h : t = T
      · subst h
        rw [if_pos (nI_le (Nat.le_refl t) (by omega))]
        exact ⟨x, rfl, hx⟩
      · have htT : t < T := by omega
        rw [if_neg (nI_ge htT (by omega))]
        have no : ¬ (bt S t = true ∧ fr = 0) → ∃ r, b_X8_allBy_43 (b_X8_allBy_4 n) w S (nI t) x = some (r, w) ∧ ∀ i, bt r i = true ↔ ∃ u, u < T ∧ bt S u = true ∧ fr = 0 ∧ bt (wvv w a u) i = true := fun hno => by
          unfold b_X8_allBy_43 b_X8_allBy_44
          rw [nm_ok, nm_ok, nI_1, or_0]
          refine ih (t + 1) x (by omega) (by omega) (fun i => ?_)
          rw [hx i]
          constructor
          · rintro ⟨u, h1, h2⟩; exact ⟨u, by omega, h2⟩
          · rintro ⟨u, h1, h2, h3, h4⟩
            refine ⟨u, ?_, h2, h3, h4⟩
            rcases Nat.lt_or_ge u t with q | q
            · exact q
            · have : u = t := by omega
              subst this
              exact absurd ⟨h2, h3⟩ hno
        by_cases hb : bt S t = true
        · rw [if_pos ((tb1 _ (by omega)).mpr hb)]
          by_cases hf : fr = 0
          · rw [if_pos hf, show w.1 113 ((0 : Int32)).toNatClampNeg = a from ha9, (wave_v (show t < 7 by omega)).1, bd_ok]
            unfold b_X8_allBy_44
            rw [nm_ok, nm_ok, nI_1]
            refine ih (t + 1) _ (by omega) (by omega) (fun i => ?_)
            rw [b_or, Bool.or_eq_true, hx i]
            constructor
            · rintro (⟨u, h1, h2⟩ | h1)
              · exact ⟨u, by omega, h2⟩
              · exact ⟨t, by omega, hb, hf, h1⟩
            · rintro ⟨u, h1, h2, h3, h4⟩
              rcases Nat.lt_or_ge u t with q | q
              · exact Or.inl ⟨u, q, h2, h3, h4⟩
              · have : u = t := by omega
                subst this
                exact Or.inr h4
          · rw [if_neg hf]
            exact no (fun z => hf z.2)
        · rw [if_neg (fun z => hb ((tb1 _ (by omega)).mp z))]
          exact no (fun z => hb z.1)
  obtain ⟨r, e, hr⟩ := key LF 0 0 (by unfold LF; omega) (by omega) (fun i => by rw [b_0]; simp)
  rw [show (0 : Int32) = nI 0 from rfl] at e ⊢
  rw [e]
  have hrr : r = spv w S rd := by
    by_cases hf : fr = 0
    · rw [if_pos hf] at hrd
      have h6 : ∀ i, bt rd i = true → i < 6 := fun i hi => by
        rw [hrd, b_and, Bool.and_eq_true] at hi
        have := ha i hi.1
        omega
      refine clo_val ?_ (spread_v h6).2
      have hre : ∀ i, bt rd i = mrd w a i := fun i => by rw [hrd]; exact rd_eq hp ha i
      have hwq : ∀ i j, mrd w a i = true → bt (w.1 15 i) j = bt (w.1 111 i) j := fun i j hq => by
        rw [(hp.2.2.2.2.2.2.2.2.2.2.2.2.1 i (ha i (mrd_t.mp hq).1)).1]
      refine ⟨fun i h1 h2 => ?_, fun i j h1 h2 h3 => ?_, fun y h1 h2 i hi => ?_⟩
      · have hiT := hS i h1
        refine (hr i).mpr ⟨i, hiT, h1, hf, ?_⟩
        exact (wave_v (show i < 7 by omega)).2.1 i (by simp) (by rw [← hre]; exact h2)
      · obtain ⟨u, q1, q2, q3, q4⟩ := (hr i).mp h1
        refine (hr j).mpr ⟨u, q1, q2, q3, ?_⟩
        have hc := (wave_v (w := w) (a := a) (show u < 7 by omega)).2
        have hmi := clo_rd hc q4
        exact hc.2.1 i j q4 (by show bt (w.1 111 i) j = true; rw [← hwq i j hmi]; exact h2) (by rw [← hre]; exact h3)
      · obtain ⟨u, q1, q2, q3, q4⟩ := (hr i).mp hi
        have hc := (wave_v (w := w) (a := a) (show u < 7 by omega)).2
        have := hc.2.2 (fun i => y i && mrd w a i) (fun i h3 h4 => by
          have : i = u := by simpa using h3
          subst this
          simp [h1 i q2 (by rw [hre]; exact h4), h4]) (fun i j h3 h4 h5 => by
          simp at h3 ⊢
          exact ⟨h2 i j h3.1 (by show bt (w.1 15 i) j = true; rw [hwq i j h3.2]; exact h4) (by rw [hre]; exact h5), h5⟩) i q4
        simp at this
        exact this.1
    · rw [if_neg hf] at hrd
      rw [hrd, spv_zero]
      refine b_ext (fun i hi => ?_)
      rw [b_0]
      cases hb : bt r i
      · rfl
      · obtain ⟨u, q1, q2, q3, q4⟩ := (hr i).mp hb
        exact absurd q3 hf
  rw [hrr]
def lexB (B s : Nat) : Prop := pop (nI B) < pop (nI s) ∨ (pop (nI B) = pop (nI s) ∧ B ≤ s)
theorem lex_one {B C : Nat} (h1 : lexB B C) (h2 : lexB C B) : B = C := by
  unfold lexB at h1 h2
  omega
theorem pop_b {s : Nat} (h : s < 64) : ∀ i, bt (nI s) i = true → i < 12 := fun i hi => by
  have := nb_bits (T := 6) h hi
  omega
theorem all_x {w : Wd} {T : Nat} {rd : Int32} (hT : T ≤ 6) (h6 : ∀ i, bt rd i = true → i < 6) : ∀ (n m B : Nat), m < n → m ≤ 2 ^ T → B < 2 ^ T → spv w (nI B) rd = rd → (∀ s, m ≤ s → s < 2 ^ T → spv w (nI s) rd = rd → lexB B s) → ∃ C, b_X7_all_18 n w rd (nI B) (nI m - 1) = some (nI C, w) ∧ C < 2 ^ T ∧ spv w (nI C) rd = rd ∧ ∀ s, s < 2 ^ T → spv w (nI s) rd = rd → lexB C s := by
  obtain ⟨p1, p2⟩ := p2_le hT
  intro n
  induction n with
  | zero => intro m B h; omega
  | succ n ih =>
    intro m B hn hm hB hg hl
    rw [b_X7_all_18]
    by_cases h : m = 0
    · subst h
      rw [if_pos (show nI 0 - 1 < 0 by decide)]
      exact ⟨B, rfl, hB, hg, fun s hs hg => hl s (by omega) hs hg⟩
    · rw [sub1 (by omega), if_neg (nI_lt0 _ (by omega)), bitCount_v (pop_b (by omega)), bd_ok, bitCount_v (pop_b (by omega)), bd_ok]
      have q1 := pop_le (nI (m - 1))
      have q2 := pop_le (nI B)
      unfold b_X7_all_38 b_X7_all_60
      simp only [nm_ok]
      rw [show nI (m - 1) + (-1) = nI (m - 1) - 1 from (Int32.sub_eq_add_neg _ _).symm]
      by_cases hp : pop (nI B) < pop (nI (m - 1))
      · rw [if_pos (show nI (pop (nI B)) < nI (pop (nI (m - 1))) from nI_lt hp (by omega))]
        simp only [if_true]
        refine ih (m - 1) B (by omega) (by omega) hB hg (fun s h1 h2 h3 => ?_)
        by_cases hs : s = m - 1
        · subst hs; exact Or.inl hp
        · exact hl s (by omega) h2 h3
      · rw [if_neg (show ¬ nI (pop (nI B)) < nI (pop (nI (m - 1))) from fun z => hp (by rw [i_lt, nI_toInt (by omega), nI_toInt (by omega)] at z; omega)), if_neg (show ¬ (1 : Int32) = 0 by decide), (spread_v h6).1, bd_ok]
        by_cases hgd : spv w (nI (m - 1)) rd = rd
        · rw [if_pos hgd]
          refine ih (m - 1) (m - 1) (by omega) (by omega) (by omega) hgd (fun s h1 h2 h3 => ?_)
          by_cases hs : s = m - 1
          · subst hs; exact Or.inr ⟨rfl, Nat.le_refl _⟩
          · have := hl s (by omega) h2 h3
            unfold lexB at this ⊢
            omega
        · rw [if_neg hgd]
          refine ih (m - 1) B (by omega) (by omega) hB hg (fun s h1 h2 h3 => ?_)
          by_cases hs : s = m - 1
          · subst hs; exact absurd h3 hgd
          · exact hl s (by omega) h2 h3
theorem all_m {w : Wd} {T : Nat} {rd : Int32} (hT : T ≤ 6) (m0 : w.1 105 10 = nI T) (hby : ∀ s, s < 2 ^ T → f_X8_allBy w (nI s) = some (spv w (nI s) rd, w)) (hex : ∃ s, s < 2 ^ T ∧ spv w (nI s) rd = rd) : ∀ (n t : Nat) (b : Int32), 2 ^ T - t < n → t ≤ 2 ^ T → ((b = -9 ∧ ∀ s, s < t → ¬ spv w (nI s) rd = rd) ∨ ∃ B, b = nI B ∧ B < t ∧ spv w (nI B) rd = rd ∧ ∀ s, s < t → spv w (nI s) rd = rd → lexB B s) → ∃ C, b_X8_all_18 n w rd b (nI t) = some (nI C, w) ∧ C < 2 ^ T ∧ spv w (nI C) rd = rd ∧ ∀ s, s < 2 ^ T → spv w (nI s) rd = rd → lexB C s := by
  obtain ⟨p1, p2⟩ := p2_le hT
  intro n
  induction n with
  | zero => intro t b h; omega
  | succ n ih =>
    intro t b hn ht hb
    rw [b_X8_all_18, m0, one_n T (by omega)]
    by_cases h : t = 2 ^ T
    · rw [if_pos (nI_le (by omega) (by omega))]
      rcases hb with ⟨h1, h2⟩ | ⟨B, rfl, h2, h3, h4⟩
      · obtain ⟨s, hs, hg⟩ := hex
        exact absurd hg (h2 s (by omega))
      · exact ⟨B, rfl, by omega, h3, fun s hs hg => h4 s (by omega) hg⟩
    · rw [if_neg (nI_ge (show t < 2 ^ T by omega) (by omega))]
      unfold b_X8_all_45 b_X8_all_50 b_X8_all_70 b_X8_all_71
      simp only [nm_ok, nI_1, hby t (by omega), bd_ok, ones_v]
      rw [if_neg (show ¬ (1 : Int32) = 0 by decide), if_pos trivial]
      have q1 := pop_le (nI t)
      rcases hb with ⟨h1, h2⟩ | ⟨B, rfl, h2, h3, h4⟩
      · rw [if_pos h1]
        by_cases hg : spv w (nI t) rd = rd
        · rw [if_pos hg]
          refine ih (t + 1) (nI t) (by omega) (by omega) (Or.inr ⟨t, rfl, by omega, hg, fun s hs hgs => ?_⟩)
          by_cases hst : s = t
          · subst hst; exact Or.inr ⟨rfl, Nat.le_refl _⟩
          · exact absurd hgs (h2 s (by omega))
        · rw [if_neg hg]
          refine ih (t + 1) b (by omega) (by omega) (Or.inl ⟨h1, fun s hs => ?_⟩)
          by_cases hst : s = t
          · subst hst; exact hg
          · exact h2 s (by omega)
      · have q2 := pop_le (nI B)
        rw [if_neg (nI_ne9 (by omega))]
        by_cases hp : pop (nI B) ≤ pop (nI t)
        · rw [if_pos (nI_le hp (by omega))]
          refine ih (t + 1) (nI B) (by omega) (by omega) (Or.inr ⟨B, rfl, by omega, h3, fun s hs hgs => ?_⟩)
          by_cases hst : s = t
          · subst hst
            unfold lexB
            omega
          · exact h4 s (by omega) hgs
        · rw [if_neg (nI_ge (by omega) (by omega))]
          by_cases hg : spv w (nI t) rd = rd
          · rw [if_pos hg]
            refine ih (t + 1) (nI t) (by omega) (by omega) (Or.inr ⟨t, rfl, by omega, hg, fun s hs hgs => ?_⟩)
            by_cases hst : s = t
            · subst hst; exact Or.inr ⟨rfl, Nat.le_refl _⟩
            · have := h4 s (by omega) hgs
              unfold lexB at this ⊢
              omega
          · rw [if_neg hg]
            refine ih (t + 1) (nI B) (by omega) (by omega) (Or.inr ⟨B, rfl, by omega, h3, fun s hs hgs => ?_⟩)
            by_cases hst : s = t
            · subst hst; exact absurd hgs hg
            · exact h4 s (by omega) hgs
theorem s_all : Step f_X7_all f_X8_all := by
  refine Step.ro (fun w T W cl kd hi => ?_)
  obtain ⟨hp, -, ⟨⟨b1, -⟩, ⟨n1, -⟩, n6, n7⟩, -⟩ := hi
  have hT := hp.1
  have x0 := hp.2.2.1
  have m0 := hp.2.2.2.1
  obtain ⟨p1, p2⟩ := p2_le hT
  obtain ⟨rd, hrd⟩ : ∃ z, z = if w.1 18 3 = 0 then w.1 18 1 &&& (w.1 11 3 ^^^ (-1)) else 0 := ⟨_, rfl⟩
  have hrT : ∀ i, bt rd i = true → i < T := fun i hi => by
    rw [hrd] at hi
    by_cases hf : w.1 18 3 = 0
    · rw [if_pos hf, b_and, Bool.and_eq_true] at hi; exact b1 i hi.1
    · rw [if_neg hf, b_0] at hi; cases hi
  have h6 : ∀ i, bt rd i = true → i < 6 := fun i hi => by have := hrT i hi; omega
  obtain ⟨B0, hB0, eB0⟩ := nb_of hrT
  have hg0 : spv w (nI B0) rd = rd := spv_full h6 (fun i hi => by rw [← eB0]; exact hi)
  have hby : ∀ s, s < 2 ^ T → f_X8_allBy w (nI s) = some (spv w (nI s) rd, w) := fun s hs => allBy_v hp n6.symm n1.symm b1 hrd (fun i hi => nb_bits hs hi)
  obtain ⟨C, c1, c2, c3, c4⟩ := all_x (w := w) hT h6 LF (2 ^ T) B0 (by unfold LF; omega) (Nat.le_refl _) hB0 hg0 (fun s h1 h2 => by omega)
  obtain ⟨D, d1, d2, d3, d4⟩ := all_m (w := w) (rd := rd) hT m0 hby ⟨B0, hB0, hg0⟩ LF 0 (-9) (by unfold LF; omega) (by omega) (Or.inl ⟨rfl, fun s hs => by omega⟩)
  have hCD : C = D := lex_one (c4 D d2 d3) (d4 C c2 c3)
  subst hCD
  refine ⟨nI C, ?_, ?_⟩
  · unfold f_X7_all b_X7_all_0 f_X1_allTraps b_X1_allTraps_0
    rw [ready_v, bd_ok, ← hrd, x0, bd_ok, one_n T (by omega)]
    rw [← eB0] at c1
    exact c1
  · unfold f_X8_all b_X8_all_0
    rw [m0, all_n T (by omega), hby _ (by omega), bd_ok, spv_full h6 (fun i hi => by rw [← all_n T (by omega), all_b hT]; exact decide_eq_true (hrT i hi))]
    exact d1
