/-! one more net: the reference's memory z with a seventh trap beside the class's w -/
def OMR (w z : Wd) (T : Nat) : Prop := (∀ j, j ≠ T → z.1 108 j = w.1 108 j) ∧ (∀ j, j ≠ T → z.1 110 j = w.1 110 j) ∧ z.1 110 T = 4 ∧ (∀ j, j ≠ T → z.1 111 j = w.1 111 j) ∧ z.1 111 T = 0 ∧ z.1 112 = w.1 112
theorem wvv_more {w z : Wd} {T W : Nat} {cl kd : Nat → Nat} {a A : Int32} {u : Nat} (hp : PlanR w T W cl kd) (hT : T < 6) (hz : OMR w z T) (ha : ∀ i, bt a i = true → i < T) (hA : ∀ i, bt A i = (bt a i || decide (i = T))) (hu : u < T) : wvv z A u = wvv w a u := by
  have hw : ∀ i, i < T → ∀ j, bt (w.1 111 i) j = true → j < T := fun i hi j hj => by
    obtain ⟨-, -, -, -, -, -, -, -, -, -, -, -, hwi, -⟩ := hp
    rw [← (hwi i hi).1] at hj
    exact (hwi i hi).2 j hj
  obtain ⟨z8, z10, z10T, z11, z11T, z12⟩ := hz
  have hm : ∀ i, i < T → (mrd z A i = true ↔ mrd w a i = true) := fun i hi => by
    rw [mrd_t, mrd_t, hA i, z10 i (by omega), decide_eq_false (show ¬ i = T by omega), Bool.or_false]
  have hC := (wave_v (w := w) (a := a) (show u < 7 by omega)).2
  have hX : ∀ i, bt (wvv w a u) i = true → i < T := fun i hi => ha i (wvv_sub (by omega) hi).1
  refine clo_val (wave_v (show u < 7 by omega)).2 ⟨fun i h1 h2 => ?_, fun i j h1 h2 h3 => ?_, fun y h1 h2 i hi => ?_⟩
  · have hiu : i = u := by simpa using h1
    rw [hiu] at h2 ⊢
    exact hC.1 u (by simp) ((hm u hu).mp h2)
  · have hi := hX i h1
    have h2 : bt (z.1 111 i) j = true := h2
    rw [z11 i (by omega)] at h2
    have hj := hw i hi j h2
    exact hC.2.1 i j h1 h2 ((hm j hj).mp h3)
  · have h : (y i && bt (wvv w a u) i) = true := hC.2.2 (fun i => y i && bt (wvv w a u) i) (fun i q1 q2 => by
      have hiu : i = u := by simpa using q1
      rw [hiu] at q2 ⊢
      show (y u && bt (wvv w a u) u) = true
      rw [Bool.and_eq_true]
      exact ⟨h1 u (by simp) ((hm u hu).mpr q2), hC.1 u (by simp) q2⟩) (fun i j q1 q2 q3 => by
      have q1 : (y i && bt (wvv w a u) i) = true := q1
      rw [Bool.and_eq_true] at q1
      show (y j && bt (wvv w a u) j) = true
      rw [Bool.and_eq_true]
      have hi := hX i q1.2
      have hj := hw i hi j q2
      exact ⟨h2 i j q1.1 (by show bt (z.1 111 i) j = true; rw [z11 i (by omega)]; exact q2) ((hm j hj).mpr q3), hC.2.1 i j q1.2 q2 q3⟩) i hi
    rw [Bool.and_eq_true] at h
    exact h.1
theorem StR.more {w z : Wd} {T W : Nat} {cl kd : Nat → Nat} {a A v : Int32} {t e : Nat} {r wk : Int32} (hp : PlanR w T W cl kd) (hT : T < 6) (hz : OMR w z T) (hzT : z.1 108 T = nI t) (ht : t < 12) (he : e < 12) (hne : ¬ e = t) (ha : ∀ i, bt a i = true → i < T) (hA : ∀ i, bt A i = (bt a i || decide (i = T))) (h : StR w T a v 0 e r wk) : StR z (T + 1) A v 0 e r wk := by
  rcases h with ⟨n1, q1, q2⟩ | ⟨u, u1, u2, h3⟩
  · refine Or.inl ⟨fun x hx => ?_, q1, q2⟩
    by_cases hxT : x = T
    · rw [hxT, hzT]
      exact fun q => hne ((nI_eq (by omega) (by omega)).mp q).symm
    · rw [hz.1 x hxT]
      exact n1 x (by omega)
  · refine Or.inr ⟨u, by omega, by rw [hz.1 u (by omega)]; exact u2, ?_⟩
    rw [hA u, hz.2.1 u (by omega), decide_eq_false (show ¬ u = T by omega), Bool.or_false, wvv_more hp hT hz ha hA u1]
    exact h3
def RM (T : Nat) (a v A V : Int32) : Prop := (∀ i, bt a i = true → i < T) ∧ (∀ i, bt A i = (bt a i || decide (i = T))) ∧ V = v
theorem nx_more {w z : Wd} {T W g : Nat} {cl kd : Nat → Nat} {a A v V : Int32} {t e : Nat} (hp : PlanR w T W cl kd) (hT : T < 6) (hz : OMR w z T) (hzT : z.1 108 T = nI t) (hzi : ∀ i j, i < T + 1 → j < T + 1 → z.1 108 i = z.1 108 j → i = j) (ht : t < 12) (he : e < 12) (hR : RM T a v A V) : (nxN w T g 0 (nI t) e a v).1 = (nxS z (T + 1) g 0 e A V).1 ∧ ((nxN w T g 0 (nI t) e a v).1 = false → RM T (nxN w T g 0 (nI t) e a v).2.1 (nxN w T g 0 (nI t) e a v).2.2 (nxS z (T + 1) g 0 e A V).2.1 (nxS z (T + 1) g 0 e A V).2.2) := by
  obtain ⟨ha, hA, hV⟩ := hR
  subst hV
  by_cases h : e = t
  · have h1 : nxN w T g 0 (nI t) e a V = (true, a, V) := if_pos ⟨rfl, by rw [h]⟩
    rw [h1]
    refine ⟨?_, fun q => by cases q⟩
    show true = ctB z g e (srr z (T + 1) A V 0 e)
    symm
    rcases sr_v z (T + 1) A V 0 e with ⟨n1, -, -⟩ | ⟨u, u1, u2, h3⟩
    · exact absurd (by rw [hzT, h]) (n1 T (by omega))
    · have huT : u = T := hzi u T u1 (by omega) (by rw [u2, hzT, h])
      rw [huT] at h3 u2
      rcases h3 with ⟨⟨-, -, q, -⟩, -⟩ | ⟨-, q, -⟩
      · rw [hz.2.2.1] at q
        exact absurd q (by decide)
      · rw [if_pos rfl] at q
        refine ctB_t.mpr ⟨T, by omega, ?_, u2, by rw [hz.2.2.1]; simp [catI]⟩
        rw [q]
        exact (wave_v (by omega)).2.1 T (by simp) (mrd_t.mpr ⟨by rw [hA T]; simp, by omega, by rw [hz.2.2.1]; decide⟩)
  · have h1 : nxN w T g 0 (nI t) e a V = nxS w T g 0 e a V := if_neg (fun q => h ((nI_eq (by omega) (by omega)).mp q.2))
    rw [h1]
    have hS := sr_v w T a V 0 e
    obtain ⟨p1, p2⟩ := StR.one hzi (sr_v z (T + 1) A V 0 e) (StR.more hp hT hz hzT ht he h ha hA hS)
    unfold nxS
    rw [p1, p2]
    obtain ⟨r, hr⟩ : ∃ q, q = srr w T a V 0 e := ⟨_, rfl⟩
    obtain ⟨k, hk⟩ : ∃ q, q = srk w T a V 0 e := ⟨_, rfl⟩
    rw [← hr, ← hk] at hS ⊢
    have hrT : ∀ i, bt r i = true → i < T := fun i hi => ha i (hS.sub (by omega) hi)
    refine ⟨?_, fun _ => ⟨fun i hi => ?_, fun i => ?_, rfl⟩⟩
    · show ctB w g e r = ctB z g e r
      have h2 : ctB w g e r = true ↔ ctB z g e r = true := by
        rw [ctB_t, ctB_t]
        constructor
        · rintro ⟨i, i1, i2, i3, i4⟩
          have := hrT i i2
          exact ⟨i, i1, i2, by rw [hz.1 i (by omega)]; exact i3, by rw [hz.2.1 i (by omega), hz.2.2.2.2.2]; exact i4⟩
        · rintro ⟨i, i1, i2, i3, i4⟩
          have := hrT i i2
          rw [hz.1 i (by omega)] at i3
          rw [hz.2.1 i (by omega), hz.2.2.2.2.2] at i4
          exact ⟨i, i1, i2, i3, i4⟩
      cases hx : ctB w g e r <;> cases hy : ctB z g e r <;> simp_all
    · have hi : bt (a &&& (r ^^^ (-1))) i = true := hi
      rw [b_and, Bool.and_eq_true] at hi
      exact ha i hi.1
    · show bt (A &&& (r ^^^ (-1))) i = (bt (a &&& (r ^^^ (-1))) i || decide (i = T))
      rw [b_and, b_and, hA i]
      by_cases hi : i = T
      · have hrf : bt r i = false := by
          cases hb : bt r i
          · rfl
          · have := hrT i hb; omega
        rw [b_not _ (show i < 32 by omega), hrf, decide_eq_true hi]
        simp
      · rw [decide_eq_false hi]
        simp
/-! the best of twelve -/
def bst (op : Nat → Bool) (P : Nat → Nat) : Nat → Option (Nat × Nat)
  | 0 => none
  | t + 1 => if op t then (match bst op P t with
    | none => some (t, P t)
    | some q => if P t ≤ q.2 then some q else some (t, P t)) else bst op P t
def bsI : Option (Nat × Nat) → Int32
  | none => -9
  | some q => nI q.1
def msI (d : Int32) : Option (Nat × Nat) → Int32
  | none => d
  | some q => nI q.2
theorem bst_b {op : Nat → Bool} {P : Nat → Nat} {B : Nat} (hP : ∀ t, P t ≤ B) : ∀ t q, bst op P t = some q → q.2 ≤ B
  | 0, q, h => by rw [bst] at h; cases h
  | t + 1, q, h => by
    rw [bst] at h
    by_cases ho : op t = true
    · rw [if_pos ho] at h
      cases hb : bst op P t with
      | none =>
        rw [hb] at h
        have h : some (t, P t) = some q := h
        rw [← Option.some.inj h]
        exact hP t
      | some q1 =>
        rw [hb] at h
        have h : (if P t ≤ q1.2 then some q1 else some (t, P t)) = some q := h
        by_cases h1 : P t ≤ q1.2
        · rw [if_pos h1] at h
          rw [← Option.some.inj h]
          exact bst_b hP t q1 hb
        · rw [if_neg h1] at h
          rw [← Option.some.inj h]
          exact hP t
    · rw [if_neg ho] at h
      exact bst_b hP t q h
theorem bst_no {op : Nat → Bool} {P : Nat → Nat} {t : Nat} (ho : op t = false) : bst op P (t + 1) = bst op P t := by
  rw [bst, ho]; rfl
theorem bst_yes {op : Nat → Bool} {P : Nat → Nat} {B t : Nat} {d : Int32} (hd : d < 0) (hB : B < 2 ^ 31) (hP : ∀ t, P t ≤ B) (ho : op t = true) :
    (nI (P t) ≤ msI d (bst op P t) → bsI (bst op P t) = bsI (bst op P (t + 1)) ∧ msI d (bst op P t) = msI d (bst op P (t + 1))) ∧
    (¬ nI (P t) ≤ msI d (bst op P t) → nI t = bsI (bst op P (t + 1)) ∧ nI (P t) = msI d (bst op P (t + 1))) := by
  have hPt := hP t
  rw [show bst op P (t + 1) = if op t then (match bst op P t with
    | none => some (t, P t)
    | some q => if P t ≤ q.2 then some q else some (t, P t)) else bst op P t from rfl, if_pos ho]
  cases hb : bst op P t with
  | none =>
    refine ⟨fun h => ?_, fun _ => ⟨rfl, rfl⟩⟩
    have h : nI (P t) ≤ d := h
    exfalso
    rw [i_le, nI_toInt (by omega)] at h
    rw [i_lt] at hd
    have e0 : (0 : Int32).toInt = 0 := rfl
    omega
  | some q =>
    have hq := bst_b hP t q hb
    have hl : nI (P t) ≤ nI q.2 ↔ P t ≤ q.2 := nI_leI (by omega) (by omega)
    constructor
    · intro h
      have h1 : P t ≤ q.2 := hl.mp h
      show _ = bsI (if P t ≤ q.2 then some q else some (t, P t)) ∧ _ = msI d (if P t ≤ q.2 then some q else some (t, P t))
      rw [if_pos h1]
      exact ⟨rfl, rfl⟩
    · intro h
      have h1 : ¬ P t ≤ q.2 := fun z => h (hl.mpr z)
      show _ = bsI (if P t ≤ q.2 then some q else some (t, P t)) ∧ _ = msI d (if P t ≤ q.2 then some q else some (t, P t))
      rw [if_neg h1]
      exact ⟨rfl, rfl⟩
theorem msI_m1 {op : Nat → Bool} {P : Nat → Nat} {B t : Nat} (hB : B < 2 ^ 31) (hP : ∀ t, P t ≤ B) : (-1 : Int32) ≤ msI (-1) (bst op P t) := by
  cases hb : bst op P t with
  | none => exact (by decide : (-1 : Int32) ≤ -1)
  | some q =>
    have hq := bst_b hP t q hb
    show (-1 : Int32) ≤ nI q.2
    rw [i_le, nI_toInt (by omega)]
    have e1 : (-1 : Int32).toInt = -1 := rfl
    omega
