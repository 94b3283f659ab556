def fb_ct (p : Nat → Bool) : Nat → Nat
  | 0 => 0
  | n + 1 => fb_ct p n + (if p n then 1 else 0)
theorem fb_ct_succ (p : Nat → Bool) (n : Nat) : fb_ct p (n + 1) = fb_ct p n + (if p n then 1 else 0) := rfl
theorem fb_ct_le (p : Nat → Bool) : ∀ n, fb_ct p n ≤ n
  | 0 => Nat.le_refl _
  | n + 1 => by
    have h := fb_ct_le p n
    rw [fb_ct_succ]
    split <;> omega
theorem fb_ct_step (p : Nat → Bool) (m : Nat) : ∀ n, fb_ct p m ≤ fb_ct p (m + n)
  | 0 => Nat.le_refl _
  | n + 1 => by
    have h := fb_ct_step p m n
    show fb_ct p m ≤ fb_ct p (m + n + 1)
    rw [fb_ct_succ]
    omega
theorem fb_ct_mono (p : Nat → Bool) {m n : Nat} (h : m ≤ n) : fb_ct p m ≤ fb_ct p n := by
  have := fb_ct_step p m (n - m)
  rwa [Nat.add_sub_cancel' h] at this
theorem fb_ct_cong {p q : Nat → Bool} : ∀ {n : Nat}, (∀ k, k < n → p k = q k) → fb_ct p n = fb_ct q n
  | 0, _ => rfl
  | n + 1, h => by
    rw [fb_ct_succ, fb_ct_succ, fb_ct_cong (fun k hk => h k (by omega)), h n (by omega)]
/-- one place changed -/
theorem fb_ct_out (p : Nat → Bool) (b : Bool) {i n : Nat} (h : n ≤ i) : fb_ct (fun k => if k = i then b else p k) n = fb_ct p n :=
  fb_ct_cong fun k hk => if_neg (by omega)
theorem fb_ct_upd (p : Nat → Bool) (b : Bool) {i : Nat} : ∀ {n : Nat}, i < n → fb_ct (fun k => if k = i then b else p k) n + (if p i then 1 else 0) = fb_ct p n + (if b then 1 else 0)
  | 0, h => absurd h (Nat.not_lt_zero i)
  | n + 1, h => by
    rw [fb_ct_succ, fb_ct_succ]
    rcases Nat.lt_or_ge i n with q | q
    · have := fb_ct_upd p b q
      have e : (if n = i then b else p n) = p n := if_neg (by omega)
      rw [e]
      omega
    · have e : i = n := by omega
      subst e
      rw [fb_ct_out p b (Nat.le_refl _)]
      simp only [if_true]
      omega
theorem fb_ct_sub {p q : Nat → Bool} : ∀ {n : Nat}, (∀ k, k < n → p k = true → q k = true) → fb_ct p n ≤ fb_ct q n
  | 0, _ => Nat.le_refl _
  | n + 1, h => by
    have h1 := fb_ct_sub (n := n) (p := p) (q := q) (fun k hk => h k (by omega))
    have h2 := h n (by omega)
    rw [fb_ct_succ, fb_ct_succ]
    cases hp : p n <;> cases hq : q n <;> simp_all <;> omega
theorem fb_ct_or {p q : Nat → Bool} : ∀ {n : Nat}, (∀ k, k < n → ¬ (p k = true ∧ q k = true)) → fb_ct (fun k => p k || q k) n = fb_ct p n + fb_ct q n
  | 0, _ => rfl
  | n + 1, h => by
    have h1 := fb_ct_or (n := n) (p := p) (q := q) (fun k hk => h k (by omega))
    have h2 := h n (by omega)
    rw [fb_ct_succ, fb_ct_succ, fb_ct_succ, h1]
    cases hp : p n <;> cases hq : q n <;> simp_all <;> omega
theorem fb_ct_not (p : Nat → Bool) : ∀ n, fb_ct p n + fb_ct (fun k => !p k) n = n
  | 0 => rfl
  | n + 1 => by
    have h := fb_ct_not p n
    rw [fb_ct_succ, fb_ct_succ]
    cases p n <;> simp <;> omega
theorem fb_ct_split (p : Nat → Bool) (m : Nat) : ∀ n, fb_ct p (m + n) = fb_ct p m + fb_ct (fun k => p (m + k)) n
  | 0 => rfl
  | n + 1 => by
    have h := fb_ct_split p m n
    show fb_ct p (m + n + 1) = _
    rw [fb_ct_succ, fb_ct_succ, h, Nat.add_assoc]
theorem fb_ct_zero {p : Nat → Bool} : ∀ {n : Nat}, fb_ct p n = 0 ↔ ∀ k, k < n → p k = false
  | 0 => ⟨fun _ k hk => absurd hk (Nat.not_lt_zero k), fun _ => rfl⟩
  | n + 1 => by
    have h := fb_ct_zero (p := p) (n := n)
    rw [fb_ct_succ]
    constructor
    · intro e k hk
      have e1 : fb_ct p n = 0 := by omega
      rcases Nat.lt_or_ge k n with q | q
      · exact h.mp e1 k q
      · have ek : k = n := by omega
        subst ek
        cases hp : p k
        · rfl
        · simp [hp] at e
    · intro a
      rw [h.mpr (fun k hk => a k (by omega)), a n (by omega)]
      rfl
theorem fb_ct_pos {p : Nat → Bool} {n : Nat} : 0 < fb_ct p n ↔ ∃ k, k < n ∧ p k = true := by
  constructor
  · intro h
    refine Classical.byContradiction fun hx => ?_
    have := fb_ct_zero.mpr (fun k hk => by
      cases hp : p k
      · rfl
      · exact absurd ⟨k, hk, hp⟩ hx : ∀ k, k < n → p k = false)
    omega
  · rintro ⟨k, hk, hp⟩
    rcases Nat.eq_zero_or_pos (fb_ct p n) with e | e
    · have := fb_ct_zero.mp e k hk
      rw [this] at hp
      cases hp
    · exact e
theorem fb_ct_all {p : Nat → Bool} {n : Nat} : fb_ct p n = n ↔ ∀ k, k < n → p k = true := by
  have h := fb_ct_not p n
  constructor
  · intro e k hk
    have z : fb_ct (fun k => !p k) n = 0 := by omega
    have := fb_ct_zero.mp z k hk
    cases hp : p k
    · simp [hp] at this
    · rfl
  · intro a
    have z : fb_ct (fun k => !p k) n = 0 := fb_ct_zero.mpr (fun k hk => by simp [a k hk])
    omega
/-- the k-th place with the property -/
theorem fb_ct_kth {p : Nat → Bool} {k : Nat} : ∀ {n : Nat}, k < fb_ct p n → ∃ i, i < n ∧ p i = true ∧ fb_ct p i = k
  | 0, h => absurd h (Nat.not_lt_zero k)
  | n + 1, h => by
    rcases Nat.lt_or_ge k (fb_ct p n) with q | q
    · obtain ⟨i, h1, h2⟩ := fb_ct_kth q
      exact ⟨i, by omega, h2⟩
    · rw [fb_ct_succ] at h
      cases hp : p n
      · simp [hp] at h; omega
      · simp [hp] at h
        exact ⟨n, by omega, hp, by omega⟩
theorem fb_ct_kth_one {p : Nat → Bool} {i j : Nat} (hi : p i = true) (hj : p j = true) (e : fb_ct p i = fb_ct p j) : i = j := by
  have key : ∀ a b : Nat, a < b → p a = true → fb_ct p a < fb_ct p b := by
    intro a b hab ha
    have h := fb_ct_mono p (show a + 1 ≤ b from hab)
    rw [fb_ct_succ, ha] at h
    simp at h
    omega
  rcases Nat.lt_trichotomy i j with q | q | q
  · have := key i j q hi; omega
  · exact q
  · have := key j i q hj; omega
/-! ===== what springs in the end: the least set that holds the start and is closed ===== -/
def IsClo (wi : Nat → Nat → Bool) (rd st x : Nat → Bool) : Prop :=
  (∀ i, st i = true → rd i = true → x i = true) ∧ (∀ i j, x i = true → wi i j = true → rd j = true → x j = true) ∧
  ∀ y : Nat → Bool, (∀ i, st i = true → rd i = true → y i = true) → (∀ i j, y i = true → wi i j = true → rd j = true → y j = true) → ∀ i, x i = true → y i = true
theorem clo_one {wi : Nat → Nat → Bool} {rd st x y : Nat → Bool} (hx : IsClo wi rd st x) (hy : IsClo wi rd st y) (i : Nat) : x i = y i := by
  have h1 := hx.2.2 y hy.1 hy.2.1 i
  have h2 := hy.2.2 x hx.1 hx.2.1 i
  cases hxi : x i <;> cases hyi : y i <;> simp_all
theorem clo_rd {wi : Nat → Nat → Bool} {rd st x : Nat → Bool} (hx : IsClo wi rd st x) {i : Nat} (h : x i = true) : rd i = true := by
  have := hx.2.2 (fun i => x i && rd i) (fun i h1 h2 => by simp [hx.1 i h1 h2, h2]) (fun i j h1 h2 h3 => by
    simp at h1 ⊢
    exact ⟨hx.2.1 i j h1.1 h2 h3, h3⟩) i h
  simp at this
  exact this.2
/-- the wires count only where something springs and what is ready -/
theorem clo_cong {wi wi2 : Nat → Nat → Bool} {rd rd2 st st2 x : Nat → Bool} (hr : ∀ i, rd i = rd2 i) (hs : ∀ i, rd i = true → st i = st2 i) (hw : ∀ i j, rd i = true → rd j = true → wi i j = wi2 i j) (hx : IsClo wi rd st x) : IsClo wi2 rd2 st2 x := by
  refine ⟨fun i h1 h2 => hx.1 i (by rw [hs i (by rw [hr]; exact h2)]; exact h1) (by rw [hr]; exact h2), fun i j h1 h2 h3 => hx.2.1 i j h1 (by rw [hw i j (clo_rd hx h1) (by rw [hr]; exact h3)]; exact h2) (by rw [hr]; exact h3), fun y h1 h2 i hi => ?_⟩
  have := hx.2.2 (fun i => y i && rd i) (fun i h3 h4 => by simp [h1 i (by rw [← hs i h4]; exact h3) (by rw [← hr]; exact h4), h4]) (fun i j h3 h4 h5 => by
    simp at h3 ⊢
    exact ⟨h2 i j h3.1 (by rw [← hw i j h3.2 h5]; exact h4) (by rw [← hr]; exact h5), h5⟩) i hi
  simp at this
  exact this.1
theorem b0_of {x : Int32} (h : x = 0) (i : Nat) : bt x i = false := by rw [h, b_0]
theorem bne {x : Int32} (h : ¬ x = 0) : ∃ i, i < 32 ∧ bt x i = true := by
  refine Classical.byContradiction fun hn => h ?_
  apply b_ext
  intro i hi
  rw [b_0]
  cases hb : bt x i
  · rfl
  · exact absurd ⟨i, hi, hb⟩ hn
theorem bt32 {x : Int32} {i : Nat} (h : bt x i = true) : i < 32 := by
  rcases Nat.lt_or_ge i 32 with q | q
  · exact q
  · rw [b_big q] at h; cases h
/-- one wave: all that the traps of a set set off -/
theorem spread_in {kb10 : Wd → Int32 → Int32 → Int32 → Int32 → Option (Int32 × Wd)} {p : Nat} {w : Wd} {v2 v3 v4 v5 : Int32} : ∀ (n t : Nat) (x : Int32), 6 - t < n → t ≤ 6 → (∀ j, bt x j = true ↔ ∃ u, u < t ∧ bt v4 u = true ∧ bt (w.1 (p + 4) u) j = true) → ∃ nx, (∀ j, bt nx j = true ↔ ∃ u, u < 6 ∧ bt v4 u = true ∧ bt (w.1 (p + 4) u) j = true) ∧ b_X1_spread_33 kb10 p n w v2 v3 v4 v5 x (nI t) = kb10 w v2 v3 ((nx &&& v2) &&& (v3 ^^^ (-1))) (v5 + 1) := by
  intro n
  induction n with
  | zero => intro t x h; omega
  | succ n ih =>
    intro t x hn ht hx
    rw [b_X1_spread_33]
    by_cases h : t = 6
    · subst h
      refine ⟨x, hx, ?_⟩
      rw [if_pos (show (6 : Int32) ≤ nI 6 by decide), nm_ok, nm_ok]
    · rw [if_neg (show ¬ (6 : Int32) ≤ nI t from nI_ge (b := 6) (by omega) (by omega))]
      unfold b_X1_spread_63
      simp only [nm_ok, nI_1]
      by_cases hb : bt v4 t = true
      · rw [if_neg (fun z => by rw [tb0 _ (by omega)] at z; rw [hb] at z; cases z), gd_true (inb_nI (by omega) (by omega)), nI_clamp (by omega)]
        refine ih (t + 1) _ (by omega) (by omega) (fun j => ?_)
        rw [b_or, Bool.or_eq_true, hx j]
        constructor
        · rintro (⟨u, h1, h2, h3⟩ | h1)
          · exact ⟨u, by omega, h2, h3⟩
          · exact ⟨t, by omega, hb, h1⟩
        · rintro ⟨u, h1, h2, h3⟩
          by_cases hu : u = t
          · subst hu; exact Or.inr h3
          · exact Or.inl ⟨u, by omega, h2, h3⟩
      · rw [if_pos ((tb0 _ (by omega)).mpr (by cases hq : bt v4 t <;> simp_all))]
        refine ih (t + 1) _ (by omega) (by omega) (fun j => ?_)
        rw [b_or, b_0, Bool.or_false, hx j]
        constructor
        · rintro ⟨u, h1, h2, h3⟩
          exact ⟨u, by omega, h2, h3⟩
        · rintro ⟨u, h1, h2, h3⟩
          by_cases hu : u = t
          · subst hu; exact absurd h2 hb
          · exact ⟨u, by omega, h2, h3⟩
theorem spread_out {p : Nat} {w : Wd} {v1 v2 : Int32} (h6 : ∀ i, bt v2 i = true → i < 6) : ∀ (n k : Nat) (s v : Int32), 6 - k < n → k ≤ 6 → (∀ i, bt s i = true → bt v2 i = true) → (∀ i, bt v i = true → bt v2 i = true ∧ bt s i = false) → (∀ i, bt v1 i = true → bt v2 i = true → bt s i = true ∨ bt v i = true) → (∀ i j, bt s i = true → bt (w.1 (p + 4) i) j = true → bt v2 j = true → bt s j = true ∨ bt v j = true) → (∀ y : Nat → Bool, (∀ i, bt v1 i = true → bt v2 i = true → y i = true) → (∀ i j, y i = true → bt (w.1 (p + 4) i) j = true → bt v2 j = true → y j = true) → ∀ i, (bt s i = true ∨ bt v i = true) → y i = true) → k ≤ fb_ct (bt s) 6 → ∃ r, b_X1_spread_10 p n w v2 s v (nI k) = some (r, w) ∧ IsClo (fun i j => bt (w.1 (p + 4) i) j) (bt v2) (bt v1) (bt r) := by
  intro n
  induction n with
  | zero => intro k s v h; omega
  | succ n ih =>
    intro k s v hn hk a1 a2 a3 a4 a5 a6
    rw [b_X1_spread_10]
    by_cases h : k = 6
    · subst h
      rw [if_pos (show (6 : Int32) ≤ nI 6 by decide)]
      have hall := fb_ct_all.mp (Nat.le_antisymm (fb_ct_le _ _) a6)
      refine ⟨s, rfl, fun i h1 h2 => hall i (h6 i h2), fun i j h1 h2 h3 => hall j (h6 j h3), fun y h1 h2 i hi => a5 y h1 h2 i (Or.inl hi)⟩
    · rw [if_neg (show ¬ (6 : Int32) ≤ nI k from nI_ge (b := 6) (by omega) (by omega))]
      by_cases hv : v = 0
      · rw [if_pos hv]
        have hv0 : ∀ i, bt v i = true → False := fun i hi => by rw [b0_of hv] at hi; cases hi
        exact ⟨s, rfl, fun i h1 h2 => (a3 i h1 h2).elim id (fun z => (hv0 i z).elim), fun i j h1 h2 h3 => (a4 i j h1 h2 h3).elim id (fun z => (hv0 j z).elim), fun y h1 h2 i hi => a5 y h1 h2 i (Or.inl hi)⟩
      · rw [if_neg hv, nm_ok]
        obtain ⟨nx, hnx, he⟩ := spread_in (kb10 := b_X1_spread_10 p n) (p := p) (w := w) (v2 := v2) (v3 := s ||| v) (v4 := v) (v5 := nI k) LF 0 0 (by unfold LF; omega) (by omega) (fun j => by rw [b_0]; simp)
        rw [show (0 : Int32) = nI 0 from rfl]
        rw [show (nI 0) = (0 : Int32) from rfl] at he ⊢
        rw [he, nI_1]
        have hor : ∀ i, bt (s ||| v) i = true ↔ bt s i = true ∨ bt v i = true := fun i => by rw [b_or, Bool.or_eq_true]
        have hwv : ∀ j, bt ((nx &&& v2) &&& ((s ||| v) ^^^ (-1))) j = true ↔ bt nx j = true ∧ bt v2 j = true ∧ ¬ bt (s ||| v) j = true := fun j => by
          rcases Nat.lt_or_ge j 32 with hj | hj
          · rw [b_and, b_and, b_not _ hj, Bool.and_eq_true, Bool.and_eq_true]
            cases bt (s ||| v) j <;> simp
          · rw [b_big hj, b_big hj]; simp
        refine ih (k + 1) _ _ (by omega) (by omega) ?_ ?_ ?_ ?_ ?_ ?_
        · intro i hi
          rcases (hor i).mp hi with q | q
          · exact a1 i q
          · exact (a2 i q).1
        · intro i hi
          have := (hwv i).mp hi
          exact ⟨this.2.1, by cases hq : bt (s ||| v) i <;> simp_all⟩
        · intro i h1 h2
          exact Or.inl ((hor i).mpr (a3 i h1 h2))
        · intro i j h1 h2 h3
          by_cases hj : bt (s ||| v) j = true
          · exact Or.inl hj
          · rcases (hor i).mp h1 with q | q
            · exact absurd ((hor j).mpr (a4 i j q h2 h3)) hj
            · exact Or.inr ((hwv j).mpr ⟨(hnx j).mpr ⟨i, h6 i (a2 i q).1, q, h2⟩, h3, hj⟩)
        · intro y h1 h2 i hi
          rcases hi with q | q
          · exact a5 y h1 h2 i ((hor i).mp q)
          · obtain ⟨q1, q2, q3⟩ := (hwv i).mp q
            obtain ⟨u, hu1, hu2, hu3⟩ := (hnx i).mp q1
            exact h2 u i (a5 y h1 h2 u (Or.inr hu2)) hu3 q2
        · have e1 : fb_ct (bt (s ||| v)) 6 = fb_ct (bt s) 6 + fb_ct (bt v) 6 := by
            rw [← fb_ct_or (fun i _ z => by have := (a2 i z.2).2; rw [z.1] at this; cases this)]
            exact fb_ct_cong (fun i _ => b_or s v i)
          obtain ⟨i, hi, hb⟩ := bne hv
          have : 0 < fb_ct (bt v) 6 := fb_ct_pos.mpr ⟨i, h6 i (a2 i hb).1, hb⟩
          omega
/-- what the class finds that springs -/
theorem spread_clo {p : Nat} {w : Wd} {v1 v2 : Int32} (h6 : ∀ i, bt v2 i = true → i < 6) : ∃ r, f_X1_spread p w v1 v2 = some (r, w) ∧ IsClo (fun i j => bt (w.1 (p + 4) i) j) (bt v2) (bt v1) (bt r) := by
  unfold f_X1_spread b_X1_spread_0
  rw [nm_ok]
  refine spread_out (v1 := v1) h6 LF 0 0 (v1 &&& v2) (by unfold LF; omega) (by omega) (fun i hi => by rw [b_0] at hi; cases hi) (fun i hi => ?_) (fun i h1 h2 => Or.inr (by rw [b_and, h1, h2]; rfl)) (fun i j h1 => by rw [b_0] at h1; cases h1) (fun y h1 h2 i hi => ?_) (Nat.zero_le _)
  · rw [b_and, Bool.and_eq_true] at hi
    exact ⟨hi.2, b_0 i⟩
  · rcases hi with q | q
    · rw [b_0] at q; cases q
    · rw [b_and, Bool.and_eq_true] at q
      exact h1 i q.1 q.2
