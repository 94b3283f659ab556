theorem rem_n {a : Nat} (d : Nat) (ha : a < 2 ^ 31) (h0 : 0 < d) (hd : d < 2 ^ 31) : nI a - nI a / nI d * nI d = nI (a % d) := pk_rem ha h0 hd
theorem bb_of {x : Int32} (h : x = 0 ∨ x = 1) : bb x = true := by rcases h with rfl | rfl <;> rfl
/-- a scene becomes another -/
theorem become_a {b b1 : Nat} (hd : b + 3 < b1 ∨ b1 + 3 < b) : ∀ (n t : Nat) (w : Wd), 4 - t < n → t ≤ 4 → ∃ w', b_X3_become_56 b b1 n w (nI t) = some w' ∧ Only (fun k _ => k = b + 2 ∨ k = b + 3) w w' ∧ (∀ g, t ≤ g → g < 4 → w'.1 (b + 2) g = w.1 (b1 + 2) g ∧ w'.1 (b + 3) g = w.1 (b1 + 3) g) ∧ ∀ g, g < t → w'.1 (b + 2) g = w.1 (b + 2) g ∧ w'.1 (b + 3) g = w.1 (b + 3) g := by
  intro n
  induction n with
  | zero => intro t w h; omega
  | succ n ih =>
    intro t w hn ht
    rw [b_X3_become_56]
    by_cases h : t = 4
    · subst h
      rw [if_pos (show (4 : Int32) ≤ nI 4 by decide)]
      exact ⟨w, rfl, Only.rf, fun g h1 h2 => by omega, fun g _ => ⟨rfl, rfl⟩⟩
    · rw [if_neg (show ¬ (4 : Int32) ≤ nI t from nI_ge (b := 4) (by omega) (by omega))]
      simp only [gd_true (inb_nI (show t < 4 by omega) (by decide)), nm_ok, nI_1, nI_clamp (show t < 2 ^ 31 by omega)]
      obtain ⟨w', e, o1, h1, h2⟩ := ih (t + 1) (up (up w (b + 2) t (w.1 (b1 + 2) t)) (b + 3) t ((up w (b + 2) t (w.1 (b1 + 2) t)).1 (b1 + 3) t)) (by omega) (by omega)
      refine ⟨w', e, ((Only.rf.up (Or.inl rfl)).up (Or.inr rfl)).tr o1, fun g g1 g2 => ?_, fun g g1 => ?_⟩
      · by_cases hg : g = t
        · subst hg
          have := h2 g (by omega)
          rw [this.1, this.2]
          constructor
          · rw [up_nc (by omega), up_eq]
          · rw [up_eq, up_nc (by omega)]
        · have := h1 g (by omega) g2
          rw [this.1, this.2]
          constructor
          · rw [up_nc (by omega), up_nc (by omega)]
          · rw [up_nc (by omega), up_nc (by omega)]
      · have := h2 g (by omega)
        rw [this.1, this.2]
        constructor
        · rw [up_nc (by omega), up_ns (by omega)]
        · rw [up_ns (by omega), up_nc (by omega)]
theorem become_b {b b1 : Nat} (hd : b + 3 < b1 ∨ b1 + 3 < b) : ∀ (n t : Nat) (w : Wd), 2 - t < n → t ≤ 2 → ∃ w', b_X3_become_31 b b1 n w (nI t) = some w' ∧ Only (fun k _ => k = b + 1 ∨ k = b + 2 ∨ k = b + 3) w w' ∧ (∀ g, g < 4 → w'.1 (b + 2) g = w.1 (b1 + 2) g ∧ w'.1 (b + 3) g = w.1 (b1 + 3) g) ∧ (∀ g, t ≤ g → g < 2 → w'.1 (b + 1) g = w.1 (b1 + 1) g) ∧ ∀ g, g < t → w'.1 (b + 1) g = w.1 (b + 1) g := by
  intro n
  induction n with
  | zero => intro t w h; omega
  | succ n ih =>
    intro t w hn ht
    rw [b_X3_become_31]
    by_cases h : t = 2
    · subst h
      rw [if_pos (show (2 : Int32) ≤ nI 2 by decide)]
      obtain ⟨w', e, o1, h1, -⟩ := become_a hd LF 0 w (by unfold LF; omega) (by omega)
      refine ⟨w', e, o1.wd (fun k j z => Or.inr z), fun g hg => h1 g (by omega) hg, fun g h1 h2 => by omega, fun g _ => o1.1 _ _ (by omega)⟩
    · rw [if_neg (show ¬ (2 : Int32) ≤ nI t from nI_ge (b := 2) (by omega) (by omega))]
      simp only [gd_true (inb_nI (show t < 2 by omega) (by decide)), nm_ok, nI_1, nI_clamp (show t < 2 ^ 31 by omega)]
      obtain ⟨w', e, o1, h1, h2, h3⟩ := ih (t + 1) (up w (b + 1) t (w.1 (b1 + 1) t)) (by omega) (by omega)
      refine ⟨w', e, (Only.rf.up (Or.inl rfl)).tr o1, fun g hg => ?_, fun g g1 g2 => ?_, fun g g1 => ?_⟩
      · have := h1 g hg
        rw [this.1, this.2, up_nc (by omega), up_nc (by omega)]
        exact ⟨rfl, rfl⟩
      · by_cases hg : g = t
        · subst hg
          rw [h3 g (by omega), up_eq]
        · rw [h2 g (by omega) g2, up_nc (by omega)]
      · rw [h3 g (by omega), up_ns (by omega)]
/-- what a copied scene holds -/
def Cp (w w' : Wd) (b b1 : Nat) : Prop := w'.1 b 1 = w.1 b1 1 ∧ w'.1 b 2 = w.1 b1 2 ∧ w'.1 b 3 = w.1 b1 3 ∧ (∀ g, g < 2 → w'.1 (b + 1) g = w.1 (b1 + 1) g) ∧ ∀ g, g < 4 → w'.1 (b + 2) g = w.1 (b1 + 2) g ∧ w'.1 (b + 3) g = w.1 (b1 + 3) g
theorem become_v {b b1 : Nat} {w : Wd} (hd : b + 3 < b1 ∨ b1 + 3 < b) (hf : w.1 b1 3 = 0 ∨ w.1 b1 3 = 1) : ∃ w', f_X3_become b b1 w = some w' ∧ Only (fun k _ => b ≤ k ∧ k ≤ b + 3) w w' ∧ Cp w w' b b1 := by
  unfold f_X3_become b_X3_become_0
  simp only [nm_ok]
  have e3 : (up (up w b 1 (w.1 b1 1)) b 2 ((up w b 1 (w.1 b1 1)).1 b1 2)).1 b1 3 = w.1 b1 3 := by rw [up_nc (by omega), up_nc (by omega)]
  rw [e3, gd_true (bb_of hf)]
  obtain ⟨w', e, o1, h1, h2, -⟩ := become_b hd LF 0 (up (up (up w b 1 (w.1 b1 1)) b 2 ((up w b 1 (w.1 b1 1)).1 b1 2)) b 3 (w.1 b1 3)) (by unfold LF; omega) (by omega)
  refine ⟨w', e, ?_, ?_, ?_, ?_, fun g hg => ?_, fun g hg => ?_⟩
  · exact (((Only.rf.up ⟨by omega, by omega⟩).up ⟨by omega, by omega⟩).up ⟨by omega, by omega⟩).tr (o1.wd (fun k j z => ⟨by omega, by omega⟩))
  · rw [o1.1 b 1 (by omega), up_ns (by decide), up_ns (by decide), up_eq]
  · rw [o1.1 b 2 (by omega), up_ns (by decide), up_eq, up_nc (by omega)]
  · rw [o1.1 b 3 (by omega), up_eq]
  · rw [h2 g (by omega) hg, up_nc (by omega), up_nc (by omega), up_nc (by omega)]
  · have := h1 g hg
    rw [this.1, this.2, up_nc (by omega), up_nc (by omega), up_nc (by omega), up_nc (by omega), up_nc (by omega), up_nc (by omega)]
    exact ⟨rfl, rfl⟩
theorem Cp.W {w w' : Wd} {b b1 T W : Nat} (hc : Cp w w' b b1) (hW : W ≤ 4) (h : ScW w T W b1) : ScW w' T W b := by
  obtain ⟨c1, c2, c3, c4, c5⟩ := hc
  obtain ⟨a1, a2, a3, a4, a5, a6, a7⟩ := h
  unfold ScW
  rw [c1, c2, c3, c4 0 (by decide), c4 1 (by decide)]
  refine ⟨a1, a2, a3, a4, fun g hg => ?_, fun g hg => ?_, a7⟩
  · rw [(c5 g (by omega)).1]; exact a5 g hg
  · rw [(c5 g (by omega)).2]; exact a6 g hg
/-- a scene is copied on one side, its twelve numbers on the other -/
theorem Cp.R {w w' : Wd} {b b1 W cM o cN q : Nat} (hc : Cp w w' b b1) (hW : W ≤ 4) (h : ScR w W b1 cM o) (hm : ∀ k, k < 12 → w'.1 cN (q + k) = w.1 cM (o + k)) : ScR w' W b cN q := by
  obtain ⟨c1, c2, c3, c4, c5⟩ := hc
  obtain ⟨a1, a2, a3, a4, a5⟩ := h
  have h0 := hm 0 (by decide)
  rw [Nat.add_zero, Nat.add_zero] at h0
  unfold ScR
  rw [c1, c2, c4 0 (by decide), c4 1 (by decide), h0, hm 1 (by decide), hm 2 (by decide), hm 3 (by decide)]
  refine ⟨a1, a2, a3, a4, fun g hg => ?_⟩
  rw [(c5 g (by omega)).1, (c5 g (by omega)).2, Nat.add_assoc, hm (4 + g) (by omega), Nat.add_assoc, hm (8 + g) (by omega), ← Nat.add_assoc, ← Nat.add_assoc]
  exact a5 g hg
/-- the class remembers an act -/
theorem remember_v {w : Wd} {A Q : Nat} (hA : A ≤ 16) (hQ : Q < 16) (e1 : w.1 26 1 = nI Q) (e2 : w.1 26 2 = nI A) (hf : w.1 18 3 = 0 ∨ w.1 18 3 = 1) : ∃ w1, f_X0_remember 18 w = some w1 ∧ Only (fun k j => (28 + 4 * ((Q + A) % 16) ≤ k ∧ k ≤ 28 + 4 * ((Q + A) % 16) + 3) ∨ (k = 26 ∧ (j = 1 ∨ j = 2))) w w1 ∧ Cp w w1 (28 + 4 * ((Q + A) % 16)) 18 ∧ w1.1 26 1 = nI (if A < 16 then Q else (Q + 1) % 16) ∧ w1.1 26 2 = nI (if A < 16 then A + 1 else 16) := by
  unfold f_X0_remember b_X0_remember_0
  have hlt : (Q + A) % 16 < 16 := Nat.mod_lt _ (by decide)
  have er : (w.1 26 1 + w.1 26 2) - (w.1 26 1 + w.1 26 2) / 16 * 16 = nI ((Q + A) % 16) := by
    rw [e1, e2, nI_add]
    exact rem_n 16 (by omega) (by decide) (by decide)
  rw [er, gd_true (inb_nI hlt (by decide)), nI_clamp (by omega)]
  obtain ⟨w4, e, o1, hc⟩ := become_v (b := 28 + 4 * ((Q + A) % 16)) (b1 := 18) (w := w) (by omega) hf
  rw [e, bv_ok, o1.1 26 2 (by omega), o1.1 26 1 (by omega), e1, e2]
  by_cases h : A < 16
  · rw [if_neg (show ¬ (16 : Int32) ≤ nI A from nI_ge (b := 16) h (by decide)), nm_ok, if_pos h, if_pos h, nI_1]
    refine ⟨_, rfl, (o1.wd (fun k j z => Or.inl z)).up (Or.inr ⟨rfl, Or.inr rfl⟩), ?_, ?_, up_eq⟩
    · obtain ⟨c1, c2, c3, c4, c5⟩ := hc
      exact ⟨by rw [up_nc (by omega)]; exact c1, by rw [up_nc (by omega)]; exact c2, by rw [up_nc (by omega)]; exact c3, fun g hg => by rw [up_nc (by omega)]; exact c4 g hg, fun g hg => by rw [up_nc (by omega), up_nc (by omega)]; exact c5 g hg⟩
    · rw [up_ns (by decide), o1.1 26 1 (by omega), e1]
  · have hA16 : A = 16 := by omega
    subst hA16
    rw [if_pos (show (16 : Int32) ≤ nI 16 by decide), nm_ok, if_neg h, if_neg h, nI_1]
    refine ⟨_, rfl, (o1.wd (fun k j z => Or.inl z)).up (Or.inr ⟨rfl, Or.inl rfl⟩), ?_, ?_, ?_⟩
    · obtain ⟨c1, c2, c3, c4, c5⟩ := hc
      exact ⟨by rw [up_nc (by omega)]; exact c1, by rw [up_nc (by omega)]; exact c2, by rw [up_nc (by omega)]; exact c3, fun g hg => by rw [up_nc (by omega)]; exact c4 g hg, fun g hg => by rw [up_nc (by omega), up_nc (by omega)]; exact c5 g hg⟩
    · rw [up_eq]
      exact rem_n 16 (by omega) (by decide) (by decide)
    · rw [up_ns (by decide), o1.1 26 2 (by omega), e2]
/-- the reference keeps an act -/
theorem keepAct_v {w : Wd} {A N : Nat} (hA : A ≤ 16) (hN : N < 16) (e1 : w.1 105 20 = nI N) (e2 : w.1 105 19 = nI A) : ∃ w1, f_X8_keepAct w = some w1 ∧ Only (fun k j => (k = 115 ∧ 12 * N ≤ j ∧ j < 12 * N + 12) ∨ (k = 105 ∧ (j = 19 ∨ j = 20))) w w1 ∧ (∀ k, k < 12 → w1.1 115 (12 * N + k) = w.1 113 k) ∧ w1.1 105 20 = nI ((N + 1) % 16) ∧ w1.1 105 19 = nI (if A < 16 then A + 1 else 16) := by
  unfold f_X8_keepAct b_X8_keepAct_0
  have key : ∀ (n t : Nat) (v : Wd), 12 - t < n → t ≤ 12 → v.1 105 20 = nI N → v.1 105 19 = nI A → ∃ w1, b_X8_keepAct_2 n v (nI t) = some w1 ∧ Only (fun k j => (k = 115 ∧ 12 * N ≤ j ∧ j < 12 * N + 12) ∨ (k = 105 ∧ (j = 19 ∨ j = 20))) v w1 ∧ (∀ k, t ≤ k → k < 12 → w1.1 115 (12 * N + k) = v.1 113 k) ∧ (∀ k, k < t → w1.1 115 (12 * N + k) = v.1 115 (12 * N + k)) ∧ w1.1 105 20 = nI ((N + 1) % 16) ∧ w1.1 105 19 = nI (if A < 16 then A + 1 else 16) := by
    intro n
    induction n with
    | zero => intro t v h; omega
    | succ n ih =>
      intro t v hn ht f1 f2
      rw [b_X8_keepAct_2]
      by_cases h : t = 12
      · subst h
        rw [if_pos (show (12 : Int32) ≤ nI 12 by decide), nm_ok, f1, nI_1, show nI (N + 1) - nI (N + 1) / 16 * 16 = nI ((N + 1) % 16) from rem_n 16 (by omega) (by decide) (by decide), up_ns (by decide), f2]
        by_cases hA2 : A < 16
        · rw [if_neg (show ¬ (16 : Int32) ≤ nI A from nI_ge (b := 16) hA2 (by decide)), nm_ok, if_pos hA2, nI_1]
          exact ⟨_, rfl, (Only.rf.up (Or.inr ⟨rfl, Or.inr rfl⟩)).up (Or.inr ⟨rfl, Or.inl rfl⟩), fun k h1 h2 => by omega, fun k _ => by rw [up_nc (by decide), up_nc (by decide)], by rw [up_ns (by decide), up_eq], up_eq⟩
        · have : A = 16 := by omega
          subst this
          rw [if_pos (show (16 : Int32) ≤ nI 16 by decide), nm_ok, if_neg hA2]
          exact ⟨_, rfl, (Only.rf.up (Or.inr ⟨rfl, Or.inr rfl⟩)).up (Or.inr ⟨rfl, Or.inl rfl⟩), fun k h1 h2 => by omega, fun k _ => by rw [up_nc (by decide), up_nc (by decide)], by rw [up_ns (by decide), up_eq], up_eq⟩
      · have em : (12 : Int32) * v.1 105 20 + nI t = nI (12 * N + t) := by
          rw [f1, show (12 : Int32) = nI 12 from rfl, pk_mul, nI_add]
        rw [if_neg (show ¬ (12 : Int32) ≤ nI t from nI_ge (b := 12) (by omega) (by decide)), em]
        simp only [gd_true (inb_nI (show t < 72 by omega) (by decide)), gd_true (inb_nI (show 12 * N + t < 192 by omega) (by decide)), nm_ok, nI_1, nI_clamp (show t < 2 ^ 31 by omega), nI_clamp (show 12 * N + t < 2 ^ 31 by omega)]
        obtain ⟨w1, e, o1, h1, h2, h3, h4⟩ := ih (t + 1) (up v 115 (12 * N + t) (v.1 113 t)) (by omega) (by omega) (by rw [up_nc (by decide)]; exact f1) (by rw [up_nc (by decide)]; exact f2)
        refine ⟨w1, e, (Only.rf.up (Or.inl ⟨rfl, by omega, by omega⟩)).tr o1, fun k k1 k2 => ?_, fun k k1 => ?_, h3, h4⟩
        · by_cases hk : k = t
          · subst hk
            rw [h2 k (by omega), up_eq]
          · rw [h1 k (by omega) k2, up_nc (by decide)]
        · rw [h2 k (by omega), up_ns (by omega)]
  obtain ⟨w1, e, o1, h1, -, h3, h4⟩ := key LF 0 w (by unfold LF; omega) (by omega) e1 e2
  exact ⟨w1, e, o1, fun k hk => h1 k (by omega) hk, h3, h4⟩
