/-! ===== the class's cell of two figures, its loop ===== -/
def Fr (x0 x : Wd) : Prop := (∀ k, k ≠ 10 → x.1 k = x0.1 k) ∧ x.2 = x0.2
theorem Fr.rf {x : Wd} : Fr x x := ⟨fun _ _ => rfl, rfl⟩
theorem Fr.up {x0 x : Wd} {j : Nat} {v : Int32} (h : Fr x0 x) : Fr x0 (up x 10 j v) := ⟨fun k hk => by rw [up_nc hk]; exact h.1 k hk, h.2⟩
def Md (p : Nat) (x0 x : Wd) (a b : Int32) : Prop := Fr x0 x ∧ x.1 10 0 = nI p ∧ x.1 10 1 = a ∧ x.1 10 2 = b
theorem TX.fr {x0 x : Wd} {len : Nat} {tx : Nat → Nat} (h : TX x0 1 1 2 len tx) (hf : Fr x0 x) : TX x 1 1 2 len tx := h.cong (by rw [hf.1 1 (by decide)]) (hf.1 2 (by decide))
theorem tc1_y {p u : Nat} {x0 x : Wd} {a M : Int32} (h : Md p x0 x a 0) (hc : C1 M u) : ∃ x', f_X2_takeOfCell x (nI (48 + u)) M = some (1, x') ∧ Md p x0 x' a 1 ∧ x'.1 10 3 = nI u := by
  obtain ⟨h0, h1, h2, h3⟩ := h
  have hu := hc.le
  refine ⟨up (up x 10 2 1) 10 3 (nI u), ?_, ⟨h0.up.up, ?_, ?_, ?_⟩, up_eq⟩
  · unfold f_X2_takeOfCell b_X2_takeOfCell_0
    rw [nm_ok, s48, if_neg (nI_lt0 u (by omega)), if_pos (show nI u ≤ (9 : Int32) from nI_le (b := 9) (by omega) (by decide)), nm_ok, h3, show (0 : Int32) + 1 = 1 from rfl, if_pos up_eq, nm_ok]
    rcases hc with ⟨rfl, hc⟩ | ⟨rfl, hc⟩
    · rw [if_pos (show nI 0 = 0 from rfl), if_neg hc]
    · rw [if_neg (show ¬ nI 1 = 0 by decide), if_pos (show nI 1 = (1 : Int32) from rfl), if_neg hc]
  · rw [up_ns (by decide), up_ns (by decide)]; exact h1
  · rw [up_ns (by decide), up_ns (by decide)]; exact h2
  · rw [up_ns (by decide), up_eq]
theorem tc1_n {p b : Nat} {x0 x : Wd} {a M : Int32} (h : Md p x0 x a 0) (hb : b < 256) (hc : ∀ u, b = 48 + u → ¬ C1 M u) : ∃ x', f_X2_takeOfCell x (nI b) M = some (0, x') ∧ Fr x0 x' := by
  obtain ⟨h0, h1, h2, h3⟩ := h
  unfold f_X2_takeOfCell b_X2_takeOfCell_0
  rw [nm_ok]
  by_cases h48 : b < 48
  · rw [if_pos (n48 h48)]; exact ⟨x, rfl, h0⟩
  · obtain ⟨u, rfl⟩ : ∃ u, b = 48 + u := ⟨b - 48, by omega⟩
    have hu := hc u rfl
    rw [s48, if_neg (nI_lt0 u (by omega))]
    by_cases h9 : u ≤ 9
    · rw [if_pos (show nI u ≤ (9 : Int32) from nI_le (b := 9) h9 (by decide)), nm_ok, h3, show (0 : Int32) + 1 = 1 from rfl, if_pos up_eq, nm_ok]
      refine ⟨up (up x 10 2 1) 10 3 (nI u), ?_, h0.up.up⟩
      by_cases c0 : u = 0
      · subst c0
        rw [if_pos (show nI 0 = 0 from rfl), if_pos (Decidable.byContradiction fun z => hu (Or.inl ⟨rfl, z⟩))]
      · rw [if_neg (nI_ne0 (by omega) (by omega))]
        by_cases c1 : u = 1
        · subst c1
          rw [if_pos (show nI 1 = (1 : Int32) from rfl), if_pos (Decidable.byContradiction fun z => hu (Or.inr ⟨rfl, z⟩))]
        · rw [if_neg (show ¬ nI u = (1 : Int32) from fun z => c1 ((nI_eq (b := 1) (by omega) (by omega)).mp z))]
    · rw [if_neg (show ¬ nI u ≤ (9 : Int32) from nI_ge (a := 9) (by omega) (by omega))]
      exact ⟨x, rfl, h0⟩
theorem tc2_y {p u v : Nat} {x0 x : Wd} {a M : Int32} (h : Md p x0 x a 1) (hone : x.1 10 3 = nI u) (hu : u ≤ 1) (hv : v ≤ 9) (hc : C2 M u v) : ∃ x', f_X2_takeOfCell x (nI (48 + v)) M = some (1, x') ∧ Md p x0 x' a 2 ∧ x'.1 10 3 = nI (10 * u + v) := by
  obtain ⟨h0, h1, h2, h3⟩ := h
  refine ⟨up (up x 10 2 2) 10 3 (nI (10 * u + v)), ?_, ⟨h0.up.up, ?_, ?_, ?_⟩, up_eq⟩
  · unfold f_X2_takeOfCell b_X2_takeOfCell_0
    rw [nm_ok, s48, if_neg (nI_lt0 v (by omega)), if_pos (show nI v ≤ (9 : Int32) from nI_le (b := 9) (by omega) (by decide)), nm_ok, h3, show (1 : Int32) + 1 = 2 from rfl, if_neg (show ¬ (up x 10 2 2).1 10 2 = 1 by rw [up_eq]; decide), nm_ok, show (up x 10 2 2).1 10 3 = nI u by rw [up_ns (by decide)]; exact hone, show nI u * (10 : Int32) = nI (u * 10) from pk_mul u 10, nI_add, Nat.mul_comm u 10, up_eq, isCell_yes hc.1, bd_ok, if_neg (show ¬ (1 : Int32) = 0 by decide), up_eq, if_neg (fun z => by rw [tb0 _ (by have := hc.1; omega), hc.2] at z; cases z)]
  · rw [up_ns (by decide), up_ns (by decide)]; exact h1
  · rw [up_ns (by decide), up_ns (by decide)]; exact h2
  · rw [up_ns (by decide), up_eq]
theorem tc2_n {p b u : Nat} {x0 x : Wd} {a M : Int32} (h : Md p x0 x a 1) (hone : x.1 10 3 = nI u) (hu : u ≤ 1) (hb : b < 256) (hc : ∀ v, b = 48 + v → v ≤ 9 → ¬ C2 M u v) : ∃ x', f_X2_takeOfCell x (nI b) M = some (0, x') ∧ Fr x0 x' := by
  obtain ⟨h0, h1, h2, h3⟩ := h
  unfold f_X2_takeOfCell b_X2_takeOfCell_0
  rw [nm_ok]
  by_cases h48 : b < 48
  · rw [if_pos (n48 h48)]; exact ⟨x, rfl, h0⟩
  · obtain ⟨v, rfl⟩ : ∃ v, b = 48 + v := ⟨b - 48, by omega⟩
    rw [s48, if_neg (nI_lt0 v (by omega))]
    by_cases h9 : v ≤ 9
    · have hu9 := hc v rfl h9
      rw [if_pos (show nI v ≤ (9 : Int32) from nI_le (b := 9) (by omega) (by decide)), nm_ok, h3, show (1 : Int32) + 1 = 2 from rfl, if_neg (show ¬ (up x 10 2 2).1 10 2 = 1 by rw [up_eq]; decide), nm_ok, show (up x 10 2 2).1 10 3 = nI u by rw [up_ns (by decide)]; exact hone, show nI u * (10 : Int32) = nI (u * 10) from pk_mul u 10, nI_add, Nat.mul_comm u 10, up_eq]
      refine ⟨up (up x 10 2 2) 10 3 (nI (10 * u + v)), ?_, h0.up.up⟩
      by_cases h12 : 10 * u + v < 12
      · rw [isCell_yes h12, bd_ok, if_neg (show ¬ (1 : Int32) = 0 by decide), up_eq, if_pos ((tb0 _ (by omega)).mpr (Bool.eq_false_iff.mpr fun z => hu9 ⟨h12, z⟩))]
      · rw [isCell_no (Or.inr (show (12 : Int32) ≤ nI (10 * u + v) from nI_le (a := 12) (by omega) (by omega))), bd_ok, if_pos rfl]
    · rw [if_neg (show ¬ nI v ≤ (9 : Int32) from nI_ge (a := 9) (by omega) (by omega))]
      exact ⟨x, rfl, h0⟩
theorem rd_y {p i len : Nat} {tx : Nat → Nat} {x x' : Wd} (ht : TX x 1 1 2 len tx) (hi : i < len) (h : f_X2_take x (nI (tx i)) = some (1, x')) (n : Nat) : b_X2_read_19 p (n + 1) x (nI i) = b_X2_read_19 p n x' (nI (i + 1)) := by
  have h64 := ht.1
  rw [b_X2_read_19, if_neg (show ¬ (64 : Int32) ≤ nI i from nI_ge (b := 64) (by omega) (by decide)), ht.2.1, if_neg (nI_ge hi (by omega)), gd_true (inb_nI (show i < 64 by omega) (by decide)), nI_clamp (by omega), (ht.2.2 i hi).1, h, bd_ok, if_neg (show ¬ (1 : Int32) = 0 by decide), nm_ok, nI_1]
theorem rd_n {p i len : Nat} {tx : Nat → Nat} {x x' : Wd} (ht : TX x 1 1 2 len tx) (hi : i < len) (h : f_X2_take x (nI (tx i)) = some (0, x')) (n : Nat) : b_X2_read_19 p (n + 1) x (nI i) = some (nI i, x') := by
  have h64 := ht.1
  rw [b_X2_read_19, if_neg (show ¬ (64 : Int32) ≤ nI i from nI_ge (b := 64) (by omega) (by decide)), ht.2.1, if_neg (nI_ge hi (by omega)), gd_true (inb_nI (show i < 64 by omega) (by decide)), nI_clamp (by omega), (ht.2.2 i hi).1, h, bd_ok, if_pos rfl]
theorem rd_e {p len : Nat} {tx : Nat → Nat} {x : Wd} (ht : TX x 1 1 2 len tx) (n : Nat) : b_X2_read_19 p (n + 1) x (nI len) = b_X2_read_54 p x := by
  have h64 := ht.1
  rw [b_X2_read_19]
  by_cases h9 : (64 : Int32) ≤ nI len
  · rw [if_pos h9]
  · rw [if_neg h9, ht.2.1, if_pos (nI_le (Nat.le_refl _) (by omega))]
theorem rd_no {p i len : Nat} {tx : Nat → Nat} {x0 x : Wd} (ht : TX x 1 1 2 len tx) (hi : i ≤ len) (h1 : ¬ x.1 10 1 = 1) (hf : Fr x0 x) (h : i < len → ∃ x', f_X2_take x (nI (tx i)) = some (0, x') ∧ Fr x0 x') : ∃ x', (∀ n, b_X2_read_19 p (n + 1) x (nI i) = some (nI i, x')) ∧ Fr x0 x' := by
  by_cases c : i < len
  · obtain ⟨x', e, hf'⟩ := h c
    exact ⟨x', rd_n ht c e, hf'⟩
  · obtain rfl : i = len := by omega
    refine ⟨x, fun n => ?_, hf⟩
    rw [rd_e ht]
    unfold b_X2_read_54
    rw [if_neg h1, ht.2.1]
theorem ccell_y {p i len u v : Nat} {tx : Nat → Nat} {x0 x : Wd} {a M : Int32} (h : Md p x0 x a 0) (ht : TX x0 1 1 2 len tx)
    (t0 : ∀ x b r x', Md p x0 x a 0 → f_X2_takeOfCell x (nI b) M = some (r, x') → (r = 0 ∨ r = 1 ∧ x'.1 10 2 = 1) → f_X2_take x (nI b) = some (r, x'))
    (hc : CY len tx i M u v) : ∃ x1, (∀ n, b_X2_read_19 p (n + 1) x (nI i) = b_X2_read_19 p n x1 (nI (i + 1))) ∧ Md p x0 x1 a 1 ∧ ∃ x2, f_X2_takeOfCell x1 (nI (tx (i + 1))) M = some (1, x2) ∧ Md p x0 x2 a 2 ∧ x2.1 10 3 = nI (10 * u + v) := by
  obtain ⟨h1, h2, h3, h4, h5, h6⟩ := hc
  obtain ⟨x1, e1, d1, o1⟩ := tc1_y h h3
  obtain ⟨x2, e2, d2, o2⟩ := tc2_y d1 o1 h3.le h5 h6
  refine ⟨x1, rd_y (ht.fr h.1) (by omega) ?_, d1, x2, by rw [h4]; exact e2, d2, o2⟩
  rw [h2]
  exact t0 x _ 1 x1 h e1 (Or.inr ⟨rfl, d1.2.2.2⟩)
theorem ccell_n {p i len f : Nat} {tx : Nat → Nat} {x0 x : Wd} {a M : Int32} (h : Md p x0 x a 0) (ha : ¬ a = 1) (ht : TX x0 1 1 2 len tx) (hi : i ≤ len)
    (t0 : ∀ x b r x', Md p x0 x a 0 → f_X2_takeOfCell x (nI b) M = some (r, x') → (r = 0 ∨ r = 1 ∧ x'.1 10 2 = 1) → f_X2_take x (nI b) = some (r, x'))
    (t1 : ∀ x b x', Md p x0 x a 1 → f_X2_takeOfCell x (nI b) M = some (0, x') → f_X2_take x (nI b) = some (0, x'))
    (hc : CN len tx i M f) : f ≤ len ∧ ∃ x', (∀ n, b_X2_read_19 p (n + 2) x (nI i) = some (nI f, x')) ∧ Fr x0 x' := by
  rcases hc with ⟨rfl, hc⟩ | ⟨rfl, u, h1, h2, h3, h4⟩
  · refine ⟨hi, ?_⟩
    obtain ⟨x', e, hf⟩ := rd_no (p := p) (x0 := x0) (ht.fr h.1) hi (by rw [h.2.2.1]; exact ha) h.1 (fun c => by
      obtain ⟨x', e, hf⟩ := tc1_n h (ht.2.2 f c).2 (fun u hu q => hc ⟨u, c, hu, q⟩)
      exact ⟨x', t0 x _ 0 x' h e (Or.inl rfl), hf⟩)
    exact ⟨x', fun n => e (n + 1), hf⟩
  · refine ⟨by omega, ?_⟩
    obtain ⟨x1, e1, d1, o1⟩ := tc1_y h h3
    have s1 := rd_y (p := p) (ht.fr h.1) h1 (by rw [h2]; exact t0 x _ 1 x1 h e1 (Or.inr ⟨rfl, d1.2.2.2⟩))
    obtain ⟨x', e, hf⟩ := rd_no (p := p) (x0 := x0) (i := i + 1) (ht.fr d1.1) (by omega) (by rw [d1.2.2.1]; exact ha) d1.1 (fun c => by
      obtain ⟨x', e, hf⟩ := tc2_n d1 o1 h3.le (ht.2.2 (i + 1) c).2 (fun v hv q9 q => h4 ⟨v, c, hv, q9, q⟩)
      exact ⟨x', t1 x1 _ x' d1 e, hf⟩)
    exact ⟨x', fun n => by rw [s1 (n + 1), e n], hf⟩
