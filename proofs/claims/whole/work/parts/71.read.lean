/-! ===== the readers: a figure, a cell of two figures ===== -/
def C1 (M : Int32) (u : Nat) : Prop := (u = 0 ∧ ¬ M &&& 1023 = 0) ∨ (u = 1 ∧ ¬ M &&& 3072 = 0)
def C2 (M : Int32) (u v : Nat) : Prop := 10 * u + v < 12 ∧ bt M (10 * u + v) = true
def CY (len : Nat) (tx : Nat → Nat) (i : Nat) (M : Int32) (u v : Nat) : Prop := i + 1 < len ∧ tx i = 48 + u ∧ C1 M u ∧ tx (i + 1) = 48 + v ∧ v ≤ 9 ∧ C2 M u v
def CN (len : Nat) (tx : Nat → Nat) (i : Nat) (M : Int32) (f : Nat) : Prop := (f = i ∧ ¬ ∃ u, i < len ∧ tx i = 48 + u ∧ C1 M u) ∨ (f = i + 1 ∧ ∃ u, i < len ∧ tx i = 48 + u ∧ C1 M u ∧ ¬ ∃ v, i + 1 < len ∧ tx (i + 1) = 48 + v ∧ v ≤ 9 ∧ C2 M u v)
theorem CYN (len : Nat) (tx : Nat → Nat) (i : Nat) (M : Int32) : (∃ u v, CY len tx i M u v) ∨ ∃ f, CN len tx i M f := by
  by_cases h : ∃ u, i < len ∧ tx i = 48 + u ∧ C1 M u
  · obtain ⟨u, h1, h2, h3⟩ := h
    by_cases h4 : ∃ v, i + 1 < len ∧ tx (i + 1) = 48 + v ∧ v ≤ 9 ∧ C2 M u v
    · obtain ⟨v, h5, h6, h7, h8⟩ := h4
      exact Or.inl ⟨u, v, h5, h2, h3, h6, h7, h8⟩
    · exact Or.inr ⟨i + 1, Or.inr ⟨rfl, u, h1, h2, h3, h4⟩⟩
  · exact Or.inr ⟨i, Or.inl ⟨rfl, h⟩⟩
theorem C1.le {M : Int32} {u : Nat} (h : C1 M u) : u ≤ 1 := by
  rcases h with ⟨h, -⟩ | ⟨h, -⟩ <;> omega
def FY (len : Nat) (tx : Nat → Nat) (i : Nat) (m : Int32) (v : Nat) : Prop := i < len ∧ tx i = 48 + v ∧ v ≤ 9 ∧ bt m v = true
def TX (w : Wd) (cL jL cB : Nat) (len : Nat) (tx : Nat → Nat) : Prop := len ≤ 64 ∧ w.1 cL jL = nI len ∧ ∀ j, j < len → w.1 cB j = nI (tx j) ∧ tx j < 256
theorem TX.cong {w w' : Wd} {cL jL cB len : Nat} {tx : Nat → Nat} (h : TX w cL jL cB len tx) (h1 : w'.1 cL jL = w.1 cL jL) (h2 : w'.1 cB = w.1 cB) : TX w' cL jL cB len tx := ⟨h.1, by rw [h1]; exact h.2.1, fun j hj => by rw [h2]; exact h.2.2 j hj⟩
theorem up_same {w : Wd} {k j : Nat} : up w k j (w.1 k j) = w := by
  refine Prod.ext (funext fun a => funext fun b => ?_) rfl
  show (up w k j (w.1 k j)).1 a b = w.1 a b
  rw [up_get]
  by_cases h : a = k ∧ b = j
  · rw [if_pos h, h.1, h.2]
  · rw [if_neg h]
theorem up_up {w : Wd} {k j : Nat} {x y : Int32} : up (up w k j x) k j y = up w k j y := by
  refine Prod.ext (funext fun a => funext fun b => ?_) rfl
  show (up (up w k j x) k j y).1 a b = (up w k j y).1 a b
  rw [up_get, up_get, up_get]
  by_cases h : a = k ∧ b = j
  · rw [if_pos h, if_pos h]
  · rw [if_neg h, if_neg h, if_neg h]
theorem s48 (u : Nat) : nI (48 + u) - 48 = nI u := by
  rw [show (48 : Int32) = nI 48 from rfl, nI_subn (by omega), Nat.add_sub_cancel_left]
theorem n48 {b : Nat} (h : b < 48) : nI b - 48 < 0 := by
  rw [i_lt, show (48 : Int32) = nI 48 from rfl, pk_sub_toInt (by omega) (by omega), show (0 : Int32).toInt = 0 from rfl]
  omega
/-! the reference's figure -/
def S78 (k j : Nat) : Prop := k = 105 ∧ (j = 17 ∨ j = 18)
theorem fail_f {y : Wd} {f : Nat} (h : y.1 105 18 = nI f) (hf : f < 100) : f_X8_fail y = some y := by
  unfold f_X8_fail b_X8_fail_0
  rw [if_neg (by rw [h]; exact nI_ne9 hf), nm_ok, up_same]
theorem fail_n {y : Wd} (h : y.1 105 18 = -9) : f_X8_fail y = some (up y 105 18 (y.1 105 17)) := by
  unfold f_X8_fail b_X8_fail_0
  rw [if_pos h, nm_ok]
theorem fig36_y {y : Wd} {m : Int32} {v : Nat} (hv : v ≤ 9) (hb : bt m v = true) : b_X8_figure_36 y m (nI v) = some (nI v, up y 105 17 (y.1 105 17 + 1)) := by
  unfold b_X8_figure_36
  rw [show (9 : Int64) = (9 : Int32).toInt64 from rfl, mIn_yes (n := 9) 9 rfl hv (by decide), bd_ok, if_neg (show ¬ (1 : Int32) = 0 by decide), if_neg (fun z => by rw [tb0 _ (by omega), hb] at z; cases z), nm_ok]
theorem fig36_o {y : Wd} {m s : Int32} (hs : s < 0 ∨ nI 10 ≤ s) : b_X8_figure_36 y m s = b_X8_figure_57 y := by
  unfold b_X8_figure_36
  rw [show (9 : Int64) = (9 : Int32).toInt64 from rfl, mIn_no (n := 9) 9 rfl (by decide) hs, bd_ok, if_pos rfl]
theorem fig36_b {y : Wd} {m : Int32} {v : Nat} (hv : v ≤ 9) (hb : bt m v = false) : b_X8_figure_36 y m (nI v) = b_X8_figure_57 y := by
  unfold b_X8_figure_36
  rw [show (9 : Int64) = (9 : Int32).toInt64 from rfl, mIn_yes (n := 9) 9 rfl hv (by decide), bd_ok, if_neg (show ¬ (1 : Int32) = 0 by decide), if_pos ((tb0 _ (by omega)).mpr hb)]
theorem fig_f {y : Wd} {f : Nat} {m : Int32} (h : y.1 105 18 = nI f) (hf : f < 100) : f_X8_figure y m = some (0, y) := by
  unfold f_X8_figure b_X8_figure_0
  rw [if_neg (by rw [h]; exact nI_ne9 hf)]
  unfold b_X8_figure_35
  rw [fig36_o (Or.inl (by decide))]
  unfold b_X8_figure_57
  rw [fail_f h hf, bv_ok]
theorem fig_y {y : Wd} {i len v : Nat} {tx : Nat → Nat} {m : Int32} (ha : y.1 105 17 = nI i) (hf : y.1 105 18 = -9) (ht : TX y 105 16 114 len tx) (h : FY len tx i m v) : f_X8_figure y m = some (nI v, up y 105 17 (nI (i + 1))) := by
  have h64 := ht.1
  have hi := h.1
  unfold f_X8_figure b_X8_figure_0
  rw [if_pos hf, ht.2.1, ha, if_neg (nI_ge hi (by omega)), gd_true (inb_nI (show i < 64 by omega) (by decide)), nI_clamp (by omega), (ht.2.2 i hi).1, h.2.1, s48, fig36_y h.2.2.1 h.2.2.2, ha, nI_1]
theorem fig_n {y : Wd} {i len : Nat} {tx : Nat → Nat} {m : Int32} (ha : y.1 105 17 = nI i) (hf : y.1 105 18 = -9) (ht : TX y 105 16 114 len tx) (hi64 : i < 100) (h : ¬ ∃ v, FY len tx i m v) : f_X8_figure y m = some (0, up y 105 18 (nI i)) := by
  have h64 := ht.1
  have e57 : b_X8_figure_57 y = some (0, up y 105 18 (nI i)) := by
    unfold b_X8_figure_57
    rw [fail_n hf, bv_ok, ha]
  unfold f_X8_figure b_X8_figure_0
  rw [if_pos hf, ht.2.1, ha]
  by_cases hi : i < len
  · rw [if_neg (nI_ge hi (by omega)), gd_true (inb_nI (show i < 64 by omega) (by decide)), nI_clamp (by omega), (ht.2.2 i hi).1]
    have hb := (ht.2.2 i hi).2
    by_cases h48 : tx i < 48
    · rw [fig36_o (Or.inl (n48 h48)), e57]
    · obtain ⟨v, hv⟩ : ∃ v, tx i = 48 + v := ⟨tx i - 48, by omega⟩
      rw [hv, s48]
      by_cases h9 : v ≤ 9
      · rw [fig36_b h9 (Bool.eq_false_iff.mpr fun z => h ⟨v, hi, hv, h9, z⟩), e57]
      · rw [fig36_o (Or.inr (nI_le (by omega) (by omega))), e57]
  · rw [if_pos (nI_le (by omega) (by omega))]
    unfold b_X8_figure_35
    rw [fig36_o (Or.inl (by decide)), e57]
/-! the reference's cell -/
theorem b_1023 (i : Nat) : bt 1023 i = decide (i < 10) := by
  rcases Nat.lt_or_ge i 32 with h | h
  · exact (by decide +kernel : ∀ i, i < 32 → bt 1023 i = decide (i < 10)) i h
  · rw [b_big h, decide_eq_false (by omega)]
theorem b_3072 : ∀ i, i < 32 → bt 3072 i = (decide (i = 10) || decide (i = 11)) := by decide +kernel
theorem b_s10 (M : Int32) {i : Nat} (hi : i < 22) : bt (M >>> ((10 : Int32) &&& 31)) i = bt M (10 + i) := by
  have := b_sshr 10 (by decide) M (i := i) (by omega)
  rw [show nI 10 = (10 : Int32) from rfl] at this
  rw [this, if_pos (by omega)]
theorem b_s10' (M : Int32) {i : Nat} (hi : ¬ i < 22) (h32 : i < 32) : bt (M >>> ((10 : Int32) &&& 31)) i = bt M 31 := by
  have := b_sshr 10 (by decide) M (i := i) (by omega)
  rw [show nI 10 = (10 : Int32) from rfl] at this
  rw [this, if_neg (by omega)]
theorem s10_0 {M : Int32} (hM : ∀ i, bt M i = true → i < 12) : M >>> ((10 : Int32) &&& 31) = 0 ↔ M &&& 3072 = 0 := by
  have big : ∀ i, 12 ≤ i → bt M i = false := fun i hi => Bool.eq_false_iff.mpr fun z => by have := hM i z; omega
  constructor
  · intro h
    have h10 : bt M 10 = false := by have := b_s10 M (i := 0) (by decide); rw [h, b_0] at this; exact this.symm
    have h11 : bt M 11 = false := by have := b_s10 M (i := 1) (by decide); rw [h, b_0] at this; exact this.symm
    refine b_ext fun i hi => ?_
    rw [b_and, b_0, b_3072 i hi]
    by_cases c : i = 10
    · subst c; rw [h10]; rfl
    · by_cases c2 : i = 11
      · subst c2; rw [h11]; rfl
      · rw [decide_eq_false c, decide_eq_false c2]; simp
  · intro h
    have hb : ∀ i, i < 32 → (bt M i && (decide (i = 10) || decide (i = 11))) = false := fun i hi => by rw [← b_3072 i hi, ← b_and, h, b_0]
    have h10 : bt M 10 = false := by have := hb 10 (by decide); simpa using this
    have h11 : bt M 11 = false := by have := hb 11 (by decide); simpa using this
    refine b_ext fun i hi => ?_
    rw [b_0]
    by_cases c : i < 22
    · rw [b_s10 M c]
      by_cases c0 : i = 0
      · subst c0; exact h10
      · by_cases c1 : i = 1
        · subst c1; exact h11
        · exact big _ (by omega)
    · rw [b_s10' M c hi]; exact big _ (by decide)
theorem cell_eq {M : Int32} (hM : ∀ i, bt M i = true → i < 12) : ∃ m1, (∀ u, u ≤ 9 → (bt m1 u = true ↔ C1 M u)) ∧ ∀ y, f_X8_cell y M = bd (f_X8_figure y m1) (fun r3 w2 => if r3 = 0 then (b_X8_cell_52 w2 (M &&& ((1023 : Int32))) (((10 : Int32)) * r3)) else (b_X8_cell_52 w2 (M >>> (((10 : Int32)) &&& 31)) (((10 : Int32)) * r3))) := by
  unfold f_X8_cell b_X8_cell_0 b_X8_cell_14 b_X8_cell_26 C1
  by_cases h1 : M &&& 1023 = 0
  · by_cases h2 : M &&& 3072 = 0
    · refine ⟨(0 : Int32) ||| 0, fun u hu => ?_, fun y => ?_⟩
      · rw [(by decide +kernel : ∀ u, u ≤ 9 → bt ((0 : Int32) ||| 0) u = false) u hu]
        simp [h1, h2]
      · rw [if_pos h1, if_pos ((s10_0 hM).mpr h2)]
    · refine ⟨(0 : Int32) ||| 2, fun u hu => ?_, fun y => ?_⟩
      · rw [(by decide +kernel : ∀ u, u ≤ 9 → bt ((0 : Int32) ||| 2) u = decide (u = 1)) u hu]
        simp [h1, h2]
      · rw [if_pos h1, if_neg (fun z => h2 ((s10_0 hM).mp z))]
  · by_cases h2 : M &&& 3072 = 0
    · refine ⟨(1 : Int32) ||| 0, fun u hu => ?_, fun y => ?_⟩
      · rw [(by decide +kernel : ∀ u, u ≤ 9 → bt ((1 : Int32) ||| 0) u = decide (u = 0)) u hu]
        simp [h1, h2]
      · rw [if_neg h1, if_pos ((s10_0 hM).mpr h2)]
    · refine ⟨(1 : Int32) ||| 2, fun u hu => ?_, fun y => ?_⟩
      · rw [(by decide +kernel : ∀ u, u ≤ 9 → bt ((1 : Int32) ||| 2) u = (decide (u = 0) || decide (u = 1))) u hu]
        simp [h1, h2]
      · rw [if_neg h1, if_neg (fun z => h2 ((s10_0 hM).mp z))]
theorem cell_f {y : Wd} {f : Nat} {M : Int32} (h : y.1 105 18 = nI f) (hf : f < 100) : f_X8_cell y M = some (0, y) := by
  have key : ∀ s0 s1, b_X8_cell_26 y M s0 s1 = some (0, y) := fun s0 s1 => by
    unfold b_X8_cell_26 b_X8_cell_52
    rw [fig_f h hf, bd_ok, if_pos rfl, fig_f h hf, bd_ok]
    rfl
  unfold f_X8_cell b_X8_cell_0 b_X8_cell_14
  rw [key, key, key, key]
  split <;> split <;> rfl
/-- the mask of the second figure -/
def m2 (M : Int32) (u : Nat) : Int32 := if u = 0 then M &&& 1023 else M >>> ((10 : Int32) &&& 31)
theorem m2_b {M : Int32} {u v : Nat} (hM : ∀ i, bt M i = true → i < 12) (hu : u ≤ 1) (hv : v ≤ 9) : bt (m2 M u) v = true ↔ C2 M u v := by
  unfold m2 C2
  rcases (show u = 0 ∨ u = 1 by omega) with rfl | rfl
  · rw [if_pos rfl, b_and, b_1023, decide_eq_true (show v < 10 by omega), Bool.and_true, Nat.mul_zero, Nat.zero_add]
    exact ⟨fun h => ⟨hM _ h, h⟩, fun h => h.2⟩
  · rw [if_neg (by decide), b_s10 M (by omega), Nat.mul_one]
    exact ⟨fun h => ⟨hM _ h, h⟩, fun h => h.2⟩
theorem cell_52 {w : Wd} {M : Int32} {u : Nat} (hu : u ≤ 1) : (if nI u = 0 then (b_X8_cell_52 w (M &&& ((1023 : Int32))) (((10 : Int32)) * nI u)) else (b_X8_cell_52 w (M >>> (((10 : Int32)) &&& 31)) (((10 : Int32)) * nI u))) = b_X8_cell_52 w (m2 M u) (nI (10 * u)) := by
  unfold m2
  rw [show (10 : Int32) * nI u = nI (10 * u) from pk_mul 10 u]
  rcases (show u = 0 ∨ u = 1 by omega) with rfl | rfl
  · rw [if_pos (show nI 0 = 0 from rfl), if_pos (show (0 : Nat) = 0 from rfl)]
  · rw [if_neg (show ¬ nI 1 = 0 by decide), if_neg (show ¬ (1 : Nat) = 0 by decide)]
theorem mcell_y {y : Wd} {i len u v : Nat} {tx : Nat → Nat} {M : Int32} (hM : ∀ i, bt M i = true → i < 12) (ha : y.1 105 17 = nI i) (hf : y.1 105 18 = -9) (ht : TX y 105 16 114 len tx) (h : CY len tx i M u v) : f_X8_cell y M = some (nI (10 * u + v), up y 105 17 (nI (i + 2))) := by
  obtain ⟨m1, hm, e⟩ := cell_eq hM
  obtain ⟨h1, h2, h3, h4, h5, h6⟩ := h
  have hu := h3.le
  rw [e, fig_y ha hf ht ⟨by omega, h2, by omega, (hm u (by omega)).mpr h3⟩, bd_ok, cell_52 hu]
  unfold b_X8_cell_52
  rw [fig_y (i := i + 1) (v := v) (len := len) (tx := tx) up_eq (by rw [up_ns (by decide)]; exact hf) (ht.cong (by rw [up_ns (by decide)]) (by rw [up_nc (by decide)])) ⟨h1, h4, h5, (m2_b hM hu h5).mpr h6⟩, bd_ok, up_up, nI_add]
theorem mcell_n {y : Wd} {i len f : Nat} {tx : Nat → Nat} {M : Int32} (hM : ∀ i, bt M i = true → i < 12) (ha : y.1 105 17 = nI i) (hf : y.1 105 18 = -9) (ht : TX y 105 16 114 len tx) (hi : i ≤ 64) (h : CN len tx i M f) : ∃ r y', f_X8_cell y M = some (r, y') ∧ y'.1 105 18 = nI f ∧ Only S78 y y' := by
  obtain ⟨m1, hm, e⟩ := cell_eq hM
  rw [e]
  rcases h with ⟨rfl, h⟩ | ⟨rfl, u, h1, h2, h3, h4⟩
  · rw [fig_n ha hf ht (by omega) (fun ⟨v, k1, k2, k3, k4⟩ => h ⟨v, k1, k2, (hm v k3).mp k4⟩), bd_ok, if_pos rfl]
    unfold b_X8_cell_52
    rw [fig_f (f := f) up_eq (by omega), bd_ok]
    exact ⟨_, _, rfl, up_eq, Only.rf.up ⟨rfl, Or.inr rfl⟩⟩
  · have hu := h3.le
    rw [fig_y ha hf ht ⟨h1, h2, by omega, (hm u (by omega)).mpr h3⟩, bd_ok, cell_52 hu]
    unfold b_X8_cell_52
    rw [fig_n (i := i + 1) (len := len) (tx := tx) up_eq (by rw [up_ns (by decide)]; exact hf) (ht.cong (by rw [up_ns (by decide)]) (by rw [up_nc (by decide)])) (by omega) (fun ⟨v, k1, k2, k3, k4⟩ => h4 ⟨v, k1, k2, k3, (m2_b hM hu k3).mp k4⟩), bd_ok]
    exact ⟨_, _, rfl, up_eq, (Only.rf.up ⟨rfl, Or.inl rfl⟩).up ⟨rfl, Or.inr rfl⟩⟩
