/-! ===== what may stand at a place: the same sets on both sides ===== -/
def RdR (p : Nat) (x y : Wd) (T G : Nat) (cl kd st : Nat → Nat) : Prop :=
  T ≤ 6 ∧ G ≤ 4 ∧ x.1 p 0 = nI T ∧ y.1 105 2 = nI T ∧ x.1 p 1 = nI G ∧ y.1 105 3 = nI G ∧ x.1 p 2 = y.1 105 4 ∧ (∀ i, bt (x.1 p 2) i = true → i < 12) ∧
  (∀ t, t < T → x.1 (p + 1) t = nI (cl t) ∧ y.1 106 (4 * t) = nI (cl t) ∧ cl t < 12) ∧ (∀ t u, t < T → u < T → cl t = cl u → t = u) ∧
  (∀ t, t < T → x.1 (p + 2) t = y.1 106 (4 * t + 1) ∧ (x.1 (p + 2) t = 0 ∨ x.1 (p + 2) t = 1)) ∧
  (∀ t, t < T → x.1 (p + 3) t = nI (kd t) ∧ y.1 106 (4 * t + 2) = nI (kd t) ∧ kd t < 5) ∧
  (∀ t, t < T → x.1 (p + 4) t = y.1 106 (4 * t + 3) ∧ ∀ i, bt (x.1 (p + 4) t) i = true → i < T) ∧ (∀ t, T ≤ t → t < 6 → x.1 (p + 4) t = 0) ∧
  (∀ i, bt (x.1 p 3) i = true ↔ i < T ∧ kd i = 3) ∧ (∀ i, bt (x.1 p 4) i = true ↔ i < T ∧ (kd i = 0 ∨ kd i = 2)) ∧ (∀ i, bt (x.1 p 5) i = true ↔ i < T ∧ kd i = 4) ∧
  (∀ g, g < G → x.1 (p + 5) g = nI (st g) ∧ y.1 107 (2 * g) = nI (st g) ∧ st g < 12) ∧
  (∀ g, g < G → x.1 (p + 6) g = y.1 107 (2 * g + 1) ∧ (x.1 (p + 6) g = -9 ∨ x.1 (p + 6) g = 0 ∨ x.1 (p + 6) g = 1))
theorem m4 (t : Nat) : (4 : Int32) * nI t = nI (4 * t) := pk_mul 4 t
theorem m2n (t : Nat) : (2 : Int32) * nI t = nI (2 * t) := pk_mul 2 t
/-- cells without a trap -/
theorem free_v {y : Wd} {T : Nat} {cl : Nat → Nat} (hT : y.1 105 2 = nI T) (h6 : T ≤ 6) (hc : ∀ t, t < T → y.1 106 (4 * t) = nI (cl t) ∧ cl t < 12) : ∃ F, f_X8_freeCells y = some (F, y) ∧ ∀ i, i < 32 → (bt F i = true ↔ i < 12 ∧ ∀ t, t < T → cl t ≠ i) := by
  unfold f_X8_freeCells b_X8_freeCells_0
  have key : ∀ (n t : Nat) (x : Int32), T - t < n → t ≤ T → (∀ i, i < 32 → (bt x i = true ↔ i < 12 ∧ ∀ u, u < t → cl u ≠ i)) → ∃ F, b_X8_freeCells_6 n y x (nI t) = some (F, y) ∧ ∀ i, i < 32 → (bt F i = true ↔ i < 12 ∧ ∀ u, u < T → cl u ≠ i) := by
    intro n
    induction n with
    | zero => intro t x h; omega
    | succ n ih =>
      intro t x hn ht hx
      rw [b_X8_freeCells_6, hT]
      by_cases h : t = T
      · subst h
        rw [if_pos (nI_le (Nat.le_refl t) (by omega))]
        exact ⟨x, rfl, hx⟩
      · have hlt : t < T := by omega
        have hcl := hc t hlt
        rw [if_neg (nI_ge hlt (by omega)), m4, gd_true (inb_nI (show 4 * t < 24 by omega) (by decide)), nI_clamp (by omega), hcl.1, nm_ok, nm_ok, nI_1]
        refine ih (t + 1) _ (by omega) (by omega) (fun i hi => ?_)
        rw [b_and, Bool.and_eq_true, hx i hi, b_not _ hi, one_t (by omega)]
        constructor
        · rintro ⟨⟨h1, h2⟩, h3⟩
          refine ⟨h1, fun u hu => ?_⟩
          by_cases hut : u = t
          · subst hut
            intro z
            rw [z] at h3
            simp at h3
          · exact h2 u (by omega)
        · rintro ⟨h1, h2⟩
          refine ⟨⟨h1, fun u hu => h2 u (by omega)⟩, ?_⟩
          have := h2 t (by omega)
          rw [decide_eq_false (fun z => this z.symm)]
          rfl
  exact key LF 0 4095 (by unfold LF; omega) (by omega) (fun i hi => by rw [b_4095]; simp)
theorem allTraps_v {p T : Nat} {x : Wd} (hT : x.1 p 0 = nI T) : f_X1_allTraps p x = some (((1 : Int32) <<< (nI T &&& 31)) - 1, x) := by
  unfold f_X1_allTraps b_X1_allTraps_0
  rw [hT]
theorem pl_ok {p : Nat} (hp : p = 3 ∨ p = 11) : plb p = true := by rcases hp with rfl | rfl <;> rfl
theorem takeOfTrap_c {p T q : Nat} {x : Wd} {cl : Nat → Nat} {F s : Int32} (hp : p = 3 ∨ p = 11) (h0 : x.1 10 0 = nI p) (h2 : x.1 10 2 = nI q) (hq : q < 2) (hT : x.1 p 0 = nI T) (h6 : T ≤ 6) (hc : ∀ t, t < T → x.1 (p + 1) t = nI (cl t) ∧ cl t < 12) (hF : ∀ i, i < 32 → (bt F i = true ↔ i < 12 ∧ ∀ t, t < T → cl t ≠ i)) : f_X2_takeOfTrap x s = bd (f_X2_takeOfCell x s F) (fun r26 w25 => gd (bb r26) (some (r26, w25))) := by
  unfold f_X2_takeOfTrap b_X2_takeOfTrap_0
  obtain ⟨r, e, hr⟩ := cellsOf_v (p := p) (w := x) (v := ((1 : Int32) <<< (nI T &&& 31)) - 1) hT h6 hc
  have hm : (4095 : Int32) &&& (r ^^^ (-1)) = F := b_ext (fun i hi => by
    rw [b_and, b_not _ hi, b_4095]
    have h1 := hr i hi
    have h2 := hF i hi
    cases hf : bt F i
    · rw [hf] at h2
      by_cases h12 : i < 12
      · rw [decide_eq_true h12, Bool.true_and]
        have : bt r i = true := h1.mpr (Decidable.byContradiction fun z => by
          have := h2.mpr ⟨h12, fun t ht q => z ⟨t, ht, by rw [all_b h6]; exact decide_eq_true ht, q⟩⟩
          cases this)
        rw [this]; rfl
      · rw [decide_eq_false h12, Bool.false_and]
    · rw [hf] at h2
      obtain ⟨h12, h3⟩ := h2.mp rfl
      rw [decide_eq_true h12, Bool.true_and]
      have : bt r i = false := Bool.eq_false_iff.mpr fun z => by
        obtain ⟨t, ht, -, q⟩ := h1.mp z
        exact h3 t ht q
      rw [this]; rfl)
  rw [h2, if_neg (show ¬ (2 : Int32) ≤ nI q from nI_ge (b := 2) hq (by decide)), h0, nI_clamp (by omega), gd_true (pl_ok hp), gd_true (pl_ok hp), allTraps_v hT, bd_ok, e, bd_ok, hm]
/-- cells that may be shut -/
theorem shut_v {y : Wd} {G : Nat} {st : Nat → Nat} (hG : y.1 105 3 = nI G) (h4 : G ≤ 4) (hc : ∀ g, g < G → y.1 107 (2 * g) = nI (st g) ∧ st g < 12) : ∃ F, f_X8_shuttable y = some (F, y) ∧ ∀ i, i < 32 → (bt F i = true ↔ i < 12 ∧ bt (y.1 105 4) i = false ∧ ∀ g, g < G → st g ≠ i) := by
  unfold f_X8_shuttable b_X8_shuttable_0
  rw [nm_ok]
  have key : ∀ (n t : Nat) (x : Int32), G - t < n → t ≤ G → (∀ i, i < 32 → (bt x i = true ↔ i < 12 ∧ bt (y.1 105 4) i = false ∧ ∀ u, u < t → st u ≠ i)) → ∃ F, b_X8_shuttable_13 n y x (nI t) = some (F, y) ∧ ∀ i, i < 32 → (bt F i = true ↔ i < 12 ∧ bt (y.1 105 4) i = false ∧ ∀ u, u < G → st u ≠ i) := by
    intro n
    induction n with
    | zero => intro t x h; omega
    | succ n ih =>
      intro t x hn ht hx
      rw [b_X8_shuttable_13, hG]
      by_cases h : t = G
      · subst h
        rw [if_pos (nI_le (Nat.le_refl t) (by omega))]
        exact ⟨x, rfl, hx⟩
      · have hlt : t < G := by omega
        have hcl := hc t hlt
        rw [if_neg (nI_ge hlt (by omega)), m2n, gd_true (inb_nI (show 2 * t < 8 by omega) (by decide)), nI_clamp (by omega), hcl.1, nm_ok, nm_ok, nI_1]
        refine ih (t + 1) _ (by omega) (by omega) (fun i hi => ?_)
        rw [b_and, Bool.and_eq_true, hx i hi, b_not _ hi, one_t (by omega)]
        constructor
        · rintro ⟨⟨h1, h1', h2⟩, h3⟩
          refine ⟨h1, h1', fun u hu => ?_⟩
          by_cases hut : u = t
          · subst hut
            intro z
            rw [z] at h3
            simp at h3
          · exact h2 u (by omega)
        · rintro ⟨h1, h1', h2⟩
          refine ⟨⟨h1, h1', fun u hu => h2 u (by omega)⟩, ?_⟩
          have := h2 t (by omega)
          rw [decide_eq_false (fun z => this z.symm)]
          rfl
  exact key LF 0 _ (by unfold LF; omega) (by omega) (fun i hi => by rw [b_and, b_4095, b_not _ hi]; simp)
theorem start_v {p G : Nat} {x : Wd} {st : Nat → Nat} (hG : x.1 p 1 = nI G) (h4 : G ≤ 4) (hc : ∀ g, g < G → x.1 (p + 5) g = nI (st g) ∧ st g < 12) : ∃ r, f_X1_startCells p x = some (r, x) ∧ ∀ i, i < 32 → (bt r i = true ↔ ∃ g, g < G ∧ st g = i) := by
  unfold f_X1_startCells b_X1_startCells_0
  have key : ∀ (n t : Nat) (z : Int32), G - t < n → t ≤ G → (∀ i, i < 32 → (bt z i = true ↔ ∃ u, u < t ∧ st u = i)) → ∃ r, b_X1_startCells_4 p n x z (nI t) = some (r, x) ∧ ∀ i, i < 32 → (bt r i = true ↔ ∃ u, u < G ∧ st u = i) := by
    intro n
    induction n with
    | zero => intro t z h; omega
    | succ n ih =>
      intro t z hn ht hx
      rw [b_X1_startCells_4]
      by_cases h : t = G
      · subst h
        refine ⟨z, ?_, hx⟩
        by_cases h9 : (4 : Int32) ≤ nI t
        · rw [if_pos h9]
        · rw [if_neg h9, hG, if_pos (nI_le (Nat.le_refl t) (by omega))]
      · have hlt : t < G := by omega
        have hcl := hc t hlt
        rw [if_neg (show ¬ (4 : Int32) ≤ nI t from nI_ge (b := 4) (by omega) (by omega)), hG, if_neg (nI_ge hlt (by omega)), gd_true (inb_nI (by omega) (by omega)), nI_clamp (by omega), hcl.1, nm_ok, nm_ok, nI_1]
        refine ih (t + 1) _ (by omega) (by omega) (fun i hi => ?_)
        rw [b_or, Bool.or_eq_true, hx i hi, one_t (by omega), decide_eq_true_iff]
        constructor
        · rintro (⟨u, h2, h4⟩ | h2)
          · exact ⟨u, by omega, h4⟩
          · exact ⟨t, by omega, h2.symm⟩
        · rintro ⟨u, h2, h4⟩
          by_cases hu : u = t
          · subst hu; exact Or.inr h4.symm
          · exact Or.inl ⟨u, by omega, h4⟩
  exact key LF 0 0 (by unfold LF; omega) (by omega) (fun i hi => by rw [b_0]; simp)
theorem close_v {p G : Nat} {x : Wd} {st : Nat → Nat} {F : Int32} (hp : p = 3 ∨ p = 11) (h0 : x.1 10 0 = nI p) (hG : x.1 p 1 = nI G) (h4 : G ≤ 4) (hc : ∀ g, g < G → x.1 (p + 5) g = nI (st g) ∧ st g < 12) (hF : ∀ i, i < 32 → (bt F i = true ↔ i < 12 ∧ bt (x.1 p 2) i = false ∧ ∀ g, g < G → st g ≠ i)) : f_X2_cellsToClose x = some (F, x) := by
  unfold f_X2_cellsToClose b_X2_cellsToClose_0
  obtain ⟨r, e, hr⟩ := start_v (p := p) (x := x) hG h4 hc
  rw [h0, nI_clamp (by omega), gd_true (pl_ok hp), gd_true (pl_ok hp), e, bd_ok]
  congr 2
  refine b_ext (fun i hi => ?_)
  rw [b_and, b_and, b_not _ hi, b_not _ hi, b_4095]
  have h1 := hr i hi
  have h2 := hF i hi
  cases hf : bt F i
  · rw [hf] at h2
    by_cases h12 : i < 12
    · rw [decide_eq_true h12, Bool.true_and]
      by_cases h13 : bt (x.1 p 2) i = false
      · have : bt r i = true := h1.mpr (Decidable.byContradiction fun z => by
          have := h2.mpr ⟨h12, h13, fun t ht q => z ⟨t, ht, q⟩⟩
          cases this)
        rw [this, h13]; rfl
      · rw [show bt (x.1 p 2) i = true by simpa using h13]; rfl
    · rw [decide_eq_false h12]; rfl
  · rw [hf] at h2
    obtain ⟨h12, h13, h3⟩ := h2.mp rfl
    have : bt r i = false := Bool.eq_false_iff.mpr fun z => by
      obtain ⟨t, ht, q⟩ := h1.mp z
      exact h3 t ht q
    rw [this, h13, decide_eq_true h12]; rfl
/-- wires that may be told of a trap -/
def OW (T v : Nat) (s : Int32) : Int32 := ((((1 : Int32) <<< (nI T &&& 31)) - 1) &&& (((1 : Int32) <<< (nI v &&& 31)) ^^^ (-1))) &&& (s ^^^ (-1))
theorem OW_b {T v i : Nat} {s : Int32} (h6 : T ≤ 6) (h : bt (OW T v s) i = true) : i < T := by
  unfold OW at h
  rw [b_and, b_and, all_b h6, Bool.and_eq_true, Bool.and_eq_true] at h
  exact of_decide_eq_true h.1.1
theorem open_v {y : Wd} {T v : Nat} (hT : y.1 105 2 = nI T) (hv : v < 6) : f_X8_openWires y (nI v) = some (OW T v (y.1 106 (4 * v + 3)), y) := by
  unfold f_X8_openWires b_X8_openWires_0 OW
  rw [m4, lit_add' 3 (b := 3) rfl, gd_true (inb_nI (show 4 * v + 3 < 24 by omega) (by decide)), nI_clamp (by omega), hT]
theorem wleft_y {p T v : Nat} {x : Wd} (hp : p = 3 ∨ p = 11) (h0 : x.1 10 0 = nI p) (hT : x.1 p 0 = nI T) (h6 : T ≤ 6) (hv : v < T) : f_X2_wiresLeft x (nI v) = some (OW T v (x.1 (p + 4) v), x) := by
  unfold f_X2_wiresLeft b_X2_wiresLeft_0 OW
  rw [h0, nI_clamp (by omega), gd_true (pl_ok hp), hasTrap_yes hT h6 hv, bd_ok, if_neg (show ¬ (1 : Int32) = 0 by decide), h0, nI_clamp (by omega), gd_true (pl_ok hp), allTraps_v hT, bd_ok, h0, nI_clamp (by omega), gd_true (pl_ok hp), gd_true (inb_nI (show v < 6 by omega) (by decide)), nI_clamp (by omega)]
  congr 2
  refine b_ext (fun i hi => ?_)
  rw [b_and, b_and, b_and, b_and, Bool.and_right_comm]
theorem wleft_n {p T : Nat} {x : Wd} {v : Int32} (hp : p = 3 ∨ p = 11) (h0 : x.1 10 0 = nI p) (hT : x.1 p 0 = nI T) (hv : v < 0 ∨ nI T ≤ v) : f_X2_wiresLeft x v = some (0, x) := by
  unfold f_X2_wiresLeft b_X2_wiresLeft_0
  rw [h0, nI_clamp (by omega), gd_true (pl_ok hp), hasTrap_no hT hv, bd_ok, if_pos rfl]
theorem begins_v {y : Wd} {T : Nat} (hT : y.1 105 2 = nI T) (h6 : T ≤ 6) : ∃ B, f_X8_begins y = some (B, y) ∧ ∀ i, (bt B i = true ↔ i < T ∧ ¬ OW T i (y.1 106 (4 * i + 3)) = 0) := by
  unfold f_X8_begins b_X8_begins_0
  have key : ∀ (n t : Nat) (z : Int32), T - t < n → t ≤ T → (∀ i, (bt z i = true ↔ i < t ∧ ¬ OW T i (y.1 106 (4 * i + 3)) = 0)) → ∃ B, b_X8_begins_4 n y z (nI t) = some (B, y) ∧ ∀ i, (bt B i = true ↔ i < T ∧ ¬ OW T i (y.1 106 (4 * i + 3)) = 0) := by
    intro n
    induction n with
    | zero => intro t z h; omega
    | succ n ih =>
      intro t z hn ht hz
      rw [b_X8_begins_4, hT]
      by_cases h : t = T
      · subst h
        rw [if_pos (nI_le (Nat.le_refl t) (by omega))]
        exact ⟨z, rfl, hz⟩
      · have hlt : t < T := by omega
        rw [if_neg (nI_ge hlt (by omega)), open_v hT (by omega), bd_ok]
        unfold b_X8_begins_28
        simp only [nm_ok, nI_1]
        by_cases h9 : OW T t (y.1 106 (4 * t + 3)) = 0
        · rw [if_pos h9]
          refine ih (t + 1) _ (by omega) (by omega) (fun i => ?_)
          rw [b_or, b_0, Bool.or_false, hz i]
          constructor
          · rintro ⟨h1, h2⟩; exact ⟨by omega, h2⟩
          · rintro ⟨h1, h2⟩
            refine ⟨?_, h2⟩
            rcases Nat.lt_or_ge i t with q | q
            · exact q
            · obtain rfl : i = t := by omega
              exact absurd h9 h2
        · rw [if_neg h9]
          refine ih (t + 1) _ (by omega) (by omega) (fun i => ?_)
          rw [b_or, one_t (by omega), Bool.or_eq_true, hz i, decide_eq_true_iff]
          constructor
          · rintro (⟨h1, h2⟩ | rfl)
            · exact ⟨by omega, h2⟩
            · exact ⟨by omega, h9⟩
          · rintro ⟨h1, h2⟩
            rcases Nat.lt_or_ge i t with q | q
            · exact Or.inl ⟨q, h2⟩
            · exact Or.inr (by omega)
  exact key LF 0 0 (by unfold LF; omega) (by omega) (fun i => by rw [b_0]; simp)
theorem wired_v {p T : Nat} {x : Wd} (hp : p = 3 ∨ p = 11) (h0 : x.1 10 0 = nI p) (hT : x.1 p 0 = nI T) (h6 : T ≤ 6) : f_X2_canBeWired x = some (if ∃ i, i < T ∧ ¬ OW T i (x.1 (p + 4) i) = 0 then 1 else 0, x) := by
  unfold f_X2_canBeWired b_X2_canBeWired_0
  have key : ∀ (n t : Nat) (z : Int32), 6 - t < n → t ≤ 6 → (z = 0 ↔ ¬ ∃ i, i < t ∧ i < T ∧ ¬ OW T i (x.1 (p + 4) i) = 0) → b_X2_canBeWired_4 n x z (nI t) = some (if ∃ i, i < T ∧ ¬ OW T i (x.1 (p + 4) i) = 0 then 1 else 0, x) := by
    intro n
    induction n with
    | zero => intro t z h; omega
    | succ n ih =>
      intro t z hn ht hz
      rw [b_X2_canBeWired_4]
      by_cases h : t = 6
      · subst h
        rw [if_pos (show (6 : Int32) ≤ nI 6 by decide)]
        by_cases c : ∃ i, i < T ∧ ¬ OW T i (x.1 (p + 4) i) = 0
        · rw [if_pos c, if_neg (fun q => hz.mp q (by obtain ⟨i, c1, c2⟩ := c; exact ⟨i, by omega, c1, c2⟩))]
        · rw [if_neg c, if_pos (hz.mpr (fun ⟨i, c0, c1, c2⟩ => c ⟨i, c1, c2⟩))]
      · rw [if_neg (show ¬ (6 : Int32) ≤ nI t from nI_ge (b := 6) (by omega) (by decide))]
        have hor : ∀ a b : Int32, a ||| b = 0 ↔ a = 0 ∧ b = 0 := fun a b => by
          constructor
          · intro q
            have hb : ∀ i, (bt a i || bt b i) = false := fun i => by rw [← b_or, q, b_0]
            refine ⟨b_ext fun i hi => ?_, b_ext fun i hi => ?_⟩
            · have := hb i; rw [b_0]; cases h1 : bt a i <;> rw [h1] at this <;> first | rfl | cases this
            · have := hb i; rw [b_0]; cases h1 : bt b i
              · rfl
              · rw [h1, Bool.or_true] at this; cases this
          · rintro ⟨rfl, rfl⟩; rfl
        by_cases hlt : t < T
        · rw [wleft_y hp h0 hT h6 hlt, bd_ok, nm_ok, nm_ok, nI_1]
          refine ih (t + 1) _ (by omega) (by omega) ?_
          rw [hor, hz]
          constructor
          · rintro ⟨h1, h2⟩ ⟨i, k1, k2, k3⟩
            rcases Nat.lt_or_ge i t with q | q
            · exact h1 ⟨i, q, k2, k3⟩
            · obtain rfl : i = t := by omega
              exact k3 h2
          · intro h1
            exact ⟨fun ⟨i, k1, k2, k3⟩ => h1 ⟨i, by omega, k2, k3⟩, Decidable.byContradiction fun q => h1 ⟨t, by omega, hlt, q⟩⟩
        · rw [wleft_n hp h0 hT (Or.inr (nI_le (by omega) (by omega))), bd_ok, nm_ok, nm_ok, nI_1]
          refine ih (t + 1) _ (by omega) (by omega) ?_
          rw [hor, hz]
          constructor
          · rintro ⟨h1, h2⟩ ⟨i, k1, k2, k3⟩
            exact h1 ⟨i, by omega, k2, k3⟩
          · intro h1
            exact ⟨fun ⟨i, k1, k2, k3⟩ => h1 ⟨i, by omega, k2, k3⟩, rfl⟩
  exact key LF 0 0 (by unfold LF; omega) (by omega) (by simp)
