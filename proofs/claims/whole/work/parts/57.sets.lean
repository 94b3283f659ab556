theorem nb_of {v : Int32} {T : Nat} (h : ∀ i, bt v i = true → i < T) : ∃ j, j < 2 ^ T ∧ v = nI j := by
  have e : v = nI v.toBitVec.toNat := by
    apply Int32.toBitVec_inj.1
    show v.toBitVec = BitVec.ofNat 32 v.toBitVec.toNat
    simp
  refine ⟨v.toBitVec.toNat, ?_, e⟩
  refine Nat.lt_pow_two_of_testBit _ (fun i hi => ?_)
  cases hb : v.toBitVec.toNat.testBit i
  · rfl
  · exact absurd (h i hb) (by omega)
theorem nb_bits {j T i : Nat} (hj : j < 2 ^ T) (h : bt (nI j) i = true) : i < T := by
  have h1 : (BitVec.ofNat 32 j).getLsbD i = true := h
  rw [BitVec.getLsbD_ofNat, Bool.and_eq_true] at h1
  rcases Nat.lt_or_ge i T with q | q
  · exact q
  · have : j < 2 ^ i := Nat.lt_of_lt_of_le hj (Nat.pow_le_pow_right (by decide) q)
    rw [Nat.testBit_lt_two_pow this] at h1
    exact absurd h1.2 (by decide)
theorem all_n : ∀ T, T < 7 → ((1 : Int32) <<< (nI T &&& 31)) - 1 = nI (2 ^ T - 1) := by decide +kernel
theorem one_n : ∀ T, T < 7 → ((1 : Int32) <<< (nI T &&& 31)) = nI (2 ^ T) := by decide +kernel
theorem all_b {T i : Nat} (hT : T ≤ 6) : bt (((1 : Int32) <<< (nI T &&& 31)) - 1) i = decide (i < T) := by
  rcases Nat.lt_or_ge i 32 with h | h
  · exact b_all T (by omega) i h
  · rw [b_big h, decide_eq_false (by omega)]
theorem in_all {v : Int32} {T : Nat} (hT : T ≤ 6) : (v &&& ((((1 : Int32) <<< (nI T &&& 31)) - 1) ^^^ (-1))) = 0 ↔ ∀ i, bt v i = true → i < T := by
  constructor
  · intro h i hi
    have h32 := bt32 hi
    have : bt (v &&& ((((1 : Int32) <<< (nI T &&& 31)) - 1) ^^^ (-1))) i = false := by rw [h, b_0]
    rw [b_and, hi, b_not _ h32, all_b hT] at this
    rcases Nat.lt_or_ge i T with q | q
    · exact q
    · rw [decide_eq_false (by omega)] at this; cases this
  · intro h
    apply b_ext
    intro i hi
    rw [b_and, b_not _ hi, all_b hT, b_0]
    cases hb : bt v i
    · rfl
    · rw [decide_eq_true (h i hb)]; rfl
theorem p2_le {T : Nat} (hT : T ≤ 6) : 2 ^ T ≤ 64 ∧ 0 < 2 ^ T := ⟨Nat.pow_le_pow_right (n := 2) (by decide) hT, Nat.two_pow_pos T⟩
theorem s_first (v : Int32) : Step (fun w => f_X7_first w v) (fun w => f_X8_first w v) := by
  refine Step.ro (fun w T W cl kd hi => ?_)
  obtain ⟨hp, -⟩ := hi
  have hp0 := hp
  obtain ⟨hT, hW, x0, m0, x1, m1, hs, -⟩ := hp
  obtain ⟨p1, p2⟩ := p2_le hT
  show ∃ r, f_X7_first w v = _ ∧ f_X8_first w v = _
  obtain ⟨al, hal⟩ : ∃ z, z = ((1 : Int32) <<< (nI T &&& 31)) - 1 := ⟨_, rfl⟩
  have eX : f_X7_first w v = if (v &&& (al ^^^ (-1))) = 0 then b_X7_first_24 LF w v al 0 0 else some (-2, w) := by
    unfold f_X7_first b_X7_first_0 f_X1_allTraps b_X1_allTraps_0
    rw [x0, ← hal, bd_ok]
  have eM : f_X8_first w v = if (if (0 : Int32) ≤ v ∧ v ≤ al then (1 : Int32) else 0) = 0 then some (-2, w) else b_X8_first_25 LF w v 0 0 := by
    unfold f_X8_first b_X8_first_0
    rw [m0, ← hal, show (0 : Int64) = (0 : Int32).toInt64 from rfl, in_i, bd_ok]
  by_cases hv : ∀ i, bt v i = true → i < T
  · obtain ⟨q, hq⟩ : ∃ z : Nat → Bool, z = fun t => decide (t < T) && decide (wvv w al t = v) := ⟨_, rfl⟩
    have hab : ∀ i, bt al i = true → i < T := fun i hi => by rw [hal, all_b hT] at hi; simpa using hi
    have h6 : ∀ i, bt (al &&& (w.1 11 3 ^^^ (-1))) i = true → i < 6 := fun i hi => by
      rw [b_and, Bool.and_eq_true] at hi
      have := hab i hi.1
      omega
    refine ⟨mk q T, ?_, ?_⟩
    · rw [eX, if_pos (by rw [hal]; exact (in_all hT).mpr hv)]
      have key : ∀ (n t : Nat), 6 - t < n → t ≤ 6 → b_X7_first_24 n w v al (mk q t) (nI t) = some (mk q T, w) := by
        intro n
        induction n with
        | zero => intro t h; omega
        | succ n ih =>
          intro t hn ht
          rw [b_X7_first_24]
          by_cases h : t = 6
          · subst h
            rw [if_pos (show (6 : Int32) ≤ nI 6 by decide), mk_more hT (fun i h1 h2 => by rw [hq]; simp [show ¬ i < T by omega])]
          · rw [if_neg (show ¬ (6 : Int32) ≤ nI t from nI_ge (b := 6) (by omega) (by decide))]
            have ih' := ih (t + 1) (by omega) (by omega)
            rw [mk] at ih'
            unfold b_X7_first_76
            simp only [nm_ok, nI_1]
            by_cases htT : t < T
            · rw [hasTrap_yes x0 hT htT, bd_ok, if_neg (show ¬ (1 : Int32) = 0 by decide), (spread_v h6).1, bd_ok, wv_sp hp0 hab (by omega)]
              by_cases hw : wvv w al t = v
              · rw [if_pos hw]
                rw [if_pos (by rw [hq]; simp [htT, hw])] at ih'
                exact ih'
              · rw [if_neg hw]
                rw [if_neg (by rw [hq]; simp [hw]), or_0] at ih'
                exact ih'
            · rw [hasTrap_no x0 (Or.inr (nI_le (by omega) (by omega))), bd_ok, if_pos rfl]
              rw [if_neg (by rw [hq]; simp [htT]), or_0] at ih'
              exact ih'
      exact key LF 0 (by unfold LF; omega) (by omega)
    · have hr : (0 : Int32) ≤ v ∧ v ≤ al := by
        obtain ⟨j, hj, rfl⟩ := nb_of hv
        rw [hal, all_n T (by omega)]
        exact ⟨nI_le (a := 0) (by omega) (by omega), nI_le (by omega) (by omega)⟩
      rw [eM, if_pos hr, if_neg (show ¬ (1 : Int32) = 0 by decide)]
      have key : ∀ (n t : Nat), T - t < n → t ≤ T → b_X8_first_25 n w v (mk q t) (nI t) = some (mk q T, w) := by
        intro n
        induction n with
        | zero => intro t h; omega
        | succ n ih =>
          intro t hn ht
          rw [b_X8_first_25, m0, ← hal]
          by_cases h : t = T
          · subst h
            rw [if_pos (nI_le (Nat.le_refl t) (by omega))]
          · have htT : t < T := by omega
            rw [if_neg (nI_ge htT (by omega)), (wave_v (show t < 7 by omega)).1, bd_ok]
            have ih' := ih (t + 1) (by omega) (by omega)
            rw [mk] at ih'
            unfold b_X8_first_58
            simp only [nm_ok, nI_1]
            by_cases hw : wvv w al t = v
            · rw [if_pos hw]
              rw [if_pos (by rw [hq]; simp [htT, hw])] at ih'
              exact ih'
            · rw [if_neg hw]
              rw [if_neg (by rw [hq]; simp [hw])] at ih'
              exact ih'
      exact key LF 0 (by unfold LF; omega) (by omega)
  · refine ⟨-2, ?_, ?_⟩
    · rw [eX, if_neg (fun z => hv (by rw [hal] at z; exact (in_all hT).mp z))]
    · rw [eM, if_neg (show ¬ ((0 : Int32) ≤ v ∧ v ≤ al) from fun z => hv (fun i hi => ?_)), if_pos rfl]
      rcases ix v (n := 2 ^ T) (by omega) with h | ⟨j, hj, rfl⟩
      · exfalso
        obtain ⟨z1, z2⟩ := z
        rw [hal, all_n T (by omega)] at z2
        rw [i_le] at z1 z2
        rw [nI_toInt (by omega)] at z2
        have e0 : (0 : Int32).toInt = 0 := rfl
        rcases h with h | h
        · rw [i_lt] at h; omega
        · rw [i_le, nI_toInt (by omega)] at h; omega
      · exact nb_bits hj hi
/-! rings -/
def rc (R : Nat → Int32) : Nat → Int32
  | 0 => 0
  | n + 1 => rc R n ||| (R n &&& ((1 : Int32) <<< (nI n &&& 31)))
theorem rings_i {kb4 : Wd → Int32 → Int32 → Option (Int32 × Wd)} {kb22 : Wd → Int32 → Int32 → Int32 → Int32 → Option (Int32 × Wd)} {w : Wd} {T : Nat} {v1 v2 v4 : Int32} (m0 : w.1 105 10 = nI T) (hT : T ≤ 6) (hw : ∀ i, i < T → ∀ j, bt (w.1 111 i) j = true → j < T) : ∀ (n t : Nat) (x : Int32), T - t < n → t ≤ T → ∃ s, (∀ i, bt x i = true → bt s i = true) ∧ (∀ i j, t ≤ i → i < T → bt x i = true → bt (w.1 111 i) j = true → bt s j = true) ∧ (∀ y : Nat → Bool, (∀ i, bt x i = true → y i = true) → (∀ i j, i < T → y i = true → bt (w.1 111 i) j = true → y j = true) → ∀ i, bt s i = true → y i = true) ∧ (∀ i, bt s i = true → bt x i = true ∨ i < T) ∧ b_X8_rings_32 kb4 kb22 n w v1 v2 x v4 (nI t) = kb22 w v1 v2 s (v4 + 1) := by
  intro n
  induction n with
  | zero => intro t x h; omega
  | succ n ih =>
    intro t x hn ht
    rw [b_X8_rings_32, m0]
    by_cases h : t = T
    · subst h
      refine ⟨x, fun _ => id, fun i j h1 h2 => by omega, fun y h1 h2 i hi => h1 i hi, fun i => Or.inl, ?_⟩
      rw [if_pos (nI_le (Nat.le_refl t) (by omega)), nm_ok]
    · have htT : t < T := by omega
      rw [if_neg (nI_ge htT (by omega))]
      unfold b_X8_rings_63
      simp only [nm_ok, nI_1]
      by_cases hb : bt x t = true
      · rw [if_pos ((tb1 _ (by omega)).mpr hb), gd_true (inb_nI (by omega) (by omega)), nI_clamp (by omega)]
        have hj : ∀ j, bt (x ||| w.1 111 t) j = true ↔ bt x j = true ∨ bt (w.1 111 t) j = true := fun j => by rw [b_or, Bool.or_eq_true]
        obtain ⟨s, a1, a2, a3, a4, a5⟩ := ih (t + 1) (x ||| w.1 111 t) (by omega) (by omega)
        refine ⟨s, fun i hi => a1 i ((hj i).mpr (Or.inl hi)), fun i j h1 h2 h3 h4 => ?_, fun y h1 h2 i hi => a3 y (fun i hi => ?_) h2 i hi, fun i hi => ?_, a5⟩
        · by_cases hit : i = t
          · subst hit
            exact a1 j ((hj j).mpr (Or.inr h4))
          · exact a2 i j (by omega) h2 ((hj i).mpr (Or.inl h3)) h4
        · rcases (hj i).mp hi with q | q
          · exact h1 i q
          · exact h2 t i htT (h1 t hb) q
        · rcases a4 i hi with q | q
          · rcases (hj i).mp q with q | q
            · exact Or.inl q
            · exact Or.inr (hw t htT i q)
          · exact Or.inr q
      · rw [if_neg (fun z => hb ((tb1 _ (by omega)).mp z)), or_0]
        obtain ⟨s, a1, a2, a3, a4, a5⟩ := ih (t + 1) x (by omega) (by omega)
        refine ⟨s, a1, fun i j h1 h2 h3 h4 => ?_, a3, a4, a5⟩
        by_cases hit : i = t
        · subst hit; exact absurd h3 hb
        · exact a2 i j (by omega) h2 h3 h4
theorem rings_k {kb4 : Wd → Int32 → Int32 → Option (Int32 × Wd)} {w : Wd} {T : Nat} {v1 v2 : Int32} {st : Nat → Bool} (m0 : w.1 105 10 = nI T) (hT : T ≤ 6) (hw : ∀ i, i < T → ∀ j, bt (w.1 111 i) j = true → j < T) : ∀ (n k : Nat) (x : Int32), 7 - k < n → k ≤ 7 → (∀ i, bt x i = true → i < T) → (∀ i, st i = true → i < T → bt x i = true) → (∀ y : Nat → Bool, (∀ i, st i = true → i < T → y i = true) → (∀ i j, i < T → y i = true → bt (w.1 111 i) j = true → y j = true) → ∀ i, bt x i = true → y i = true) → ((∀ i j, bt x i = true → bt (w.1 111 i) j = true → bt x j = true) ∨ k ≤ fb_ct (bt x) 7) → ∃ r, b_X8_rings_22 kb4 n w v1 v2 x (nI k) = kb4 w (v1 ||| (r &&& ((1 : Int32) <<< (v2 &&& 31)))) (v2 + 1) ∧ IsClo (fun i j => bt (w.1 111 i) j) (fun j => decide (j < T)) st (bt r) := by
  intro n
  induction n with
  | zero => intro k x h; omega
  | succ n ih =>
    intro k x hn hk a1 a2 a3 a4
    rw [b_X8_rings_22]
    by_cases h : k = 7
    · subst h
      rw [if_pos (show (7 : Int32) ≤ nI 7 by decide), nm_ok, nm_ok]
      refine ⟨x, rfl, fun i h1 h2 => a2 i h1 (by simpa using h2), ?_, fun y h1 h2 i hi => ?_⟩
      · rcases a4 with q | q
        · exact fun i j h1 h2 _ => q i j h1 h2
        · have hall := fb_ct_all.mp (Nat.le_antisymm (fb_ct_le _ _) q)
          have := a1 6 (hall 6 (by decide))
          omega
      · exact a3 y (fun i h3 h4 => h1 i h3 (by simpa using h4)) (fun i j h3 h4 h5 => h2 i j h4 h5 (by have := hw i h3 j h5; simpa using this)) i hi
    · rw [if_neg (show ¬ (7 : Int32) ≤ nI k from nI_ge (b := 7) (by omega) (by omega))]
      obtain ⟨s, b1, b2, b3, b4, b5⟩ := rings_i (kb4 := kb4) (kb22 := b_X8_rings_22 kb4 n) (w := w) (v1 := v1) (v2 := v2) (v4 := nI k) m0 hT hw LF 0 x (by unfold LF; omega) (by omega)
      rw [show (0 : Int32) = nI 0 from rfl, b5, nI_1]
      refine ih (k + 1) s (by omega) (by omega) (fun i hi => ?_) (fun i h1 h2 => b1 i (a2 i h1 h2)) (fun y h1 h2 i hi => b3 y (fun i hi => a3 y h1 h2 i hi) h2 i hi) ?_
      · rcases b4 i hi with q | q
        · exact a1 i q
        · exact q
      · by_cases hc : ∀ i j, bt x i = true → bt (w.1 111 i) j = true → bt x j = true
        · left
          intro i j h1 h2
          exact b1 j (hc i j (b3 (bt x) (fun _ => id) (fun i j _ => hc i j) i h1) h2)
        · rcases a4 with q | q
          · exact absurd q hc
          · right
            have hex : ∃ i j, bt x i = true ∧ bt (w.1 111 i) j = true ∧ ¬ bt x j = true := by
              refine Classical.byContradiction fun hn => hc (fun i j h1 h2 => ?_)
              refine Classical.byContradiction fun h4 => hn ⟨i, j, h1, h2, h4⟩
            obtain ⟨i, j, h1, h2, h4⟩ := hex
            have hiT := a1 i h1
            have hjT := hw i hiT j h2
            have hs : bt s j = true := b2 i j (by omega) hiT h1 h2
            have e1 := fb_ct_upd (bt x) true (i := j) (n := 7) (by omega)
            have e2 : fb_ct (fun k => if k = j then true else bt x k) 7 ≤ fb_ct (bt s) 7 := fb_ct_sub (fun k _ hk => by
              by_cases hkj : k = j
              · subst hkj; exact hs
              · rw [if_neg hkj] at hk; exact b1 k hk)
            rw [if_neg h4, if_pos rfl] at e1
            omega
theorem s_rings : Step f_X7_rings f_X8_rings := by
  refine Step.ro (fun w T W cl kd hi => ?_)
  obtain ⟨⟨hT, hW, x0, m0, x1, m1, hs, hs2, hc, hci, hsd, hkd, hwi, hwz, -⟩, -⟩ := hi
  obtain ⟨al, hal⟩ : ∃ z, z = ((1 : Int32) <<< (nI T &&& 31)) - 1 := ⟨_, rfl⟩
  have hab : ∀ i, bt al i = decide (i < T) := fun i => by rw [hal, all_b hT]
  have h6 : ∀ i, bt al i = true → i < 6 := fun i hi => by
    rw [hab] at hi
    have : i < T := by simpa using hi
    omega
  have hw : ∀ i, i < T → ∀ j, bt (w.1 111 i) j = true → j < T := fun i hi j hj => by rw [← (hwi i hi).1] at hj; exact (hwi i hi).2 j hj
  obtain ⟨R, hR⟩ : ∃ z : Nat → Int32, z = fun t => spv w (w.1 15 t) al := ⟨_, rfl⟩
  have hclo : ∀ t, t < T → IsClo (fun i j => bt (w.1 111 i) j) (fun j => decide (j < T)) (bt (w.1 111 t)) (bt (R t)) := fun t ht => by
    rw [hR]
    refine clo_cong hab (fun i _ => by rw [(hwi t ht).1]) (fun i j h1 _ => ?_) (spread_v h6).2
    rw [hab] at h1
    have : i < T := by simpa using h1
    show bt (w.1 15 i) j = bt (w.1 111 i) j
    rw [(hwi i this).1]
  refine ⟨rc R T, ?_, ?_⟩
  · unfold f_X7_rings b_X7_rings_0
    have key : ∀ (n t : Nat), 6 - t < n → t ≤ 6 → b_X7_rings_4 n w (rc R (if t < T then t else T)) (nI t) = some (rc R T, w) := by
      intro n
      induction n with
      | zero => intro t h; omega
      | succ n ih =>
        intro t hn ht
        rw [b_X7_rings_4]
        by_cases h : t = 6
        · subst h
          rw [if_pos (show (6 : Int32) ≤ nI 6 by decide), if_neg (by omega)]
        · rw [if_neg (show ¬ (6 : Int32) ≤ nI t from nI_ge (b := 6) (by omega) (by decide)), gd_true (inb_nI (by omega) (by decide)), nI_clamp (by omega)]
          unfold f_X1_allTraps b_X1_allTraps_0
          rw [x0, ← hal, bd_ok, (spread_v h6).1, bd_ok]
          simp only [nm_ok, nI_1]
          have ih' := ih (t + 1) (by omega) (by omega)
          by_cases htT : t < T
          · rw [if_pos htT]
            have e : rc R (if t + 1 < T then t + 1 else T) = rc R t ||| (spv w (w.1 15 t) al &&& ((1 : Int32) <<< (nI t &&& 31))) := by
              have : (if t + 1 < T then t + 1 else T) = t + 1 := by
                by_cases q : t + 1 < T
                · rw [if_pos q]
                · rw [if_neg q]; omega
              rw [this, rc, hR]
            rw [e] at ih'
            exact ih'
          · rw [if_neg htT]
            have e : spv w (w.1 15 t) al = 0 := by
              rw [hwz t (by omega) (by omega)]
              refine b_ext (fun i hi => ?_)
              rw [b_0]
              cases hb : bt (spv w 0 al) i
              · rfl
              · have := (spread_v (w := w) (st := 0) h6).2.2.2 (fun _ => false) (fun j h1 => by rw [b_0] at h1; cases h1) (fun _ _ z => by cases z) i hb
                cases this
            rw [e, show (0 : Int32) &&& ((1 : Int32) <<< (nI t &&& 31)) = 0 from b_ext (fun i hi => by rw [b_and, b_0, Bool.false_and]), or_0]
            rw [if_neg (by omega)] at ih'
            exact ih'
    have := key LF 0 (by unfold LF; omega) (by omega)
    rw [show rc R (if 0 < T then 0 else T) = 0 by
      by_cases q : 0 < T
      · rw [if_pos q]; rfl
      · rw [if_neg q, show T = 0 by omega]; rfl] at this
    exact this
  · unfold f_X8_rings b_X8_rings_0
    have key : ∀ (n t : Nat), T - t < n → t ≤ T → b_X8_rings_4 n w (rc R t) (nI t) = some (rc R T, w) := by
      intro n
      induction n with
      | zero => intro t h; omega
      | succ n ih =>
        intro t hn ht
        rw [b_X8_rings_4, m0]
        by_cases h : t = T
        · subst h
          rw [if_pos (nI_le (Nat.le_refl t) (by omega))]
        · have htT : t < T := by omega
          rw [if_neg (nI_ge htT (by omega)), gd_true (inb_nI (by omega) (by decide)), nI_clamp (by omega), nm_ok]
          obtain ⟨r, e1, e2⟩ := rings_k (kb4 := b_X8_rings_4 n) (w := w) (v1 := rc R t) (v2 := nI t) (st := bt (w.1 111 t)) m0 hT hw LF 0 (w.1 111 t) (by unfold LF; omega) (by omega) (hw t htT) (fun i h1 _ => h1) (fun y h1 h2 i hi => h1 i hi (hw t htT i hi)) (Or.inr (Nat.zero_le _))
          rw [show (0 : Int32) = nI 0 from rfl, e1, nI_1, clo_val e2 (hclo t htT)]
          exact ih (t + 1) (by omega) (by omega)
    exact key LF 0 (by unfold LF; omega) (by omega)
