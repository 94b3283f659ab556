theorem StR.cong {w w' : Wd} {M : Nat} {a v fr : Int32} {c : Nat} {r wk : Int32} (h : StR w M a v fr c r wk) (hM : M ≤ 7) (e1 : w'.1 108 = w.1 108) (e2 : w'.1 110 = w.1 110) (e3 : w'.1 111 = w.1 111) : StR w' M a v fr c r wk := by
  unfold StR at h ⊢
  rw [e1, e2]
  rcases h with h | ⟨t, h1, h2, h3⟩
  · exact Or.inl h
  · refine Or.inr ⟨t, h1, h2, ?_⟩
    rw [wvv_cong (w := w) (w' := w') (by omega) (fun i _ _ => by rw [e2]) (fun i _ _ => by rw [e3])]
    exact h3
theorem StR.wk {w : Wd} {M : Nat} {a v fr : Int32} {c : Nat} {r wk : Int32} (h : StR w M a v fr c r wk) (hM : M ≤ 7) {i : Nat} (hi : bt wk i = true) : i < M := by
  rcases h with ⟨-, -, rfl⟩ | ⟨t, h1, -, ⟨-, -, rfl⟩ | ⟨-, -, rfl⟩⟩
  · rw [b_0] at hi; cases hi
  · rw [one_t (by omega)] at hi
    have : i = t := by simpa using hi
    omega
  · rw [b_0] at hi; cases hi
/-- a scene of the class in one memory, the reference's in another -/
def Rel2 (w y : Wd) (W b f : Nat) : Prop := w.1 b 1 = y.1 113 f ∧ w.1 b 2 = y.1 113 (f + 1) ∧ w.1 (b + 1) 0 = y.1 113 (f + 2) ∧ w.1 (b + 1) 1 = y.1 113 (f + 3) ∧ ∀ u, u < W → w.1 (b + 2) u = y.1 113 (f + 4 + u) ∧ w.1 (b + 3) u = y.1 113 (f + 8 + u)
theorem Rel2.fr {w y w' y' : Wd} {W b f : Nat} (h : Rel2 w y W b f) (hW : W ≤ 4) (h1 : ∀ k j, b ≤ k → k ≤ b + 3 → w'.1 k j = w.1 k j) (h2 : ∀ j, f ≤ j → j < f + 12 → y'.1 113 j = y.1 113 j) : Rel2 w' y' W b f := by
  obtain ⟨a1, a2, a3, a4, a5⟩ := h
  unfold Rel2
  rw [h1 b 1 (by omega) (by omega), h1 b 2 (by omega) (by omega), h1 (b + 1) 0 (by omega) (by omega), h1 (b + 1) 1 (by omega) (by omega), h2 f (by omega) (by omega), h2 (f + 1) (by omega) (by omega), h2 (f + 2) (by omega) (by omega), h2 (f + 3) (by omega) (by omega)]
  refine ⟨a1, a2, a3, a4, fun u hu => ?_⟩
  rw [h1 (b + 2) u (by omega) (by omega), h1 (b + 3) u (by omega) (by omega), h2 (f + 4 + u) (by omega) (by omega), h2 (f + 8 + u) (by omega) (by omega)]
  exact a5 u hu
theorem res_rel {w x y z : Wd} {W b f g c : Nat} {r wk : Int32} (hX : ResX w x W b g c r wk) (hM : ResM y z W f g c r wk) (e1 : y.1 108 = w.1 108) (e2 : y.1 110 = w.1 110) (e3 : y.1 112 = w.1 112) (hR : Rel2 w y W b f) : Rel2 x z W b f := by
  obtain ⟨-, x1, x2, -, x4, x5, x6⟩ := hX
  obtain ⟨-, m1, m2, m3, m4, m5, m6⟩ := hM
  obtain ⟨a1, a2, a3, a4, a5⟩ := hR
  refine ⟨by rw [x1, m1, a1], by rw [x2, m2, a2], by rw [x4 0 (by decide), m3, a3], by rw [x4 1 (by decide), m4, a4], fun u hu => ⟨by rw [x5 u hu, m5 u hu, (a5 u hu).1], ?_⟩⟩
  have q1 := x6 u hu
  have q2 := m6 u hu
  rw [e1, e2, e3, ← (a5 u hu).1, ← (a5 u hu).2] at q2
  exact q1.one q2
theorem res_scw {w x : Wd} {T W b g c : Nat} {r wk : Int32} (hX : ResX w x W b g c r wk) (hs : ScW w T W b) (hr : ∀ i, bt r i = true → i < T) (hwk : ∀ i, bt wk i = true → i < T) (hc : c < 12) : ScW x T W b := by
  obtain ⟨-, x1, x2, x3, x4, x5, x6⟩ := hX
  obtain ⟨a1, a2, a3, a4, a5, a6, a7⟩ := hs
  refine ⟨fun i hi => ?_, fun i hi => ?_, fun i hi => ?_, fun i hi => ?_, fun u hu => ?_, fun u hu => ?_, ?_⟩
  · rw [x1, b_and, Bool.and_eq_true] at hi; exact a1 i hi.1
  · rw [x2, b_and, Bool.and_eq_true, b_or, Bool.or_eq_true] at hi; exact hi.1.elim (a2 i) (hwk i)
  · rw [x4 0 (by decide), b_or, Bool.or_eq_true] at hi; exact hi.elim (a3 i) (hr i)
  · rw [x4 1 (by decide), b_or, Bool.or_eq_true] at hi; exact hi.elim (a4 i) (hr i)
  · rw [x5 u hu]
    by_cases h : u = g
    · rw [if_pos h]; exact ⟨c, hc, rfl⟩
    · rw [if_neg h]; exact a5 u hu
  · have q := x6 u hu
    by_cases h : ∃ i, (i < 7 ∧ bt r i = true ∧ (if u = g then nI c else w.1 (b + 2) u) = w.1 108 i ∧ catI (w.1 110 i) (w.1 112 u) = true) ∧ w.1 (b + 3) u = -9
    · obtain ⟨i, hi, h9⟩ := h
      rw [q.1 i hi h9]
      exact Or.inr ⟨i, hr i hi.2.1, rfl⟩
    · rw [q.2 (fun i hi h9 => h ⟨i, hi, h9⟩)]; exact a6 u hu
  · rw [x3]; exact a7
theorem nowR_rel {w : Wd} {T W : Nat} (h1 : ScW w T W 18) (h2 : Rel2 w w W 18 0) (h3 : w.1 18 3 = w.1 105 13) : NowR w T W := by
  obtain ⟨a1, a2, a3, a4, a5⟩ := h2
  exact ⟨h1, ⟨a1, a2, a3, a4, a5⟩, h3, h1.2.2.2.2.2.2⟩
theorem now_rel2 {w : Wd} {T W : Nat} (h : NowR w T W) : Rel2 w w W 18 0 := h.2.1
theorem PlanR.inj {w : Wd} {T W : Nat} {cl kd : Nat → Nat} (hp : PlanR w T W cl kd) (i j : Nat) (hi : i < T) (hj : j < T) (h : w.1 108 i = w.1 108 j) : i = j := by
  obtain ⟨hT, hW, x0, m0, x1, m1, hs, hs2, hc, hci, -⟩ := hp
  rw [(hc i hi).2.1, (hc j hj).2.1] at h
  have h1 := (hc i hi).2.2
  have h2 := (hc j hj).2.2
  exact hci i j hi hj ((nI_eq (by omega) (by omega)).mp h)
theorem s_step (v u : Int32) : Step (fun w => f_X7_step w v u) (fun w => f_X8_step w v u) := by
  intro w hw
  obtain ⟨T, W, cl, kd, hi⟩ := hw
  obtain ⟨w1, e, f1, f2, hact⟩ := act_both hi
  have hi0 := hi
  obtain ⟨hp, -, hn, -, -⟩ := hi
  have hp0 := hp
  have hn0 := hn
  obtain ⟨hT, hW, x0, m0, x1, m1, hs, -⟩ := hp
  obtain ⟨⟨b1, b2, b3, b4, b5, b6, b7⟩, ⟨n1, n2, n3, n4, n5⟩, n6, n7⟩ := hn
  show ∃ r w1 w2, f_X7_step w v u = _ ∧ f_X8_step w1 v u = _ ∧ _
  rcases ix v (n := W) (by omega) with h | ⟨g, hgW, rfl⟩
  · refine ⟨-1, w, w, ?_, ?_, T, W, cl, kd, hi0⟩
    · unfold f_X7_step b_X7_step_0
      rw [hasWalker_no x1 h]; rfl
    · unfold f_X8_step b_X8_step_0
      rw [mIsWalker_no m1 hW h]; rfl
  rcases ix u (n := 12) (by omega) with h | ⟨c, hc12, rfl⟩
  · refine ⟨-1, w, w, ?_, ?_, T, W, cl, kd, hi0⟩
    · unfold f_X7_step b_X7_step_0
      rw [hasWalker_yes x1 hW hgW, bd_ok, if_neg (show ¬ (1 : Int32) = 0 by decide), isCell_no h]; rfl
    · unfold f_X8_step b_X8_step_0
      rw [mIsWalker_yes m1 hW hgW, bd_ok, if_neg (show ¬ (1 : Int32) = 0 by decide), mIsCell_no h]; rfl
  have e8 : w.1 21 g = w.1 113 (8 + g) := by have := (n5 g hgW).2; rw [Nat.zero_add] at this; exact this
  have e4 : w.1 20 g = w.1 113 (4 + g) := by have := (n5 g hgW).1; rw [Nat.zero_add] at this; exact this
  by_cases h9 : w.1 21 g = -9
  · obtain ⟨c0, hc0, hat⟩ := b5 g hgW
    have hat : w.1 20 g = nI c0 := hat
    by_cases hb : bt (aro c0 &&& (w.1 11 2 ^^^ (-1))) c = true
    · obtain ⟨r, wk, hst⟩ := StR.ex w T (w.1 18 1) (w.1 18 2) (w.1 18 3) c
      have fk : ∀ k, ¬ (26 ≤ k ∧ k ≤ 91) → w1.1 k = w.1 k := fun k hk => funext fun j => f1 k j hk
      have hp1 : PlanR w1 T W cl kd := hp0.fr (fun k j _ _ => f1 k j (by omega)) (fun j _ _ => f1 105 j (by omega)) (fun k j _ _ _ => f1 k j (by omega)) (fun j => f1 112 j (by omega))
      have hsw1 : ScW w1 T W 18 := hn0.1.fr (fun j => f1 18 j (by omega)) (fun j => f1 19 j (by omega)) (fun j => f1 20 j (by omega)) (fun j => f1 21 j (by omega))
      obtain ⟨x2, ex, hX⟩ := walk_v (b := 18) (by decide) (by decide) hp1 hsw1 hgW hc12 (r := r) (wk := wk) (by rw [fk 18 (by omega)]; exact hst.cong (by omega) (fk 108 (by omega)) (fk 110 (by omega)) (fk 111 (by omega)))
      obtain ⟨y1, ey, g1, g2, hfin⟩ := hact x2 hX.1
      have fy : ∀ k, k ≠ 115 → k ≠ 105 → y1.1 k = x2.1 k := fun k h1 h2 => funext fun j => g1 k j h1 (by omega)
      have fx : ∀ k, ¬ (18 ≤ k ∧ k ≤ 21) → ¬ (26 ≤ k ∧ k ≤ 91) → x2.1 k = w.1 k := fun k h1 h2 => funext fun j => by rw [hX.1.1 k j (by omega), fk k h2]
      have y105 : ∀ j, j ≠ 19 → j ≠ 20 → y1.1 105 j = w.1 105 j := fun j h1 h2 => by rw [g1 105 j (by decide) (by omega), fx 105 (by omega) (by omega)]
      obtain ⟨z, ez, hM⟩ := stepOn_v (w := y1) (d := 0) (c := c) (M := T) (r := r) (wk := wk) hW (by decide) hgW (by rw [y105 11 (by decide) (by decide)]; exact m1) (by omega) (by rw [fy 113 (by decide) (by decide), fx 113 (by omega) (by omega)]; rw [n1] at b1; exact b1) (by rw [fy 108 (by decide) (by decide), fx 108 (by omega) (by omega)]; exact hp0.inj) (by
        rw [fy 113 (by decide) (by decide), fx 113 (by omega) (by omega), y105 13 (by decide) (by decide), ← n6]
        rw [n1, n2] at hst
        exact hst.cong (by omega) (by rw [fy 108 (by decide) (by decide), fx 108 (by omega) (by omega)]) (by rw [fy 110 (by decide) (by decide), fx 110 (by omega) (by omega)]) (by rw [fy 111 (by decide) (by decide), fx 111 (by omega) (by omega)]))
      have hrT : ∀ i, bt r i = true → i < T := fun i hi => b1 i (hst.sub (by omega) hi)
      have hwT : ∀ i, bt wk i = true → i < T := fun i hi => hst.wk (by omega) hi
      have oz : ∀ k j, k ≠ 113 → z.1 k j = y1.1 k j := fun k j hk => hM.1.1 k j (by omega)
      refine ⟨r, x2, z, ?_, ?_, hfin z ⟨fun k j hk => oz k j hk, hM.1.2⟩ (nowR_rel ?_ ?_ ?_)⟩
      · unfold f_X7_step b_X7_step_0
        rw [hasWalker_yes x1 hW hgW, bd_ok, if_neg (show ¬ (1 : Int32) = 0 by decide), isCell_yes hc12, bd_ok, if_neg (show ¬ (1 : Int32) = 0 by decide), isFree_yes x1 hW hgW, bd_ok, if_pos (show w.1 (18 + 3) g = -9 from h9), if_neg (show ¬ (1 : Int32) = 0 by decide), gd_true (inb_nI (show g < 4 by omega) (by decide)), nI_clamp (show g < 2 ^ 31 by omega), hat, waysFrom_v hc0, bd_ok, if_neg (fun z => by rw [tb0 _ (by omega), hb] at z; cases z), e, bv_ok, ex, bd_ok]
      · unfold f_X8_step b_X8_step_0
        rw [mIsWalker_yes (by rw [fx 105 (by omega) (by omega)]; exact m1) hW hgW, bd_ok, if_neg (show ¬ (1 : Int32) = 0 by decide), mIsCell_yes hc12, bd_ok, if_neg (show ¬ (1 : Int32) = 0 by decide), lit_add 8 (b := 8) rfl, lit_add 4 (b := 4) rfl]
        simp only [gd_true (inb_nI (show 8 + g < 72 by omega) (by decide)), nI_clamp (show 8 + g < 2 ^ 31 by omega), gd_true (inb_nI (show 4 + g < 72 by omega) (by decide)), nI_clamp (show 4 + g < 2 ^ 31 by omega)]
        rw [fx 113 (by omega) (by omega), ← e8, if_pos h9, ← e4, hat, mNearTo_v hc0, bd_ok, fx 105 (by omega) (by omega), ← hs, if_neg (fun z => by rw [tb0 _ (by omega), hb] at z; cases z), ey, bv_ok, y105 10 (by decide) (by decide), m0, show (0 : Int32) = nI 0 from rfl, ez, bd_ok]
      · have := res_scw hX hsw1 hrT hwT hc12
        exact this.fr (fun j => by rw [oz _ _ (by decide), fy _ (by decide) (by decide)]) (fun j => by rw [oz _ _ (by decide), fy _ (by decide) (by decide)]) (fun j => by rw [oz _ _ (by decide), fy _ (by decide) (by decide)]) (fun j => by rw [oz _ _ (by decide), fy _ (by decide) (by decide)])
      · have hr0 : Rel2 w1 y1 W 18 0 := (now_rel2 hn0).fr hW (fun k j h1 h2 => f1 k j (by omega)) (fun j h1 h2 => by rw [fy 113 (by decide) (by decide), fx 113 (by omega) (by omega)])
        have := res_rel hX hM (by rw [fy 108 (by decide) (by decide), fx 108 (by omega) (by omega), fk 108 (by omega)]) (by rw [fy 110 (by decide) (by decide), fx 110 (by omega) (by omega), fk 110 (by omega)]) (by rw [fy 112 (by decide) (by decide), fx 112 (by omega) (by omega), fk 112 (by omega)]) hr0
        exact this.fr hW (fun k j h1 h2 => by rw [oz k j (by omega), fy k (by omega) (by omega)]) (fun j _ _ => rfl)
      · rw [oz 18 3 (by decide), fy 18 (by decide) (by decide), hX.2.2.2.1, fk 18 (by omega), oz 105 13 (by decide), y105 13 (by decide) (by decide)]; exact n6
    · have hbf : bt (aro c0 &&& (w.1 11 2 ^^^ (-1))) c = false := by cases hq : bt (aro c0 &&& (w.1 11 2 ^^^ (-1))) c <;> simp_all
      refine ⟨-3, w, w, ?_, ?_, T, W, cl, kd, hi0⟩
      · unfold f_X7_step b_X7_step_0
        rw [hasWalker_yes x1 hW hgW, bd_ok, if_neg (show ¬ (1 : Int32) = 0 by decide), isCell_yes hc12, bd_ok, if_neg (show ¬ (1 : Int32) = 0 by decide), isFree_yes x1 hW hgW, bd_ok, if_pos (show w.1 (18 + 3) g = -9 from h9), if_neg (show ¬ (1 : Int32) = 0 by decide), gd_true (inb_nI (show g < 4 by omega) (by decide)), nI_clamp (show g < 2 ^ 31 by omega), hat, waysFrom_v hc0, bd_ok, if_pos ((tb0 _ (by omega)).mpr hbf)]
      · unfold f_X8_step b_X8_step_0
        rw [mIsWalker_yes m1 hW hgW, bd_ok, if_neg (show ¬ (1 : Int32) = 0 by decide), mIsCell_yes hc12, bd_ok, if_neg (show ¬ (1 : Int32) = 0 by decide), lit_add 8 (b := 8) rfl, lit_add 4 (b := 4) rfl]
        simp only [gd_true (inb_nI (show 8 + g < 72 by omega) (by decide)), nI_clamp (show 8 + g < 2 ^ 31 by omega), gd_true (inb_nI (show 4 + g < 72 by omega) (by decide)), nI_clamp (show 4 + g < 2 ^ 31 by omega)]
        rw [← e8, if_pos h9, ← e4, hat, mNearTo_v hc0, bd_ok, ← hs, if_pos ((tb0 _ (by omega)).mpr hbf)]
  · refine ⟨-3, w, w, ?_, ?_, T, W, cl, kd, hi0⟩
    · unfold f_X7_step b_X7_step_0
      rw [hasWalker_yes x1 hW hgW, bd_ok, if_neg (show ¬ (1 : Int32) = 0 by decide), isCell_yes hc12, bd_ok, if_neg (show ¬ (1 : Int32) = 0 by decide), isFree_yes x1 hW hgW, bd_ok, if_neg (show ¬ w.1 (18 + 3) g = -9 from h9), if_pos rfl]
    · unfold f_X8_step b_X8_step_0
      rw [mIsWalker_yes m1 hW hgW, bd_ok, if_neg (show ¬ (1 : Int32) = 0 by decide), mIsCell_yes hc12, bd_ok, if_neg (show ¬ (1 : Int32) = 0 by decide), lit_add 8 (b := 8) rfl, gd_true (inb_nI (show 8 + g < 72 by omega) (by decide)), nI_clamp (show 8 + g < 2 ^ 31 by omega), ← e8, if_neg h9]
theorem spv_zero {w : Wd} {st : Int32} : spv w st 0 = 0 := by
  apply b_ext
  intro i hi
  rw [b_0]
  cases hb : bt (spv w st 0) i
  · rfl
  · have := clo_rd (spread_v (w := w) (st := st) (rd := 0) (fun i hi => by rw [b_0] at hi; cases hi)).2 hb
    rw [b_0] at this; cases this
theorem s_sprung (v : Int32) : Step (fun w => f_X7_sprung w v) (fun w => f_X8_sprung w v) := by
  refine Step.ro (fun w T W cl kd hi => ?_)
  obtain ⟨hp, -, ⟨⟨b1, -⟩, ⟨n1, -⟩, n6, n7⟩, -⟩ := hi
  have hp0 := hp
  obtain ⟨hT, hW, x0, m0, x1, m1, hs, -⟩ := hp
  show ∃ r, f_X7_sprung w v = _ ∧ f_X8_sprung w v = _
  rcases ix v (n := T) (by omega) with h | ⟨t, ht, rfl⟩
  · refine ⟨-1, ?_, ?_⟩
    · unfold f_X7_sprung b_X7_sprung_0
      rw [hasTrap_no x0 h]; rfl
    · unfold f_X8_sprung b_X8_sprung_0
      rw [mIsTrap_no m0 hT h]; rfl
  · have h6 : ∀ i, bt (w.1 18 1 &&& (w.1 11 3 ^^^ (-1))) i = true → i < 6 := fun i hi => by
      rw [b_and, Bool.and_eq_true] at hi
      have := b1 i hi.1
      omega
    by_cases hf : w.1 18 3 = 0
    · refine ⟨wvv w (w.1 18 1) t, ?_, ?_⟩
      · unfold f_X7_sprung b_X7_sprung_0
        rw [hasTrap_yes x0 hT ht, bd_ok, if_neg (show ¬ (1 : Int32) = 0 by decide), ready_v, bd_ok, if_pos hf, (spread_v h6).1, bd_ok, wv_sp hp0 b1 (by omega)]
      · unfold f_X8_sprung b_X8_sprung_0
        rw [mIsTrap_yes m0 hT ht, bd_ok, if_neg (show ¬ (1 : Int32) = 0 by decide), ← n6, if_pos hf, show w.1 113 ((0 : Int32)).toNatClampNeg = w.1 18 1 from n1.symm, (wave_v (show t < 7 by omega)).1, bd_ok]
    · refine ⟨0, ?_, ?_⟩
      · unfold f_X7_sprung b_X7_sprung_0
        rw [hasTrap_yes x0 hT ht, bd_ok, if_neg (show ¬ (1 : Int32) = 0 by decide), ready_v, bd_ok, if_neg hf, (spread_v (fun i hi => by rw [b_0] at hi; cases hi)).1, bd_ok, spv_zero]
      · unfold f_X8_sprung b_X8_sprung_0
        rw [mIsTrap_yes m0 hT ht, bd_ok, if_neg (show ¬ (1 : Int32) = 0 by decide), ← n6, if_neg hf]
