theorem PlanR.scene {w w' : Wd} {T W b : Nat} {cl kd : Nat → Nat} (h : PlanR w T W cl kd) (hb : 18 ≤ b) (hb2 : b + 3 ≤ 104) (o : ∀ k j, ¬ (b ≤ k ∧ k ≤ b + 3) → w'.1 k j = w.1 k j) : PlanR w' T W cl kd :=
  h.fr (fun k j _ _ => o k j (by omega)) (fun j _ _ => o 105 j (by omega)) (fun k j _ _ _ => o k j (by omega)) (fun j => o 112 j (by omega))
theorem trapOn_t {w : Wd} {T W : Nat} {cl kd : Nat → Nat} (hp : PlanR w T W cl kd) {t c : Nat} (ht : t < T) (hc : cl t = c) : f_X1_trapOn 11 w (nI c) = some (nI t, w) := by
  obtain ⟨hT, hW, x0, m0, x1, m1, hs, hs2, hcc, hci, -⟩ := hp
  refine trapOn_yes x0 hT ht (by rw [show w.1 (11 + 1) t = nI (cl t) from (hcc t ht).1, hc]) (fun u hu z => ?_)
  rw [show w.1 (11 + 1) u = nI (cl u) from (hcc u (by omega)).1] at z
  have h1 := (hcc u (by omega)).2.2
  have h2 := (hcc t ht).2.2
  have := (nI_eq (by omega) (by omega)).mp z
  have := hci u t (by omega) ht (by omega)
  omega
theorem trapOn_n {w : Wd} {T W : Nat} {cl kd : Nat → Nat} (hp : PlanR w T W cl kd) {c : Nat} (hc9 : c < 12) (hn : ∀ u, u < T → ¬ cl u = c) : f_X1_trapOn 11 w (nI c) = some (-9, w) := by
  obtain ⟨hT, hW, x0, m0, x1, m1, hs, hs2, hcc, hci, -⟩ := hp
  refine trapOn_no x0 hT (fun u hu z => hn u hu ?_)
  rw [show w.1 (11 + 1) u = nI (cl u) from (hcc u (by omega)).1] at z
  have h1 := (hcc u hu).2.2
  exact (nI_eq (by omega) (by omega)).mp z
theorem spring_c {T W b : Nat} {cl kd : Nat → Nat} {r : Int32} (hb : 18 ≤ b) (hb2 : b + 3 ≤ 104) (hr : ∀ i, bt r i = true → i < T) : ∀ (n t : Nat) (w : Wd), W - t < n → t ≤ W → PlanR w T W cl kd → (∀ g, g < W → ∃ c, c < 12 ∧ w.1 (b + 2) g = nI c) → ∃ w1, b_X3_spring_49 b n w r (nI t) = some w1 ∧ Only (fun k j => k = b + 3 ∧ j < W) w w1 ∧ (∀ u, t ≤ u → u < W → ByC (fun i => i < 7 ∧ bt r i = true ∧ w.1 (b + 2) u = w.1 108 i ∧ catI (w.1 110 i) (w.1 112 u) = true) (w.1 (b + 3) u) (w1.1 (b + 3) u)) ∧ ∀ u, u < t → w1.1 (b + 3) u = w.1 (b + 3) u := by
  intro n
  induction n with
  | zero => intro t w h; omega
  | succ n ih =>
    intro t w hn ht hp hat
    have hp0 := hp
    obtain ⟨hT, hW, x0, m0, x1, m1, hs, hs2, hc, hci, hsd, hkd, hwi, hwz, hsh, hsn, hne, hg⟩ := hp
    rw [b_X3_spring_49]
    by_cases h : t = W
    · subst h
      refine ⟨w, ?_, Only.rf, fun u h1 h2 => by omega, fun u _ => rfl⟩
      by_cases h4 : (4 : Int32) ≤ nI t
      · rw [if_pos h4]
      · rw [if_neg h4, x1, if_pos (nI_le (Nat.le_refl t) (by omega))]
    · have htW : t < W := by omega
      obtain ⟨c, hc12, hatc⟩ := hat t htW
      rw [if_neg (show ¬ (4 : Int32) ≤ nI t from nI_ge (b := 4) (by omega) (by decide)), x1, if_neg (nI_ge htW (by omega)), gd_true (inb_nI (show t < 4 by omega) (by decide)), nI_clamp (by omega), hatc]
      have jn : ∀ (w' : Wd), Only (fun k j => k = b + 3 ∧ j = t) w w' → ByC (fun i => i < 7 ∧ bt r i = true ∧ w.1 (b + 2) t = w.1 108 i ∧ catI (w.1 110 i) (w.1 112 t) = true) (w.1 (b + 3) t) (w'.1 (b + 3) t) → ∃ w1, b_X3_spring_132 (b_X3_spring_49 b n) b w' r (nI t) = some w1 ∧ Only (fun k j => k = b + 3 ∧ j < W) w w1 ∧ (∀ u, t ≤ u → u < W → ByC (fun i => i < 7 ∧ bt r i = true ∧ w.1 (b + 2) u = w.1 108 i ∧ catI (w.1 110 i) (w.1 112 u) = true) (w.1 (b + 3) u) (w1.1 (b + 3) u)) ∧ ∀ u, u < t → w1.1 (b + 3) u = w.1 (b + 3) u := fun w' ow hq => by
        unfold b_X3_spring_132
        rw [nm_ok, nI_1]
        have fr : ∀ k, k ≠ b + 3 → w'.1 k = w.1 k := fun k hk => funext fun j => ow.1 k j (by omega)
        obtain ⟨w1, e1, o1, g1, g2⟩ := ih (t + 1) w' (by omega) (by omega) (hp0.scene hb hb2 (fun k j hk => ow.1 k j (by omega))) (by rw [fr (b + 2) (by omega)]; exact hat)
        refine ⟨w1, e1, (ow.wd (fun k j z => ⟨z.1, by omega⟩)).tr o1, fun u h1 h2 => ?_, fun u h1 => ?_⟩
        · by_cases hu : u = t
          · subst hu
            rw [g2 u (by omega)]; exact hq
          · have q := g1 u (by omega) h2
            rw [fr (b + 2) (by omega), fr 108 (by omega), fr 110 (by omega), fr 112 (by omega), ow.1 (b + 3) u (by omega)] at q
            exact q
        · rw [g2 u (by omega), ow.1 (b + 3) u (by omega)]
      have no : (∀ i, i < 7 → bt r i = true → w.1 (b + 2) t = w.1 108 i → catI (w.1 110 i) (w.1 112 t) = true → w.1 (b + 3) t = -9 → False) → ∃ w1, b_X3_spring_132 (b_X3_spring_49 b n) b w r (nI t) = some w1 ∧ Only (fun k j => k = b + 3 ∧ j < W) w w1 ∧ (∀ u, t ≤ u → u < W → ByC (fun i => i < 7 ∧ bt r i = true ∧ w.1 (b + 2) u = w.1 108 i ∧ catI (w.1 110 i) (w.1 112 u) = true) (w.1 (b + 3) u) (w1.1 (b + 3) u)) ∧ ∀ u, u < t → w1.1 (b + 3) u = w.1 (b + 3) u := fun hno => jn w Only.rf ⟨fun i hi h9 => (hno i hi.1 hi.2.1 hi.2.2.1 hi.2.2.2 h9).elim, fun _ => rfl⟩
      have hcell : ∀ i, i < T → (w.1 (b + 2) t = w.1 108 i ↔ cl i = c) := fun i hi => by
        rw [hatc, (hc i hi).2.1]
        have := (hc i hi).2.2
        rw [nI_eq (by omega) (by omega)]
        exact ⟨Eq.symm, Eq.symm⟩
      by_cases hex : ∃ i, i < T ∧ cl i = c
      · obtain ⟨i, hi, hic⟩ := hex
        have huniq : ∀ j, j < 7 → bt r j = true → w.1 (b + 2) t = w.1 108 j → j = i := fun j _ h2 h3 => hci j i (hr j h2) hi (by rw [(hcell j (hr j h2)).mp h3, hic])
        rw [trapOn_t hp0 hi hic, bd_ok, if_neg (nI_ne9 (by omega))]
        by_cases hb1 : bt r i = true
        · rw [if_neg (fun z => by rw [tb0 _ (by omega), hb1] at z; cases z)]
          unfold b_X3_spring_98
          rw [if_neg (show ¬ (1 : Int32) = 0 by decide), isFree_yes x1 hW htW, bd_ok]
          by_cases h9 : w.1 (b + 3) t = -9
          · rw [if_pos h9, if_neg (show ¬ (1 : Int32) = 0 by decide), catches_v hp0 hi htW, bd_ok]
            cases hcat : catI (w.1 110 i) (w.1 112 t)
            · rw [if_neg (show ¬ (false = true) by decide), if_pos rfl]
              exact no (fun j a1 a2 a3 a4 _ => by rw [huniq j a1 a2 a3, hcat] at a4; cases a4)
            · rw [if_pos rfl, if_neg (show ¬ (1 : Int32) = 0 by decide), gd_true (inb_nI (show t < 4 by omega) (by decide)), nm_ok, nI_clamp (by omega)]
              refine jn _ (Only.rf.up ⟨rfl, rfl⟩) ?_
              rw [up_eq]
              exact ⟨fun j hj _ => by rw [huniq j hj.1 hj.2.1 hj.2.2.1], fun hn => absurd h9 (hn i ⟨by omega, hb1, (hcell i hi).mpr hic, hcat⟩)⟩
          · rw [if_neg h9, if_pos rfl]
            exact no (fun j _ _ _ _ z => h9 z)
        · rw [if_pos ((tb0 _ (by omega)).mpr (by cases hq : bt r i <;> simp_all))]
          unfold b_X3_spring_97 b_X3_spring_98
          rw [if_pos rfl]
          exact no (fun j a1 a2 a3 _ _ => by rw [huniq j a1 a2 a3] at a2; exact hb1 a2)
      · rw [trapOn_n hp0 hc12 (fun u hu z => hex ⟨u, hu, z⟩), bd_ok, if_pos rfl]
        unfold b_X3_spring_97 b_X3_spring_98
        rw [if_pos rfl]
        exact no (fun j a1 a2 a3 _ _ => hex ⟨j, hr j a2, (hcell j (hr j a2)).mp a3⟩)
theorem spring_k {b : Nat} {r : Int32} : ∀ (n t : Nat) (w : Wd), 2 - t < n → t ≤ 2 → ∃ w1, b_X3_spring_26 b n w r (nI t) = b_X3_spring_49 b LF w1 r 0 ∧ Only (fun k j => k = b + 1 ∧ j < 2) w w1 ∧ (∀ u, t ≤ u → u < 2 → w1.1 (b + 1) u = w.1 (b + 1) u ||| r) ∧ ∀ u, u < t → w1.1 (b + 1) u = w.1 (b + 1) u := by
  intro n
  induction n with
  | zero => intro t w h; omega
  | succ n ih =>
    intro t w hn ht
    rw [b_X3_spring_26]
    by_cases h : t = 2
    · subst h
      rw [if_pos (show (2 : Int32) ≤ nI 2 by decide)]
      exact ⟨w, rfl, Only.rf, fun u h1 h2 => by omega, fun u _ => rfl⟩
    · rw [if_neg (show ¬ (2 : Int32) ≤ nI t from nI_ge (b := 2) (by omega) (by decide))]
      simp only [gd_true (inb_nI (show t < 2 by omega) (by decide)), nI_clamp (show t < 2 ^ 31 by omega), nm_ok, nI_1]
      obtain ⟨w1, e1, o1, g1, g2⟩ := ih (t + 1) (up w (b + 1) t (w.1 (b + 1) t ||| r)) (by omega) (by omega)
      refine ⟨w1, e1, (Only.rf.up ⟨rfl, by omega⟩).tr o1, fun u h1 h2 => ?_, fun u h1 => ?_⟩
      · by_cases hu : u = t
        · subst hu; rw [g2 u (by omega), up_eq]
        · rw [g1 u (by omega) h2, up_ns hu]
      · rw [g2 u (by omega), up_ns (by omega)]
theorem spring_v {w : Wd} {T W b : Nat} {cl kd : Nat → Nat} {r : Int32} (hb : 18 ≤ b) (hb2 : b + 3 ≤ 104) (hr : ∀ i, bt r i = true → i < T) (hp : PlanR w T W cl kd) (hat : ∀ g, g < W → ∃ c, c < 12 ∧ w.1 (b + 2) g = nI c) : ∃ w1, f_X3_spring b w r = some w1 ∧ Only (fun k _ => b ≤ k ∧ k ≤ b + 3) w w1 ∧ w1.1 b 1 = w.1 b 1 &&& (r ^^^ (-1)) ∧ w1.1 b 2 = w.1 b 2 &&& (r ^^^ (-1)) ∧ w1.1 b 3 = w.1 b 3 ∧ (∀ u, u < 2 → w1.1 (b + 1) u = w.1 (b + 1) u ||| r) ∧ (∀ u, w1.1 (b + 2) u = w.1 (b + 2) u) ∧ ∀ u, u < W → ByC (fun i => i < 7 ∧ bt r i = true ∧ w.1 (b + 2) u = w.1 108 i ∧ catI (w.1 110 i) (w.1 112 u) = true) (w.1 (b + 3) u) (w1.1 (b + 3) u) := by
  have hW := hp.2.1
  unfold f_X3_spring b_X3_spring_0
  rw [nm_ok, nm_ok, up_ns (k := b) (j := 1) (b := 2) (by decide)]
  obtain ⟨x, hx⟩ : ∃ z, z = up (up w b 1 (w.1 b 1 &&& (r ^^^ (-1)))) b 2 (w.1 b 2 &&& (r ^^^ (-1))) := ⟨_, rfl⟩
  rw [← hx]
  have fr : ∀ k, k ≠ b → x.1 k = w.1 k := fun k hk => by rw [hx, up_nc hk, up_nc hk]
  obtain ⟨y, e1, o1, g1, -⟩ := spring_k (b := b) (r := r) LF 0 x (by unfold LF; omega) (by omega)
  rw [show b_X3_spring_26 b LF x r 0 = b_X3_spring_26 b LF x r (nI 0) from rfl, e1]
  have fy : ∀ k, k ≠ b → k ≠ b + 1 → y.1 k = w.1 k := fun k h1 h2 => funext fun j => by rw [o1.1 k j (by omega), fr k h1]
  obtain ⟨z, e2, o2, g2, -⟩ := spring_c (b := b) (r := r) (cl := cl) (kd := kd) hb hb2 hr LF 0 y (by unfold LF; omega) (by omega) (hp.scene hb hb2 (fun k j hk => by rw [fy k (by omega) (by omega)])) (by rw [fy (b + 2) (by omega) (by omega)]; exact hat)
  have ox : Only (fun k _ => b ≤ k ∧ k ≤ b + 3) w x := by rw [hx]; exact (Only.rf.up ⟨by omega, by omega⟩).up ⟨by omega, by omega⟩
  refine ⟨z, e2, (ox.tr (o1.wd (fun k j q => ⟨by omega, by omega⟩))).tr (o2.wd (fun k j q => ⟨by omega, by omega⟩)), ?_, ?_, ?_, fun u hu => ?_, fun u => ?_, fun u hu => ?_⟩
  · rw [o2.1 _ _ (by omega), o1.1 _ _ (by omega), hx, up_ns (by decide), up_eq]
  · rw [o2.1 _ _ (by omega), o1.1 _ _ (by omega), hx, up_eq]
  · rw [o2.1 _ _ (by omega), o1.1 _ _ (by omega), hx, up_ns (by decide), up_ns (by decide)]
  · rw [o2.1 _ _ (by omega), g1 u (by omega) hu, fr (b + 1) (by omega)]
  · rw [o2.1 _ _ (by omega), fy (b + 2) (by omega) (by omega)]
  · have q := g2 u (by omega) hu
    rw [fy (b + 2) (by omega) (by omega), fy (b + 3) (by omega) (by omega), fy 108 (by omega) (by omega), fy 110 (by omega) (by omega), fy 112 (by omega) (by omega)] at q
    exact q
def ResX (w w1 : Wd) (W b g c : Nat) (r wk : Int32) : Prop :=
  Only (fun k _ => b ≤ k ∧ k ≤ b + 3) w w1 ∧ w1.1 b 1 = w.1 b 1 &&& (r ^^^ (-1)) ∧ w1.1 b 2 = (w.1 b 2 ||| wk) &&& (r ^^^ (-1)) ∧ w1.1 b 3 = w.1 b 3 ∧ (∀ u, u < 2 → w1.1 (b + 1) u = w.1 (b + 1) u ||| r) ∧
  (∀ u, u < W → w1.1 (b + 2) u = if u = g then nI c else w.1 (b + 2) u) ∧
  ∀ u, u < W → ByC (fun i => i < 7 ∧ bt r i = true ∧ (if u = g then nI c else w.1 (b + 2) u) = w.1 108 i ∧ catI (w.1 110 i) (w.1 112 u) = true) (w.1 (b + 3) u) (w1.1 (b + 3) u)
theorem ready_v {w : Wd} {b : Nat} : f_X3_ready b w = some (if w.1 b 3 = 0 then w.1 b 1 &&& (w.1 11 3 ^^^ (-1)) else 0, w) := by
  unfold f_X3_ready b_X3_ready_0
  split <;> rfl
theorem wvv_zero {w : Wd} {a : Int32} {t : Nat} (ht : t < 7) (h : mrd w a t = false) : wvv w a t = 0 := by
  apply b_ext
  intro i hi
  rw [b_0]
  cases hb : bt (wvv w a t) i
  · rfl
  · have := (wave_v (w := w) (a := a) ht).2.2.2 (fun _ => false) (fun j h1 h2 => by
      have : j = t := by simpa using h1
      rw [this, h] at h2; cases h2) (fun _ _ z => by cases z) i hb
    cases this
/-- a step of the class -/
theorem walk_v {w : Wd} {T W b g c : Nat} {cl kd : Nat → Nat} {r wk : Int32} (hb : 18 ≤ b) (hb2 : b + 3 ≤ 104) (hp : PlanR w T W cl kd) (hsw : ScW w T W b) (hg : g < W) (hc12 : c < 12) (hs : StR w T (w.1 b 1) (w.1 b 2) (w.1 b 3) c r wk) : ∃ w1, f_X3_walk b w (nI g) (nI c) = some (r, w1) ∧ ResX w w1 W b g c r wk := by
  have hp0 := hp
  obtain ⟨hT, hW, x0, m0, x1, m1, hs9, hs2, hc, hci, hsd, hkd, hwi, hwz, hsh, hsn, hne, hgg⟩ := hp
  obtain ⟨y1, y2, y3, y4, y5, y6, y7⟩ := hsw
  unfold f_X3_walk b_X3_walk_0
  rw [hasWalker_yes x1 hW hg, bd_ok, if_neg (show ¬ (1 : Int32) = 0 by decide), gd_true (inb_nI (show g < 4 by omega) (by decide)), nm_ok, nI_clamp (by omega)]
  obtain ⟨x, hx⟩ : ∃ z, z = up w (b + 2) g (nI c) := ⟨_, rfl⟩
  rw [← hx]
  have fr : ∀ k, k ≠ b + 2 → x.1 k = w.1 k := fun k hk => by rw [hx, up_nc hk]
  have fat : ∀ u, u < W → x.1 (b + 2) u = if u = g then nI c else w.1 (b + 2) u := fun u _ => by
    by_cases h : u = g
    · subst h; rw [if_pos rfl, hx, up_eq]
    · rw [if_neg h, hx, up_ns h]
  have ox : Only (fun k _ => b ≤ k ∧ k ≤ b + 3) w x := by rw [hx]; exact Only.rf.up ⟨by omega, by omega⟩
  have hpx : PlanR x T W cl kd := hp0.scene hb hb2 (fun k j hk => by rw [fr k (by omega)])
  have res0 : r = 0 → wk = 0 → ResX w x W b g c r wk := fun h1 h2 => by
    subst h1; subst h2
    refine ⟨ox, ?_, ?_, ?_, fun u _ => ?_, fat, fun u hu => ?_⟩
    · rw [and_m0, fr b (by omega)]
    · rw [and_m0, or_0, fr b (by omega)]
    · rw [fr b (by omega)]
    · rw [or_0, fr (b + 1) (by omega)]
    · rw [fr (b + 3) (by omega)]
      exact ByC.no (fun i hi => by have := hi.2.1; rw [b_0] at this; cases this)
  have hcell : ∀ i, i < T → (w.1 108 i = nI c ↔ cl i = c) := fun i hi => by
    rw [(hc i hi).2.1]
    have := (hc i hi).2.2
    exact nI_eq (by omega) (by omega)
  rcases hs with ⟨hn, h1, h2⟩ | ⟨t, ht, htc, hs⟩
  · rw [trapOn_n hpx hc12 (fun u hu z => hn u hu ((hcell u hu).mpr z)), bd_ok, hasTrap_no hpx.2.2.1 (Or.inl (by decide)), bd_ok, if_pos rfl, ← h1]
    exact ⟨x, rfl, res0 h1 h2⟩
  · have hct := (hcell t ht).mp htc
    rw [trapOn_t hpx ht hct, bd_ok, hasTrap_yes hpx.2.2.1 hT ht, bd_ok, if_neg (show ¬ (1 : Int32) = 0 by decide), ready_v, bd_ok, fr b (by omega), fr 11 (by omega)]
    have hrd := rd_eq hp0 y1 t
    have hkt := (hkd t ht).2.2
    have onlyW : f_X1_onlyWakes 11 x (nI t) (w.1 b 2) = some (if w.1 110 t = 2 ∧ bt (w.1 b 2) t = false then 1 else 0, x) := by
      unfold f_X1_onlyWakes b_X1_onlyWakes_0
      rw [hasTrap_yes hpx.2.2.1 hT ht, bd_ok, if_neg (show ¬ (1 : Int32) = 0 by decide), gd_true (inb_nI (show t < 6 by omega) (by decide)), nI_clamp (by omega), fr (11 + 3) (by omega), show w.1 (11 + 3) t = w.1 110 t from (hkd t ht).1.trans (hkd t ht).2.1.symm]
      by_cases h1 : w.1 110 t = 2
      · rw [if_pos h1]
        by_cases h2 : bt (w.1 b 2) t = false
        · rw [if_pos ((tb0 _ (by omega)).mpr h2), if_pos ⟨h1, h2⟩]
        · rw [if_neg (fun z => h2 ((tb0 _ (by omega)).mp z)), if_neg (fun z => h2 z.2)]
      · rw [if_neg h1, if_neg (fun z => h1 z.1)]
    rcases hs with ⟨⟨h1, h2, h3, h4⟩, rfl, rfl⟩ | ⟨hno, hrr, hwk⟩
    · have hm : mrd w (w.1 b 1) t = true := mrd_t.mpr ⟨h1, by omega, by rw [h3]; decide⟩
      rw [if_pos h2, if_neg (fun z => by rw [tb0 _ (by omega), hrd, hm] at z; cases z), onlyW, if_pos (show w.1 110 t = 2 ∧ bt (w.1 b 2) t = false from ⟨h3, h4⟩), bd_ok, if_neg (show ¬ (1 : Int32) = 0 by decide), nm_ok, fr b (by omega)]
      refine ⟨_, rfl, ox.up ⟨by omega, by omega⟩, ?_, ?_, ?_, fun u _ => ?_, fun u hu => ?_, fun u hu => ?_⟩
      · rw [and_m0, up_ns (by decide), fr b (by omega)]
      · rw [and_m0, up_eq]
      · rw [up_ns (by decide), fr b (by omega)]
      · rw [or_0, up_nc (by omega), fr (b + 1) (by omega)]
      · rw [up_nc (by omega), fat u hu]
      · rw [up_nc (by omega), fr (b + 3) (by omega)]
        exact ByC.no (fun i hi => by have := hi.2.1; rw [b_0] at this; cases this)
    · by_cases h2 : w.1 b 3 = 0
      · rw [if_pos h2]
        rw [if_pos h2] at hrr
        by_cases hm : mrd w (w.1 b 1) t = true
        · have h1 := (mrd_t.mp hm).1
          rw [if_neg (fun z => by rw [tb0 _ (by omega), hrd, hm] at z; cases z), onlyW, bd_ok, if_neg (show ¬ (w.1 110 t = 2 ∧ bt (w.1 b 2) t = false) from fun z => hno ⟨h1, h2, z.1, z.2⟩), if_pos rfl, ready_v, bd_ok, fr b (by omega), if_pos h2, fr 11 (by omega)]
          have h6 : ∀ i, bt (w.1 b 1 &&& (w.1 11 3 ^^^ (-1))) i = true → i < 6 := fun i hi => by
            rw [b_and, Bool.and_eq_true] at hi
            have := y1 i hi.1
            omega
          rw [(spread_v h6).1, bd_ok]
          have ev : spv x ((1 : Int32) <<< (nI t &&& 31)) (w.1 b 1 &&& (w.1 11 3 ^^^ (-1))) = r := by
            have := wv_sp hpx y1 (show t < 7 by omega)
            rw [fr 11 (by omega)] at this
            rw [this, hrr]
            exact wvv_cong (by omega) (fun i _ _ => by rw [fr 110 (by omega)]) (fun i _ _ => by rw [fr 111 (by omega)])
          rw [ev]
          have hrT : ∀ i, bt r i = true → i < T := fun i hi => by rw [hrr] at hi; exact y1 i (wvv_sub (by omega) hi).1
          obtain ⟨w1, e1, o1, q1, q2, q3, q4, q5, q6⟩ := spring_v (b := b) hb hb2 hrT hpx (fun u hu => by
            rw [fat u hu]
            by_cases h : u = g
            · rw [if_pos h]; exact ⟨c, hc12, rfl⟩
            · rw [if_neg h]; exact y5 u hu)
          rw [e1, bv_ok]
          rw [fr b (by omega)] at q1 q2 q3
          refine ⟨w1, rfl, ox.tr o1, q1, by rw [q2, hwk, or_0], q3, fun u hu => by rw [q4 u hu, fr (b + 1) (by omega)], fun u hu => by rw [q5 u, fat u hu], fun u hu => ?_⟩
          have q := q6 u hu
          rw [fat u hu, fr (b + 3) (by omega), fr 108 (by omega), fr 110 (by omega), fr 112 (by omega)] at q
          exact q
        · have hm0 : mrd w (w.1 b 1) t = false := by cases hq : mrd w (w.1 b 1) t <;> simp_all
          rw [if_pos ((tb0 _ (by omega)).mpr (by rw [hrd, hm0]))]
          rw [wvv_zero (by omega) hm0] at hrr
          rw [← hrr]
          exact ⟨x, rfl, res0 hrr hwk⟩
      · rw [if_neg h2] at hrr
        rw [if_neg h2, if_pos ((tb0 _ (by omega)).mpr (b_0 t)), ← hrr]
        exact ⟨x, rfl, res0 hrr hwk⟩
