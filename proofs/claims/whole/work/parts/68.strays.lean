theorem half_rem {a b k : Nat} (h0 : 0 < b) (h1 : 0 < a % b) (hb : b < 2 ^ (k + 1)) : b % (a % b) < 2 ^ k := by
  have hr : a % b < b := Nat.mod_lt _ h0
  have h2 := Nat.div_add_mod b (a % b)
  have h3 : 0 < b / (a % b) := Nat.div_pos (by omega) h1
  have h4 : a % b ≤ (a % b) * (b / (a % b)) := Nat.le_mul_of_pos_right _ h3
  have h5 : b % (a % b) < a % b := Nat.mod_lt _ h1
  rw [Nat.pow_succ] at hb
  omega
theorem gd_7 {w : Wd} : ∀ (k a b i m : Nat), a < 2 ^ 31 → b < 2 ^ k → b < 2 ^ 31 → i + 2 * k ≤ 99 → 2 * k < m → b_X7_greatestDivisor_7 m w (nI a) (nI b) (nI i) = some (nI (Nat.gcd b a), w) := by
  intro k
  induction k with
  | zero =>
    intro a b i m ha hb hb31 hi hm
    have hb0 : b = 0 := by rw [Nat.pow_zero] at hb; omega
    subst hb0
    cases m with
    | zero => omega
    | succ m => rw [b_X7_greatestDivisor_7, if_neg (show ¬ (100 : Int32) ≤ nI i from nI_ge (b := 100) (by omega) (by decide)), if_pos (show nI 0 = 0 from rfl), Nat.gcd_zero_left]
  | succ k ih =>
    intro a b i m ha hb hb31 hi hm
    cases m with
    | zero => omega
    | succ m =>
      rw [b_X7_greatestDivisor_7, if_neg (show ¬ (100 : Int32) ≤ nI i from nI_ge (b := 100) (by omega) (by decide))]
      rcases Nat.eq_zero_or_pos b with h0 | h0
      · subst h0
        rw [if_pos (show nI 0 = 0 from rfl), Nat.gcd_zero_left]
      · have hr : a % b < b := Nat.mod_lt _ h0
        have hn0 := nI_ne0 h0 hb31
        rw [if_neg hn0, gd_true (show nz (nI b) = true from decide_eq_true hn0), nm_ok, nm_ok, pk_rem ha h0 hb31, nI_1, Nat.gcd_rec b a]
        cases m with
        | zero => omega
        | succ m =>
          rw [b_X7_greatestDivisor_7, if_neg (show ¬ (100 : Int32) ≤ nI (i + 1) from nI_ge (b := 100) (by omega) (by decide))]
          rcases Nat.eq_zero_or_pos (a % b) with h1 | h1
          · rw [h1, if_pos (show nI 0 = 0 from rfl), Nat.gcd_zero_left]
          · have hn1 := nI_ne0 h1 (by omega)
            have h5 : b % (a % b) < a % b := Nat.mod_lt _ h1
            rw [if_neg hn1, gd_true (show nz (nI (a % b)) = true from decide_eq_true hn1), nm_ok, nm_ok, pk_rem hb31 h1 (by omega), nI_1, Nat.gcd_rec (a % b) b]
            exact ih (a % b) (b % (a % b)) (i + 1 + 1) m (by omega) (half_rem h0 h1 hb) (by omega) (by omega) (by omega)
theorem cm_4 {w : Wd} : ∀ (k a b m : Nat), a < 2 ^ 31 → b < 2 ^ k → b < 2 ^ 31 → 2 * k < m → b_X8_common_4 m w (nI a) (nI b) = some (nI (Nat.gcd b a), w) := by
  intro k
  induction k with
  | zero =>
    intro a b m ha hb hb31 hm
    have hb0 : b = 0 := by rw [Nat.pow_zero] at hb; omega
    subst hb0
    cases m with
    | zero => omega
    | succ m => rw [b_X8_common_4, if_pos (show nI 0 = 0 from rfl), Nat.gcd_zero_left]
  | succ k ih =>
    intro a b m ha hb hb31 hm
    cases m with
    | zero => omega
    | succ m =>
      rw [b_X8_common_4]
      rcases Nat.eq_zero_or_pos b with h0 | h0
      · subst h0
        rw [if_pos (show nI 0 = 0 from rfl), Nat.gcd_zero_left]
      · have hr : a % b < b := Nat.mod_lt _ h0
        have hn0 := nI_ne0 h0 hb31
        rw [if_neg hn0, gd_true (show nz (nI b) = true from decide_eq_true hn0), nm_ok, pk_rem ha h0 hb31, Nat.gcd_rec b a]
        cases m with
        | zero => omega
        | succ m =>
          rw [b_X8_common_4]
          rcases Nat.eq_zero_or_pos (a % b) with h1 | h1
          · rw [h1, if_pos (show nI 0 = 0 from rfl), Nat.gcd_zero_left]
          · have hn1 := nI_ne0 h1 (by omega)
            have h5 : b % (a % b) < a % b := Nat.mod_lt _ h1
            rw [if_neg hn1, gd_true (show nz (nI (a % b)) = true from decide_eq_true hn1), nm_ok, pk_rem hb31 h1 (by omega), Nat.gcd_rec (a % b) b]
            exact ih (a % b) (b % (a % b)) m (by omega) (half_rem h0 h1 hb) (by omega) (by omega)
theorem nxS_cong {w w' : Wd} {M g : Nat} (hM : M ≤ 7) (hi : ∀ i j, i < M → j < M → w.1 108 i = w.1 108 j → i = j) (e8 : w'.1 108 = w.1 108) (e10 : w'.1 110 = w.1 110) (e11 : w'.1 111 = w.1 111) (e12 : w'.1 112 = w.1 112) (fr : Int32) (e : Nat) (a v : Int32) : nxS w' M g fr e a v = nxS w M g fr e a v := by
  obtain ⟨h1, h2⟩ := StR.one hi ((sr_v w' M a v fr e).cong (w' := w) hM e8.symm e10.symm e11.symm) (sr_v w M a v fr e)
  unfold nxS ctB
  rw [h1, h2, e8, e10, e12]
theorem nxN_cong {w w' : Wd} {M g : Nat} (hM : M ≤ 7) (hi : ∀ i j, i < M → j < M → w.1 108 i = w.1 108 j → i = j) (e8 : w'.1 108 = w.1 108) (e10 : w'.1 110 = w.1 110) (e11 : w'.1 111 = w.1 111) (e12 : w'.1 112 = w.1 112) (fr net : Int32) (e : Nat) (a v : Int32) : nxN w' M g fr net e a v = nxN w M g fr net e a v := by
  unfold nxN
  rw [nxS_cong hM hi e8 e10 e11 e12]
theorem p12 {n : Nat} (h : n ≤ 4) : 12 ^ n ≤ 20736 ∧ 0 < 12 ^ n := ⟨(show 12 ^ n ≤ 12 ^ 4 from Nat.pow_le_pow_right (by decide) h), Nat.pow_pos (by decide)⟩
theorem chance_v {w : Wd} {T W g n c : Nat} {cl kd : Nat → Nat} {net : Int32} (hp : PlanR w T W cl kd) (hg : g < W) (hn : n ≤ 4) (hc : c < 12) (hat : w.1 20 g = nI c) (ha : ∀ i, bt (w.1 18 1) i = true → i < T) (hfr : w.1 18 3 = 0) : f_X4_chance 18 w (nI g) (nI n) net = some (nI (VV (wyF w) (nxN w T g 0 net) n (12 ^ n) c (w.1 18 1) (w.1 18 2)), up (up w 94 1 (nI g)) 94 2 net) := by
  have hT := hp.1
  have hW := hp.2.1
  have x1 := hp.2.2.2.2.1
  obtain ⟨y, hy⟩ : ∃ z, z = up (up w 94 1 (nI g)) 94 2 net := ⟨_, rfl⟩
  have oy : ∀ k, k ≠ 94 → y.1 k = w.1 k := fun k hk => by rw [hy, up_nc hk, up_nc hk]
  unfold f_X4_chance b_X4_chance_0
  rw [if_pos hfr, hasWalker_yes x1 hW hg, bd_ok, if_neg (show ¬ (1 : Int32) = 0 by decide), nm_ok, nm_ok, ← hy, gd_true (inb_nI (show g < 4 by omega) (by decide)), wholeOf_v hn, bd_ok, nI_clamp (show g < 2 ^ 31 by omega), oy 18 (by decide), show y.1 (18 + 2) = w.1 20 from oy 20 (by decide), hat]
  have hp' : PlanR y T W cl kd := hp.fr (fun k j h1 h2 => by rw [oy k (by omega)]) (fun j _ _ => by rw [oy 105 (by decide)]) (fun k j h1 h2 _ => by rw [oy k (by omega)]) (fun j => by rw [oy 112 (by decide)])
  have hpn := (p12 hn).1
  rw [caughtFrom_v hp' hg (show y.1 94 1 = nI g by rw [hy, up_ns (by decide), up_eq]) (show y.1 94 2 = net by rw [hy, up_eq]) n 5 c (12 ^ n) _ _ (by omega) hn hc (by omega) ha, bd_ok]
  have h1 : wyF y = wyF w := funext fun c => by unfold wyF; rw [oy 11 (by decide)]
  have h2 : nxN y T g 0 net = nxN w T g 0 net := funext fun e => funext fun a => funext fun v => nxN_cong (by omega) hp.inj (oy 108 (by decide)) (oy 110 (by decide)) (oy 111 (by decide)) (oy 112 (by decide)) 0 net e a v
  rw [h1, h2]
theorem chance_0 {w : Wd} {v u net : Int32} (hfr : ¬ w.1 18 3 = 0) : f_X4_chance 18 w v u net = some (0, w) := by
  unfold f_X4_chance b_X4_chance_0
  rw [if_neg hfr]
theorem parts_both {w : Wd} {T W g n : Nat} {cl kd : Nat → Nat} (hi : InvT w T W cl kd) (hg : g < W) (hn : n ≤ 4) (h9 : w.1 21 g = -9) : ∃ V w1 w2, V ≤ 12 ^ n ∧ f_X4_chance 18 w (nI g) (nI n) (-9) = some (nI V, w1) ∧ (∀ k, k ≠ 94 → w1.1 k = w.1 k) ∧ f_X8_caughtParts w1 (nI g) (nI n) (nI T) = some (nI V, w2) ∧ InvT w2 T W cl kd := by
  have hi0 := hi
  obtain ⟨hp, -, ⟨⟨b1, b2, b3, b4, b5, b6, b7⟩, ⟨n1, n2, n3, n4, n5⟩, n6, n7⟩, -, -⟩ := hi
  have hT := hp.1
  have hW := hp.2.1
  have hs : w.1 11 2 = w.1 105 12 := hp.2.2.2.2.2.2.1
  have m1 : w.1 105 11 = nI W := hp.2.2.2.2.2.1
  obtain ⟨c, hc, hat⟩ := b5 g hg
  have hat : w.1 20 g = nI c := hat
  have e4 : w.1 20 g = w.1 113 (4 + g) := by have := (n5 g hg).1; rw [Nat.zero_add] at this; exact this
  have e8 : w.1 21 g = w.1 113 (8 + g) := by have := (n5 g hg).2; rw [Nat.zero_add] at this; exact this
  have n1 : w.1 18 1 = w.1 113 0 := n1
  have n2 : w.1 18 2 = w.1 113 1 := n2
  have hm : ∀ w1 : Wd, (∀ k, k ≠ 94 → w1.1 k = w.1 k) → w1.2 = w.2 → ∃ w2, f_X8_caughtParts w1 (nI g) (nI n) (nI T) = some (nI (VV (wyF w) (nxS w T g (w.1 18 3)) n (12 ^ n) c (w.1 18 1) (w.1 18 2)), w2) ∧ InvT w2 T W cl kd := fun w1 oy oy2 => by
    obtain ⟨w2, k1, k2⟩ := caughtParts_v (w := w1) (M := T) (c := c) hW hg hn (by omega) (by rw [oy 105 (by decide)]; exact m1) (by rw [oy 108 (by decide)]; exact hp.inj) hc (by rw [oy 113 (by decide), ← n1]; exact b1) (by rw [oy 113 (by decide), ← e4]; exact hat) (by rw [oy 113 (by decide), ← e8]; exact h9)
    refine ⟨w2, ?_, hi0.fr (Only.tr (w1 := w1) ⟨fun k j hk => ?_, oy2⟩ (k2.wd (fun k j z => ?_)))⟩
    · rw [k1]
      have h1 : wyM w1 = wyF w := funext fun c => by unfold wyF wyM; rw [oy 105 (by decide), hs]
      have h2 : nxS w1 T g (w1.1 105 13) = nxS w T g (w.1 18 3) := funext fun e => funext fun a => funext fun v => by
        rw [oy 105 (by decide), ← n6]
        exact nxS_cong (by omega) hp.inj (oy 108 (by decide)) (oy 110 (by decide)) (oy 111 (by decide)) (oy 112 (by decide)) _ e a v
      rw [h1, h2, oy 113 (by decide), n1, n2]
    · rw [oy k (fun z => hk (by unfold Scr; omega))]
    · unfold Scr; omega
  by_cases hfr : w.1 18 3 = 0
  · have oy : ∀ k, k ≠ 94 → (up (up w 94 1 (nI g)) 94 2 (-9)).1 k = w.1 k := fun k hk => by rw [up_nc hk, up_nc hk]
    obtain ⟨w2, k1, k2⟩ := hm (up (up w 94 1 (nI g)) 94 2 (-9)) oy rfl
    refine ⟨_, _, w2, VV_le _ _ _ _ _, chance_v hp hg hn hc hat b1 hfr, oy, ?_, k2⟩
    rw [k1, hfr]
    congr 3
    refine (VV_rel (R := fun a v A V => A = a ∧ V = v) (fun e a v A V he hR => ?_) n (12 ^ n) c _ _ _ _ ⟨rfl, rfl⟩).symm
    obtain ⟨rfl, rfl⟩ := hR
    have : nxN w T g 0 (-9) e A V = nxS w T g 0 e A V := if_neg (fun z => nI_ne9 (by omega) z.2)
    rw [this]
    exact ⟨rfl, fun _ => ⟨rfl, rfl⟩⟩
  · obtain ⟨w2, k1, k2⟩ := hm w (fun _ _ => rfl) rfl
    refine ⟨0, w, w2, Nat.zero_le _, chance_0 hfr, fun _ _ => rfl, ?_, k2⟩
    rw [k1, VV_zero (nxS_fr hfr)]
theorem s_strays (v u b : Int32) : Step (fun w => f_X7_strays w v u b) (fun w => f_X8_strays w v u b) := by
  intro w hw
  obtain ⟨T, W, cl, kd, hi⟩ := hw
  have hi0 := hi
  obtain ⟨hp, -, ⟨-, ⟨n1, n2, n3, n4, n5⟩, n6, n7⟩, -, -⟩ := hi
  have hT := hp.1
  have hW := hp.2.1
  have m0 : w.1 105 10 = nI T := hp.2.2.2.1
  have x1 : w.1 11 1 = nI W := hp.2.2.2.2.1
  have m1 : w.1 105 11 = nI W := hp.2.2.2.2.2.1
  show ∃ r w1 w2, f_X7_strays w v u b = _ ∧ f_X8_strays w1 v u b = _ ∧ _
  have hin : ∀ z : Wd, f_X8_in z u.toInt64 0 4 = some (if (0 : Int32) ≤ u ∧ u ≤ 4 then 1 else 0, z) := fun z => in_i z u 0 4
  rcases ix v (n := W) (by omega) with h | ⟨g, hg, rfl⟩
  · refine ⟨-1, w, w, ?_, ?_, T, W, cl, kd, hi0⟩
    · unfold f_X7_strays b_X7_strays_0
      rw [hasWalker_no x1 h, bd_ok, if_pos rfl]
    · unfold f_X8_strays b_X8_strays_0
      rw [mIsWalker_no m1 hW h, bd_ok, if_pos rfl]
  · rcases ix u (n := 5) (by omega) with h | ⟨n, hn, rfl⟩
    · have hno : ¬ ((0 : Int32) ≤ u ∧ u ≤ 4) := fun z => by
        rcases h with h | h
        · have := z.1
          rw [i_le] at this
          rw [i_lt] at h
          omega
        · have := z.2
          rw [i_le] at this h
          have e4 : (4 : Int32).toInt = 4 := rfl
          have e5 : (nI 5).toInt = 5 := rfl
          omega
      refine ⟨-2, w, w, ?_, ?_, T, W, cl, kd, hi0⟩
      · unfold f_X7_strays b_X7_strays_0
        rw [hasWalker_yes x1 hW hg, bd_ok, if_neg (show ¬ (1 : Int32) = 0 by decide)]
        by_cases h1 : u < 0
        · rw [if_pos h1]
        · rw [if_neg h1, if_neg (fun z => hno ⟨by rw [i_le]; rw [i_lt] at h1; omega, z⟩)]
      · unfold f_X8_strays b_X8_strays_0
        rw [mIsWalker_yes m1 hW hg, bd_ok, if_neg (show ¬ (1 : Int32) = 0 by decide), hin, if_neg hno, bd_ok, if_pos rfl]
    · have e8 : w.1 21 g = w.1 113 (8 + g) := by have := (n5 g hg).2; rw [Nat.zero_add] at this; exact this
      have hle : (0 : Int32) ≤ nI n ∧ nI n ≤ 4 := ⟨nI_pos' (by omega), nI_le (b := 4) (by omega) (by omega)⟩
      by_cases h9 : w.1 21 g = -9
      · obtain ⟨V, w1, w2, hV, k1, o1, k2, k3⟩ := parts_both (n := n) hi0 hg (by omega) h9
        obtain ⟨hp1, hp2⟩ := p12 (show n ≤ 4 by omega)
        obtain ⟨P, hP⟩ : ∃ z, z = 12 ^ n := ⟨_, rfl⟩
        rw [← hP] at hV hp1 hp2
        have hd0 : 0 < Nat.gcd V P := Nat.gcd_pos_of_pos_right V hp2
        have hd1 : Nat.gcd V P ≤ P := Nat.le_of_dvd hp2 (Nat.gcd_dvd_right V P)
        have hnz : ¬ nI (Nat.gcd V P) = 0 := nI_ne0 hd0 (by omega)
        have ex : ∀ z : Wd, f_X7_greatestDivisor z (nI P) (nI V) = some (nI (Nat.gcd V P), z) := fun z => by
          unfold f_X7_greatestDivisor b_X7_greatestDivisor_0
          exact gd_7 15 P V 0 LF (by omega) (by omega) (by omega) (by omega) (by unfold LF; omega)
        have em : ∀ z : Wd, f_X8_common z (nI V) (nI P) = some (nI (Nat.gcd V P), z) := fun z => by
          unfold f_X8_common b_X8_common_0
          rw [Nat.gcd_comm V P]
          exact cm_4 15 V P LF (by omega) (by omega) (by omega) (by unfold LF; omega)
        refine ⟨if b = 0 then nI P / nI (Nat.gcd V P) else nI V / nI (Nat.gcd V P), w1, w2, ?_, ?_, T, W, cl, kd, k3⟩
        · unfold f_X7_strays b_X7_strays_0
          rw [hasWalker_yes x1 hW hg, bd_ok, if_neg (show ¬ (1 : Int32) = 0 by decide), if_neg (nI_lt0 n (by omega)), if_pos hle.2, isFree_yes x1 hW hg, if_pos (show w.1 (18 + 3) g = -9 from h9), bd_ok, if_neg (show ¬ (1 : Int32) = 0 by decide), wholeOf_v (by omega), bd_ok, k1, bd_ok, ← hP, ex, bd_ok, if_neg hnz, gd_true (show nz (nI (Nat.gcd V P)) = true from decide_eq_true hnz), gd_true (show nz (nI (Nat.gcd V P)) = true from decide_eq_true hnz)]
          split <;> rfl
        · unfold f_X8_strays b_X8_strays_0
          rw [mIsWalker_yes (by rw [o1 105 (by decide)]; exact m1) hW hg, bd_ok, if_neg (show ¬ (1 : Int32) = 0 by decide), hin, if_pos hle, bd_ok, if_neg (show ¬ (1 : Int32) = 0 by decide), lit_add 8 (b := 8) rfl, gd_true (inb_nI (show 8 + g < 72 by omega) (by decide)), nI_clamp (show 8 + g < 2 ^ 31 by omega), o1 113 (by decide), ← e8, if_pos h9, o1 105 (by decide), m0, k2, bd_ok, twelveTo_v (by omega), bd_ok, ← hP, em, bd_ok, twelveTo_v (by omega), bd_ok, ← hP, gd_true (show nz (nI (Nat.gcd V P)) = true from decide_eq_true hnz), gd_true (show nz (nI (Nat.gcd V P)) = true from decide_eq_true hnz)]
          split <;> rfl
      · refine ⟨-3, w, w, ?_, ?_, T, W, cl, kd, hi0⟩
        · unfold f_X7_strays b_X7_strays_0
          rw [hasWalker_yes x1 hW hg, bd_ok, if_neg (show ¬ (1 : Int32) = 0 by decide), if_neg (nI_lt0 n (by omega)), if_pos hle.2, isFree_yes x1 hW hg, if_neg (show ¬ w.1 (18 + 3) g = -9 from h9), bd_ok, if_pos rfl]
        · unfold f_X8_strays b_X8_strays_0
          rw [mIsWalker_yes m1 hW hg, bd_ok, if_neg (show ¬ (1 : Int32) = 0 by decide), hin, if_pos hle, bd_ok, if_neg (show ¬ (1 : Int32) = 0 by decide), lit_add 8 (b := 8) rfl, gd_true (inb_nI (show 8 + g < 72 by omega) (by decide)), nI_clamp (show 8 + g < 2 ^ 31 by omega), ← e8, if_neg h9]
