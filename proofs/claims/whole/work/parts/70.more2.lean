noncomputable def Pv (w : Wd) (T g n c0 : Nat) (t : Nat) : Nat := if w.1 18 3 = 0 then VV (wyF w) (nxN w T g 0 (nI t)) n (12 ^ n) c0 (w.1 18 1) (w.1 18 2) else 0
theorem Pv_le (w : Wd) (T g n c0 t : Nat) : Pv w T g n c0 t ≤ 12 ^ n := by
  unfold Pv
  by_cases h : w.1 18 3 = 0
  · rw [if_pos h]; exact VV_le _ _ _ _ _
  · rw [if_neg h]; exact Nat.zero_le _
def opn (w : Wd) (T : Nat) (cl : Nat → Nat) (c : Nat) : Bool := !bt (w.1 11 2) c && decide (∀ u, u < T → ¬ cl u = c)
theorem opn_c {w : Wd} {T : Nat} {cl : Nat → Nat} {c : Nat} (h : bt (w.1 11 2) c = true) : opn w T cl c = false := by
  unfold opn; rw [h]; rfl
theorem opn_t {w : Wd} {T : Nat} {cl : Nat → Nat} {c : Nat} (h : ¬ ∀ u, u < T → ¬ cl u = c) : opn w T cl c = false := by
  unfold opn; rw [decide_eq_false h, Bool.and_false]
theorem opn_y {w : Wd} {T : Nat} {cl : Nat → Nat} {c : Nat} (h1 : bt (w.1 11 2) c = false) (h : ∀ u, u < T → ¬ cl u = c) : opn w T cl c = true := by
  unfold opn; rw [h1, decide_eq_true h]; rfl
theorem opn_n {w : Wd} {T : Nat} {cl : Nat → Nat} {c : Nat} (h : opn w T cl c = true) : ∀ u, u < T → ¬ cl u = c := by
  unfold opn at h
  rw [Bool.and_eq_true] at h
  exact of_decide_eq_true h.2
theorem om_chance {w : Wd} {T W g n c0 : Nat} {cl kd : Nat → Nat} (hp : PlanR w T W cl kd) (hb1 : ∀ i, bt (w.1 18 1) i = true → i < T) (hg : g < W) (hn : n ≤ 4) (hc0 : c0 < 12) (hat : w.1 20 g = nI c0) (y : Wd) (t : Nat) (oy : ∀ k, k ≠ 94 → y.1 k = w.1 k) (oy2 : y.2 = w.2) : ∃ y1, f_X4_chance 18 y (nI g) (nI n) (nI t) = some (nI (Pv w T g n c0 t), y1) ∧ (∀ k, k ≠ 94 → y1.1 k = w.1 k) ∧ y1.2 = w.2 := by
  have hT := hp.1
  unfold Pv
  by_cases hfr : w.1 18 3 = 0
  · rw [if_pos hfr]
    have hpy : PlanR y T W cl kd := hp.fr (fun k j h1 h2 => by rw [oy k (by omega)]) (fun j _ _ => by rw [oy 105 (by decide)]) (fun k j h1 h2 _ => by rw [oy k (by omega)]) (fun j => by rw [oy 112 (by decide)])
    have h1 : wyF y = wyF w := funext fun c => by unfold wyF; rw [oy 11 (by decide)]
    have h2 : nxN y T g 0 (nI t) = nxN w T g 0 (nI t) := funext fun e => funext fun a => funext fun v => nxN_cong (by omega) hp.inj (oy 108 (by decide)) (oy 110 (by decide)) (oy 111 (by decide)) (oy 112 (by decide)) 0 (nI t) e a v
    refine ⟨up (up y 94 1 (nI g)) 94 2 (nI t), ?_, fun k hk => by rw [up_nc hk, up_nc hk, oy k hk], oy2⟩
    rw [chance_v hpy hg hn hc0 (by rw [oy 20 (by decide)]; exact hat) (by rw [oy 18 (by decide)]; exact hb1) (by rw [oy 18 (by decide)]; exact hfr), h1, h2, oy 18 (by decide)]
  · rw [if_neg hfr]
    exact ⟨y, chance_0 (by rw [oy 18 (by decide)]; exact hfr), oy, oy2⟩
theorem om_x {w : Wd} {T W g n c0 : Nat} {cl kd : Nat → Nat} (hp : PlanR w T W cl kd) (hb1 : ∀ i, bt (w.1 18 1) i = true → i < T) (hg : g < W) (hn : n ≤ 4) (hc0 : c0 < 12) (hat : w.1 20 g = nI c0) : ∀ (m t : Nat) (y : Wd), 12 - t < m → t ≤ 12 → (∀ k, k ≠ 94 → y.1 k = w.1 k) → y.2 = w.2 → ∃ y1, b_X7_oneMore_64 m y (nI g) (nI n) (bsI (bst (opn w T cl) (Pv w T g n c0) t)) (msI (-1) (bst (opn w T cl) (Pv w T g n c0) t)) (nI t) = some (bsI (bst (opn w T cl) (Pv w T g n c0) 12), y1) ∧ (∀ k, k ≠ 94 → y1.1 k = w.1 k) ∧ y1.2 = w.2 := by
  have hpn := (p12 hn).1
  intro m
  induction m with
  | zero => intro t y h; omega
  | succ m ih =>
    intro t y hm ht oy oy2
    rw [b_X7_oneMore_64]
    by_cases h : t = 12
    · subst h
      rw [if_pos (show (12 : Int32) ≤ nI 12 by decide)]
      exact ⟨y, rfl, oy, oy2⟩
    · rw [if_neg (show ¬ (12 : Int32) ≤ nI t from nI_ge (b := 12) (by omega) (by decide)), oy 11 (by decide)]
      have hpy : PlanR y T W cl kd := hp.fr (fun k j h1 h2 => by rw [oy k (by omega)]) (fun j _ _ => by rw [oy 105 (by decide)]) (fun k j h1 h2 _ => by rw [oy k (by omega)]) (fun j => by rw [oy 112 (by decide)])
      have no : opn w T cl t = false → ∃ y1, b_X7_oneMore_104 (b_X7_oneMore_64 m) y (nI g) (nI n) (bsI (bst (opn w T cl) (Pv w T g n c0) t)) (msI (-1) (bst (opn w T cl) (Pv w T g n c0) t)) (nI t) = some (bsI (bst (opn w T cl) (Pv w T g n c0) 12), y1) ∧ (∀ k, k ≠ 94 → y1.1 k = w.1 k) ∧ y1.2 = w.2 := fun hno => by
        unfold b_X7_oneMore_104 b_X7_oneMore_105 b_X7_oneMore_131 b_X7_oneMore_147
        rw [if_pos rfl, if_pos (msI_m1 (B := 12 ^ n) (by omega) (Pv_le w T g n c0)), nm_ok, nI_1, ← bst_no (P := Pv w T g n c0) hno]
        exact ih (t + 1) y (by omega) (by omega) oy oy2
      by_cases hb : bt (w.1 11 2) t = true
      · rw [if_neg (fun z => by rw [tb0 _ (by omega), hb] at z; cases z)]
        exact no (opn_c hb)
      · have hbf : bt (w.1 11 2) t = false := by simpa using hb
        rw [if_pos ((tb0 _ (by omega)).mpr hbf)]
        by_cases hu : ∀ u, u < T → ¬ cl u = t
        · rw [trapOn_n hpy (by omega) hu, bd_ok, if_pos rfl]
          have ho : opn w T cl t = true := opn_y hbf hu
          obtain ⟨y1, e1, o1, o2⟩ := om_chance hp hb1 hg hn hc0 hat y t oy oy2
          unfold b_X7_oneMore_105
          rw [if_neg (show ¬ (1 : Int32) = 0 by decide), e1, bd_ok]
          unfold b_X7_oneMore_131 b_X7_oneMore_147
          obtain ⟨k1, k2⟩ := bst_yes (d := -1) (B := 12 ^ n) (by decide) (by omega) (Pv_le w T g n c0) ho
          have ih' := ih (t + 1) y1 (by omega) (by omega) o1 o2
          by_cases hle : nI (Pv w T g n c0 t) ≤ msI (-1) (bst (opn w T cl) (Pv w T g n c0) t)
          · rw [if_pos hle, nm_ok, nI_1, (k1 hle).1, (k1 hle).2]
            exact ih'
          · rw [← (k2 hle).1, ← (k2 hle).2] at ih'
            rw [if_neg hle, nm_ok, nI_1]
            exact ih'
        · have hex : ∃ u, u < T ∧ cl u = t := Classical.byContradiction fun z => hu (fun u h1 h2 => z ⟨u, h1, h2⟩)
          obtain ⟨u, hu1, hu2⟩ := hex
          rw [trapOn_t hpy hu1 hu2, bd_ok, if_neg (nI_ne9 (by have := hp.1; omega))]
          exact no (opn_t hu)
def OMy (w y : Wd) (T : Nat) : Prop := (∀ k, k ≠ 94 → k ≠ 113 → k ≠ 108 → k ≠ 110 → k ≠ 111 → k ≠ 117 → k ≠ 118 → y.1 k = w.1 k) ∧ (∀ j, 1 ≤ j → j < 12 → y.1 113 j = w.1 113 j) ∧ y.1 113 0 = w.1 113 0 ||| ((1 : Int32) <<< (nI T &&& 31)) ∧ OMR w y T ∧ y.2 = w.2
theorem om_parts {w y : Wd} {T W g n c0 t : Nat} {cl kd : Nat → Nat} (hi : InvT w T W cl kd) (hg : g < W) (hn : n ≤ 4) (hc0 : c0 < 12) (hat : w.1 20 g = nI c0) (h9 : w.1 21 g = -9) (hT : T < 6) (hy : OMy w y T) (ht : t < 12) (ho : opn w T cl t = true) : ∃ y1, f_X8_caughtParts (up y 108 T (nI t)) (nI g) (nI n) (nI (T + 1)) = some (nI (Pv w T g n c0 t), y1) ∧ OMy w y1 T := by
  obtain ⟨hp, -, ⟨⟨b1, b2, b3, b4, b5, b6, b7⟩, ⟨n1, n2, n3, n4, n5⟩, n6, n7⟩, -, -⟩ := hi
  have hW := hp.2.1
  have hs : w.1 11 2 = w.1 105 12 := hp.2.2.2.2.2.2.1
  have m1 : w.1 105 11 = nI W := hp.2.2.2.2.2.1
  have hcl := hp.2.2.2.2.2.2.2.2.1
  have e4 : w.1 20 g = w.1 113 (4 + g) := by have := (n5 g hg).1; rw [Nat.zero_add] at this; exact this
  have e8 : w.1 21 g = w.1 113 (8 + g) := by have := (n5 g hg).2; rw [Nat.zero_add] at this; exact this
  have n1 : w.1 18 1 = w.1 113 0 := n1
  have n2 : w.1 18 2 = w.1 113 1 := n2
  obtain ⟨y0, y1, y2, ⟨y8, y10, y10T, y11, y11T, y12⟩, y9⟩ := hy
  obtain ⟨z, hz⟩ : ∃ q, q = up y 108 T (nI t) := ⟨_, rfl⟩
  rw [← hz]
  have zk : ∀ k, k ≠ 108 → z.1 k = y.1 k := fun k hk => by rw [hz, up_nc hk]
  have z8 : ∀ j, j ≠ T → z.1 108 j = w.1 108 j := fun j hj => by rw [hz, up_ns hj]; exact y8 j hj
  have zT : z.1 108 T = nI t := by rw [hz, up_eq]
  have hzO : OMR w z T := ⟨z8, fun j hj => by rw [zk 110 (by decide)]; exact y10 j hj, by rw [zk 110 (by decide)]; exact y10T, fun j hj => by rw [zk 111 (by decide)]; exact y11 j hj, by rw [zk 111 (by decide)]; exact y11T, by rw [zk 112 (by decide)]; exact y12⟩
  have hne : ∀ j, j < T → ¬ nI t = w.1 108 j := fun j hj q => by
    rw [(hcl j hj).2.1] at q
    have := (hcl j hj).2.2
    exact opn_n ho j hj ((nI_eq (by omega) (by omega)).mp q).symm
  have hzi : ∀ i j, i < T + 1 → j < T + 1 → z.1 108 i = z.1 108 j → i = j := fun i j h1 h2 h3 => by
    by_cases hiT : i = T
    · by_cases hjT : j = T
      · rw [hiT, hjT]
      · rw [hiT, zT, z8 j hjT] at h3
        exact absurd h3 (hne j (by omega))
    · by_cases hjT : j = T
      · rw [hjT, zT, z8 i hiT] at h3
        exact absurd h3.symm (hne i (by omega))
      · rw [z8 i hiT, z8 j hjT] at h3
        exact hp.inj i j (by omega) (by omega) h3
  have hA : ∀ i, bt (z.1 113 0) i = (bt (w.1 18 1) i || decide (i = T)) := fun i => by rw [zk 113 (by decide), y2, n1, b_or, one_t (by omega)]
  have z105 : z.1 105 = w.1 105 := by rw [zk 105 (by decide)]; exact y0 105 (by decide) (by decide) (by decide) (by decide) (by decide) (by decide) (by decide)
  obtain ⟨w', k1, k2⟩ := caughtParts_v (w := z) (M := T + 1) (c := c0) hW hg hn (by omega) (by rw [z105]; exact m1) hzi hc0 (fun i hb => by
    rw [hA i, Bool.or_eq_true] at hb
    rcases hb with q | q
    · have := b1 i q; omega
    · have : i = T := by simpa using q
      omega) (by rw [zk 113 (by decide), y1 (4 + g) (by omega) (by omega), ← e4]; exact hat) (by rw [zk 113 (by decide), y1 (8 + g) (by omega) (by omega), ← e8]; exact h9)
  refine ⟨w', ?_, ?_⟩
  · rw [k1]
    have h1 : wyM z = wyF w := funext fun c => by unfold wyF wyM; rw [z105, hs]
    rw [h1, z105, ← n6]
    unfold Pv
    by_cases hfr : w.1 18 3 = 0
    · rw [if_pos hfr, hfr]
      have hv1 : z.1 113 1 = w.1 18 2 := by rw [zk 113 (by decide), y1 1 (by omega) (by omega)]; exact n2.symm
      have hR0 : RM T (w.1 18 1) (w.1 18 2) (z.1 113 0) (z.1 113 1) := ⟨b1, hA, hv1⟩
      rw [VV_rel (wy := wyF w) (nx := nxN w T g 0 (nI t)) (ny := nxS z (T + 1) g 0) (R := RM T) (fun e a v A V he hR => nx_more hp hT hzO zT hzi ht he hR) n (12 ^ n) c0 (w.1 18 1) (w.1 18 2) (z.1 113 0) (z.1 113 1) hR0]
    · rw [if_neg hfr, VV_zero (nxS_fr hfr)]
  · have f8 : ∀ k, k ≠ 113 → k ≠ 117 → k ≠ 118 → w'.1 k = z.1 k := fun k h1 h2 h3 => funext fun j => k2.1 k j (by omega)
    obtain ⟨o1, o2, o3, o4, o5, o6⟩ := hzO
    refine ⟨fun k h1 h2 h3 h4 h5 h6 h7 => ?_, fun j h1 h2 => ?_, ?_, ⟨?_, ?_, ?_, ?_, ?_, ?_⟩, ?_⟩
    · rw [f8 k h2 h6 h7, zk k h3, y0 k h1 h2 h3 h4 h5 h6 h7]
    · rw [k2.1 113 j (by omega), zk 113 (by decide), y1 j h1 h2]
    · rw [k2.1 113 0 (by omega), zk 113 (by decide), y2]
    · rw [f8 108 (by decide) (by decide) (by decide)]; exact o1
    · rw [f8 110 (by decide) (by decide) (by decide)]; exact o2
    · rw [f8 110 (by decide) (by decide) (by decide)]; exact o3
    · rw [f8 111 (by decide) (by decide) (by decide)]; exact o4
    · rw [f8 111 (by decide) (by decide) (by decide)]; exact o5
    · rw [f8 112 (by decide) (by decide) (by decide)]; exact o6
    · rw [k2.2, hz]; exact y9
theorem om_m {w : Wd} {T W g n c0 : Nat} {cl kd : Nat → Nat} (hi : InvT w T W cl kd) (hg : g < W) (hn : n ≤ 4) (hc0 : c0 < 12) (hat : w.1 20 g = nI c0) (h9 : w.1 21 g = -9) (hT : T < 6) : ∀ (m t : Nat) (y : Wd), 12 - t < m → t ≤ 12 → OMy w y T → ∃ y1, b_X8_oneMore_115 m y (nI g) (nI n) (bsI (bst (opn w T cl) (Pv w T g n c0) t)) (msI (-9) (bst (opn w T cl) (Pv w T g n c0) t)) (w.1 113 0) (w.1 113 1) (nI t) = some (bsI (bst (opn w T cl) (Pv w T g n c0) 12), y1) ∧ InvT y1 T W cl kd := by
  have hpn := (p12 hn).1
  have hp := hi.1
  have hs : w.1 11 2 = w.1 105 12 := hp.2.2.2.2.2.2.1
  have m0 : w.1 105 10 = nI T := hp.2.2.2.1
  have hcl := hp.2.2.2.2.2.2.2.2.1
  intro m
  induction m with
  | zero => intro t y h; omega
  | succ m ih =>
    intro t y hm ht hy
    have y105 : y.1 105 = w.1 105 := hy.1 105 (by decide) (by decide) (by decide) (by decide) (by decide) (by decide) (by decide)
    have y8 := hy.2.2.2.1.1
    rw [b_X8_oneMore_115]
    by_cases h : t = 12
    · subst h
      rw [if_pos (show (12 : Int32) ≤ nI 12 by decide), nm_ok, nm_ok]
      refine ⟨up (up y 113 0 (w.1 113 0)) 113 1 (w.1 113 1), rfl, hi.fr ⟨fun k j hk => ?_, hy.2.2.2.2⟩⟩
      obtain ⟨y0, y1, y2, ⟨y8, y10, y10T, y11, y11T, y12⟩, y9⟩ := hy
      unfold Scr at hk
      by_cases hk3 : k = 113
      · subst hk3
        by_cases hj1 : j = 1
        · subst hj1; rw [up_eq]
        · rw [up_ns hj1]
          by_cases hj0 : j = 0
          · subst hj0; rw [up_eq]
          · rw [up_ns hj0]; exact y1 j (by omega) (by omega)
      · rw [up_nc hk3, up_nc hk3]
        by_cases k8 : k = 108
        · subst k8; exact y8 j (by omega)
        · by_cases k10 : k = 110
          · subst k10; exact y10 j (by omega)
          · by_cases k11 : k = 111
            · subst k11; exact y11 j (by omega)
            · rw [y0 k (by omega) hk3 k8 k10 k11 (by omega) (by omega)]
    · rw [if_neg (show ¬ (12 : Int32) ≤ nI t from nI_ge (b := 12) (by omega) (by decide)), y105, ← hs, m0]
      have no : opn w T cl t = false → ∃ y1, b_X8_oneMore_204 (b_X8_oneMore_115 m) y (nI g) (nI n) (bsI (bst (opn w T cl) (Pv w T g n c0) t)) (msI (-9) (bst (opn w T cl) (Pv w T g n c0) t)) (w.1 113 0) (w.1 113 1) (nI t) = some (bsI (bst (opn w T cl) (Pv w T g n c0) 12), y1) ∧ InvT y1 T W cl kd := fun hno => by
        unfold b_X8_oneMore_204
        rw [nm_ok, nI_1, ← bst_no (P := Pv w T g n c0) hno]
        exact ih (t + 1) y (by omega) (by omega) hy
      by_cases hb : bt (w.1 11 2) t = true
      · rw [if_neg (fun z => by rw [tb0 _ (by omega), hb] at z; cases z)]
        exact no (opn_c hb)
      · have hbf : bt (w.1 11 2) t = false := by simpa using hb
        rw [if_pos ((tb0 _ (by omega)).mpr hbf)]
        by_cases hu : ∀ u, u < T → ¬ cl u = t
        · have ho : opn w T cl t = true := opn_y hbf hu
          rw [trapAt_no (m := T) (by omega) (fun u hu1 => by
            rw [y8 u (by omega), (hcl u hu1).2.1]
            have := (hcl u hu1).2.2
            exact fun q => hu u hu1 ((nI_eq (by omega) (by omega)).mp q)), bd_ok, if_pos rfl, y105, m0, gd_true (inb_nI (show T < 7 by omega) (by decide)), nm_ok, nI_clamp (show T < 2 ^ 31 by omega), up_nc (show 105 ≠ 108 by decide), y105, m0, nI_1]
          obtain ⟨y1, e1, o1⟩ := om_parts hi hg hn hc0 hat h9 hT hy (by omega) ho
          rw [e1, bd_ok]
          unfold b_X8_oneMore_187 b_X8_oneMore_202 b_X8_oneMore_204
          obtain ⟨k1, k2⟩ := bst_yes (d := -9) (B := 12 ^ n) (by decide) (by omega) (Pv_le w T g n c0) ho
          have ih' := ih (t + 1) y1 (by omega) (by omega) o1
          by_cases hle : nI (Pv w T g n c0 t) ≤ msI (-9) (bst (opn w T cl) (Pv w T g n c0) t)
          · rw [if_pos hle, if_pos hle, nm_ok, nI_1, (k1 hle).1, (k1 hle).2]
            exact ih'
          · rw [← (k2 hle).1, ← (k2 hle).2] at ih'
            rw [if_neg hle, if_neg hle, nm_ok, nI_1]
            exact ih'
        · have hex : ∃ u, u < T ∧ cl u = t := Classical.byContradiction fun z => hu (fun u h1 h2 => z ⟨u, h1, h2⟩)
          obtain ⟨u, hu1, hu2⟩ := hex
          rw [trapAt_yes (m := T) (t := u) (by omega) hu1 (by rw [y8 u (by omega), (hcl u hu1).2.1, hu2]) (fun x hx1 hx2 => by
            rw [y8 x (by omega), ← hu2, ← (hcl u hu1).2.1] at hx2
            exact hp.inj x u hx1 hu1 hx2), bd_ok, if_neg (nI_ne9 (by omega))]
          exact no (opn_t hu)
theorem s_oneMore (v u : Int32) : Step (fun w => f_X7_oneMore w v u) (fun w => f_X8_oneMore w v u) := by
  intro w hw
  obtain ⟨T, W, cl, kd, hi⟩ := hw
  have hi0 := hi
  obtain ⟨hp, -, ⟨⟨b1, b2, b3, b4, b5, b6, b7⟩, ⟨n1, n2, n3, n4, n5⟩, n6, n7⟩, -, -⟩ := hi
  have hT := hp.1
  have hW := hp.2.1
  have x0 : w.1 11 0 = nI T := hp.2.2.1
  have m0 : w.1 105 10 = nI T := hp.2.2.2.1
  have x1 : w.1 11 1 = nI W := hp.2.2.2.2.1
  have m1 : w.1 105 11 = nI W := hp.2.2.2.2.2.1
  show ∃ r w1 w2, f_X7_oneMore w v u = _ ∧ f_X8_oneMore w1 v u = _ ∧ _
  have hin : ∀ z : Wd, f_X8_in z u.toInt64 1 3 = some (if (1 : Int32) ≤ u ∧ u ≤ 3 then 1 else 0, z) := fun z => in_i z u 1 3
  rcases ix v (n := W) (by omega) with h | ⟨g, hg, rfl⟩
  · refine ⟨-1, w, w, ?_, ?_, T, W, cl, kd, hi0⟩
    · unfold f_X7_oneMore b_X7_oneMore_0
      rw [hasWalker_no x1 h, bd_ok, if_pos rfl]
    · unfold f_X8_oneMore b_X8_oneMore_0
      rw [mIsWalker_no m1 hW h, bd_ok, if_pos rfl]
  · by_cases hu : (1 : Int32) ≤ u ∧ u ≤ 3
    · obtain ⟨n, hn1, hn3, rfl⟩ : ∃ n, 1 ≤ n ∧ n ≤ 3 ∧ u = nI n := by
        rcases ix u (n := 4) (by omega) with h | ⟨j, hj, rfl⟩
        · exfalso
          obtain ⟨h1, h3⟩ := hu
          rw [i_le] at h1 h3
          have e1 : (1 : Int32).toInt = 1 := rfl
          have e3 : (3 : Int32).toInt = 3 := rfl
          have e0 : (0 : Int32).toInt = 0 := rfl
          have e4 : (nI 4).toInt = 4 := rfl
          rcases h with h | h
          · rw [i_lt] at h; omega
          · rw [i_le] at h; omega
        · refine ⟨j, ?_, by omega, rfl⟩
          rcases Nat.eq_zero_or_pos j with q | q
          · subst q; exact absurd hu.1 (by decide)
          · exact q
      have hl1 : ¬ nI n < 1 := nI_nlt (b := 1) hn1 (by omega)
      have e8 : w.1 21 g = w.1 113 (8 + g) := by have := (n5 g hg).2; rw [Nat.zero_add] at this; exact this
      by_cases h9 : w.1 21 g = -9
      · by_cases h6 : T = 6
        · refine ⟨-4, w, w, ?_, ?_, T, W, cl, kd, hi0⟩
          · unfold f_X7_oneMore b_X7_oneMore_0
            rw [hasWalker_yes x1 hW hg, bd_ok, if_neg (show ¬ (1 : Int32) = 0 by decide), if_neg hl1, if_pos hu.2, isFree_yes x1 hW hg, if_pos (show w.1 (18 + 3) g = -9 from h9), bd_ok, if_neg (show ¬ (1 : Int32) = 0 by decide), x0, h6, if_neg (show ¬ nI 6 < 6 by decide)]
          · unfold f_X8_oneMore b_X8_oneMore_0
            rw [mIsWalker_yes m1 hW hg, bd_ok, if_neg (show ¬ (1 : Int32) = 0 by decide), hin, if_pos hu, bd_ok, if_neg (show ¬ (1 : Int32) = 0 by decide), lit_add 8 (b := 8) rfl, gd_true (inb_nI (show 8 + g < 72 by omega) (by decide)), nI_clamp (show 8 + g < 2 ^ 31 by omega), ← e8, if_pos h9, m0, h6, if_pos (show nI 6 = 6 from rfl)]
        · obtain ⟨c0, hc0, hat⟩ := b5 g hg
          have hat : w.1 20 g = nI c0 := hat
          obtain ⟨y1, k1, o1, o2⟩ := om_x (n := n) hp b1 hg (by omega) hc0 hat LF 0 w (by unfold LF; omega) (by omega) (fun _ _ => rfl) rfl
          have hy : OMy w (up (up (up y1 113 0 (y1.1 113 0 ||| ((1 : Int32) <<< (nI T &&& 31)))) 110 T 4) 111 T 0) T := by
            refine ⟨fun k h1 h2 h3 h4 h5 h6 h7 => ?_, fun j h1 h2 => ?_, ?_, ⟨fun j hj => ?_, fun j hj => ?_, ?_, fun j hj => ?_, ?_, ?_⟩, o2⟩
            · rw [up_nc h5, up_nc h4, up_nc h2, o1 k h1]
            · rw [up_nc (by decide), up_nc (by decide), up_ns (by omega), o1 113 (by decide)]
            · rw [up_nc (by decide), up_nc (by decide), up_eq, o1 113 (by decide)]
            · rw [up_nc (by decide), up_nc (by decide), up_nc (by decide), o1 108 (by decide)]
            · rw [up_nc (by decide), up_ns hj, up_nc (by decide), o1 110 (by decide)]
            · rw [up_nc (by decide), up_eq]
            · rw [up_ns hj, up_nc (by decide), up_nc (by decide), o1 111 (by decide)]
            · rw [up_eq]
            · rw [up_nc (by decide), up_nc (by decide), up_nc (by decide), o1 112 (by decide)]
          obtain ⟨y2, k2, k3⟩ := om_m (n := n) hi0 hg (by omega) hc0 hat h9 (by omega) LF 0 _ (by unfold LF; omega) (by omega) hy
          refine ⟨bsI (bst (opn w T cl) (Pv w T g n c0) 12), y1, y2, ?_, ?_, T, W, cl, kd, k3⟩
          · unfold f_X7_oneMore b_X7_oneMore_0
            rw [hasWalker_yes x1 hW hg, bd_ok, if_neg (show ¬ (1 : Int32) = 0 by decide), if_neg hl1, if_pos hu.2, isFree_yes x1 hW hg, if_pos (show w.1 (18 + 3) g = -9 from h9), bd_ok, if_neg (show ¬ (1 : Int32) = 0 by decide), x0, if_pos (show nI T < 6 from nI_lt (b := 6) (by omega) (by decide))]
            exact k1
          · unfold f_X8_oneMore b_X8_oneMore_0
            rw [mIsWalker_yes (by rw [o1 105 (by decide)]; exact m1) hW hg, bd_ok, if_neg (show ¬ (1 : Int32) = 0 by decide), hin, if_pos hu, bd_ok, if_neg (show ¬ (1 : Int32) = 0 by decide), lit_add 8 (b := 8) rfl, gd_true (inb_nI (show 8 + g < 72 by omega) (by decide)), nI_clamp (show 8 + g < 2 ^ 31 by omega), show y1.1 113 (8 + g) = -9 by rw [o1 113 (by decide), ← e8]; exact h9, if_pos rfl, show y1.1 105 10 = nI T by rw [o1 105 (by decide)]; exact m0, if_neg (show ¬ nI T = 6 from fun q => h6 ((nI_eq (b := 6) (by omega) (by decide)).mp q)), nm_ok, nm_ok, nm_ok, up_nc (show 105 ≠ 113 by decide), show y1.1 105 10 = nI T by rw [o1 105 (by decide)]; exact m0, gd_true (inb_nI (show T < 7 by omega) (by decide)), nm_ok, nI_clamp (show T < 2 ^ 31 by omega), up_nc (show 105 ≠ 110 by decide), up_nc (show 105 ≠ 113 by decide), show y1.1 105 10 = nI T by rw [o1 105 (by decide)]; exact m0, gd_true (inb_nI (show T < 7 by omega) (by decide)), nm_ok, nI_clamp (show T < 2 ^ 31 by omega)]
            rw [← o1 113 (by decide)] at k2
            exact k2
      · refine ⟨-3, w, w, ?_, ?_, T, W, cl, kd, hi0⟩
        · unfold f_X7_oneMore b_X7_oneMore_0
          rw [hasWalker_yes x1 hW hg, bd_ok, if_neg (show ¬ (1 : Int32) = 0 by decide), if_neg hl1, if_pos hu.2, isFree_yes x1 hW hg, if_neg (show ¬ w.1 (18 + 3) g = -9 from h9), bd_ok, if_pos rfl]
        · unfold f_X8_oneMore b_X8_oneMore_0
          rw [mIsWalker_yes m1 hW hg, bd_ok, if_neg (show ¬ (1 : Int32) = 0 by decide), hin, if_pos hu, bd_ok, if_neg (show ¬ (1 : Int32) = 0 by decide), lit_add 8 (b := 8) rfl, gd_true (inb_nI (show 8 + g < 72 by omega) (by decide)), nI_clamp (show 8 + g < 2 ^ 31 by omega), ← e8, if_neg h9]
    · refine ⟨-2, w, w, ?_, ?_, T, W, cl, kd, hi0⟩
      · unfold f_X7_oneMore b_X7_oneMore_0
        rw [hasWalker_yes x1 hW hg, bd_ok, if_neg (show ¬ (1 : Int32) = 0 by decide)]
        by_cases h1 : u < 1
        · rw [if_pos h1]
        · rw [if_neg h1, if_neg (fun z => hu ⟨by rw [i_le]; rw [i_lt] at h1; omega, z⟩)]
      · unfold f_X8_oneMore b_X8_oneMore_0
        rw [mIsWalker_yes m1 hW hg, bd_ok, if_neg (show ¬ (1 : Int32) = 0 by decide), hin, if_neg hu, bd_ok, if_pos rfl]
