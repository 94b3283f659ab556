theorem dangerFor_v {w : Wd} {T W g : Nat} {cl kd : Nat → Nat} (hp : PlanR w T W cl kd) (hg : g < W) (hn : NowR w T W) : ∃ dv, f_X7_dangerFor w (nI g) = some (dv, w) ∧ ∀ c, c < 12 → (Dg w T cl g c ↔ bt (w.1 11 2) c = true ∨ bt dv c = true) := by
  have hp0 := hp
  obtain ⟨hT, hW, x0, m0, x1, m1, hs9, hs2, hc, hci, hsd, hkd, hwi, hwz, hsh, hsn, hne, hgg⟩ := hp
  obtain ⟨⟨b1, b2, b3, b4, b5, b6, b7⟩, ⟨n1, n2, n3, n4, n5⟩, n6, n7⟩ := hn
  unfold f_X7_dangerFor b_X7_dangerFor_0
  rw [hasWalker_yes x1 hW hg, bd_ok, if_neg (show ¬ (1 : Int32) = 0 by decide), gd_true (inb_nI (show g < 4 by omega) (by decide)), nm_ok, nI_clamp (by omega)]
  rcases side_or hp0 hg with ⟨h17, h9⟩ | ⟨s, hss, h17, hsg⟩
  · rw [h17, isSide_no (Or.inl (by decide)), bd_ok, if_pos rfl]
    refine ⟨0, rfl, fun c hc9 => ?_⟩
    rw [b_0]
    constructor
    · rintro (q | ⟨u, -, q, -⟩)
      · exact Or.inl q
      · exact absurd q (KD.no9 h9)
    · rintro (q | q)
      · exact Or.inl q
      · cases q
  · rw [h17, isSide_yes hss, bd_ok, if_neg (show ¬ (1 : Int32) = 0 by decide), gd_true (inb_nI (show s < 2 by omega) (by decide)), nI_clamp (by omega)]
    obtain ⟨r, er, hr⟩ := cellsOf_v (p := 11) (v := (w.1 19 s &&& w.1 18 1) &&& (w.1 11 3 ^^^ (-1))) (cl := cl) x0 hT (fun t ht => ⟨(hc t ht).1, (hc t ht).2.2⟩)
    rw [er, bd_ok]
    refine ⟨r, rfl, fun c hc9 => ?_⟩
    have ek : w.1 19 s = w.1 113 (2 + s) := by
      rcases (show s = 0 ∨ s = 1 by omega) with rfl | rfl
      · exact n3
      · exact n4
    have ea : w.1 18 1 = w.1 113 0 := n1
    rw [hr c (by omega)]
    unfold Dg
    refine or_congr_right ⟨?_, ?_⟩
    · rintro ⟨u, u1, u2, u3⟩
      refine ⟨u, u1, ?_, u3⟩
      obtain ⟨k1, k2, k3⟩ := (KD.at hss hsg).mp u2
      rw [b_and, b_and, b_not _ (by omega), ek, ea, k1, k2]
      cases hb : bt (w.1 11 3) u
      · rfl
      · exact absurd (by rw [(hkd u u1).2.1, ((hsh u).mp hb).2]; rfl) k3
    · rintro ⟨u, u1, u2, u3⟩
      refine ⟨u, u1, ?_, u3⟩
      rw [b_and, b_and, b_not _ (by omega), ek, ea, Bool.and_eq_true, Bool.and_eq_true] at u2
      refine (KD.at hss hsg).mpr ⟨u2.1.1, u2.1.2, fun z => ?_⟩
      have h3 : kd u = 3 := by
        rw [(hkd u u1).2.1] at z
        exact (nI_eq (b := 3) (by have := (hkd u u1).2.2; omega) (by omega)).mp z
      rw [(hsh u).mpr ⟨u1, h3⟩] at u2
      cases u2.2
theorem isDanger_v {w : Wd} {T W g c : Nat} {cl kd : Nat → Nat} (hp : PlanR w T W cl kd) (hg : g < W) (hc12 : c < 12) : ∃ r, f_X8_isDanger w (nI g) (nI c) = some (r, w) ∧ (r = 0 ↔ ¬ ∃ u, u < T ∧ KD w g u ∧ cl u = c) := by
  have hp0 := hp
  obtain ⟨hT, hW, x0, m0, x1, m1, hs9, hs2, hc, hci, hsd, hkd, hwi, hwz, hsh, hsn, hne, hgg⟩ := hp
  unfold f_X8_isDanger b_X8_isDanger_0
  rw [m0]
  by_cases he : ∃ u, u < T ∧ cl u = c
  · obtain ⟨u, hu, huc⟩ := he
    have huq : (∃ v, v < T ∧ KD w g v ∧ cl v = c) ↔ KD w g u := by
      constructor
      · rintro ⟨v, v1, v2, v3⟩
        rw [hci u v hu v1 (huc.trans v3.symm)]
        exact v2
      · intro z
        exact ⟨u, hu, z, huc⟩
    rw [trapAt_yes (m := T) (t := u) (by omega) hu (by rw [(hc u hu).2.1, huc]) (fun v hv hvc => by
      rw [(hc v hv).2.1] at hvc
      exact hci v u hv hu (((nI_eq (by have := (hc v hv).2.2; omega) (by omega)).mp hvc).trans huc.symm)), bd_ok, if_neg (nI_ne9 (by omega)), huq]
    simp only [gd_true (inb_nI (show g < 4 by omega) (by decide)), nI_clamp (show g < 2 ^ 31 by omega)]
    rcases side_or hp0 hg with ⟨h17, h9⟩ | ⟨s, hss, h17, hsg⟩
    · rw [if_pos h9]
      exact ⟨0, rfl, fun _ => KD.no9 h9, fun _ => rfl⟩
    · rw [hsg, if_neg (nI_ne9 (by omega)), lit_add 2 (b := 2) rfl]
      simp only [gd_true (inb_nI (show 2 + s < 72 by omega) (by decide)), nI_clamp (show 2 + s < 2 ^ 31 by omega), gd_true (inb_nI (show u < 7 by omega) (by decide)), nI_clamp (show u < 2 ^ 31 by omega), KD.at hss hsg]
      rw [show ((0 : Int32)).toNatClampNeg = 0 from rfl]
      by_cases k1 : bt (w.1 113 (2 + s)) u = true
      · rw [if_pos ((tb1 _ (by omega)).mpr k1)]
        by_cases k2 : bt (w.1 113 0) u = true
        · rw [if_pos ((tb1 _ (by omega)).mpr k2)]
          by_cases k3 : w.1 110 u = 3
          · rw [if_pos k3]
            exact ⟨0, rfl, fun _ z => z.2.2 k3, fun _ => rfl⟩
          · rw [if_neg k3]
            exact ⟨1, rfl, fun z => absurd z (by decide), fun z => absurd ⟨k1, k2, k3⟩ z⟩
        · rw [if_neg (fun z => k2 ((tb1 _ (by omega)).mp z))]
          exact ⟨0, rfl, fun _ z => k2 z.2.1, fun _ => rfl⟩
      · rw [if_neg (fun z => k1 ((tb1 _ (by omega)).mp z))]
        exact ⟨0, rfl, fun _ z => k1 z.1, fun _ => rfl⟩
  · rw [trapAt_no (m := T) (by omega) (fun v hv hvc => he ⟨v, hv, by
      rw [(hc v hv).2.1] at hvc
      exact (nI_eq (by have := (hc v hv).2.2; omega) (by omega)).mp hvc⟩), bd_ok, if_pos rfl]
    exact ⟨0, rfl, fun _ z => he (by obtain ⟨u, u1, -, u3⟩ := z; exact ⟨u, u1, u3⟩), fun _ => rfl⟩
/-! both measures are one -/
theorem left_n {D : Nat → Prop} {st go n c : Nat} (h : LeftOK D st go (nI n) c) (hn : n < 12) : Fqw D st go n c ∧ ∀ m, m < n → ¬ Fqw D st go m c := by
  rcases h with ⟨k, k1, k2, k3⟩ | ⟨h, -⟩
  · have : n = k := (nI_eq (by omega) (by omega)).mp k2
    subst this
    exact k3
  · exact absurd h (nI_ne9 (by omega))
theorem left_of {D : Nat → Prop} {st go n c : Nat} {x : Int32} (h : LeftOK D st go x c) (h1 : Fqw D st go n c) (h2 : ∀ m, m < n → ¬ Fqw D st go m c) : x = nI n := by
  rcases h with ⟨k, k1, k2, k3, k4⟩ | ⟨-, h⟩
  · rcases Nat.lt_trichotomy k n with z | z | z
    · exact absurd k3 (h2 k z)
    · rw [← z]; exact k2
    · exact absurd h1 (k4 n z)
  · exact absurd h1 (h n)
theorem far_st {D : Nat → Prop} {st go : Nat} {x : Int32} {F : Nat → Nat} (hst : st < 12) (hL : LeftOK D st go x st) (hS : F st = 99 ∨ Fpw D st go (F st) st) (hC : ∀ m, m ≤ 12 → Fpw D st go m st → F st ≤ m) : (∃ n, n < 12 ∧ x = nI n ∧ F st = n) ∨ (x = -9 ∧ F st = 99) := by
  have ho : Fow D st st := ⟨hst, Or.inr rfl⟩
  rcases hL with ⟨n, n12, hx, hq, hmin⟩ | ⟨hx, hno⟩
  · refine Or.inl ⟨n, n12, hx, ?_⟩
    have hp : Fpw D st go n st := (Fqp hq).elim id (fun ⟨m, hm, q⟩ => absurd q (hmin m hm))
    have h1 := hC n (by omega) hp
    rcases hS with q | q
    · omega
    · have q2 := Fpq ho q
      rcases Nat.lt_or_ge (F st) n with z | z
      · exact absurd q2 (hmin _ z)
      · omega
  · exact Or.inr ⟨hx, hS.resolve_right (fun q => hno _ (Fpq ho q))⟩
theorem far_nx {D : Nat → Prop} {st go N m here c : Nat} {L : Nat → Int32} {F : Nat → Nat} (hL : ∀ c, c < 12 → LeftOK D st go (L c) c) (hS : ∀ c, c < 12 → F c = 99 ∨ Fpw D st go (F c) c) (hC : ∀ m, m ≤ 12 → ∀ c, c < 12 → Fpw D st go m c → F c ≤ m) (hst : st < 12) (hN : N < 12) (hLs : L st = nI N) (hm : m < N) (hh : here < 12) (hLh : L here = nI (m + 1)) (hc : c < 12) (hb : bt (aro here) c = true) : L c = nI m ↔ (¬ D c ∧ F c = m) := by
  obtain ⟨s1, s2⟩ := left_n (by rw [← hLs]; exact hL st hst) hN
  obtain ⟨h1, h2⟩ := left_n (by rw [← hLh]; exact hL here hh) (by omega)
  constructor
  · intro z
    obtain ⟨c1, c2⟩ := left_n (by rw [← z]; exact hL c hc) (by omega)
    have hnst : c ≠ st := fun e => by
      rw [e, hLs] at z
      have := (nI_eq (by omega) (by omega)).mp z
      omega
    have hO := (Fqw.o c1).2.resolve_right hnst
    have hp : Fpw D st go m c := (Fqp c1).elim id (fun ⟨k, hk, q⟩ => absurd q (s2 k (by omega)))
    refine ⟨hO, ?_⟩
    have q1 := hC m (by omega) c hc hp
    rcases hS c hc with q | q
    · omega
    · have q2 := Fpq ⟨hc, Or.inl hO⟩ q
      rcases Nat.lt_or_ge (F c) m with z2 | z2
      · exact absurd q2 (c2 _ z2)
      · omega
  · rintro ⟨z1, z2⟩
    have hp : Fpw D st go m c := by
      rcases hS c hc with q | q
      · omega
      · rw [← z2]; exact q
    exact left_of (hL c hc) (Fpq ⟨hc, Or.inl z1⟩ hp) (fun k hk q => h2 (k + 1) (by omega) ⟨Fqw.o h1, c, hc, hb, q⟩)
theorem far_ex {D : Nat → Prop} {st go m here : Nat} {L : Nat → Int32} (hL : ∀ c, c < 12 → LeftOK D st go (L c) c) (hm : m + 1 < 12) (hh : here < 12) (hLh : L here = nI (m + 1)) : ∃ c, c < 12 ∧ bt (aro here) c = true ∧ L c = nI m := by
  obtain ⟨h1, h2⟩ := left_n (by rw [← hLh]; exact hL here hh) (by omega)
  obtain ⟨ho, d, d1, d2, d3⟩ := h1
  exact ⟨d, d1, d2, left_of (hL d d1) d3 (fun k hk q => h2 (k + 1) (by omega) ⟨ho, d, d1, d2, q⟩)⟩
theorem stepsFrom_v {w : Wd} {c : Nat} (h : c < 12) : f_X6_stepsFrom w (nI c) = some (w.1 93 c, w) := by
  unfold f_X6_stepsFrom b_X6_stepsFrom_0
  rw [isCell_yes h, bd_ok, if_neg (show ¬ (1 : Int32) = 0 by decide), gd_true (inb_nI h (by decide)), nI_clamp (by omega)]
theorem nextFrom_v {w : Wd} {here m c : Nat} (hh : here < 12) (hl : w.1 93 here = nI (m + 1)) (hm : m < 12) (hc : c < 12) (hb : bt (aro here) c = true) (hlc : w.1 93 c = nI m) (hmin : ∀ d, d < c → ¬ (bt (aro here) d = true ∧ w.1 93 d = nI m)) : f_X6_nextFrom w (nI here) = some (nI c, w) := by
  unfold f_X6_nextFrom b_X6_nextFrom_0
  rw [neighbours_v hh, bd_ok, stepsFrom_v hh, bd_ok, hl]
  have key : ∀ (n t : Nat), 12 - t < n → t ≤ c → b_X6_nextFrom_14 n w (aro here) (nI (m + 1)) (nI t) = some (nI c, w) := by
    intro n
    induction n with
    | zero => intro t h; omega
    | succ n ih =>
      intro t hn ht
      rw [b_X6_nextFrom_14, if_neg (show ¬ (12 : Int32) ≤ nI t from nI_ge (b := 12) (by omega) (by decide))]
      have e1 : nI (m + 1) - 1 = nI m := nI_pred m
      simp only [gd_true (inb_nI (show t < 12 by omega) (by decide)), nI_clamp (show t < 2 ^ 31 by omega), e1]
      unfold b_X6_nextFrom_58
      simp only [nm_ok, nI_1]
      by_cases h : t = c
      · subst h
        rw [if_neg (fun z => by rw [tb0 _ (by omega), hb] at z; cases z), hlc, if_neg (nI_ne9 (by omega)), if_pos rfl]
      · have ih' := ih (t + 1) (by omega) (by omega)
        by_cases hb2 : bt (aro here) t = true
        · rw [if_neg (fun z => by rw [tb0 _ (by omega), hb2] at z; cases z)]
          by_cases h9 : w.1 93 t = -9
          · rw [if_pos h9]; exact ih'
          · rw [if_neg h9, if_neg (fun z => hmin t (by omega) ⟨hb2, z⟩)]; exact ih'
        · rw [if_pos ((tb0 _ (by omega)).mpr (by simpa using hb2))]; exact ih'
  exact key LF 0 (by unfold LF; omega) (by omega)
theorem safeAt62 {w : Wd} {T W g here c m N k : Nat} {cl kd : Nat → Nat} {F : Nat → Nat} {v3 : Int32} {kb53 : Wd → Int32 → Int32 → Int32 → Int32 → Int32 → Option (Int32 × Wd)} (hp : PlanR w T W cl kd) (hg : g < W) (hh : here < 12) (hF : ∀ c, c < 12 → w.1 116 c = nI (F c) ∧ F c ≤ 99) (hN : N < 12) (hk : m + 1 + k = N) (hc : c < 12) (hb : bt (aro here) c = true) (hD : ¬ Dg w T cl g c) (hFc : F c = m) (hmin : ∀ d, d < c → ¬ (bt (aro here) d = true ∧ ¬ Dg w T cl g d ∧ F d = m)) : ∀ (n t : Nat), 12 - t < n → t ≤ c → b_X8_safeAt_62 kb53 n w (nI g) v3 (nI N) (nI here) (nI k) (nI t) = kb53 w (nI g) v3 (nI N) (nI c) (nI (k + 1)) := by
  have hs9 : w.1 11 2 = w.1 105 12 := hp.2.2.2.2.2.2.1
  have em : (nI N - 1) - nI k = nI m := by
    rw [show nI N - 1 = nI (N - 1) from nI_subn (b := 1) (by omega), nI_subn (by omega)]
    congr 1
    omega
  intro n
  induction n with
  | zero => intro t h; omega
  | succ n ih =>
    intro t hn ht
    rw [b_X8_safeAt_62, mNearTo_v hh, bd_ok, em, ← hs9]
    obtain ⟨r, er, hr⟩ := isDanger_v (c := t) hp hg (by omega)
    simp only [gd_true (inb_nI (show t < 12 by omega) (by decide)), nI_clamp (show t < 2 ^ 31 by omega), er, bd_ok]
    unfold b_X8_safeAt_103
    simp only [nm_ok, nI_1]
    rw [(hF t (by omega)).1]
    have hnb : bt (aro here &&& (w.1 11 2 ^^^ (-1))) t = true ↔ bt (aro here) t = true ∧ ¬ bt (w.1 11 2) t = true := by
      rw [b_and, b_not _ (by omega), Bool.and_eq_true]
      cases bt (w.1 11 2) t <;> simp
    by_cases h : t = c
    · subst h
      have h1 : ¬ bt (w.1 11 2) t = true := fun z => hD (Or.inl z)
      have h2 : r = 0 := hr.mpr (fun z => hD (Or.inr z))
      rw [if_neg (fun z => by rw [tb0 _ (by omega), hnb.mpr ⟨hb, h1⟩] at z; cases z), if_pos (show nI (F t) = nI m by rw [hFc]), if_pos h2]
    · have ih' := ih (t + 1) (by omega) (by omega)
      by_cases h1 : bt (aro here &&& (w.1 11 2 ^^^ (-1))) t = true
      · rw [if_neg (fun z => by rw [tb0 _ (by omega), h1] at z; cases z)]
        by_cases h2 : F t = m
        · rw [if_pos (show nI (F t) = nI m by rw [h2])]
          have h3 : ¬ r = 0 := fun z => hmin t (by omega) ⟨(hnb.mp h1).1, fun q => q.elim (hnb.mp h1).2 (hr.mp z), h2⟩
          rw [if_neg h3]; exact ih'
        · rw [if_neg (show ¬ nI (F t) = nI m from fun z => h2 ((nI_eq (by have := (hF t (by omega)).2; omega) (by omega)).mp z))]; exact ih'
      · rw [if_pos ((tb0 _ (by omega)).mpr (by simpa using h1))]; exact ih'
/-- both measure, from one memory -/
theorem way_both {w : Wd} {T W g st go : Nat} {cl kd : Nat → Nat} (hi : InvT w T W cl kd) (hg : g < W) (hst : st < 12) (hgo : go < 12) (hat : w.1 20 g = nI st) : ∃ dv w1 w2 F, f_X7_dangerFor w (nI g) = some (dv, w) ∧ f_X6_measure w (nI st) (nI go) dv = some w1 ∧ Only (fun k _ => k = 93) w w1 ∧ (∀ c, c < 12 → LeftOK (Dg w T cl g) st go (w1.1 93 c) c) ∧ f_X8_layFar w1 (nI g) (nI go) = some w2 ∧ Only (fun k _ => k = 116) w1 w2 ∧ FarS (Dg w T cl g) st go w2 F ∧ (∀ m, m ≤ 12 → ∀ c, c < 12 → Fpw (Dg w T cl g) st go m c → F c ≤ m) ∧ InvT w1 T W cl kd ∧ InvT w2 T W cl kd ∧ Dg w2 T cl g = Dg w T cl g := by
  have hi0 := hi
  obtain ⟨a1, a2, a3, a4, a5, a6⟩ := hi
  obtain ⟨dv, e1, hD⟩ := dangerFor_v a1 hg a3
  obtain ⟨w1, e2, o1, hL⟩ := measure_v (w := w) (D := Dg w T cl g) (dv := dv) hst hgo hD
  have i1 : InvT w1 T W cl kd := hi0.fr (o1.wd (fun k j h => by unfold Scr; omega))
  have f1 : ∀ k, k ≠ 93 → w1.1 k = w.1 k := fun k hk => funext fun j => o1.1 k j hk
  have d1 : Dg w1 T cl g = Dg w T cl g := by
    funext c
    unfold Dg KD
    rw [f1 11 (by decide), f1 112 (by decide), f1 113 (by decide), f1 110 (by decide)]
  have hat1 : w1.1 113 (4 + g) = nI st := by
    rw [f1 113 (by decide), ← hat]
    have := (a3.2.1.2.2.2.2 g hg).1
    rw [Nat.zero_add] at this
    exact this.symm
  obtain ⟨w2, F, e3, o2, hS, hC⟩ := layFar_v i1.1 hg hst hgo hat1
  have f2 : ∀ k, k ≠ 116 → w2.1 k = w1.1 k := fun k hk => funext fun j => o2.1 k j hk
  have d2 : Dg w2 T cl g = Dg w1 T cl g := by
    funext c
    unfold Dg KD
    rw [f2 11 (by decide), f2 112 (by decide), f2 113 (by decide), f2 110 (by decide)]
  rw [d1] at hS hC
  exact ⟨dv, w1, w2, F, e1, e2, o1, hL, e3, o2, hS, hC, i1, i1.fr (o2.wd (fun k j h => by unfold Scr; omega)), d2.trans d1⟩
