/-! ===== wood: the class's new scene, the reference's copy ===== -/
theorem begin_97 {x : Wd} : ∀ (n g : Nat) (v : Wd), 4 - g < n → g ≤ 4 → v.1 16 = x.1 16 → ∃ v', b_X3_begin_97 18 n v (nI g) = some v' ∧ Only (fun k _ => k = 20 ∨ k = 21) v v' ∧ (∀ h, g ≤ h → h < 4 → v'.1 20 h = x.1 16 h ∧ v'.1 21 h = -9) ∧ ∀ h, h < g → v'.1 20 h = v.1 20 h ∧ v'.1 21 h = v.1 21 h := by
  intro n
  induction n with
  | zero => intro g v h; omega
  | succ n ih =>
    intro g v hn hg hx
    rw [b_X3_begin_97]
    by_cases h : g = 4
    · subst h
      rw [if_pos (by decide)]
      exact ⟨v, rfl, Only.rf, fun h h1 h2 => by omega, fun h _ => ⟨rfl, rfl⟩⟩
    · have ig : inb (nI g) 4 = true := inb_nI (show g < 4 by omega) (by decide)
      rw [if_neg (show ¬ (4 : Int32) ≤ nI g from nI_ge (b := 4) (by omega) (by decide)), gd_true ig, gd_true ig, nI_clamp (by omega), nm_ok, gd_true ig, nm_ok, nm_ok, nI_1, hx]
      obtain ⟨v', e, o, h1, h2⟩ := ih (g + 1) (up (up v (18 + 2) g (x.1 16 g)) (18 + 3) g (-9)) (by omega) (by omega) (by rw [up_nc (by decide), up_nc (by decide)]; exact hx)
      refine ⟨v', e, ((Only.rf.up (Or.inl rfl)).up (Or.inr rfl)).tr o, fun k k1 k2 => ?_, fun k k1 => ?_⟩
      · by_cases hk : k = g
        · subst hk
          rw [(h2 k (by omega)).1, (h2 k (by omega)).2]
          exact ⟨by rw [up_nc (by decide)]; exact up_eq, up_eq⟩
        · exact h1 k (by omega) k2
      · rw [(h2 k (by omega)).1, (h2 k (by omega)).2, up_nc (by decide)]
        exact ⟨up_ns (by omega), by rw [show (21 : Nat) = 18 + 3 from rfl, up_ns (by omega), up_nc (by decide)]⟩
theorem begin_37 {kb : Wd → Int32 → Option Wd} {x : Wd} {T s : Nat} (hT : x.1 11 0 = nI T) (h6 : T ≤ 6) (hs : s < 2) : ∀ (n t : Nat) (v : Wd), T - t < n → t ≤ T → (∀ k, k ≤ 17 → v.1 k = x.1 k) → v.1 19 s = mk (fun t => decide (x.1 13 t = nI s)) t → ∃ v', b_X3_begin_37 kb 18 n v (nI s) (nI t) = kb v' (nI (s + 1)) ∧ Only (fun k j => k = 19 ∧ j = s) v v' ∧ v'.1 19 s = mk (fun t => decide (x.1 13 t = nI s)) T := by
  intro n
  induction n with
  | zero => intro t v h; omega
  | succ n ih =>
    intro t v hn ht hx hm
    rw [b_X3_begin_37]
    unfold b_X3_begin_89
    by_cases h : t = T
    · subst h
      refine ⟨v, ?_, Only.rf, hm⟩
      by_cases h9 : (6 : Int32) ≤ nI t
      · rw [if_pos h9, nm_ok, nI_1]
      · rw [if_neg h9, hx 11 (by decide), hT, if_pos (nI_le (Nat.le_refl t) (by omega)), nm_ok, nI_1]
    · have hlt : t < T := by omega
      have is : inb (nI s) 2 = true := inb_nI hs (by decide)
      rw [if_neg (show ¬ (6 : Int32) ≤ nI t from nI_ge (b := 6) (by omega) (by decide)), hx 11 (by decide), hT, if_neg (nI_ge hlt (by omega)), gd_true is, gd_true (inb_nI (show t < 6 by omega) (by decide)), nI_clamp (by omega), nI_clamp (show s < 2 ^ 31 by omega), hx 13 (by decide)]
      unfold b_X3_begin_81
      simp only [gd_true is, nm_ok, nI_1, nI_clamp (show s < 2 ^ 31 by omega)]
      have e9 : v.1 (18 + 1) s = v.1 19 s := rfl
      by_cases hq : x.1 13 t = nI s
      · rw [if_pos hq]
        obtain ⟨v', e, o, h1⟩ := ih (t + 1) (up v (18 + 1) s (v.1 (18 + 1) s ||| (1 : Int32) <<< (nI t &&& 31))) (by omega) (by omega) (fun k hk => by rw [up_nc (by omega)]; exact hx k hk) (by
          rw [mk, decide_eq_true hq, if_pos rfl, ← hm]; exact up_eq)
        exact ⟨v', e, (Only.rf.up ⟨rfl, rfl⟩).tr o, h1⟩
      · rw [if_neg hq]
        obtain ⟨v', e, o, h1⟩ := ih (t + 1) (up v (18 + 1) s (v.1 (18 + 1) s ||| 0)) (by omega) (by omega) (fun k hk => by rw [up_nc (by omega)]; exact hx k hk) (by
          rw [mk, decide_eq_false hq, if_neg (by decide), ← hm]; exact up_eq)
        exact ⟨v', e, (Only.rf.up ⟨rfl, rfl⟩).tr o, h1⟩
theorem begin_v {x : Wd} {T : Nat} (hT : x.1 11 0 = nI T) (h6 : T ≤ 6) : ∃ x', f_X3_begin 18 x = some x' ∧ Only (fun k _ => 18 ≤ k ∧ k ≤ 21) x x' ∧ x'.1 18 1 = ((1 : Int32) <<< (nI T &&& 31)) - 1 ∧ x'.1 18 2 = 0 ∧ x'.1 18 3 = 0 ∧ (∀ s, s < 2 → x'.1 19 s = mk (fun t => decide (x.1 13 t = nI s)) T) ∧ ∀ g, g < 4 → x'.1 20 g = x.1 16 g ∧ x'.1 21 g = -9 := by
  have key : ∀ (n s : Nat) (v : Wd), 2 - s < n → s ≤ 2 → (∀ k, k ≤ 17 → v.1 k = x.1 k) → ∃ v', b_X3_begin_23 18 n v (nI s) = some v' ∧ Only (fun k j => (k = 19 ∧ s ≤ j) ∨ k = 20 ∨ k = 21) v v' ∧ (∀ u, s ≤ u → u < 2 → v'.1 19 u = mk (fun t => decide (x.1 13 t = nI u)) T) ∧ ∀ g, g < 4 → v'.1 20 g = x.1 16 g ∧ v'.1 21 g = -9 := by
    intro n
    induction n with
    | zero => intro s v h; omega
    | succ n ih =>
      intro s v hn hs hx
      rw [b_X3_begin_23]
      by_cases h : s = 2
      · subst h
        rw [if_pos (by decide), ← nI_0]
        obtain ⟨v', e, o, h1, -⟩ := begin_97 (x := x) LF 0 v (by unfold LF; omega) (by omega) (hx 16 (by decide))
        exact ⟨v', e, o.wd (fun k j z => Or.inr z), fun u u1 u2 => by omega, fun g hg => h1 g (by omega) hg⟩
      · have hs2 : s < 2 := by omega
        rw [if_neg (show ¬ (2 : Int32) ≤ nI s from nI_ge (b := 2) hs2 (by decide)), gd_true (inb_nI hs2 (by decide)), nI_clamp (by omega), nm_ok, ← nI_0]
        obtain ⟨v1, e1, o1, m1⟩ := begin_37 (kb := b_X3_begin_23 18 n) hT h6 hs2 LF 0 (up v (18 + 1) s (nI 0)) (by unfold LF; omega) (by omega) (fun k hk => by rw [up_nc (by omega)]; exact hx k hk) up_eq
        obtain ⟨v2, e2, o2, m2, m3⟩ := ih (s + 1) v1 (by omega) (by omega) (fun k hk => by
          refine funext fun j => ?_
          rw [o1.1 k j (by omega), up_nc (by omega), hx k hk])
        refine ⟨v2, by rw [e1]; exact e2, (Only.tr (Only.rf.up (Or.inl ⟨rfl, Nat.le_refl s⟩)) (o1.wd (fun k j z => Or.inl ⟨z.1, by omega⟩))).tr (o2.wd (fun k j z => ?_)), fun u u1 u2 => ?_, m3⟩
        · rcases z with ⟨z1, z2⟩ | z
          · exact Or.inl ⟨z1, by omega⟩
          · exact Or.inr z
        · by_cases hu : u = s
          · subst hu
            rw [o2.1 19 u (by omega)]
            exact m1
          · exact m2 u (by omega) u2
  unfold f_X3_begin b_X3_begin_0
  rw [allTraps_v hT, bd_ok, nm_ok, nm_ok, nm_ok, ← nI_0]
  obtain ⟨v', e, o, h1, h2⟩ := key LF 0 (up (up (up x 18 1 (((1 : Int32) <<< (nI T &&& 31)) - 1)) 18 2 (nI 0)) 18 3 (nI 0)) (by unfold LF; omega) (by omega) (fun k hk => by rw [up_nc (by omega), up_nc (by omega), up_nc (by omega)])
  refine ⟨v', e, (((Only.rf.up (by omega)).up (by omega)).up (by omega)).tr (o.wd (fun k j z => by omega)), ?_, ?_, ?_, fun s hs => h1 s (by omega) hs, h2⟩
  · rw [o.1 18 1 (by omega), up_ns (by decide), up_ns (by decide), up_eq]
  · rw [o.1 18 2 (by omega), up_ns (by decide), up_eq]
  · rw [o.1 18 3 (by omega), up_eq]
theorem wood_55 : ∀ (n s : Nat) (v : Wd), 2 - s < n → s ≤ 2 → ∃ v', b_X7_wood_55 n v (nI s) = some (((10 : Int32)) * (v.1 11 0) + (v.1 11 1), v') ∧ Only (fun k _ => k = 104) v v' ∧ (∀ k, s ≤ k → k < 2 → v'.1 104 k = 0) ∧ ∀ k, k < s → v'.1 104 k = v.1 104 k := by
  intro n
  induction n with
  | zero => intro s v h; omega
  | succ n ih =>
    intro s v hn hs
    rw [b_X7_wood_55]
    by_cases h : s = 2
    · subst h
      rw [if_pos (by decide)]
      exact ⟨v, rfl, Only.rf, fun k h1 h2 => by omega, fun k _ => rfl⟩
    · rw [if_neg (show ¬ (2 : Int32) ≤ nI s from nI_ge (b := 2) (by omega) (by decide)), gd_true (inb_nI (show s < 2 by omega) (by decide)), nI_clamp (by omega), nm_ok, nm_ok, nI_1]
      obtain ⟨v', e, o, h1, h2⟩ := ih (s + 1) (up v 104 s 0) (by omega) (by omega)
      rw [up_nc (by decide)] at e
      refine ⟨v', e, (Only.up (S := fun k _ => k = 104) Only.rf rfl).tr o, fun k k1 k2 => ?_, fun k k1 => ?_⟩
      · by_cases hk : k = s
        · subst hk
          rw [h2 k (by omega), up_eq]
        · exact h1 k (by omega) k2
      · rw [h2 k (by omega), up_ns (by omega)]
theorem mwood_175 {y : Wd} {T G : Nat} (h4 : G ≤ 4) : ∀ (n g : Nat) (v : Wd), 4 - g < n → g ≤ 4 → v.1 105 10 = nI T → v.1 105 11 = nI G → v.1 107 = y.1 107 → ∃ v', b_X8_wood_175 n v (nI g) = some (((10 : Int32)) * nI T + nI G, v') ∧ Only (fun k j => k = 112 ∨ (k = 113 ∧ 4 ≤ j ∧ j < 12) ∨ (k = 105 ∧ j = 19) ∨ k = 119) v v' ∧ (∀ h, g ≤ h → h < G → v'.1 113 (4 + h) = y.1 107 (2 * h) ∧ v'.1 113 (8 + h) = -9 ∧ v'.1 112 h = y.1 107 (2 * h + 1)) ∧ (∀ h, h < g → h < G → v'.1 113 (4 + h) = v.1 113 (4 + h) ∧ v'.1 113 (8 + h) = v.1 113 (8 + h) ∧ v'.1 112 h = v.1 112 h) ∧ v'.1 105 19 = 0 ∧ v'.1 119 0 = 0 ∧ v'.1 119 1 = 0 := by
  intro n
  induction n with
  | zero => intro g v h; omega
  | succ n ih =>
    intro g v hn hg h10 h11 h7
    rw [b_X8_wood_175]
    by_cases h : g = 4
    · subst h
      rw [if_pos (by decide), nm_ok, nm_ok, nm_ok]
      refine ⟨up (up (up v 105 19 0) 119 0 0) 119 1 0, ?_, ((Only.rf.up (by omega)).up (by omega)).up (by omega), fun k k1 k2 => by omega, fun k k1 k2 => ⟨?_, ?_, ?_⟩, ?_, ?_, up_eq⟩
      · rw [show ((0 : Int32)).toNatClampNeg = 0 from rfl, show ((1 : Int32)).toNatClampNeg = 1 from rfl, up_nc (by decide), up_nc (by decide), up_ns (by decide), up_ns (by decide), h10, h11]
      · rw [up_nc (by decide), up_nc (by decide), up_nc (by decide)]
      · rw [up_nc (by decide), up_nc (by decide), up_nc (by decide)]
      · rw [up_nc (by decide), up_nc (by decide), up_nc (by decide)]
      · rw [up_nc (by decide), up_nc (by decide), up_eq]
      · rw [up_ns (by decide), up_eq]
    · have hg4 : g < 4 := by omega
      rw [if_neg (show ¬ (4 : Int32) ≤ nI g from nI_ge (b := 4) hg4 (by decide)), h11, lit_add 4 (b := 4) rfl, m2n]
      unfold b_X8_wood_207 b_X8_wood_246
      simp only [lit_add 8 (b := 8) rfl, m2n, lit_add' 1 (b := 1) rfl, gd_true (inb_nI (show 4 + g < 72 by omega) (by decide)), gd_true (inb_nI (show 8 + g < 72 by omega) (by decide)), gd_true (inb_nI (show g < 4 by omega) (by decide)), gd_true (inb_nI (show 2 * g < 8 by omega) (by decide)), gd_true (inb_nI (show 2 * g + 1 < 8 by omega) (by decide)), nI_clamp (show 4 + g < 2 ^ 31 by omega), nI_clamp (show 8 + g < 2 ^ 31 by omega), nI_clamp (show g < 2 ^ 31 by omega), nI_clamp (show 2 * g < 2 ^ 31 by omega), nI_clamp (show 2 * g + 1 < 2 ^ 31 by omega), nm_ok, nI_1]
      have step : ∀ a b : Int32, (g < G → a = y.1 107 (2 * g) ∧ b = y.1 107 (2 * g + 1)) → ∃ v', b_X8_wood_175 n (up (up (up v 113 (4 + g) a) 113 (8 + g) (-9)) 112 g b) (nI (g + 1)) = some (((10 : Int32)) * nI T + nI G, v') ∧ Only (fun k j => k = 112 ∨ (k = 113 ∧ 4 ≤ j ∧ j < 12) ∨ (k = 105 ∧ j = 19) ∨ k = 119) v v' ∧ (∀ h, g ≤ h → h < G → v'.1 113 (4 + h) = y.1 107 (2 * h) ∧ v'.1 113 (8 + h) = -9 ∧ v'.1 112 h = y.1 107 (2 * h + 1)) ∧ (∀ h, h < g → h < G → v'.1 113 (4 + h) = v.1 113 (4 + h) ∧ v'.1 113 (8 + h) = v.1 113 (8 + h) ∧ v'.1 112 h = v.1 112 h) ∧ v'.1 105 19 = 0 ∧ v'.1 119 0 = 0 ∧ v'.1 119 1 = 0 := fun a b hab => by
        obtain ⟨v', e, o, q1, q2, q3⟩ := ih (g + 1) (up (up (up v 113 (4 + g) a) 113 (8 + g) (-9)) 112 g b) (by omega) (by omega) (by rw [up_nc (by decide), up_nc (by decide), up_nc (by decide)]; exact h10) (by rw [up_nc (by decide), up_nc (by decide), up_nc (by decide)]; exact h11) (by rw [up_nc (by decide), up_nc (by decide), up_nc (by decide)]; exact h7)
        refine ⟨v', e, (((Only.rf.up (by omega)).up (by omega)).up (by omega)).tr o, fun k k1 k2 => ?_, fun k k1 k2 => ?_, q3⟩
        · by_cases hk : k = g
          · subst hk
            obtain ⟨r1, r2, r3⟩ := q2 k (by omega) k2
            rw [r1, r2, r3]
            exact ⟨by rw [up_nc (by decide), up_ns (by omega), up_eq]; exact (hab k2).1, by rw [up_nc (by decide), up_eq], by rw [up_eq]; exact (hab k2).2⟩
          · exact q1 k (by omega) k2
        · obtain ⟨r1, r2, r3⟩ := q2 k (by omega) k2
          rw [r1, r2, r3]
          exact ⟨by rw [up_nc (by decide), up_ns (by omega), up_ns (by omega)], by rw [up_nc (by decide), up_ns (by omega), up_ns (by omega)], by rw [up_ns (by omega), up_nc (by decide), up_nc (by decide)]⟩
      have e11 : ∀ a, (up (up v 113 (4 + g) a) 113 (8 + g) (-9)).1 105 11 = nI G := fun a => by rw [up_nc (by decide), up_nc (by decide)]; exact h11
      have e7 : ∀ a, (up (up v 113 (4 + g) a) 113 (8 + g) (-9)).1 107 = y.1 107 := fun a => by rw [up_nc (by decide), up_nc (by decide)]; exact h7
      simp only [e11, e7, h7]
      by_cases hgG : g < G
      · rw [if_neg (nI_ge hgG (by omega)), if_neg (nI_ge hgG (by omega))]
        exact step _ _ (fun _ => ⟨rfl, rfl⟩)
      · rw [if_pos (nI_le (by omega) (by omega)), if_pos (nI_le (by omega) (by omega))]
        exact step _ _ (fun z => absurd z hgG)
