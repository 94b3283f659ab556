theorem mwood_78 {y : Wd} {T : Nat} (h6 : T ≤ 6) (hs : ∀ t, t < T → y.1 106 (4 * t + 1) = 0 ∨ y.1 106 (4 * t + 1) = 1) : ∀ (n t : Nat) (v : Wd), T - t < n → t ≤ T → v.1 105 10 = nI T → v.1 106 = y.1 106 → (∀ s, s < 2 → v.1 113 (2 + s) = mk (fun t => decide (y.1 106 (4 * t + 1) = nI s)) t) → ∃ v', b_X8_wood_78 n v (nI t) = b_X8_wood_175 LF v' (nI 0) ∧ Only (fun k j => (108 ≤ k ∧ k ≤ 111) ∨ (k = 113 ∧ (j = 2 ∨ j = 3))) v v' ∧ (∀ u, t ≤ u → u < T → v'.1 108 u = y.1 106 (4 * u) ∧ v'.1 109 u = y.1 106 (4 * u + 1) ∧ v'.1 110 u = y.1 106 (4 * u + 2) ∧ v'.1 111 u = y.1 106 (4 * u + 3)) ∧ (∀ u, u < t → v'.1 108 u = v.1 108 u ∧ v'.1 109 u = v.1 109 u ∧ v'.1 110 u = v.1 110 u ∧ v'.1 111 u = v.1 111 u) ∧ ∀ s, s < 2 → v'.1 113 (2 + s) = mk (fun t => decide (y.1 106 (4 * t + 1) = nI s)) T := by
  intro n
  induction n with
  | zero => intro t v h; omega
  | succ n ih =>
    intro t v hn ht h10 h7 hm
    rw [b_X8_wood_78, h10]
    by_cases h : t = T
    · subst h
      rw [if_pos (nI_le (Nat.le_refl t) (by omega)), ← nI_0]
      exact ⟨v, rfl, Only.rf, fun u h1 h2 => by omega, fun u _ => ⟨rfl, rfl, rfl, rfl⟩, hm⟩
    · have hlt : t < T := by omega
      obtain ⟨s, hs2, es⟩ : ∃ s, s < 2 ∧ y.1 106 (4 * t + 1) = nI s := by
        rcases hs t hlt with q | q
        · exact ⟨0, by decide, q⟩
        · exact ⟨1, by decide, q⟩
      rw [if_neg (nI_ge hlt (by omega))]
      simp only [m4, lit_add' 1 (b := 1) rfl, lit_add' 2 (b := 2) rfl, lit_add' 3 (b := 3) rfl, gd_true (inb_nI (show 4 * t < 24 by omega) (by decide)), gd_true (inb_nI (show 4 * t + 1 < 24 by omega) (by decide)), gd_true (inb_nI (show 4 * t + 2 < 24 by omega) (by decide)), gd_true (inb_nI (show 4 * t + 3 < 24 by omega) (by decide)), gd_true (inb_nI (show t < 7 by omega) (by decide)), nI_clamp (show 4 * t < 2 ^ 31 by omega), nI_clamp (show 4 * t + 1 < 2 ^ 31 by omega), nI_clamp (show 4 * t + 2 < 2 ^ 31 by omega), nI_clamp (show 4 * t + 3 < 2 ^ 31 by omega), nI_clamp (show t < 2 ^ 31 by omega), nm_ok, nI_1, h7]
      have c1 : ∀ a, (up v 108 t a).1 106 = y.1 106 := fun a => by rw [up_nc (by decide)]; exact h7
      have c2 : ∀ a b, (up (up v 108 t a) 109 t b).1 106 = y.1 106 := fun a b => by rw [up_nc (by decide)]; exact c1 a
      have c3 : ∀ a b c, (up (up (up v 108 t a) 109 t b) 110 t c).1 106 = y.1 106 := fun a b c => by rw [up_nc (by decide)]; exact c2 a b
      have c4 : ∀ a b c d, (up (up (up (up v 108 t a) 109 t b) 110 t c) 111 t d).1 109 t = b := fun a b c d => by rw [up_nc (by decide), up_nc (by decide), up_eq]
      simp only [c1, c2, c3, c4, es, lit_add 2 (b := 2) rfl, gd_true (inb_nI (show 2 + s < 72 by omega) (by decide)), nI_clamp (show 2 + s < 2 ^ 31 by omega)]
      obtain ⟨w, hw⟩ : ∃ w, w = up (up (up (up v 108 t (y.1 106 (4 * t))) 109 t (nI s)) 110 t (y.1 106 (4 * t + 2))) 111 t (y.1 106 (4 * t + 3)) := ⟨_, rfl⟩
      rw [← hw]
      have w113 : w.1 113 = v.1 113 := by rw [hw, up_nc (by decide), up_nc (by decide), up_nc (by decide), up_nc (by decide)]
      have ow : Only (fun k j => (108 ≤ k ∧ k ≤ 111) ∨ (k = 113 ∧ (j = 2 ∨ j = 3))) v w := by rw [hw]; exact (((Only.rf.up (by omega)).up (by omega)).up (by omega)).up (by omega)
      obtain ⟨v', e, o, q1, q2, q3⟩ := ih (t + 1) (up w 113 (2 + s) (w.1 113 (2 + s) ||| (1 : Int32) <<< (nI t &&& 31))) (by omega) (by omega) (by rw [up_nc (by decide), hw, up_nc (by decide), up_nc (by decide), up_nc (by decide), up_nc (by decide)]; exact h10) (by rw [up_nc (by decide), hw, up_nc (by decide), up_nc (by decide), up_nc (by decide), up_nc (by decide)]; exact h7) (fun s' hs' => by
        rw [up_get, mk]
        rw [es]
        by_cases hss : s' = s
        · subst hss
          rw [if_pos ⟨rfl, rfl⟩, w113, hm s' hs', decide_eq_true rfl, if_pos rfl]
        · rw [if_neg (fun z => hss (by omega)), w113, hm s' hs', decide_eq_false (fun z => hss ((nI_eq (by omega) (by omega)).mp z).symm), if_neg (by decide)]
          exact (b_ext (fun i hi => by rw [b_or, b_0, Bool.or_false])).symm)
      have r : ∀ k, k ≠ 113 → (up w 113 (2 + s) (w.1 113 (2 + s) ||| (1 : Int32) <<< (nI t &&& 31))).1 k = w.1 k := fun k hk => up_nc hk
      refine ⟨v', e, (ow.up (by omega)).tr o, fun u u1 u2 => ?_, fun u u1 => ?_, q3⟩
      · by_cases hu : u = t
        · subst hu
          obtain ⟨r1, r2, r3, r4⟩ := q2 u (by omega)
          rw [r1, r2, r3, r4, r 108 (by decide), r 109 (by decide), r 110 (by decide), r 111 (by decide), hw]
          refine ⟨?_, ?_, ?_, up_eq⟩
          · rw [up_nc (by decide), up_nc (by decide), up_nc (by decide), up_eq]
          · rw [up_nc (by decide), up_nc (by decide), up_eq, es]
          · rw [up_nc (by decide), up_eq]
        · exact q1 u (by omega) u2
      · obtain ⟨r1, r2, r3, r4⟩ := q2 u (by omega)
        rw [r1, r2, r3, r4, r 108 (by decide), r 109 (by decide), r 110 (by decide), r 111 (by decide), hw]
        refine ⟨?_, ?_, ?_, ?_⟩
        · rw [up_nc (by decide), up_nc (by decide), up_nc (by decide), up_ns (by omega)]
        · rw [up_nc (by decide), up_nc (by decide), up_ns (by omega), up_nc (by decide)]
        · rw [up_nc (by decide), up_ns (by omega), up_nc (by decide), up_nc (by decide)]
        · rw [up_ns (by omega), up_nc (by decide), up_nc (by decide), up_nc (by decide)]
theorem s_wood : Step f_X7_wood f_X8_wood := by
  intro w hi
  obtain ⟨T0, W0, cl0, kd0, hi⟩ := hi
  obtain ⟨len, tx, htx, hty⟩ := hi.2.1.tx
  obtain ⟨r, x1, e1, o1, h1⟩ := read_two (p := 3) (Or.inl rfl) htx hty
  have hty1 : TX x1 105 16 114 len tx := hty.cong (o1.1 105 16 (by omega)) (funext fun j => o1.1 114 j (by omega))
  have htx1 : TX x1 1 1 2 len tx := htx.ox (Or.inl rfl) o1
  by_cases hr : r = -9
  · -- a wood
    obtain ⟨r2, x2, e2, o2, h2⟩ := read_two (p := 11) (Or.inr rfl) htx1 hty1
    have hT2 : ∃ T G cl kd st y', RdR 11 x2 y' T G cl kd st := by
      obtain ⟨y1, q1, -, -⟩ := h1 x1 hty1
      obtain ⟨y2, q2, -, q3⟩ := h2 x1 hty1
      rw [q1] at q2
      have hrr : r = r2 := congrArg Prod.fst (Option.some.inj q2)
      rcases q3 with ⟨f, hf, z⟩ | ⟨-, T, G, cl, kd, st, z⟩
      · exfalso
        have := htx.1
        exact nI_ne9 (i := f) (by omega) (by rw [← z, ← hrr]; exact hr)
      · exact ⟨T, G, cl, kd, st, y2, z⟩
    obtain ⟨T, G, cl9, kd9, st9, y9, hR0⟩ := hT2
    have h6 := hR0.1
    have hG4 := hR0.2.1
    have hT := hR0.2.2.1
    have hG := hR0.2.2.2.2.1
    obtain ⟨x3, e3, o3, n1, n2, n3, n4, n5⟩ := begin_v hT h6
    obtain ⟨x4, hx4⟩ : ∃ x4, x4 = up x3 26 2 0 := ⟨_, rfl⟩
    obtain ⟨xf, e5, o5, k1, -⟩ := wood_55 LF 0 x4 (by unfold LF; omega) (by omega)
    -- what the class leaves
    have oc : Only (fun k j => (18 ≤ k ∧ k ≤ 21) ∨ (k = 26 ∧ j = 2) ∨ k = 104) x2 xf := ((o3.wd (fun k j z => Or.inl z)).tr (by rw [hx4]; exact Only.rf.up (by omega))).tr (o5.wd (fun k j z => Or.inr (Or.inr z)))
    have hxf : ∀ k j, ¬ ((3 ≤ k ∧ k ≤ 21) ∨ (k = 26 ∧ j = 2) ∨ k = 104) → xf.1 k j = w.1 k j := fun k j z => by rw [oc.1 k j (by omega), o2.1 k j (by omega), o1.1 k j (by omega)]
    have htyf : TX xf 105 16 114 len tx := hty.cong (hxf 105 16 (by omega)) (funext fun j => hxf 114 j (by omega))
    obtain ⟨y', ey, oy, hy⟩ := h2 xf htyf
    obtain ⟨yb, eb, -, -⟩ := h1 xf htyf
    rw [eb] at ey
    have h9 := Option.some.inj ey
    have hrr : r = r2 := congrArg Prod.fst h9
    have hyy : yb = y' := congrArg Prod.snd h9
    subst hyy
    have hRx : ∃ T' G' cl kd st, RdR 11 x2 yb T' G' cl kd st := by
      rcases hy with ⟨f, hf, z⟩ | ⟨-, q⟩
      · exfalso
        have := htx.1
        exact nI_ne9 (i := f) (by omega) (by rw [← z, ← hrr]; exact hr)
      · exact q
    obtain ⟨T', G', cl, kd, st, hR⟩ := hRx
    obtain ⟨a1, a2, a3, a4, a5, a6, a7, a8, a9, b1, b2, b3, b4, b5, b6, b7, b8, b9, d1⟩ := hR
    have hTT : T' = T := by
      rw [hT] at a3
      exact ((nI_eq (by omega) (by omega)).mp a3).symm
    subst hTT
    -- the reference's copy
    obtain ⟨w8, hw8⟩ : ∃ w8, w8 = up (up (up (up yb 105 10 (nI T')) 105 11 (nI G')) 105 12 (yb.1 105 4)) 105 13 0 := ⟨_, rfl⟩
    obtain ⟨w12, hw12⟩ : ∃ w12, w12 = up (up (up (up w8 113 0 (((1 : Int32) <<< (nI T' &&& 31)) - 1)) 113 1 0) 113 2 0) 113 3 0 := ⟨_, rfl⟩
    have w8o : Only (fun k j => k = 105 ∧ 10 ≤ j ∧ j ≤ 13) yb w8 := by rw [hw8]; exact (((Only.rf.up (by omega)).up (by omega)).up (by omega)).up (by omega)
    have w12o : Only (fun k j => k = 113 ∧ j ≤ 3) w8 w12 := by rw [hw12]; exact (((Only.rf.up (by omega)).up (by omega)).up (by omega)).up (by omega)
    have w12_10 : w12.1 105 10 = nI T' := by rw [w12o.1 105 10 (by omega), hw8, up_ns (by decide), up_ns (by decide), up_ns (by decide), up_eq]
    have w12_11 : w12.1 105 11 = nI G' := by rw [w12o.1 105 11 (by omega), hw8, up_ns (by decide), up_ns (by decide), up_eq]
    have w12_12 : w12.1 105 12 = yb.1 105 4 := by rw [w12o.1 105 12 (by omega), hw8, up_ns (by decide), up_eq]
    have w12_13 : w12.1 105 13 = 0 := by rw [w12o.1 105 13 (by omega), hw8, up_eq]
    have w12_6 : w12.1 106 = yb.1 106 := funext fun j => by rw [w12o.1 106 j (by omega), w8o.1 106 j (by omega)]
    have w12_7 : w12.1 107 = yb.1 107 := funext fun j => by rw [w12o.1 107 j (by omega), w8o.1 107 j (by omega)]
    obtain ⟨v1, f1, p1, g1, -, g3⟩ := mwood_78 (y := yb) a1 (fun t ht => by rw [← (b2 t ht).1]; exact (b2 t ht).2) LF 0 w12 (by unfold LF; omega) (by omega) w12_10 w12_6 (fun s hs => by
      rw [mk, hw12]
      rcases (show s = 0 ∨ s = 1 by omega) with rfl | rfl
      · rw [up_ns (by decide), up_eq]
      · rw [up_eq])
    obtain ⟨z, f2, p2, g4, -, g6, g7, g8⟩ := mwood_175 (y := yb) (T := T') a2 LF 0 v1 (by unfold LF; omega) (by omega) (by rw [p1.1 105 10 (by omega)]; exact w12_10) (by rw [p1.1 105 11 (by omega)]; exact w12_11) (funext fun j => by rw [p1.1 107 j (by omega), w12_7])
    have oz : Only (fun k j => (k = 105 ∧ ((10 ≤ j ∧ j ≤ 13) ∨ j = 19)) ∨ (108 ≤ k ∧ k ≤ 112) ∨ (k = 113 ∧ j < 12) ∨ k = 119) yb z := (((w8o.wd (fun k j q => by omega)).tr (w12o.wd (fun k j q => by omega))).tr (p1.wd (fun k j q => by omega))).tr (p2.wd (fun k j q => by omega))
    have hz : ∀ k j, ¬ SM k j → ¬ ((k = 105 ∧ ((10 ≤ j ∧ j ≤ 13) ∨ j = 19)) ∨ (108 ≤ k ∧ k ≤ 112) ∨ (k = 113 ∧ j < 12) ∨ k = 119) → z.1 k j = xf.1 k j := fun k j q1 q2 => by rw [oz.1 k j q2, oy.1 k j q1]
    have nSM : ∀ k j, k < 105 → ¬ SM k j := fun k j q => by unfold SM; omega
    have zx : ∀ k j, k < 105 → z.1 k j = xf.1 k j := fun k j q => hz k j (nSM k j q) (by omega)
    have zp : ∀ k j, 11 ≤ k → k ≤ 17 → z.1 k j = x2.1 k j := fun k j q1 q2 => by rw [zx k j (by omega), oc.1 k j (by omega)]
    have zs : ∀ k j, 18 ≤ k → k ≤ 21 → z.1 k j = x3.1 k j := fun k j q1 q2 => by rw [zx k j (by omega), o5.1 k j (by omega), hx4, up_nc (by omega)]
    have z105 : ∀ j, 10 ≤ j → j ≤ 13 → z.1 105 j = w12.1 105 j := fun j q1 q2 => by rw [p2.1 105 j (by omega), p1.1 105 j (by omega)]
    have hGG : G' = G := by
      rw [hG] at a5
      exact ((nI_eq (by omega) (by omega)).mp a5).symm
    subst hGG
    refine ⟨(10 : Int32) * nI T' + nI G', xf, z, ?_, ?_, T', G', cl, kd, ?_, ?_, ?_, ?_, ⟨?_, ?_⟩, ?_⟩
    · unfold f_X7_wood b_X7_wood_0
      rw [e1, bd_ok, if_pos hr, e2, bd_ok, e3, bv_ok]
      unfold f_X0_forget b_X0_forget_0
      rw [nm_ok, bv_ok, ← hx4, ← nI_0, e5, hx4, up_nc (by decide), o3.1 11 0 (by omega), o3.1 11 1 (by omega), hT, hG]
    · unfold f_X8_wood b_X8_wood_0
      rw [eb, bd_ok, if_pos hr, a4, nm_ok, up_ns (by decide), a6, nm_ok, up_ns (by decide), up_ns (by decide), nm_ok, nm_ok, ← hw8, show w8.1 105 10 = nI T' by rw [hw8, up_ns (by decide), up_ns (by decide), up_ns (by decide), up_eq], show ((0 : Int32)).toNatClampNeg = 0 from rfl, show ((1 : Int32)).toNatClampNeg = 1 from rfl, show ((2 : Int32)).toNatClampNeg = 2 from rfl, show ((3 : Int32)).toNatClampNeg = 3 from rfl, nm_ok, nm_ok, nm_ok, nm_ok, ← hw12, ← nI_0, f1, f2]
    · -- the plan
      refine ⟨a1, a2, by rw [zp 11 0 (by omega) (by omega)]; exact a3, by rw [z105 10 (by omega) (by omega)]; exact w12_10, by rw [zp 11 1 (by omega) (by omega)]; exact a5, by rw [z105 11 (by omega) (by omega)]; exact w12_11, by rw [zp 11 2 (by omega) (by omega), z105 12 (by omega) (by omega), w12_12]; exact a7, by rw [zp 11 2 (by omega) (by omega)]; exact a8, fun t ht => ?_, b1, fun t ht => ?_, fun t ht => ?_, fun t ht => ?_, fun t q1 q2 => ?_, by rw [zp 11 3 (by omega) (by omega)]; exact b6, by rw [zp 11 4 (by omega) (by omega)]; exact b7, by rw [zp 11 5 (by omega) (by omega)]; exact b8, fun g hg => ?_⟩
      · rw [zp 12 t (by omega) (by omega), p2.1 108 t (by omega), (g1 t (by omega) ht).1]
        exact a9 t ht
      · rw [zp 13 t (by omega) (by omega), p2.1 109 t (by omega), (g1 t (by omega) ht).2.1]
        exact b2 t ht
      · rw [zp 14 t (by omega) (by omega), p2.1 110 t (by omega), (g1 t (by omega) ht).2.2.1]
        exact b3 t ht
      · rw [zp 15 t (by omega) (by omega), p2.1 111 t (by omega), (g1 t (by omega) ht).2.2.2]
        exact b4 t ht
      · rw [zp 15 t (by omega) (by omega)]
        exact b5 t q1 q2
      · rw [zp 17 g (by omega) (by omega), (g4 g (by omega) hg).2.2]
        exact d1 g hg
    · -- the text
      refine hi.2.1.fr ?_ (fun j => ?_) ?_ (fun j => ?_)
      · rw [zx 1 1 (by omega), hxf 1 1 (by omega)]
      · rw [zx 2 j (by omega), hxf 2 j (by omega)]
      · rw [hz 105 16 (by unfold SM; omega) (by omega), hxf 105 16 (by omega)]
      · rw [hz 114 j (by unfold SM; omega) (by omega), hxf 114 j (by omega)]
    · -- the scene
      have s0 : z.1 (18 + 1) 0 = mk (fun t => decide (x2.1 13 t = nI 0)) T' := by rw [zs (18 + 1) 0 (by omega) (by omega)]; exact n4 0 (by decide)
      have s1 : z.1 (18 + 1) 1 = mk (fun t => decide (x2.1 13 t = nI 1)) T' := by rw [zs (18 + 1) 1 (by omega) (by omega)]; exact n4 1 (by decide)
      have ms : ∀ s, mk (fun t => decide (yb.1 106 (4 * t + 1) = nI s)) T' = mk (fun t => decide (x2.1 13 t = nI s)) T' := fun s => mk_cong T' (fun t ht => by rw [show x2.1 13 t = yb.1 106 (4 * t + 1) from (b2 t ht).1])
      have at18 : ∀ g, g < G' → z.1 (18 + 2) g = x2.1 16 g := fun g hg => by rw [zs (18 + 2) g (by omega) (by omega)]; exact (n5 g (by omega)).1
      have by18 : ∀ g, g < G' → z.1 (18 + 3) g = -9 := fun g hg => by rw [zs (18 + 3) g (by omega) (by omega)]; exact (n5 g (by omega)).2
      have z0 : z.1 113 0 = ((1 : Int32) <<< (nI T' &&& 31)) - 1 := by rw [p2.1 113 0 (by omega), p1.1 113 0 (by omega), hw12, up_ns (by decide), up_ns (by decide), up_ns (by decide), up_eq]
      have z1 : z.1 113 1 = 0 := by rw [p2.1 113 1 (by omega), p1.1 113 1 (by omega), hw12, up_ns (by decide), up_ns (by decide), up_eq]
      have mb : ∀ q i, bt (mk q T') i = true → i < T' := fun q i hq => by
        rw [b_mk q T' (by omega) i (bt32 hq), Bool.and_eq_true] at hq
        exact of_decide_eq_true hq.1
      have n3' : z.1 18 3 = 0 := by rw [zs 18 3 (by omega) (by omega)]; exact n3
      refine ⟨⟨fun i hq => ?_, fun i hq => ?_, fun i hq => ?_, fun i hq => ?_, fun g hg => ?_, fun g hg => Or.inl (by18 g hg), Or.inl n3'⟩, ⟨?_, ?_, ?_, ?_, fun g hg => ⟨?_, ?_⟩⟩, ?_, Or.inl n3'⟩
      · rw [zs 18 1 (by omega) (by omega), n1, all_b a1] at hq
        exact of_decide_eq_true hq
      · rw [zs 18 2 (by omega) (by omega), n2, b_0] at hq
        cases hq
      · rw [s0] at hq
        exact mb _ i hq
      · rw [s1] at hq
        exact mb _ i hq
      · exact ⟨st g, (b9 g hg).2.2, by rw [at18 g hg]; exact (b9 g hg).1⟩
      · rw [zs 18 1 (by omega) (by omega), n1, z0]
      · rw [zs 18 2 (by omega) (by omega), n2]
        exact z1.symm
      · rw [s0, ← ms 0, p2.1 113 (0 + 2) (by omega)]
        exact (g3 0 (by decide)).symm
      · rw [s1, ← ms 1, p2.1 113 (0 + 3) (by omega)]
        exact (g3 1 (by decide)).symm
      · rw [at18 g hg, Nat.zero_add, (g4 g (by omega) hg).1, (b9 g hg).2.1]
        exact (b9 g hg).1
      · rw [by18 g hg, Nat.zero_add, (g4 g (by omega) hg).2.1]
      · rw [n3', z105 13 (by omega) (by omega), w12_13]
    · -- no acts
      obtain ⟨A, Q, N, -, c2, c3, -, -, c6, c7, -⟩ := hi.2.2.2.1
      refine ⟨0, Q, N, by decide, c2, c3, ?_, ?_, ?_, ?_, fun i h => by omega⟩
      · rw [zx 26 2 (by omega), o5.1 26 2 (by omega), hx4, up_eq]; rfl
      · rw [g6]; rfl
      · rw [zx 26 1 (by omega), hxf 26 1 (by omega)]; exact c6
      · rw [hz 105 20 (by unfold SM; omega) (by omega), hxf 105 20 (by omega)]; exact c7
    · have : z.1 104 0 = 0 := by rw [zx 104 0 (by omega)]; exact k1 0 (by omega) (by decide)
      exact ⟨by rw [this, g7], Or.inl this, fun q => by rw [this] at q; cases q⟩
    · have : z.1 104 1 = 0 := by rw [zx 104 1 (by omega)]; exact k1 1 (by omega) (by decide)
      exact ⟨by rw [this, g8], Or.inl this, fun q => by rw [this] at q; cases q⟩
    · have : z.2 = w.2 := by rw [oz.2, oy.2, oc.2, o2.2, o1.2]
      rw [this]
      exact hi.2.2.2.2.2
  · -- no wood
    obtain ⟨y', e2, o2, -⟩ := h1 x1 hty1
    refine ⟨-3, x1, y', ?_, ?_, T0, W0, cl0, kd0, hi.fr ?_⟩
    · unfold f_X7_wood b_X7_wood_0
      rw [e1, bd_ok, if_neg hr]
    · unfold f_X8_wood b_X8_wood_0
      rw [e2, bd_ok, if_neg hr]
    · refine (o1.wd (fun k j z => ?_)).tr (o2.wd (fun k j z => ?_))
      · unfold Scr; omega
      · unfold SM at z; unfold Scr; omega
