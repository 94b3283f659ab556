theorem nI_subn {a b : Nat} (h : b ≤ a) : nI a - nI b = nI (a - b) := by
  have e : nI a = nI (a - b) + nI b := by rw [nI_add]; congr 1; omega
  rw [e, Int32.add_sub_cancel]
theorem lit_add' {a : Nat} (k : Int32) {b : Nat} (hk : k = nI b) : nI a + k = nI (a + b) := by rw [hk, nI_add]
theorem sub1 {a : Nat} (h : 0 < a) : nI a - 1 = nI (a - 1) := nI_subn (b := 1) h
/-- what the calls on the scene, the acts and the slots leave alone -/
theorem Inv.of2 {w w2 : Wd} {T W : Nat} {cl kd : Nat → Nat} (hi : InvT w T W cl kd) (f : ∀ k j, ¬ (18 ≤ k ∧ k ≤ 21) → ¬ (26 ≤ k ∧ k ≤ 104) → ¬ (k = 105 ∧ (j = 13 ∨ j = 19 ∨ j = 20)) → k ≠ 113 → k ≠ 115 → k ≠ 119 → k ≠ 120 → ¬ Scr T k j → w2.1 k j = w.1 k j) (hn : NowR w2 T W) (ha : ActsR w2 T W) (hs0 : SlotR w2 T W 0) (hs1 : SlotR w2 T W 1) (h2 : w2.2 0 = w2.2 105) : Inv w2 := by
  obtain ⟨a1, a2, a3, a4, a5, a6⟩ := hi
  unfold Scr at f
  exact ⟨T, W, cl, kd, a1.fr (fun k j _ _ => f k j (by omega) (by omega) (by omega) (by omega) (by omega) (by omega) (by omega) (by omega)) (fun j _ _ => f 105 j (by omega) (by omega) (by omega) (by omega) (by omega) (by omega) (by omega) (by omega)) (fun k j _ _ _ => f k j (by omega) (by omega) (by omega) (by omega) (by omega) (by omega) (by omega) (by omega)) (fun j => f 112 j (by omega) (by omega) (by omega) (by omega) (by omega) (by omega) (by omega) (by omega)), a2.fr (f 1 1 (by omega) (by omega) (by omega) (by omega) (by omega) (by omega) (by omega) (by omega)) (fun j => f 2 j (by omega) (by omega) (by omega) (by omega) (by omega) (by omega) (by omega) (by omega)) (f 105 16 (by omega) (by omega) (by omega) (by omega) (by omega) (by omega) (by omega) (by omega)) (fun j => f 114 j (by omega) (by omega) (by omega) (by omega) (by omega) (by omega) (by omega) (by omega)), hn, ha, ⟨hs0, hs1⟩, h2⟩
theorem undo_c {N : Nat} (hN : N < 16) : ∀ (n t : Nat) (v : Wd), 12 - t < n → t ≤ 12 → v.1 105 20 = nI N → ∃ w1, b_X8_undo_36 n v (nI t) = some (v.1 105 19, w1) ∧ Only (fun k j => k = 113 ∧ j < 12) v w1 ∧ (∀ k, t ≤ k → k < 12 → w1.1 113 k = v.1 115 (12 * N + k)) ∧ ∀ k, k < t → w1.1 113 k = v.1 113 k := by
  intro n
  induction n with
  | zero => intro t v h; omega
  | succ n ih =>
    intro t v hn ht f1
    rw [b_X8_undo_36]
    by_cases h : t = 12
    · subst h
      rw [if_pos (show (12 : Int32) ≤ nI 12 by decide)]
      exact ⟨v, rfl, Only.rf, fun k h1 h2 => by omega, fun k _ => rfl⟩
    · have em : (12 : Int32) * v.1 105 20 + nI t = nI (12 * N + t) := by
        rw [f1, show (12 : Int32) = nI 12 from rfl, pk_mul, nI_add]
      rw [if_neg (show ¬ (12 : Int32) ≤ nI t from nI_ge (b := 12) (by omega) (by decide)), em]
      simp only [gd_true (inb_nI (show t < 72 by omega) (by decide)), gd_true (inb_nI (show 12 * N + t < 192 by omega) (by decide)), nm_ok, nI_1, nI_clamp (show t < 2 ^ 31 by omega), nI_clamp (show 12 * N + t < 2 ^ 31 by omega)]
      obtain ⟨w1, e, o1, h1, h2⟩ := ih (t + 1) (up v 113 t (v.1 115 (12 * N + t))) (by omega) (by omega) (by rw [up_nc (by decide)]; exact f1)
      rw [up_nc (by decide)] at e
      refine ⟨w1, e, (Only.rf.up ⟨rfl, by omega⟩).tr o1, fun k k1 k2 => ?_, fun k k1 => ?_⟩
      · by_cases hk : k = t
        · subst hk
          rw [h2 k (by omega), up_eq]
        · rw [h1 k (by omega) k2, up_nc (by decide)]
      · rw [h2 k (by omega), up_ns (by omega)]
theorem s_undo : Step f_X7_undo f_X8_undo := by
  intro w hw
  obtain ⟨T, W, cl, kd, hi⟩ := hw
  have hi0 := hi
  obtain ⟨a1, a2, a3, ⟨A, Q, N, hA, hQ, hN, p1, p2, p3, p4, hall⟩, a5, a6⟩ := hi
  have hW := a1.2.1
  by_cases h0 : A = 0
  · subst h0
    refine ⟨-3, w, w, ?_, ?_, T, W, cl, kd, hi0⟩
    · unfold f_X7_undo b_X7_undo_0
      rw [if_pos (show w.1 26 2 = 0 from p1)]
    · unfold f_X8_undo b_X8_undo_0
      rw [if_pos (show w.1 105 19 = 0 from p2)]
  · obtain ⟨sW, sR⟩ := hall (A - 1) (by omega)
    have hlt : (Q + (A - 1)) % 16 < 16 := Nat.mod_lt _ (by decide)
    obtain ⟨i9, hi9⟩ : ∃ z, z = (Q + (A - 1)) % 16 := ⟨_, rfl⟩
    obtain ⟨N9, hN9⟩ : ∃ z, z = (N + 15) % 16 := ⟨_, rfl⟩
    rw [show (N + 16 - A + (A - 1)) % 16 = (N + 15) % 16 by omega, ← hN9] at sR
    rw [← hi9] at sW sR hlt
    have hN9' : N9 < 16 := by omega
    have e9 : nI (Q + (A - 1)) - nI (Q + (A - 1)) / 16 * 16 = nI i9 := by rw [hi9]; exact rem_n 16 (by omega) (by decide) (by decide)
    have e8 : nI (N + 15) - nI (N + 15) / 16 * 16 = nI N9 := by rw [hN9]; exact rem_n 16 (by omega) (by decide) (by decide)
    have hmod : ∀ i, (N9 + 16 - (A - 1) + i) % 16 = (N + 16 - A + i) % 16 := fun i => by clear hi9 hlt; omega
    clear hi9 hN9
    obtain ⟨v1, hv1⟩ : ∃ z, z = up w 26 2 (nI (A - 1)) := ⟨_, rfl⟩
    have fv : ∀ k j, k ≠ 26 → v1.1 k j = w.1 k j := fun k j h => by rw [hv1, up_nc h]
    obtain ⟨v2, e, o1, c1, c2, c3, c4, c5⟩ := become_v (b := 18) (b1 := 28 + 4 * i9) (w := v1) (by omega) (by rw [fv _ _ (by omega)]; exact sW.2.2.2.2.2.2)
    have f2 : ∀ k j, ¬ (18 ≤ k ∧ k ≤ 21) → k ≠ 26 → v2.1 k j = w.1 k j := fun k j h1 h2 => by rw [o1.1 k j (by omega), fv k j h2]
    obtain ⟨x2, hx2⟩ : ∃ z, z = up v2 18 3 (w.1 18 3) := ⟨_, rfl⟩
    have fx : ∀ k j, ¬ (18 ≤ k ∧ k ≤ 21) → k ≠ 26 → x2.1 k j = w.1 k j := fun k j h1 h2 => by rw [hx2, up_nc (by omega), f2 k j h1 h2]
    have x26 : x2.1 26 2 = nI (A - 1) := by rw [hx2, up_nc (by decide), o1.1 26 2 (by omega), hv1, up_eq]
    have x261 : x2.1 26 1 = nI Q := by rw [hx2, up_nc (by decide), o1.1 26 1 (by omega), hv1, up_ns (by decide)]; exact p3
    obtain ⟨y1, hy1⟩ : ∃ z, z = up (up x2 105 19 (nI (A - 1))) 105 20 (nI N9) := ⟨_, rfl⟩
    obtain ⟨y2, ey, oy, g1, -⟩ := undo_c hN9' LF 0 y1 (by unfold LF; omega) (by omega) (by rw [hy1, up_eq])
    have y19 : y1.1 105 19 = nI (A - 1) := by rw [hy1, up_ns (by decide), up_eq]
    have fy1 : ∀ k j, k ≠ 105 → y1.1 k j = x2.1 k j := fun k j h => by rw [hy1, up_nc h, up_nc h]
    have fy : ∀ k j, k ≠ 105 → k ≠ 113 → y2.1 k j = x2.1 k j := fun k j h h2 => by rw [oy.1 k j (by omega), fy1 k j h]
    have m : ∀ k, k < 12 → y2.1 113 k = w.1 115 (12 * N9 + k) := fun k hk => by rw [g1 k (by omega) hk, fy1 _ _ (by decide), fx _ _ (by omega) (by decide)]
    refine ⟨nI (A - 1), x2, y2, ?_, ?_, ?_⟩
    · unfold f_X7_undo b_X7_undo_0 f_X0_takeBack b_X0_takeBack_0
      rw [p1, if_neg (show ¬ nI A = 0 from fun z => h0 ((nI_eq (b := 0) (by omega) (by omega)).mp z)), nm_ok, if_neg (show ¬ nI A ≤ 0 from nI_ge (b := A) (a := 0) (by omega) (by omega)), sub1 (by omega), ← hv1, nm_ok, show v1.1 26 1 = nI Q by rw [hv1, up_ns (by decide)]; exact p3, show v1.1 26 2 = nI (A - 1) by rw [hv1, up_eq], nI_add, e9, gd_true (inb_nI hlt (by decide)), nI_clamp (by omega), e, bv_ok, bv_ok, gd_true (bb_of a3.2.2.2), ← hx2, nm_ok, x26]
    · unfold f_X8_undo b_X8_undo_0
      rw [show x2.1 105 19 = nI A by rw [fx _ _ (by omega) (by decide)]; exact p2, if_neg (show ¬ nI A = 0 from fun z => h0 ((nI_eq (b := 0) (by omega) (by omega)).mp z)), sub1 (by omega), nm_ok, up_ns (k := 105) (j := 19) (b := 20) (by decide), show x2.1 105 20 = nI N by rw [fx _ _ (by omega) (by decide)]; exact p4, lit_add' 15 (b := 15) rfl, e8, ← hy1, nm_ok, show (0 : Int32) = nI 0 from rfl, ey, y19]
    · refine Inv.of2 hi0 (fun k j h1 h2 h3 h4 h5 h6 h7 _ => ?_) ?_ ?_ ?_ ?_ ?_
      · by_cases h105 : k = 105
        · subst h105
          rw [oy.1 105 j (by omega), hy1, up_ns (by omega), up_ns (by omega), fx _ _ (by omega) (by decide)]
        · rw [fy k j h105 h4, fx k j h1 (by omega)]
      · obtain ⟨b1, b2, b3, b4, b5, b6, b7⟩ := sW
        obtain ⟨r1, r2, r3, r4, r5⟩ := sR
        refine NowR.of (w.1 (28 + 4 * i9) 1) (w.1 (28 + 4 * i9) 2) (w.1 (28 + 4 * i9 + 1) 0) (w.1 (28 + 4 * i9 + 1) 1) (w.1 18 3) (fun g => w.1 (28 + 4 * i9 + 2) g) (fun g => w.1 (28 + 4 * i9 + 3) g) ?_ ?_ ?_ ?_ ?_ ?_ ?_ ?_ ?_ ?_ ?_ ?_ ?_ ?_ a3.2.2.2 b1 b2 b3 b4 b5 b6
        · rw [fy _ _ (by decide) (by decide), hx2, up_ns (by decide), c1, fv _ _ (by omega)]
        · rw [fy _ _ (by decide) (by decide), hx2, up_ns (by decide), c2, fv _ _ (by omega)]
        · rw [fy _ _ (by decide) (by decide), hx2, up_eq]
        · rw [fy _ _ (by decide) (by decide), hx2, up_nc (by decide), show v2.1 19 0 = v1.1 (28 + 4 * i9 + 1) 0 from c4 0 (by decide), fv _ _ (by omega)]
        · rw [fy _ _ (by decide) (by decide), hx2, up_nc (by decide), show v2.1 19 1 = v1.1 (28 + 4 * i9 + 1) 1 from c4 1 (by decide), fv _ _ (by omega)]
        · intro g hg; rw [fy _ _ (by decide) (by decide), hx2, up_nc (by decide), show v2.1 20 g = v1.1 (28 + 4 * i9 + 2) g from (c5 g (by omega)).1, fv _ _ (by omega)]
        · intro g hg; rw [fy _ _ (by decide) (by decide), hx2, up_nc (by decide), show v2.1 21 g = v1.1 (28 + 4 * i9 + 3) g from (c5 g (by omega)).2, fv _ _ (by omega)]
        · rw [m 0 (by decide), r1]; rfl
        · rw [m 1 (by decide), r2]
        · rw [m 2 (by decide), r3]
        · rw [m 3 (by decide), r4]
        · intro g hg; rw [m (4 + g) (by omega), (r5 g hg).1, Nat.add_assoc]
        · intro g hg; rw [m (8 + g) (by omega), (r5 g hg).2, Nat.add_assoc]
        · rw [oy.1 105 13 (by omega), hy1, up_ns (by decide), up_ns (by decide), fx _ _ (by omega) (by decide)]; exact a3.2.2.1.symm
      · refine ⟨A - 1, Q, N9, by omega, hQ, hN9', by rw [fy _ _ (by decide) (by decide)]; exact x26, by rw [oy.1 105 19 (by omega)]; exact y19, by rw [fy _ _ (by decide) (by decide)]; exact x261, by rw [oy.1 105 20 (by omega), hy1, up_eq], fun i hi => ?_⟩
        have hm : (Q + i) % 16 < 16 := Nat.mod_lt _ (by decide)
        have q := hall i (by omega)
        rw [hmod i]
        clear hmod
        generalize (N + 16 - A + i) % 16 = zz at q ⊢
        generalize (Q + i) % 16 = yy at q hm ⊢
        have ff : ∀ k j, 28 ≤ k → k ≤ 91 → y2.1 k j = w.1 k j := fun k j h1 h2 => by rw [fy k j (by omega) (by omega), fx k j (by omega) (by omega)]
        have e0 := fun j => ff (28 + 4 * yy) j (by omega) (by omega)
        have e1 := fun j => ff (28 + 4 * yy + 1) j (by omega) (by omega)
        have e2 := fun j => ff (28 + 4 * yy + 2) j (by omega) (by omega)
        have e3 := fun j => ff (28 + 4 * yy + 3) j (by omega) (by omega)
        exact ⟨q.1.fr e0 e1 e2 e3, q.2.fr hW e0 e1 e2 e3 (fun j _ _ => by rw [fy _ _ (by decide) (by decide), fx _ _ (by omega) (by decide)])⟩
      · exact a5.1.fr (by decide) hW (fun k j _ _ => by rw [fy _ _ (by omega) (by omega), fx _ _ (by omega) (by omega)]) (fun j => by rw [fy _ _ (by omega) (by omega), fx _ _ (by omega) (by omega)]) (fun j => by rw [fy _ _ (by omega) (by omega), fx _ _ (by omega) (by omega)])
      · exact a5.2.fr (by decide) hW (fun k j _ _ => by rw [fy _ _ (by omega) (by omega), fx _ _ (by omega) (by omega)]) (fun j => by rw [fy _ _ (by omega) (by omega), fx _ _ (by omega) (by omega)]) (fun j => by rw [fy _ _ (by omega) (by omega), fx _ _ (by omega) (by omega)])
      · rw [oy.2, hy1, up_2, up_2, hx2, up_2, o1.2, hv1, up_2]; exact a6
