def wyM (w : Wd) (c : Nat) : Int32 := aro c &&& (w.1 105 12 ^^^ (-1))
theorem cp_node {w0 : Wd} {W g M n : Nat} (hW : W ≤ 4) (hg : g < W) (hn : n ≤ 4) (hM : M ≤ 7) (m1 : w0.1 105 11 = nI W) (hinj : ∀ i j, i < M → j < M → w0.1 108 i = w0.1 108 j → i = j) : ∀ (s d F c wt S : Nat) (a v : Int32) (y : Wd), d + s = n → cst s ≤ F → Bs w0 y → c < 12 → (∀ i, bt a i = true → i < M) → y.1 113 (12 * d) = a → y.1 113 (12 * d + 1) = v → y.1 113 (12 * d + 4 + g) = nI c → y.1 113 (12 * d + 8 + g) = -9 → y.1 117 d = 0 → y.1 118 d = nI wt →
    ∃ F' y', F ≤ F' + cst s ∧ b_X8_caughtParts_20 F y (nI g) (nI n) (nI M) (nI S) (nI d) = b_X8_caughtParts_20 F' y' (nI g) (nI n) (nI M) (nI (S + VV (wyM w0) (nxS w0 M g (w0.1 105 13)) s (wt * 12 ^ s) c a v)) (nI d + (-1)) ∧ FrD d y y' := by
  intro s
  induction s with
  | zero =>
    intro d F c wt S a v y hd hF hB hc ha q0 q1 q2 q3 q4 q5
    cases F with
    | zero => exact absurd hF (by decide)
    | succ F =>
      refine ⟨F, y, Nat.le_refl _, ?_, Only.rf⟩
      rw [cp_end (by omega) (by omega) hn hc q2 q3 (Or.inl (by omega)), VV, Nat.add_zero]
  | succ s ih =>
    intro d F c wt S a v y hd hF hB hc ha q0 q1 q2 q3 q4 q5
    obtain ⟨ws, hws⟩ : ∃ z, z = wyM w0 c := ⟨_, rfl⟩
    have hwy : ∀ y : Wd, Bs w0 y → aro c &&& (y.1 105 12 ^^^ (-1)) = ws := fun y hB => by rw [hB 105 (by decide) (by decide) (by decide), hws]; rfl
    have hwb : ∀ i, bt ws i = true → i < 12 := by rw [hws]; exact ways_b hc _
    have hp4 : pop ws ≤ 4 := by rw [hws]; exact wy_pop hc _
    have hcs := cst_pos s
    have hcs1 : cst (s + 1) = 1 + 4 * (1 + cst s) := rfl
    by_cases h0 : ws = 0
    · cases F with
      | zero => omega
      | succ F =>
        refine ⟨F, y, by omega, ?_, Only.rf⟩
        rw [cp_end (by omega) (by omega) hn hc q2 q3 (Or.inr ((hwy y hB).trans h0)), VV, sm_0 12 (fun i _ => by rw [← hws, h0, b_0]; rfl), Nat.add_zero]
    · have hpp : 0 < pop ws := Nat.pos_of_ne_zero (fun z => h0 ((pop_0 hwb).mp z))
      obtain ⟨fr, hfr⟩ : ∃ z, z = w0.1 105 13 := ⟨_, rfl⟩
      rw [← hfr] at ih ⊢
      obtain ⟨f, hf⟩ : ∃ z : Nat → Nat, z = fun e => if bt ws e then (if (nxS w0 M g fr e a v).1 then wt * 12 ^ (s + 1) / pop ws else VV (wyM w0) (nxS w0 M g fr) s (wt * 12 ^ (s + 1) / pop ws) e (nxS w0 M g fr e a v).2.1 (nxS w0 M g fr e a v).2.2) else 0 := ⟨_, rfl⟩
      have hV : VV (wyM w0) (nxS w0 M g fr) (s + 1) (wt * 12 ^ (s + 1)) c a v = sm f 12 := by rw [VV, hf, hws]
      have hf0 : ∀ e, bt ws e = false → f e = 0 := fun e h => by
        rw [hf]; show (if bt ws e = true then _ else _) = 0
        rw [h]; rfl
      obtain ⟨X, hX⟩ : ∃ z, z = 1 + cst s := ⟨_, rfl⟩
      have key : ∀ (q k i F : Nat) (y : Wd), q + k = pop ws → 1 + q * X ≤ F → fb_ct (bt ws) i = k → Bs w0 y → y.1 113 (12 * d) = a → y.1 113 (12 * d + 1) = v → y.1 113 (12 * d + 4 + g) = nI c → y.1 113 (12 * d + 8 + g) = -9 → y.1 117 d = nI k → y.1 118 d = nI wt → ∃ F' y', F ≤ F' + (1 + q * X) ∧ b_X8_caughtParts_20 F y (nI g) (nI n) (nI M) (nI (S + sm f i)) (nI d) = b_X8_caughtParts_20 F' y' (nI g) (nI n) (nI M) (nI (S + sm f 12)) (nI d + (-1)) ∧ FrD d y y' := by
        intro q
        induction q with
        | zero =>
          intro k i F y hk hF hi hB q0 q1 q2 q3 q4 q5
          have hk0 : k = pop ws := by omega
          cases F with
          | zero => omega
          | succ F =>
            refine ⟨F, y, by omega, ?_, Only.rf⟩
            rw [cp_done (by omega) (by omega) hn hc q2 q3 (hwy y hB) h0 (by rw [q4, hk0]), sm_same hf0 (show fb_ct (bt ws) i = fb_ct (bt ws) 12 from hi.trans hk0)]
        | succ q ihq =>
          intro k i F y hk hF hi hB q0 q1 q2 q3 q4 q5
          have hq1 : (q + 1) * X = q * X + X := Nat.succ_mul q X
          rw [hq1] at hF ⊢
          cases F with
          | zero => omega
          | succ F =>
            obtain ⟨e, he12, heb, hek⟩ := fb_ct_kth (p := bt ws) (n := 12) (k := k) (show k < pop ws by omega)
            have hS := sr_v w0 M a v fr e
            have hNx : nxS w0 M g fr e a v = (ctB w0 g e (srr w0 M a v fr e), a &&& (srr w0 M a v fr e ^^^ (-1)), (v ||| srk w0 M a v fr e) &&& (srr w0 M a v fr e ^^^ (-1))) := rfl
            obtain ⟨r, hr⟩ : ∃ z, z = srr w0 M a v fr e := ⟨_, rfl⟩
            obtain ⟨wk, hwk⟩ : ∃ z, z = srk w0 M a v fr e := ⟨_, rfl⟩
            rw [← hr, ← hwk] at hS hNx
            have e8 := hB 108 (by decide) (by decide) (by decide)
            have e10 := hB 110 (by decide) (by decide) (by decide)
            have e11 := hB 111 (by decide) (by decide) (by decide)
            have e12 := hB 112 (by decide) (by decide) (by decide)
            have e5 := hB 105 (by decide) (by decide) (by decide)
            obtain ⟨y3, e3, o3, c1, c2, c3, c4, c5, c6, c7⟩ := cp_down (S := S + sm f i) hW hg (by omega) hn hc q2 q3 (hwy y hB) h0 q4 q5 (by omega) he12 heb hek (by rw [e5]; exact m1) hM q0 q1 ha (by rw [e8]; exact hinj) (by rw [e5, ← hfr]; exact hS.cong hM e8 e10 e11) F
            rw [e8, e10, e12] at c7
            have hB3 := hB.fr o3
            have hsum : sm f (e + 1) = sm f i + f e := by rw [sm, sm_same hf0 (hek.trans hi.symm)]
            have hct1 : fb_ct (bt ws) (e + 1) = k + 1 := by rw [fb_ct_succ, heb, if_pos rfl, hek]
            have hfe : f e = if (nxS w0 M g fr e a v).1 then wt * 12 ^ (s + 1) / pop ws else VV (wyM w0) (nxS w0 M g fr) s (wt * 12 ^ (s + 1) / pop ws) e (nxS w0 M g fr e a v).2.1 (nxS w0 M g fr e a v).2.2 := by
              rw [hf]; show (if bt ws e = true then _ else _) = _
              rw [if_pos heb]
            rw [wt_div wt s (pop ws) hpp hp4, hNx] at hfe
            have hrM : ∀ i, bt (a &&& (r ^^^ (-1))) i = true → i < M := fun i hi => by
              rw [b_and, Bool.and_eq_true] at hi
              exact ha i hi.1
            have child : ∃ F1 y4, F ≤ F1 + cst s ∧ b_X8_caughtParts_20 F y3 (nI g) (nI n) (nI M) (nI (S + sm f i)) (nI (d + 1)) = b_X8_caughtParts_20 F1 y4 (nI g) (nI n) (nI M) (nI (S + sm f (e + 1))) (nI d) ∧ FrD (d + 1) y3 y4 := by
              cases hct : ctB w0 g e r
              · rw [hct] at hfe
                have h9 : y3.1 113 (12 * (d + 1) + 8 + g) = -9 := c7.2 (fun i hi _ => by
                  have := ctB_t.mpr ⟨i, hi.1, hi.2.1, hi.2.2.1.symm, hi.2.2.2⟩
                  rw [hct] at this; cases this)
                obtain ⟨F1, y4, f1, f2, f3⟩ := ih (d + 1) F e (wt * (12 / pop ws)) (S + sm f i) (a &&& (r ^^^ (-1))) ((v ||| wk) &&& (r ^^^ (-1))) y3 (by omega) (by omega) hB3 he12 hrM c4 c5 c6 h9 c2 c3
                refine ⟨F1, y4, f1, ?_, f3⟩
                rw [f2, pk_m1, hsum, ← Nat.add_assoc, hfe]
                rfl
              · rw [hct] at hfe
                obtain ⟨j, j1, j2, j3, j4⟩ := ctB_t.mp hct
                have h9 : ¬ y3.1 113 (12 * (d + 1) + 8 + g) = -9 := by
                  rw [c7.1 j ⟨j1, j2, j3.symm, j4⟩ rfl]
                  exact nI_ne9 (by omega)
                cases F with
                | zero => omega
                | succ F =>
                  refine ⟨F, y3, by omega, ?_, Only.rf⟩
                  rw [cp_hit (by omega) (by omega) hn he12 c6 h9 c3, pk_m1, hsum, ← Nat.add_assoc, hfe, show n - (d + 1) = s by omega]
                  rfl
            obtain ⟨F1, y4, g1, g2, g3⟩ := child
            have hfr4 : FrD d y y4 := o3.tr (g3.wd (fun k j z => by omega))
            obtain ⟨F2, y5, h1, h2, h3⟩ := ihq (k + 1) (e + 1) F1 y4 (by omega) (by omega) hct1 (hB.fr hfr4) (by rw [hfr4.1 113 (12 * d) (by omega)]; exact q0) (by rw [hfr4.1 113 (12 * d + 1) (by omega)]; exact q1) (by rw [hfr4.1 113 (12 * d + 4 + g) (by omega)]; exact q2) (by rw [hfr4.1 113 (12 * d + 8 + g) (by omega)]; exact q3) (by rw [g3.1 117 d (by omega)]; exact c1) (by rw [hfr4.1 118 d (by omega)]; exact q5)
            exact ⟨F2, y5, by omega, by rw [e3, g2, h2], hfr4.tr h3⟩
      have hX4 : pop ws * X ≤ 4 * X := Nat.mul_le_mul_right X hp4
      obtain ⟨F', y', k1, k2, k3⟩ := key (pop ws) 0 0 F y (by omega) (by omega) rfl hB q0 q1 q2 q3 q4 q5
      exact ⟨F', y', by omega, by rw [hV, ← k2]; rfl, k3⟩
theorem caughtParts_v {w : Wd} {W g M n c : Nat} (hW : W ≤ 4) (hg : g < W) (hn : n ≤ 4) (hM : M ≤ 7) (m1 : w.1 105 11 = nI W) (hinj : ∀ i j, i < M → j < M → w.1 108 i = w.1 108 j → i = j) (hc : c < 12) (ha : ∀ i, bt (w.1 113 0) i = true → i < M) (hat : w.1 113 (4 + g) = nI c) (hby : w.1 113 (8 + g) = -9) :
    ∃ w', f_X8_caughtParts w (nI g) (nI n) (nI M) = some (nI (VV (wyM w) (nxS w M g (w.1 105 13)) n (12 ^ n) c (w.1 113 0) (w.1 113 1)), w') ∧ Only (fun k j => (k = 113 ∧ 12 ≤ j) ∨ k = 117 ∨ k = 118) w w' := by
  unfold f_X8_caughtParts b_X8_caughtParts_0
  rw [nm_ok, nm_ok]
  obtain ⟨y, hy⟩ : ∃ z, z = up (up w 117 0 0) 118 0 1 := ⟨_, rfl⟩
  rw [show up (up w 117 (0 : Int32).toNatClampNeg 0) 118 (0 : Int32).toNatClampNeg 1 = y from hy.symm]
  have oy : Only (fun k j => (k = 113 ∧ 12 ≤ j) ∨ k = 117 ∨ k = 118) w y := by rw [hy]; exact (Only.up Only.rf (Or.inr (Or.inl rfl))).up (Or.inr (Or.inr rfl))
  have hB : Bs w y := fun k h1 h2 h3 => funext fun j => oy.1 k j (by omega)
  have hcs : cst n ≤ 681 := by
    rcases (show n = 0 ∨ n = 1 ∨ n = 2 ∨ n = 3 ∨ n = 4 by omega) with rfl | rfl | rfl | rfl | rfl <;> decide
  obtain ⟨F', y', k1, k2, k3⟩ := cp_node hW hg hn hM m1 hinj n 0 LF c 1 0 (w.1 113 0) (w.1 113 1) y (by omega) (by unfold LF; omega) hB hc ha (oy.1 113 0 (by omega)) (oy.1 113 1 (by omega)) (by rw [show 12 * 0 + 4 + g = 4 + g by omega, oy.1 113 (4 + g) (by omega)]; exact hat) (by rw [show 12 * 0 + 8 + g = 8 + g by omega, oy.1 113 (8 + g) (by omega)]; exact hby) (by rw [hy, up_nc (by decide), up_eq]) (by rw [hy, up_eq]; rfl)
  rw [Nat.zero_add, Nat.one_mul] at k2
  have hLF : LF = 4000 := rfl
  cases F' with
  | zero => omega
  | succ F' =>
    refine ⟨y', ?_, oy.tr (k3.wd (fun k j z => by omega))⟩
    rw [show b_X8_caughtParts_20 LF y (nI g) (nI n) (nI M) 0 0 = b_X8_caughtParts_20 LF y (nI g) (nI n) (nI M) (nI 0) (nI 0) from rfl, k2, b_X8_caughtParts_20, if_pos (show nI 0 + (-1) < 0 by decide)]
