/-- the k-th bit, as either side finds it -/
theorem bitAt_v {w : Wd} {x : Int32} {k i : Nat} (hi : i < 12) (hb : bt x i = true) (hk : fb_ct (bt x) i = k) : f_X7_bitAt w x (nI k) = some (nI i, w) := by
  unfold f_X7_bitAt b_X7_bitAt_0
  have key : ∀ (n t : Nat), 12 - t < n → t ≤ i → b_X7_bitAt_4 n w x (nI (k - fb_ct (bt x) t)) (nI t) = some (nI i, w) := by
    intro n
    induction n with
    | zero => intro t h; omega
    | succ n ih =>
      intro t hn ht
      have hle := fb_ct_mono (bt x) ht
      have hle2 := fb_ct_le (bt x) i
      rw [b_X7_bitAt_4, if_neg (show ¬ (12 : Int32) ≤ nI t from nI_ge (b := 12) (by omega) (by decide))]
      unfold b_X7_bitAt_27
      simp only [nm_ok, nI_1]
      by_cases hti : t = i
      · subst hti
        rw [if_neg (fun z => by rw [tb0 _ (by omega), hb] at z; cases z), if_pos (by rw [hk, Nat.sub_self]; rfl)]
      · have hmono := fb_ct_mono (bt x) (show t + 1 ≤ i by omega)
        have ih' := ih (t + 1) (by omega) (by omega)
        rw [fb_ct_succ] at ih' hmono
        by_cases hbt : bt x t = true
        · rw [if_pos hbt] at ih' hmono
          rw [if_neg (fun z => by rw [tb0 _ (by omega), hbt] at z; cases z), if_neg (show ¬ nI (k - fb_ct (bt x) t) = 0 from fun z => by have := (nI_eq (b := 0) (by omega) (by omega)).mp z; omega), show nI (k - fb_ct (bt x) t) + (-1) = nI (k - fb_ct (bt x) t) - 1 from (Int32.sub_eq_add_neg _ _).symm, sub1 (by omega), Nat.sub_sub]
          exact ih'
        · rw [if_neg hbt] at ih'
          rw [if_pos ((tb0 _ (by omega)).mpr (by cases hq : bt x t <;> simp_all))]
          exact ih'
  have := key LF 0 (by unfold LF; omega) (by omega)
  exact this
theorem ofCells_v {w : Wd} {x : Int32} {k i : Nat} (hi : i < 12) (hb : bt x i = true) (hk : fb_ct (bt x) i = k) : f_X8_ofCells w x (nI k) = some (nI i, w) := by
  unfold f_X8_ofCells b_X8_ofCells_0
  have key : ∀ (n t : Nat), 12 - t < n → t ≤ i → b_X8_ofCells_4 n w x (nI (k - fb_ct (bt x) t)) (nI t) = some (nI i, w) := by
    intro n
    induction n with
    | zero => intro t h; omega
    | succ n ih =>
      intro t hn ht
      have hle := fb_ct_mono (bt x) ht
      have hle2 := fb_ct_le (bt x) i
      rw [b_X8_ofCells_4, if_neg (show ¬ (12 : Int32) ≤ nI t from nI_ge (b := 12) (by omega) (by decide))]
      unfold b_X8_ofCells_28
      simp only [nm_ok, nI_1]
      by_cases hti : t = i
      · subst hti
        rw [if_pos ((tb1 _ (by omega)).mpr hb), if_pos (by rw [hk, Nat.sub_self]; rfl)]
      · have hmono := fb_ct_mono (bt x) (show t + 1 ≤ i by omega)
        have ih' := ih (t + 1) (by omega) (by omega)
        rw [fb_ct_succ] at ih' hmono
        by_cases hbt : bt x t = true
        · rw [if_pos hbt] at ih' hmono
          rw [if_pos ((tb1 _ (by omega)).mpr hbt), if_neg (show ¬ nI (k - fb_ct (bt x) t) = 0 from fun z => by have := (nI_eq (b := 0) (by omega) (by omega)).mp z; omega), show nI (k - fb_ct (bt x) t) + (-1) = nI (k - fb_ct (bt x) t) - 1 from (Int32.sub_eq_add_neg _ _).symm, sub1 (by omega), Nat.sub_sub]
          exact ih'
        · rw [if_neg hbt] at ih'
          rw [if_neg (fun z => hbt ((tb1 _ (by omega)).mp z))]
          exact ih'
  have := key LF 0 (by unfold LF; omega) (by omega)
  exact this
theorem rem_l (x y : Int64) : x - (x / y) * y = x % y := by
  apply Int64.toInt_inj.mp
  have h1 := Int64.le_toInt (x % y)
  have h2 := Int64.toInt_lt (x % y)
  rw [Int64.toInt_sub, Int64.toInt_mul, Int64.toInt_div, Int.bmod_mul_bmod, Int.sub_bmod_bmod, Int.mul_comm (x.toInt.tdiv y.toInt), ← Int.tmod_def, ← Int64.toInt_mod]
  exact Int.bmod_eq_of_le_mul_two (by omega) (by omega)
theorem s33 : ((((33 : Int32)).toInt64.toUInt64 &&& Int64.toUInt64 63).toBitVec % 64).toNat = 33 := by decide +kernel
theorem i32_of {x : Int64} {q : Nat} (hq : q < 2 ^ 31) (h : x.toInt = q) : x.toInt32 = nI q := by
  apply Int32.toInt_inj.mp
  rw [Int64.toInt_toInt32, h, nI_toInt hq]
  exact Int.bmod_eq_of_le_mul_two (by omega) (by omega)
theorem draw_v (s : Int64) {p : Nat} (h0 : 0 < p) (h12 : p ≤ 12) : ∃ k, k < p ∧ (((s.toUInt64 >>> ((((33 : Int32))).toInt64.toUInt64 &&& Int64.toUInt64 63)).toInt64)).toInt32 - (((s.toUInt64 >>> ((((33 : Int32))).toInt64.toUInt64 &&& Int64.toUInt64 63)).toInt64)).toInt32 / nI p * nI p = nI k ∧ (((s.toUInt64 >>> ((((33 : Int32))).toInt64.toUInt64 &&& Int64.toUInt64 63)).toInt64) - ((s.toUInt64 >>> ((((33 : Int32))).toInt64.toUInt64 &&& Int64.toUInt64 63)).toInt64) / (nI p).toInt64 * (nI p).toInt64).toInt32 = nI k := by
  obtain ⟨Q, hQ⟩ : ∃ z, z = (s.toUInt64 >>> ((((33 : Int32))).toInt64.toUInt64 &&& Int64.toUInt64 63)).toInt64 := ⟨_, rfl⟩
  rw [← hQ]
  have hn : Q.toBitVec.toNat < 2 ^ 31 := by
    rw [hQ]
    show (s.toUInt64 >>> ((((33 : Int32))).toInt64.toUInt64 &&& Int64.toUInt64 63)).toBitVec.toNat < 2 ^ 31
    rw [UInt64.toBitVec_shiftRight]
    show (s.toUInt64.toBitVec >>> ((((33 : Int32)).toInt64.toUInt64 &&& Int64.toUInt64 63).toBitVec % 64).toNat).toNat < _
    rw [s33, BitVec.toNat_ushiftRight, Nat.shiftRight_eq_div_pow]
    have := s.toUInt64.toBitVec.isLt
    omega
  obtain ⟨q, hq9⟩ : ∃ z, z = Q.toBitVec.toNat := ⟨_, rfl⟩
  rw [← hq9] at hn
  have hi : Q.toInt = q := by
    show Q.toBitVec.toInt = q
    rw [BitVec.toInt_eq_toNat_cond, if_pos (by omega), hq9]
  refine ⟨q % p, Nat.mod_lt _ h0, ?_, ?_⟩
  · rw [i32_of hn hi]
    exact rem_n p hn h0 (by omega)
  · apply i32_of (Nat.lt_of_le_of_lt (Nat.mod_le q p) hn)
    rw [rem_l, Int64.toInt_mod, hi, wideI, nI_toInt (by omega), Int.ofNat_tmod]
def DN (w y : Wd) (T W : Nat) (cl kd : Nat → Nat) : Prop := PlanR w T W cl kd ∧ ScW w T W 22 ∧ Rel2 w y W 22 12 ∧ w.1 22 3 = y.1 105 13 ∧ (y.1 108 = w.1 108 ∧ y.1 110 = w.1 110 ∧ y.1 111 = w.1 111 ∧ y.1 112 = w.1 112) ∧ y.1 105 10 = nI T ∧ y.1 105 11 = nI W ∧ y.1 105 12 = w.1 11 2 ∧ y.2 105 = w.2 0
def FX (w x : Wd) : Prop := (∀ k j, ¬ (22 ≤ k ∧ k ≤ 25) → x.1 k j = w.1 k j) ∧ ∀ k, k ≠ 0 → x.2 k = w.2 k
def FM (y z : Wd) : Prop := (∀ k j, ¬ (k = 113 ∧ 12 ≤ j) → z.1 k j = y.1 k j) ∧ ∀ k, k ≠ 105 → z.2 k = y.2 k
theorem FX.tr {a b c : Wd} (h1 : FX a b) (h2 : FX b c) : FX a c := ⟨fun k j h => (h2.1 k j h).trans (h1.1 k j h), fun k h => (h2.2 k h).trans (h1.2 k h)⟩
theorem FM.tr {a b c : Wd} (h1 : FM a b) (h2 : FM b c) : FM a c := ⟨fun k j h => (h2.1 k j h).trans (h1.1 k j h), fun k h => (h2.2 k h).trans (h1.2 k h)⟩
theorem ways_b {c : Nat} (hc : c < 12) (z : Int32) : ∀ i, bt (aro c &&& z) i = true → i < 12 := fun i hi => by
  rw [b_and, Bool.and_eq_true] at hi
  have h := hi.1
  have h32 := bt32 h
  have : ∀ c, c < 12 → ∀ i, i < 32 → bt (aro c) i = true → i < 12 := by decide +kernel
  exact this c hc i h32 h
theorem pop_0 {x : Int32} (hx : ∀ i, bt x i = true → i < 12) : pop x = 0 ↔ x = 0 := by
  constructor
  · intro h
    refine b_ext (fun i hi => ?_)
    rw [b_0]
    cases hb : bt x i
    · rfl
    · have := fb_ct_zero.mp h i (hx i hb)
      rw [hb] at this; cases this
  · intro h
    subst h
    exact fb_ct_zero.mpr (fun k _ => b_0 k)
theorem night_one {w y : Wd} {T W g c0 : Nat} {cl kd : Nat → Nat} (hD : DN w y T W cl kd) (hg : g < W) (hc0 : c0 < 12) (hat : w.1 24 g = nI c0) : ∃ x z, f_X7_drawStep w (nI g) = some x ∧ FX w x ∧ (∀ kb46 kb53 v1 v2, b_X8_night_92 kb46 kb53 y v1 v2 (nI g) (aro c0 &&& (w.1 11 2 ^^^ (-1))) = b_X8_night_146 kb46 kb53 z v1 v2 (nI g)) ∧ FM y z ∧ DN x z T W cl kd := by
  have hD0 := hD
  obtain ⟨hp, hsw, hR, hfr, ⟨e8, e10, e11, e12⟩, m0, m1, m2, hsd⟩ := hD
  have hT := hp.1
  have hW := hp.2.1
  have x1 := hp.2.2.2.2.1
  obtain ⟨ws, hws⟩ : ∃ z, z = aro c0 &&& (w.1 11 2 ^^^ (-1)) := ⟨_, rfl⟩
  have hwb : ∀ i, bt ws i = true → i < 12 := by rw [hws]; exact ways_b hc0 _
  rw [← hws]
  unfold f_X7_drawStep b_X7_drawStep_0
  rw [hasWalker_yes x1 hW hg, bd_ok, if_neg (show ¬ (1 : Int32) = 0 by decide), gd_true (inb_nI (show g < 4 by omega) (by decide)), nI_clamp (show g < 2 ^ 31 by omega), hat, waysFrom_v hc0, bd_ok, ← hws, bitCount_v hwb, bd_ok]
  by_cases h0 : pop ws = 0
  · rw [if_pos (by rw [h0]; rfl)]
    refine ⟨w, y, rfl, ⟨fun _ _ _ => rfl, fun _ _ => rfl⟩, fun kb46 kb53 v1 v2 => ?_, ⟨fun _ _ _ => rfl, fun _ _ => rfl⟩, hD0⟩
    unfold b_X8_night_92
    rw [if_pos ((pop_0 hwb).mp h0)]
  · have hpl := pop_le ws
    rw [if_neg (show ¬ nI (pop ws) = 0 from fun z => h0 ((nI_eq (b := 0) (by omega) (by omega)).mp z)), nm_ok]
    obtain ⟨sd, hs9⟩ : ∃ z, z = w.2 0 * (6364136223846793005 : Int64) + (1442695040888963407 : Int64) := ⟨_, rfl⟩
    rw [← hs9]
    obtain ⟨k, hk, k1, k2⟩ := draw_v sd (p := pop ws) (by omega) hpl
    obtain ⟨i, hi12, hib, hik⟩ := fb_ct_kth (p := bt ws) (n := 12) (k := k) hk
    have eu : (upl w 0 sd).2 0 = sd := by rw [upl_get, if_pos rfl]
    have hnz : nz (nI (pop ws)) = true := decide_eq_true (fun z => h0 ((nI_eq (b := 0) (by omega) (by omega)).mp z))
    rw [gd_true hnz, eu, k1, nm_ok, bitAt_v hi12 hib hik, bd_ok]
    obtain ⟨r, wk, hst⟩ := StR.ex w T (w.1 22 1) (w.1 22 2) (w.1 22 3) i
    obtain ⟨x, ex, hX⟩ := walk_v (w := upl w 0 sd) (b := 22) (by decide) (by decide) (cl := cl) (kd := kd) (r := r) (wk := wk) hp hsw hg hi12 (hst.cong (by omega) rfl rfl rfl)
    rw [ex, bd_ok]
    obtain ⟨R1, R2, -⟩ := hR
    obtain ⟨z, ez, hM⟩ := stepOn_v (w := upl y 105 sd) (d := 1) (c := i) (M := T) (r := r) (wk := wk) hW (by decide) hg m1 (by omega) (by
      show ∀ i, bt (y.1 113 12) i = true → i < T
      rw [← R1]; exact hsw.1) (by
      show ∀ i j, i < T → j < T → y.1 108 i = y.1 108 j → i = j
      rw [e8]; exact hp.inj) (by
      show StR (upl y 105 sd) T (y.1 113 12) (y.1 113 (12 + 1)) (y.1 105 13) i r wk
      rw [← R1, ← R2, ← hfr]
      exact hst.cong (by omega) e8 e10 e11)
    have ox := hX.1
    have oz := hM.1
    have hrT : ∀ i, bt r i = true → i < T := fun i hi => hsw.1 i (hst.sub (by omega) hi)
    have hwT : ∀ i, bt wk i = true → i < T := fun i hi => hst.wk (by omega) hi
    have fx : ∀ k j, ¬ (22 ≤ k ∧ k ≤ 25) → x.1 k j = w.1 k j := fun k j hk => ox.1 k j (by omega)
    have fz : ∀ k j, ¬ (k = 113 ∧ 12 ≤ j) → z.1 k j = y.1 k j := fun k j hk => oz.1 k j (by omega)
    have fxk : ∀ k, ¬ (22 ≤ k ∧ k ≤ 25) → x.1 k = w.1 k := fun k hk => funext fun j => fx k j hk
    have fzk : ∀ k, k ≠ 113 → z.1 k = y.1 k := fun k hk => funext fun j => fz k j (by omega)
    refine ⟨x, z, rfl, ⟨fx, fun k hk => by rw [ox.2, upl_get, if_neg hk]⟩, fun kb46 kb53 v1 v2 => ?_, ⟨fz, fun k hk => by rw [oz.2, upl_get, if_neg hk]⟩, hp.scene (b := 22) (by decide) (by decide) fx, res_scw hX hsw hrT hwT hi12, ?_, ?_, ⟨?_, ?_, ?_, ?_⟩, ?_, ?_, ?_, ?_⟩
    · unfold b_X8_night_92
      rw [if_neg (fun z => h0 ((pop_0 hwb).mpr z)), nm_ok, ones_v, bd_ok, hsd, ← hs9, show (upl y 105 sd).2 105 = sd by rw [upl_get, if_pos rfl], gd_true (show nzl (nI (pop ws)).toInt64 = true from decide_eq_true (fun z => h0 (by
        have := congrArg Int64.toInt z
        rw [wideI, nI_toInt (by omega)] at this
        have e0 : (0 : Int64).toInt = 0 := rfl
        omega))), k2, ofCells_v hi12 hib hik, bd_ok, show (upl y 105 sd).1 105 10 = nI T from m0, show (1 : Int32) = nI 1 from rfl, ez, bd_ok]
    · exact res_rel hX hM e8 e10 e12 (hD0.2.2.1)
    · rw [hX.2.2.2.1, fz 105 13 (by omega)]; exact hfr
    · rw [fzk 108 (by decide), fxk 108 (by omega)]; exact e8
    · rw [fzk 110 (by decide), fxk 110 (by omega)]; exact e10
    · rw [fzk 111 (by decide), fxk 111 (by omega)]; exact e11
    · rw [fzk 112 (by decide), fxk 112 (by omega)]; exact e12
    · rw [fz 105 10 (by omega)]; exact m0
    · rw [fz 105 11 (by omega)]; exact m1
    · rw [fz 105 12 (by omega), fx 11 2 (by omega)]; exact m2
    · rw [oz.2, ox.2, upl_get, upl_get, if_pos rfl, if_pos rfl]
theorem night_tail {kb27 : Wd → Int32 → Int32 → Option (Int32 × Wd)} {w : Wd} {W : Nat} {v1 v2 : Int32} (x1 : w.1 11 1 = nI W) (hW : W ≤ 4) : ∀ (n t : Nat), 4 - t < n → W ≤ t → t ≤ 4 → b_X7_night_34 kb27 n w v1 v2 (nI t) = kb27 w v1 (v2 + 1) := by
  intro n
  induction n with
  | zero => intro t h; omega
  | succ n ih =>
    intro t hn h1 h2
    rw [b_X7_night_34]
    by_cases h : t = 4
    · subst h
      rw [if_pos (show (4 : Int32) ≤ nI 4 by decide), nm_ok]
    · rw [if_neg (show ¬ (4 : Int32) ≤ nI t from nI_ge (b := 4) (by omega) (by decide)), hasWalker_no x1 (Or.inr (nI_le h1 (by omega))), bd_ok, if_pos rfl]
      unfold b_X7_night_66
      rw [nm_ok, nI_1]
      exact ih (t + 1) (by omega) (by omega) (by omega)
theorem night_in {kb27 : Wd → Int32 → Int32 → Option (Int32 × Wd)} {kb46 : Wd → Int32 → Int32 → Option (Int32 × Wd)} {T W : Nat} {cl kd : Nat → Nat} {v1 v2 : Int32} : ∀ (n m t : Nat) (w y : Wd), 4 - t < n → W - t < m → t ≤ W → DN w y T W cl kd → ∃ x z, b_X7_night_34 kb27 n w v1 v2 (nI t) = kb27 x v1 (v2 + 1) ∧ b_X8_night_53 kb46 m y v1 v2 (nI t) = kb46 z v1 (v2 + 1) ∧ FX w x ∧ FM y z ∧ DN x z T W cl kd := by
  intro n
  induction n with
  | zero => intro m t w y h; omega
  | succ n ih =>
    intro m t w y hn hm ht hD
    cases m with
    | zero => omega
    | succ m =>
      have hD0 := hD
      obtain ⟨hp, hsw, hR, hfr, ⟨e8, e10, e11, e12⟩, m0, m1, m2, hsd⟩ := hD
      have hT := hp.1
      have hW := hp.2.1
      have x1 := hp.2.2.2.2.1
      by_cases h : t = W
      · subst h
        refine ⟨w, y, night_tail x1 hW (n + 1) t hn (Nat.le_refl t) hW, ?_, ⟨fun _ _ _ => rfl, fun _ _ => rfl⟩, ⟨fun _ _ _ => rfl, fun _ _ => rfl⟩, hD0⟩
        rw [b_X8_night_53, m1, if_pos (nI_le (Nat.le_refl t) (by omega)), nm_ok]
      · have htW : t < W := by omega
        have r5 := (hR.2.2.2.2 t htW)
        have rat : w.1 24 t = y.1 113 (16 + t) := r5.1
        have rby : w.1 25 t = y.1 113 (20 + t) := r5.2
        obtain ⟨c0, hc0, hat⟩ := hsw.2.2.2.2.1 t htW
        have hat : w.1 24 t = nI c0 := hat
        by_cases h9 : w.1 25 t = -9
        · obtain ⟨x, z, a1, a2, a3, a4, a5⟩ := night_one hD0 htW hc0 hat
          obtain ⟨x2, z2, c1, c2, c3, c4, c5⟩ := ih m (t + 1) x z (by omega) (by omega) (by omega) a5
          refine ⟨x2, z2, ?_, ?_, a2.tr c3, a4.tr c4, c5⟩
          · rw [b_X7_night_34, if_neg (show ¬ (4 : Int32) ≤ nI t from nI_ge (b := 4) (by omega) (by decide)), hasWalker_yes x1 hW htW, bd_ok, if_neg (show ¬ (1 : Int32) = 0 by decide), isFree_yes x1 hW htW, bd_ok, if_pos (show w.1 (22 + 3) t = -9 from h9), if_neg (show ¬ (1 : Int32) = 0 by decide), a1, bv_ok]
            unfold b_X7_night_66
            rw [nm_ok, nI_1]
            exact c1
          · rw [b_X8_night_53, m1, if_neg (nI_ge htW (by omega)), lit_add 20 (b := 20) rfl, lit_add 16 (b := 16) rfl, gd_true (inb_nI (show 20 + t < 72 by omega) (by decide)), gd_true (inb_nI (show 16 + t < 72 by omega) (by decide)), nI_clamp (by omega), nI_clamp (by omega), ← rby, if_pos h9, ← rat, hat, mNearTo_v hc0, bd_ok, m2, a3]
            unfold b_X8_night_146
            rw [nm_ok, nI_1]
            exact c2
        · obtain ⟨x2, z2, c1, c2, c3, c4, c5⟩ := ih m (t + 1) w y (by omega) (by omega) (by omega) hD0
          refine ⟨x2, z2, ?_, ?_, c3, c4, c5⟩
          · rw [b_X7_night_34, if_neg (show ¬ (4 : Int32) ≤ nI t from nI_ge (b := 4) (by omega) (by decide)), hasWalker_yes x1 hW htW, bd_ok, if_neg (show ¬ (1 : Int32) = 0 by decide), isFree_yes x1 hW htW, bd_ok, if_neg (show ¬ w.1 (22 + 3) t = -9 from h9), if_pos rfl]
            unfold b_X7_night_66
            rw [nm_ok, nI_1]
            exact c1
          · rw [b_X8_night_53, m1, if_neg (nI_ge htW (by omega)), lit_add 20 (b := 20) rfl, gd_true (inb_nI (show 20 + t < 72 by omega) (by decide)), nI_clamp (by omega), ← rby, if_neg h9]
            unfold b_X8_night_92
            rw [if_pos rfl]
            unfold b_X8_night_146
            rw [nm_ok, nI_1]
            exact c2
theorem night_c {w : Wd} {W : Nat} (m1 : w.1 105 11 = nI W) (hW : W ≤ 4) : b_X8_night_162 LF w 0 0 = some (mk (fun g => !decide (w.1 113 (20 + g) = -9)) W, w) := by
  have key : ∀ (n t : Nat), W - t < n → t ≤ W → b_X8_night_162 n w (mk (fun g => !decide (w.1 113 (20 + g) = -9)) t) (nI t) = some (mk (fun g => !decide (w.1 113 (20 + g) = -9)) W, w) := by
    intro n
    induction n with
    | zero => intro t h; omega
    | succ n ih =>
      intro t hn ht
      rw [b_X8_night_162, m1]
      by_cases h : t = W
      · subst h
        rw [if_pos (nI_le (Nat.le_refl t) (by omega))]
      · rw [if_neg (nI_ge (show t < W by omega) (by omega)), lit_add 20 (b := 20) rfl, gd_true (inb_nI (by omega) (by omega)), nI_clamp (by omega)]
        unfold b_X8_night_192
        simp only [nm_ok, nI_1]
        have ih' := ih (t + 1) (by omega) (by omega)
        rw [mk] at ih'
        by_cases hb : w.1 113 (20 + t) = -9
        · rw [if_pos hb]
          simpa [hb] using ih'
        · rw [if_neg hb]
          simpa [hb] using ih'
  exact key LF 0 (by unfold LF; omega) (by omega)
theorem night_k {T W m : Nat} {cl kd : Nat → Nat} (hm : m ≤ 40) : ∀ (n q k : Nat) (w y : Wd), m - k < n → m - k < q → k ≤ m → DN w y T W cl kd → ∃ r x z, b_X7_night_27 n w (nI m) (nI k) = some (r, x) ∧ b_X8_night_46 q y (nI m) (nI k) = some (r, z) ∧ FX w x ∧ FM y z ∧ z.2 105 = x.2 0 := by
  intro n
  induction n with
  | zero => intro q k w y h; omega
  | succ n ih =>
    intro q k w y hn hq hk hD
    cases q with
    | zero => omega
    | succ q =>
      have hD0 := hD
      obtain ⟨hp, hsw, hR, hfr, ⟨e8, e10, e11, e12⟩, m0, m1, m2, hsd⟩ := hD
      have hW := hp.2.1
      have x1 := hp.2.2.2.2.1
      by_cases h : k = m
      · subst h
        refine ⟨mk (fun g => !decide (w.1 25 g = -9)) W, w, y, ?_, ?_, ⟨fun _ _ _ => rfl, fun _ _ => rfl⟩, ⟨fun _ _ _ => rfl, fun _ _ => rfl⟩, hsd⟩
        · rw [b_X7_night_27, if_pos (nI_le (Nat.le_refl k) (by omega)), caught_v x1 hW, bd_ok]
        · rw [b_X8_night_46, if_pos (nI_le (Nat.le_refl k) (by omega)), night_c m1 hW]
          congr 2
          exact mk_cong W (fun g hg => by rw [show w.1 25 g = y.1 113 (20 + g) from (hR.2.2.2.2 g hg).2])
      · obtain ⟨x, z, a1, a2, a3, a4, a5⟩ := night_in (kb27 := b_X7_night_27 n) (kb46 := b_X8_night_46 q) (v1 := nI m) (v2 := nI k) LF LF 0 w y (by unfold LF; omega) (by unfold LF; omega) (by omega) hD0
        rw [nI_1] at a1 a2
        obtain ⟨r, x2, z2, c1, c2, c3, c4, c5⟩ := ih q (k + 1) x z (by omega) (by omega) (by omega) a5
        refine ⟨r, x2, z2, ?_, ?_, a3.tr c3, a4.tr c4, c5⟩
        · rw [b_X7_night_27, if_neg (nI_ge (show k < m by omega) (by omega)), show (0 : Int32) = nI 0 from rfl, a1, c1]
        · rw [b_X8_night_46, if_neg (nI_ge (show k < m by omega) (by omega)), show (0 : Int32) = nI 0 from rfl, a2, c2]
theorem night_cp {v1 : Int32} : ∀ (n t : Nat) (v : Wd), 12 - t < n → t ≤ 12 → ∃ w1, b_X8_night_17 n v v1 (nI t) = b_X8_night_46 LF w1 v1 0 ∧ Only (fun k j => k = 113 ∧ 12 ≤ j) v w1 ∧ (∀ k, t ≤ k → k < 12 → w1.1 113 (12 + k) = v.1 113 k) ∧ ∀ k, k < t → w1.1 113 (12 + k) = v.1 113 (12 + k) := by
  intro n
  induction n with
  | zero => intro t v h; omega
  | succ n ih =>
    intro t v hn ht
    rw [b_X8_night_17]
    by_cases h : t = 12
    · subst h
      rw [if_pos (show (12 : Int32) ≤ nI 12 by decide)]
      exact ⟨v, rfl, Only.rf, fun k h1 h2 => by omega, fun k _ => rfl⟩
    · rw [if_neg (show ¬ (12 : Int32) ≤ nI t from nI_ge (b := 12) (by omega) (by decide)), lit_add 12 (b := 12) rfl]
      simp only [gd_true (inb_nI (show t < 72 by omega) (by decide)), gd_true (inb_nI (show 12 + t < 72 by omega) (by decide)), nm_ok, nI_1, nI_clamp (show t < 2 ^ 31 by omega), nI_clamp (show 12 + t < 2 ^ 31 by omega)]
      obtain ⟨w1, e, o1, h1, h2⟩ := ih (t + 1) (up v 113 (12 + t) (v.1 113 t)) (by omega) (by omega)
      refine ⟨w1, e, (Only.rf.up ⟨rfl, by omega⟩).tr o1, fun k k1 k2 => ?_, fun k k1 => ?_⟩
      · by_cases hk : k = t
        · subst hk
          rw [h2 k (by omega), up_eq]
        · rw [h1 k (by omega) k2, up_ns (by omega)]
      · rw [h2 k (by omega), up_ns (by omega)]
