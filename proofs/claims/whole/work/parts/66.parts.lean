/-! the reference's parts: the walk over all ways, by hand -/
theorem aro_pop : ∀ c, c < 12 → pop (aro c) ≤ 4 := by decide +kernel
theorem wy_pop {c : Nat} (hc : c < 12) (z : Int32) : pop (aro c &&& z) ≤ 4 := Nat.le_trans (fb_ct_sub (fun k _ h => by rw [b_and, Bool.and_eq_true] at h; exact h.1)) (aro_pop c hc)
theorem sm_ct {f : Nat → Nat} {p : Nat → Bool} (hf : ∀ e, p e = false → f e = 0) {i : Nat} : ∀ m, fb_ct p (i + m) = fb_ct p i → sm f (i + m) = sm f i
  | 0, _ => rfl
  | m + 1, h => by
    have h1 := fb_ct_mono p (show i ≤ i + m by omega)
    have h2 : fb_ct p (i + (m + 1)) = fb_ct p (i + m) + (if p (i + m) then 1 else 0) := fb_ct_succ p (i + m)
    have h3 : p (i + m) = false := by
      cases hp : p (i + m)
      · rfl
      · rw [hp, if_pos rfl] at h2; omega
    rw [h3, if_neg (by decide)] at h2
    show sm f (i + m) + f (i + m) = _
    rw [hf _ h3, sm_ct hf m (by omega)]
    rfl
theorem sm_same {f : Nat → Nat} {p : Nat → Bool} (hf : ∀ e, p e = false → f e = 0) {i j : Nat} (h : fb_ct p i = fb_ct p j) : sm f i = sm f j := by
  rcases Nat.le_total i j with q | q
  · obtain ⟨m, rfl⟩ := Nat.le.dest q
    exact (sm_ct hf m h.symm).symm
  · obtain ⟨m, rfl⟩ := Nat.le.dest q
    exact sm_ct hf m h
theorem wt_div (wt s : Nat) : ∀ p, 0 < p → p ≤ 4 → wt * 12 ^ (s + 1) / p = wt * (12 / p) * 12 ^ s := by
  intro p h0 h4
  rw [Nat.pow_succ, ← Nat.mul_assoc, Nat.mul_right_comm wt (12 / p) (12 ^ s)]
  generalize wt * 12 ^ s = Y
  rcases (show p = 1 ∨ p = 2 ∨ p = 3 ∨ p = 4 by omega) with rfl | rfl | rfl | rfl
  · show Y * 12 / 1 = Y * 12
    omega
  · show Y * 12 / 2 = Y * 6
    omega
  · show Y * 12 / 3 = Y * 4
    omega
  · show Y * 12 / 4 = Y * 3
    omega
theorem twelveTo_4 {w : Wd} {s : Nat} (hs : s < 2 ^ 31) : ∀ (n t : Nat), s - t < n → t ≤ s → b_X8_twelveTo_4 n w (nI s) (nI (12 ^ t)) (nI t) = some (nI (12 ^ s), w) := by
  intro n
  induction n with
  | zero => intro t h; omega
  | succ n ih =>
    intro t hn ht
    rw [b_X8_twelveTo_4]
    by_cases h : t = s
    · subst h
      rw [if_pos (nI_le (Nat.le_refl t) hs)]
    · rw [if_neg (nI_ge (by omega) hs), nm_ok, nm_ok, nI_1, show (12 : Int32) = nI 12 from rfl, pk_mul, ← Nat.pow_succ]
      exact ih (t + 1) (by omega) (by omega)
theorem twelveTo_v {w : Wd} {s : Nat} (hs : s ≤ 4) : f_X8_twelveTo w (nI s) = some (nI (12 ^ s), w) := by
  unfold f_X8_twelveTo b_X8_twelveTo_0
  exact twelveTo_4 (by omega) LF 0 (by unfold LF; omega) (by omega)
theorem wholeOf_4 {w : Wd} {s : Nat} (hs : s ≤ 4) : ∀ (n t : Nat), s - t < n → t ≤ s → b_X4_wholeOf_4 n w (nI s) (nI (12 ^ t)) (nI t) = some (nI (12 ^ s), w) := by
  intro n
  induction n with
  | zero => intro t h; omega
  | succ n ih =>
    intro t hn ht
    rw [b_X4_wholeOf_4]
    by_cases h : t = s
    · subst h
      rw [if_pos (nI_le (Nat.le_refl t) (by omega))]
      split <;> rfl
    · rw [if_neg (show ¬ (4 : Int32) ≤ nI t from nI_ge (b := 4) (by omega) (by decide)), if_neg (nI_ge (by omega) (by omega)), nm_ok, nm_ok, nI_1, show (12 : Int32) = nI 12 from rfl, pk_mul, ← Nat.pow_succ]
      exact ih (t + 1) (by omega) (by omega)
theorem wholeOf_v {w : Wd} {s : Nat} (hs : s ≤ 4) : f_X4_wholeOf w (nI s) = some (nI (12 ^ s), w) := by
  unfold f_X4_wholeOf b_X4_wholeOf_0
  exact wholeOf_4 hs LF 0 (by unfold LF; omega) (by omega)
def cst : Nat → Nat
  | 0 => 1
  | s + 1 => 1 + 4 * (1 + cst s)
theorem cst_pos : ∀ s, 1 ≤ cst s
  | 0 => Nat.le_refl 1
  | s + 1 => by rw [cst]; omega
def FrD (d : Nat) (y z : Wd) : Prop := Only (fun k j => (k = 113 ∧ 12 * (d + 1) ≤ j) ∨ (k = 117 ∧ d ≤ j) ∨ (k = 118 ∧ d + 1 ≤ j)) y z
def Bs (w y : Wd) : Prop := ∀ k, k ≠ 113 → k ≠ 117 → k ≠ 118 → y.1 k = w.1 k
theorem Bs.fr {w y z : Wd} {d : Nat} (h : Bs w y) (hf : FrD d y z) : Bs w z := fun k h1 h2 h3 => (funext (fun j => hf.1 k j (by omega))).trans (h k h1 h2 h3)
theorem i12 {d b g : Nat} {k : Int32} (hk : k = nI b) : ((12 : Int32) * nI d + k) + nI g = nI (12 * d + b + g) := by
  rw [show (12 : Int32) = nI 12 from rfl, pk_mul, hk, nI_add, nI_add]
theorem i12' {d t : Nat} : (12 : Int32) * nI d + nI t = nI (12 * d + t) := by
  rw [show (12 : Int32) = nI 12 from rfl, pk_mul, nI_add]
theorem cp_copy {kb : Wd → Int32 → Int32 → Int32 → Int32 → Int32 → Option (Int32 × Wd)} {d : Nat} {v1 v2 v3 v4 v6 : Int32} (hd : d < 5) : ∀ (m t : Nat) (y : Wd), 12 - t < m → t ≤ 12 → ∃ y1, b_X8_caughtParts_162 kb m y v1 v2 v3 v4 (nI d) v6 (nI t) = b_X8_caughtParts_162 kb 1 y1 v1 v2 v3 v4 (nI d) v6 (nI 12) ∧ Only (fun k j => k = 113 ∧ 12 * (d + 1) ≤ j ∧ j < 12 * (d + 2)) y y1 ∧ (∀ k, t ≤ k → k < 12 → y1.1 113 (12 * (d + 1) + k) = y.1 113 (12 * d + k)) ∧ ∀ k, k < t → y1.1 113 (12 * (d + 1) + k) = y.1 113 (12 * (d + 1) + k) := by
  intro m
  induction m with
  | zero => intro t y h; omega
  | succ m ih =>
    intro t y hm ht
    by_cases h : t = 12
    · subst h
      refine ⟨y, ?_, Only.rf, fun k h1 h2 => by omega, fun _ _ => rfl⟩
      rw [b_X8_caughtParts_162, b_X8_caughtParts_162, if_pos (show (12 : Int32) ≤ nI 12 by decide), if_pos (show (12 : Int32) ≤ nI 12 by decide)]
    · rw [b_X8_caughtParts_162, if_neg (show ¬ (12 : Int32) ≤ nI t from nI_ge (b := 12) (by omega) (by decide)), nI_1, i12', i12', gd_true (inb_nI (show 12 * d + t < 72 by omega) (by decide)), gd_true (inb_nI (show 12 * (d + 1) + t < 72 by omega) (by decide)), nm_ok, nm_ok, nI_1, nI_clamp (show 12 * d + t < 2 ^ 31 by omega), nI_clamp (show 12 * (d + 1) + t < 2 ^ 31 by omega)]
      obtain ⟨y1, e1, o1, g1, g2⟩ := ih (t + 1) (up y 113 (12 * (d + 1) + t) (y.1 113 (12 * d + t))) (by omega) (by omega)
      refine ⟨y1, e1, (Only.up (S := fun k j => k = 113 ∧ 12 * (d + 1) ≤ j ∧ j < 12 * (d + 2)) Only.rf ⟨rfl, by omega, by omega⟩).tr o1, fun k h1 h2 => ?_, fun k h1 => ?_⟩
      · by_cases hk : k = t
        · subst hk; rw [g2 k (by omega), up_eq]
        · rw [g1 k (by omega) h2, up_ns (by omega)]
      · rw [g2 k (by omega), up_ns (by omega)]
theorem cp_hit {g n d c wt S : Nat} {y : Wd} {x : Int32} (hg : g < 4) (hd : d ≤ n) (hn : n ≤ 4) (hc : c < 12) (hat : y.1 113 (12 * d + 4 + g) = nI c) (hby : ¬ y.1 113 (12 * d + 8 + g) = -9) (hwt : y.1 118 d = nI wt) (m : Nat) : b_X8_caughtParts_20 (m + 1) y (nI g) (nI n) x (nI S) (nI d) = b_X8_caughtParts_20 m y (nI g) (nI n) x (nI (S + wt * 12 ^ (n - d))) (nI d + (-1)) := by
  have e81 : ∀ z, b_X8_caughtParts_76 (b_X8_caughtParts_20 m) y (nI g) (nI n) x (nI S) (nI d) z = b_X8_caughtParts_20 m y (nI g) (nI n) x (nI (S + wt * 12 ^ (n - d))) (nI d + (-1)) := fun z => by
    unfold b_X8_caughtParts_76 b_X8_caughtParts_81 b_X8_caughtParts_129 b_X8_caughtParts_275
    rw [if_neg (show ¬ (1 : Int32) = 0 by decide), i12 (k := 8) (b := 8) rfl, gd_true (inb_nI (show 12 * d + 8 + g < 72 by omega) (by decide)), nI_clamp (show 12 * d + 8 + g < 2 ^ 31 by omega), if_neg hby, gd_true (inb_nI (show d < 6 by omega) (by decide)), nI_subn hd, twelveTo_v (by omega), bd_ok, nI_clamp (show d < 2 ^ 31 by omega), hwt, pk_mul, nm_ok, nm_ok, nI_add]
  rw [b_X8_caughtParts_20, if_neg (nI_lt0 d (by omega)), i12 (k := 4) (b := 4) rfl, gd_true (inb_nI (show 12 * d + 4 + g < 72 by omega) (by decide)), nI_clamp (show 12 * d + 4 + g < 2 ^ 31 by omega), hat, mNearTo_v hc, bd_ok]
  by_cases hdn : nI d = nI n
  · rw [if_pos hdn]; exact e81 _
  · rw [if_neg hdn, i12 (k := 8) (b := 8) rfl, gd_true (inb_nI (show 12 * d + 8 + g < 72 by omega) (by decide)), nI_clamp (show 12 * d + 8 + g < 2 ^ 31 by omega), if_neg hby]; exact e81 _
theorem cp_end {g n d c S : Nat} {y : Wd} {x : Int32} (hg : g < 4) (hd : d ≤ n) (hn : n ≤ 4) (hc : c < 12) (hat : y.1 113 (12 * d + 4 + g) = nI c) (hby : y.1 113 (12 * d + 8 + g) = -9) (h : d = n ∨ aro c &&& (y.1 105 12 ^^^ (-1)) = 0) (m : Nat) : b_X8_caughtParts_20 (m + 1) y (nI g) (nI n) x (nI S) (nI d) = b_X8_caughtParts_20 m y (nI g) (nI n) x (nI S) (nI d + (-1)) := by
  have e81 : ∀ z, b_X8_caughtParts_76 (b_X8_caughtParts_20 m) y (nI g) (nI n) x (nI S) (nI d) z = b_X8_caughtParts_20 m y (nI g) (nI n) x (nI S) (nI d + (-1)) := fun z => by
    unfold b_X8_caughtParts_76 b_X8_caughtParts_81 b_X8_caughtParts_129 b_X8_caughtParts_275
    rw [if_neg (show ¬ (1 : Int32) = 0 by decide), i12 (k := 8) (b := 8) rfl, gd_true (inb_nI (show 12 * d + 8 + g < 72 by omega) (by decide)), nI_clamp (show 12 * d + 8 + g < 2 ^ 31 by omega), if_pos hby, nm_ok, nm_ok, show nI S + 0 = nI S from nI_add S 0]
  rw [b_X8_caughtParts_20, if_neg (nI_lt0 d (by omega)), i12 (k := 4) (b := 4) rfl, gd_true (inb_nI (show 12 * d + 4 + g < 72 by omega) (by decide)), nI_clamp (show 12 * d + 4 + g < 2 ^ 31 by omega), hat, mNearTo_v hc, bd_ok]
  by_cases hdn : nI d = nI n
  · rw [if_pos hdn]; exact e81 _
  · rw [if_neg hdn, i12 (k := 8) (b := 8) rfl, gd_true (inb_nI (show 12 * d + 8 + g < 72 by omega) (by decide)), nI_clamp (show 12 * d + 8 + g < 2 ^ 31 by omega), if_pos hby]
    rcases h with h | h
    · exact absurd (by rw [h]) hdn
    · rw [if_pos h]; exact e81 _
theorem cp_in {g n d c S : Nat} {y : Wd} {x ws : Int32} (hg : g < 4) (hd : d < n) (hn : n ≤ 4) (hc : c < 12) (hat : y.1 113 (12 * d + 4 + g) = nI c) (hby : y.1 113 (12 * d + 8 + g) = -9) (hws : aro c &&& (y.1 105 12 ^^^ (-1)) = ws) (h0 : ¬ ws = 0) (m : Nat) : b_X8_caughtParts_20 (m + 1) y (nI g) (nI n) x (nI S) (nI d) = b_X8_caughtParts_81 (b_X8_caughtParts_20 m) y (nI g) (nI n) x (nI S) (nI d) ws 0 := by
  rw [b_X8_caughtParts_20, if_neg (nI_lt0 d (by omega)), i12 (k := 4) (b := 4) rfl, gd_true (inb_nI (show 12 * d + 4 + g < 72 by omega) (by decide)), nI_clamp (show 12 * d + 4 + g < 2 ^ 31 by omega), hat, mNearTo_v hc, bd_ok, if_neg (show ¬ nI d = nI n from fun z => by have := (nI_eq (by omega) (by omega)).mp z; omega), i12 (k := 8) (b := 8) rfl, gd_true (inb_nI (show 12 * d + 8 + g < 72 by omega) (by decide)), nI_clamp (show 12 * d + 8 + g < 2 ^ 31 by omega), if_pos hby, hws, if_neg h0]
theorem cp_done {g n d c S : Nat} {y : Wd} {x ws : Int32} (hg : g < 4) (hd : d < n) (hn : n ≤ 4) (hc : c < 12) (hat : y.1 113 (12 * d + 4 + g) = nI c) (hby : y.1 113 (12 * d + 8 + g) = -9) (hws : aro c &&& (y.1 105 12 ^^^ (-1)) = ws) (h0 : ¬ ws = 0) (hch : y.1 117 d = nI (pop ws)) (m : Nat) : b_X8_caughtParts_20 (m + 1) y (nI g) (nI n) x (nI S) (nI d) = b_X8_caughtParts_20 m y (nI g) (nI n) x (nI S) (nI d + (-1)) := by
  rw [cp_in hg hd hn hc hat hby hws h0]
  unfold b_X8_caughtParts_81 b_X8_caughtParts_275
  rw [if_pos rfl, gd_true (inb_nI (show d < 6 by omega) (by decide)), ones_v, bd_ok, nI_clamp (show d < 2 ^ 31 by omega), hch, if_pos rfl, nm_ok]
theorem cp_down {g n d c S k e W M wt : Nat} {y : Wd} {ws a v r wk : Int32} (hW : W ≤ 4) (hg : g < W) (hd : d < n) (hn : n ≤ 4) (hc : c < 12) (hat : y.1 113 (12 * d + 4 + g) = nI c) (hby : y.1 113 (12 * d + 8 + g) = -9) (hws : aro c &&& (y.1 105 12 ^^^ (-1)) = ws) (h0 : ¬ ws = 0)
    (hch : y.1 117 d = nI k) (hwt : y.1 118 d = nI wt) (hk : k < pop ws) (he : e < 12) (hb : bt ws e = true) (hek : fb_ct (bt ws) e = k) (m1 : y.1 105 11 = nI W) (hM : M ≤ 7) (qa : y.1 113 (12 * d) = a) (qv : y.1 113 (12 * d + 1) = v) (ha : ∀ i, bt a i = true → i < M) (hinj : ∀ i j, i < M → j < M → y.1 108 i = y.1 108 j → i = j) (hs : StR y M a v (y.1 105 13) e r wk) (m : Nat) :
    ∃ y3, b_X8_caughtParts_20 (m + 1) y (nI g) (nI n) (nI M) (nI S) (nI d) = b_X8_caughtParts_20 m y3 (nI g) (nI n) (nI M) (nI S) (nI (d + 1)) ∧ FrD d y y3 ∧ y3.1 117 d = nI (k + 1) ∧ y3.1 117 (d + 1) = 0 ∧ y3.1 118 (d + 1) = nI (wt * (12 / pop ws)) ∧ y3.1 113 (12 * (d + 1)) = a &&& (r ^^^ (-1)) ∧ y3.1 113 (12 * (d + 1) + 1) = (v ||| wk) &&& (r ^^^ (-1)) ∧ y3.1 113 (12 * (d + 1) + 4 + g) = nI e ∧
      ByC (fun i => i < 7 ∧ bt r i = true ∧ nI e = y.1 108 i ∧ catI (y.1 110 i) (y.1 112 g) = true) (-9) (y3.1 113 (12 * (d + 1) + 8 + g)) := by
  have hpl := pop_le ws
  have hnz : ¬ nI (pop ws) = 0 := nI_ne0 (by omega) (by omega)
  rw [cp_in (by omega) hd hn hc hat hby hws h0]
  unfold b_X8_caughtParts_81
  rw [if_pos rfl, gd_true (inb_nI (show d < 6 by omega) (by decide)), ones_v, bd_ok, nI_clamp (show d < 2 ^ 31 by omega), hch, if_neg (show ¬ nI k = nI (pop ws) from fun z => by have := (nI_eq (by omega) (by omega)).mp z; omega)]
  obtain ⟨y1, e3, o1, g1, -⟩ := cp_copy (kb := b_X8_caughtParts_20 m) (d := d) (v1 := nI g) (v2 := nI n) (v3 := nI M) (v4 := nI S) (v6 := ws) (by omega) LF 0 y (by unfold LF; omega) (by omega)
  rw [show b_X8_caughtParts_162 (b_X8_caughtParts_20 m) LF y (nI g) (nI n) (nI M) (nI S) (nI d) ws 0 = b_X8_caughtParts_162 (b_X8_caughtParts_20 m) LF y (nI g) (nI n) (nI M) (nI S) (nI d) ws (nI 0) from rfl, e3, b_X8_caughtParts_162, if_pos (show (12 : Int32) ≤ nI 12 by decide), gd_true (inb_nI (show d < 6 by omega) (by decide)), nI_clamp (show d < 2 ^ 31 by omega), o1.1 117 d (by omega), hch, ofCells_v he hb hek, bd_ok, nI_1]
  have f1 : ∀ k, k ≠ 113 → y1.1 k = y.1 k := fun k hk => funext fun j => o1.1 k j (by omega)
  have qa1 : y1.1 113 (12 * (d + 1)) = a := (g1 0 (by omega) (by omega)).trans qa
  have qv1 : y1.1 113 (12 * (d + 1) + 1) = v := (g1 1 (by omega) (by omega)).trans qv
  have qb1 : y1.1 113 (12 * (d + 1) + 8 + g) = -9 := by
    have := g1 (8 + g) (by omega) (by omega)
    rw [← Nat.add_assoc, ← Nat.add_assoc, hby] at this
    exact this
  obtain ⟨y2, e4, R0, R1, R2, -, -, R5, R6⟩ := stepOn_v (w := y1) (d := d + 1) (g := g) (c := e) (M := M) (r := r) (wk := wk) hW (by omega) hg (by rw [f1 105 (by decide)]; exact m1) hM (by rw [qa1]; exact ha) (by rw [f1 108 (by decide)]; exact hinj) (by
    rw [qa1, qv1, f1 105 (by decide)]
    exact hs.cong hM (f1 108 (by decide)) (f1 110 (by decide)) (f1 111 (by decide)))
  rw [e4, bd_ok, gd_true (inb_nI (show d < 6 by omega) (by decide)), gd_true (inb_nI (show d < 6 by omega) (by decide)), nm_ok, gd_true (inb_nI (show d < 6 by omega) (by decide)), ones_v, bd_ok, gd_true (show nz (nI (pop ws)) = true from decide_eq_true hnz), gd_true (inb_nI (show d + 1 < 6 by omega) (by decide)), nm_ok, gd_true (inb_nI (show d + 1 < 6 by omega) (by decide)), nm_ok, nm_ok, nI_clamp (show d + 1 < 2 ^ 31 by omega), up_nc (show 118 ≠ 117 by decide)]
  have h117 : y2.1 117 d = nI k := by rw [R0.1 117 d (by omega), f1 117 (by decide)]; exact hch
  have h118 : y2.1 118 d = nI wt := by rw [R0.1 118 d (by omega), f1 118 (by decide)]; exact hwt
  rw [h117, h118, nI_1, show (12 : Int32) / nI (pop ws) = nI (12 / pop ws) from pk_div (a := 12) (by decide) (by omega) (by omega), pk_mul]
  unfold b_X8_caughtParts_275
  refine ⟨_, rfl, ?_, ?_, ?_, ?_, ?_, ?_, ?_, ?_⟩
  · have oa : FrD d y y2 := (o1.wd (S2 := fun k j => (k = 113 ∧ 12 * (d + 1) ≤ j) ∨ (k = 117 ∧ d ≤ j) ∨ (k = 118 ∧ d + 1 ≤ j)) (fun k j z => by omega)).tr (R0.wd (fun k j z => by omega))
    exact ((Only.up oa (Or.inr (Or.inl ⟨rfl, by omega⟩))).up (Or.inr (Or.inr ⟨rfl, by omega⟩))).up (Or.inr (Or.inl ⟨rfl, by omega⟩))
  · rw [up_ns (show d ≠ d + 1 by omega), up_nc (by decide), up_eq]
  · rw [up_eq]
  · rw [up_nc (by decide), up_eq]
  · rw [up_nc (by decide), up_nc (by decide), up_nc (by decide), R1, qa1]
  · rw [up_nc (by decide), up_nc (by decide), up_nc (by decide), R2, qv1]
  · rw [up_nc (by decide), up_nc (by decide), up_nc (by decide), R5 g hg, if_pos rfl]
  · rw [up_nc (by decide), up_nc (by decide), up_nc (by decide)]
    have := R6 g hg
    rw [if_pos rfl, qb1, f1 108 (by decide), f1 110 (by decide), f1 112 (by decide)] at this
    exact this
