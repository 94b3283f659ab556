/-! ===== the whole text ===== -/
theorem part_any {p i len T G : Nat} {x y : Wd} {tx cl kd st : Nat → Nat} (h : PH p x y i len tx T G cl kd st) : PO p x y i len (nI (tx i)) := by
  by_cases c1 : tx i = 84
  · rw [c1]; exact part_T h c1
  by_cases c2 : tx i = 87
  · rw [c2]; exact part_W h c2
  by_cases c3 : tx i = 88
  · rw [c3]; exact part_X h c3
  by_cases c4 : tx i = 71
  · rw [c4]; exact part_G h c4
  obtain ⟨hp, hR, htx, hty, h0, h1, ha, hf, hi⟩ := h
  have hb := (htx.2.2 i hi).2
  have n1 : ¬ nI (tx i) = 84 := fun z => c1 ((nI_eq (b := 84) (by omega) (by decide)).mp z)
  have n2 : ¬ nI (tx i) = 87 := fun z => c2 ((nI_eq (b := 87) (by omega) (by decide)).mp z)
  have n3 : ¬ nI (tx i) = 88 := fun z => c3 ((nI_eq (b := 88) (by omega) (by decide)).mp z)
  have n4 : ¬ nI (tx i) = 71 := fun z => c4 ((nI_eq (b := 71) (by omega) (by decide)).mp z)
  refine PO.no (tx := tx) (x' := up (up x 10 1 (nI (tx i))) 10 2 0) htx hi ?_ Fr.rf.up.up ?_
  · rw [take_first h1]
    unfold f_X2_takeFirst b_X2_takeFirst_0
    rw [nm_ok, nm_ok, if_neg n4, if_neg n1, if_neg n2, if_neg n3, bd_ok]
    rfl
  · unfold f_X8_readPart b_X8_readPart_0 b_X8_readPart_95 b_X8_readPart_169 b_X8_readPart_229
    rw [if_neg n1, if_neg n2, if_neg n3, if_neg n4]
    exact part_fail ha hf
theorem TX.ox {p len : Nat} {tx : Nat → Nat} {x x' : Wd} (hp : p = 3 ∨ p = 11) (h : TX x 1 1 2 len tx) (ho : OX p x x') : TX x' 1 1 2 len tx := h.cong (ho.1 1 1 (by omega)) (funext fun j => ho.1 2 j (by omega))
theorem TX.sm {len : Nat} {tx : Nat → Nat} {y y' : Wd} (h : TX y 105 16 114 len tx) (ho : Only SM y y') : TX y' 105 16 114 len tx := h.cong (ho.1 105 16 (by unfold SM; omega)) (funext fun j => ho.1 114 j (by unfold SM; omega))
theorem read_k {p len : Nat} {tx : Nat → Nat} (hp : p = 3 ∨ p = 11) : ∀ (d i n m T G : Nat) (cl kd st : Nat → Nat) (x y : Wd), len - i ≤ d → i ≤ len → len - i + 6 < n → len - i < m → RdR p x y T G cl kd st → TX x 1 1 2 len tx → TX y 105 16 114 len tx → x.1 10 0 = nI p → x.1 10 1 = 1 → y.1 105 17 = nI i → y.1 105 18 = -9 → ∃ r x' y', b_X2_read_19 p n x (nI i) = some (r, x') ∧ b_X8_readText_51 m y = some (r, y') ∧ OX p x x' ∧ Only SM y y' ∧ ((∃ f, f ≤ len ∧ r = nI f) ∨ (r = -9 ∧ ∃ T G cl kd st, RdR p x' y' T G cl kd st)) := by
  intro d
  induction d with
  | zero =>
    intro i n m T G cl kd st x y hd hi hn hm hR htx hty h0 h1 ha hf
    obtain rfl : i = len := by omega
    have h64 := htx.1
    obtain ⟨n, rfl⟩ : ∃ n', n = n' + 1 := ⟨n - 1, by omega⟩
    obtain ⟨m, rfl⟩ : ∃ n', m = n' + 1 := ⟨m - 1, by omega⟩
    refine ⟨-9, x, y, ?_, ?_, Only.rf, Only.rf, Or.inr ⟨rfl, T, G, cl, kd, st, hR⟩⟩
    · rw [rd_e htx]
      unfold b_X2_read_54
      rw [if_pos h1]
    · rw [b_X8_readText_51, if_pos hf, hty.2.1, ha, if_pos (nI_le (Nat.le_refl _) (by omega)), hf]
  | succ d ih =>
    intro i n m T G cl kd st x y hd hi hn hm hR htx hty h0 h1 ha hf
    have h64 := htx.1
    by_cases hl : i = len
    · exact ih i n m T G cl kd st x y (by omega) hi hn hm hR htx hty h0 h1 ha hf
    · have hlt : i < len := by omega
      obtain ⟨m, rfl⟩ : ∃ n', m = n' + 2 := ⟨m - 2, by omega⟩
      have em : b_X8_readText_51 (m + 2) y = bv (f_X8_readPart y (nI (tx i))) (fun w5 => b_X8_readText_51 (m + 1) w5) := by
        rw [b_X8_readText_51, if_pos hf, hty.2.1, ha, if_neg (nI_ge hlt (by omega)), gd_true (inb_nI (show i < 64 by omega) (by decide)), nI_clamp (by omega), (hty.2.2 i hlt).1]
      rcases part_any (p := p) ⟨hp, hR, htx, hty, h0, h1, ha, hf, hlt⟩ with ⟨f, x', y', k1, k2, k3, k4, k5, k6⟩ | ⟨k, T', G', cl', kd', st', x', y', q1, q2, q3, q4, q5, q6, q7, q8, q9, q10, q11, q12⟩
      · obtain ⟨n, rfl⟩ : ∃ n', n = n' + 6 := ⟨n - 6, by omega⟩
        refine ⟨nI f, x', y', k2 n, ?_, k5, k6, Or.inl ⟨f, k1, rfl⟩⟩
        rw [em, k3, bv_ok, b_X8_readText_51, if_neg (by rw [k4]; exact nI_ne9 (by omega)), k4]
      · obtain ⟨r, x2, y2, e1, e2, e3, e4, e5⟩ := ih (i + k) (n - k) (m + 1) T' G' cl' kd' st' x' y' (by omega) q3 (by omega) (by omega) q6 (htx.ox hp q11) (hty.sm q12) q7 q8 q9 q10
        refine ⟨r, x2, y2, ?_, ?_, q11.tr e3, q12.tr e4, e5⟩
        · have := q4 (n - k)
          rw [Nat.sub_add_cancel (by omega)] at this
          rw [this]; exact e1
        · rw [em, q5, bv_ok]; exact e2
theorem clear_v {p : Nat} {w : Wd} (hp : p = 3 ∨ p = 11) : ∃ w', f_X1_clear p w = some w' ∧ (∀ j, j < 6 → w'.1 p j = 0) ∧ (∀ t, t < 6 → w'.1 (p + 4) t = 0) ∧ (∀ a, a ≠ p → a ≠ p + 4 → w'.1 a = w.1 a) ∧ w'.2 = w.2 := by
  have key : ∀ (n t : Nat) (v : Wd), 6 - t < n → t ≤ 6 → ∃ w', b_X1_clear_32 p n v (nI t) = some w' ∧ (∀ s, t ≤ s → s < 6 → w'.1 (p + 4) s = 0) ∧ (∀ s, s < t → w'.1 (p + 4) s = v.1 (p + 4) s) ∧ (∀ a, a ≠ p + 4 → w'.1 a = v.1 a) ∧ w'.2 = v.2 := by
    intro n
    induction n with
    | zero => intro t v h; omega
    | succ n ih =>
      intro t v hn ht
      rw [b_X1_clear_32]
      by_cases h : t = 6
      · subst h
        rw [if_pos (by decide)]
        exact ⟨v, rfl, fun s h1 h2 => by omega, fun s _ => rfl, fun a _ => rfl, rfl⟩
      · rw [if_neg (show ¬ (6 : Int32) ≤ nI t from nI_ge (b := 6) (by omega) (by decide)), gd_true (inb_nI (show t < 6 by omega) (by decide)), nI_clamp (by omega), nm_ok, nm_ok, nI_1]
        obtain ⟨w', e, h1, h2, h3, h4⟩ := ih (t + 1) (up v (p + 4) t 0) (by omega) (by omega)
        refine ⟨w', e, fun s k1 k2 => ?_, fun s k1 => ?_, fun a ha => by rw [h3 a ha, up_nc ha], h4⟩
        · by_cases hs : s = t
          · subst hs
            rw [h2 s (by omega), up_eq]
          · exact h1 s (by omega) k2
        · rw [h2 s (by omega), up_ns (by omega)]
  unfold f_X1_clear b_X1_clear_0
  rw [nm_ok, nm_ok, nm_ok, nm_ok, nm_ok, nm_ok]
  obtain ⟨w', e, h1, h2, h3, h4⟩ := key LF 0 (up (up (up (up (up (up w p 0 (nI 0)) p 1 (nI 0)) p 2 (nI 0)) p 3 (nI 0)) p 4 (nI 0)) p 5 (nI 0)) (by unfold LF; omega) (by omega)
  refine ⟨w', by rw [← nI_0]; exact e, fun j hj => ?_, fun t ht => h1 t (by omega) ht, fun a h5 h6 => ?_, h4⟩
  · rw [h3 p (by omega)]
    rcases (show j = 0 ∨ j = 1 ∨ j = 2 ∨ j = 3 ∨ j = 4 ∨ j = 5 by omega) with rfl | rfl | rfl | rfl | rfl | rfl <;> simp [up_get, nI_0]
  · rw [h3 a h6, up_nc h5, up_nc h5, up_nc h5, up_nc h5, up_nc h5, up_nc h5]
theorem read_v {p len : Nat} {tx : Nat → Nat} {w y : Wd} (hp : p = 3 ∨ p = 11) (htx : TX w 1 1 2 len tx) (hty : TX y 105 16 114 len tx) : ∃ r x' y', f_X2_read p w = some (r, x') ∧ f_X8_readText y = some (r, y') ∧ OX p w x' ∧ Only SM y y' ∧ ((∃ f, f ≤ len ∧ r = nI f) ∨ (r = -9 ∧ ∃ T G cl kd st, RdR p x' y' T G cl kd st)) := by
  have h64 := htx.1
  -- the class's start
  obtain ⟨w4, e4, k1, k2, k3, k4⟩ := clear_v (p := p) (w := up w 10 0 (nI p)) hp
  obtain ⟨x0, hx0⟩ : ∃ x0, x0 = up w4 10 1 0 := ⟨_, rfl⟩
  have eX : f_X2_read p w = b_X2_read_19 p LF x0 (nI 0) := by
    unfold f_X2_read b_X2_read_0
    rw [nm_ok, show Int32.ofNat p = nI p from rfl, up_eq, nI_clamp (by omega), gd_true (pl_ok hp), e4, bv_ok, nm_ok, ← hx0]
    rfl
  have hx10 : x0.1 10 0 = nI p := by rw [hx0, up_ns (by decide), k3 10 (by omega) (by omega), up_eq]
  have hx11 : x0.1 10 1 = 0 := by rw [hx0, up_eq]
  have ox0 : OX p w x0 := ⟨fun a j q => by
    rw [hx0, up_nc (fun z => q (Or.inl z)), k3 a (fun z => q (Or.inr (by omega))) (fun z => q (Or.inr (by omega))), up_nc (fun z => q (Or.inl z))], by rw [hx0]; exact k4⟩
  have htx0 := htx.ox hp ox0
  -- the reference's start
  obtain ⟨y5, hy5⟩ : ∃ y5, y5 = up (up (up (up (up y 105 17 0) 105 18 (-9)) 105 2 0) 105 3 0) 105 4 0 := ⟨_, rfl⟩
  have oy5 : Only SM y y5 := by
    rw [hy5]
    exact ((((Only.rf.up (Or.inr (Or.inr ⟨rfl, by omega⟩))).up (Or.inr (Or.inr ⟨rfl, by omega⟩))).up (Or.inr (Or.inr ⟨rfl, by omega⟩))).up (Or.inr (Or.inr ⟨rfl, by omega⟩))).up (Or.inr (Or.inr ⟨rfl, by omega⟩))
  have hty5 := hty.sm oy5
  have eY : f_X8_readText y = if nI len = 0 then (some ((0 : Int32), y5)) else (if (y5.1 114 0) = ((70 : Int32)) then (b_X8_readText_51 LF (up y5 105 17 1)) else (some ((0 : Int32), y5))) := by
    unfold f_X8_readText b_X8_readText_0
    simp only [nm_ok]
    rw [← hy5, hty5.2.1]
    rfl
  by_cases hl0 : len = 0
  · subst hl0
    refine ⟨nI 0, x0, y5, ?_, ?_, ox0, oy5, Or.inl ⟨0, Nat.le_refl 0, rfl⟩⟩
    · rw [eX, show LF = 3999 + 1 from rfl, rd_e htx0]
      unfold b_X2_read_54
      rw [if_neg (by rw [hx11]; decide), htx0.2.1]
    · rw [eY, if_pos (show nI 0 = 0 from rfl)]; rfl
  · have hlp : 0 < len := by omega
    have eT : f_X2_take x0 (nI (tx 0)) = if nI (tx 0) = 70 then some (1, up x0 10 1 1) else some (0, up x0 10 1 1) := by
      unfold f_X2_take b_X2_take_0
      rw [if_pos hx11, nm_ok]
    rw [if_neg (nI_ne0 hlp (by omega)), (hty5.2.2 0 hlp).1] at eY
    by_cases h70 : nI (tx 0) = 70
    · rw [if_pos h70] at eT eY
      obtain ⟨x1, hx1⟩ : ∃ x1, x1 = up x0 10 1 1 := ⟨_, rfl⟩
      obtain ⟨y6, hy6⟩ : ∃ y6, y6 = up y5 105 17 1 := ⟨_, rfl⟩
      rw [← hx1] at eT
      rw [← hy6] at eY
      have ox1 : OX p w x1 := by rw [hx1]; exact Only.up ox0 (Or.inl rfl)
      have oy6 : Only SM y y6 := by rw [hy6]; exact oy5.up (Or.inr (Or.inr ⟨rfl, by omega⟩))
      have xp : ∀ j, j < 6 → x1.1 p j = 0 := fun j hj => by rw [hx1, up_nc (by omega), hx0, up_nc (by omega)]; exact k1 j hj
      have x4 : ∀ j, j < 6 → x1.1 (p + 4) j = 0 := fun j hj => by rw [hx1, up_nc (by omega), hx0, up_nc (by omega)]; exact k2 j hj
      have hR : RdR p x1 y6 0 0 (fun _ => 0) (fun _ => 0) (fun _ => 0) := by
        refine ⟨by decide, by decide, xp 0 (by decide), ?_, xp 1 (by decide), ?_, ?_, fun i hi => ?_, fun t h => by omega, fun t u h => by omega, fun t h => by omega, fun t h => by omega, fun t h => by omega, fun t _ h => x4 t h, fun i => ?_, fun i => ?_, fun i => ?_, fun g h => by omega, fun g h => by omega⟩
        · rw [hy6, up_ns (by decide), hy5, up_ns (by decide), up_ns (by decide), up_eq]; rfl
        · rw [hy6, up_ns (by decide), hy5, up_ns (by decide), up_eq]; rfl
        · rw [xp 2 (by decide), hy6, up_ns (by decide), hy5, up_eq]
        · rw [xp 2 (by decide), b_0] at hi; cases hi
        · rw [xp 3 (by decide), b_0]; simp
        · rw [xp 4 (by decide), b_0]; simp
        · rw [xp 5 (by decide), b_0]; simp
      obtain ⟨r, x', y', e1, e2, e3, e5, e6⟩ := read_k (p := p) (len := len) (tx := tx) hp len 1 3999 LF 0 0 (fun _ => 0) (fun _ => 0) (fun _ => 0) x1 y6 (by omega) (by omega) (by omega) (by unfold LF; omega) hR (htx.ox hp ox1) (hty.sm oy6) (by rw [hx1, up_ns (by decide)]; exact hx10) (by rw [hx1, up_eq]) (by rw [hy6, up_eq]; rfl) (by rw [hy6, up_ns (by decide), hy5, up_ns (by decide), up_ns (by decide), up_ns (by decide), up_eq])
      refine ⟨r, x', y', ?_, by rw [eY]; exact e2, ox1.tr e3, oy6.tr e5, e6⟩
      rw [eX, show LF = 3999 + 1 from rfl, rd_y htx0 hlp eT]
      exact e1
    · rw [if_neg h70] at eT eY
      refine ⟨nI 0, up x0 10 1 1, y5, ?_, eY, Only.up ox0 (Or.inl rfl), oy5, Or.inl ⟨0, by omega, rfl⟩⟩
      rw [eX, show LF = 3999 + 1 from rfl, rd_n htx0 hlp eT]
theorem TextR.tx {w : Wd} (h : TextR w) : ∃ len tx, TX w 1 1 2 len tx ∧ TX w 105 16 114 len tx := by
  obtain ⟨len, h1, h2, h3, h4⟩ := h
  obtain ⟨tx, ht⟩ : ∃ tx : Nat → Nat, ∀ j, tx j = (w.1 2 j).toNatClampNeg := ⟨fun j => (w.1 2 j).toNatClampNeg, fun j => rfl⟩
  refine ⟨len, tx, ⟨h1, h2, fun j hj => ?_⟩, ⟨h1, h3, fun j hj => ?_⟩⟩
  · obtain ⟨-, b, hb, e⟩ := h4 j hj
    rw [ht, e, nI_clamp (by omega)]
    exact ⟨rfl, hb⟩
  · obtain ⟨e0, b, hb, e⟩ := h4 j hj
    rw [ht, ← e0, e, nI_clamp (by omega)]
    exact ⟨rfl, hb⟩
/-- both readers, the reference on what the class leaves -/
theorem read_two {p len : Nat} {tx : Nat → Nat} {w : Wd} (hp : p = 3 ∨ p = 11) (htx : TX w 1 1 2 len tx) (hty : TX w 105 16 114 len tx) : ∃ r x', f_X2_read p w = some (r, x') ∧ OX p w x' ∧ ∀ y, TX y 105 16 114 len tx → ∃ y', f_X8_readText y = some (r, y') ∧ Only SM y y' ∧ ((∃ f, f ≤ len ∧ r = nI f) ∨ (r = -9 ∧ ∃ T G cl kd st, RdR p x' y' T G cl kd st)) := by
  obtain ⟨r, x', y0, e1, -, e3, -, -⟩ := read_v hp htx hty
  refine ⟨r, x', e1, e3, fun y hy => ?_⟩
  obtain ⟨r2, x2, y', f1, f2, f3, f4, f5⟩ := read_v hp htx hy
  rw [e1] at f1
  have h9 := Option.some.inj f1
  have hr : r = r2 := congrArg Prod.fst h9
  have hx : x' = x2 := congrArg Prod.snd h9
  subst hr
  subst hx
  exact ⟨y', f2, f4, f5⟩
theorem s_fault : Step f_X7_fault f_X8_fault := by
  intro w hi
  obtain ⟨T, W, cl, kd, hi⟩ := hi
  obtain ⟨len, tx, htx, hty⟩ := hi.2.1.tx
  obtain ⟨r, x', e1, o1, h⟩ := read_two (p := 3) (Or.inl rfl) htx hty
  obtain ⟨y', e2, o2, -⟩ := h x' (hty.cong (o1.1 105 16 (by omega)) (funext fun j => o1.1 114 j (by omega)))
  refine ⟨r, x', y', ?_, ?_, T, W, cl, kd, hi.fr ?_⟩
  · unfold f_X7_fault b_X7_fault_0
    rw [e1, bd_ok]
  · unfold f_X8_fault b_X8_fault_0
    rw [e2, bd_ok]
  · refine (o1.wd (fun k j z => ?_)).tr (o2.wd (fun k j z => ?_))
    · unfold Scr; omega
    · unfold SM at z; unfold Scr; omega
