/-! ===== a part that tells a trap ===== -/
def SM (k j : Nat) : Prop := k = 106 ∨ k = 107 ∨ (k = 105 ∧ (j = 2 ∨ j = 3 ∨ j = 4 ∨ j = 17 ∨ j = 18))
def OX (p : Nat) (x x' : Wd) : Prop := Only (fun k _ => k = 10 ∨ (p ≤ k ∧ k ≤ p + 6)) x x'
theorem S78.sm {y y' : Wd} (h : Only S78 y y') : Only SM y y' := h.wd (fun k j z => Or.inr (Or.inr ⟨z.1, by have := z.2; omega⟩))
theorem Fr.ox {p : Nat} {x x' : Wd} (h : Fr x x') : OX p x x' := ⟨fun k j q => by rw [h.1 k (fun z => q (Or.inl z))], h.2⟩
def PO (p : Nat) (x y : Wd) (i len : Nat) (c : Int32) : Prop :=
  (∃ f x' y', f ≤ len ∧ (∀ n, b_X2_read_19 p (n + 6) x (nI i) = some (nI f, x')) ∧ f_X8_readPart y c = some y' ∧ y'.1 105 18 = nI f ∧ OX p x x' ∧ Only SM y y') ∨
  (∃ k T G cl kd st x' y', 0 < k ∧ k ≤ 5 ∧ i + k ≤ len ∧ (∀ n, b_X2_read_19 p (n + k) x (nI i) = b_X2_read_19 p n x' (nI (i + k))) ∧ f_X8_readPart y c = some y' ∧ RdR p x' y' T G cl kd st ∧ x'.1 10 0 = nI p ∧ x'.1 10 1 = 1 ∧ y'.1 105 17 = nI (i + k) ∧ y'.1 105 18 = -9 ∧ OX p x x' ∧ Only SM y y')
theorem take_first {x : Wd} {s : Int32} (h1 : x.1 10 1 = 1) : f_X2_take x s = bd (f_X2_takeFirst x s) (fun r26 w25 => gd (bb r26) (some (r26, w25))) := by
  unfold f_X2_take b_X2_take_0
  rw [h1, if_neg (by decide), if_neg (by decide), if_neg (by decide), if_neg (by decide), if_neg (by decide)]
theorem take_T {x : Wd} {s : Int32} (h1 : x.1 10 1 = 84) : f_X2_take x s = bd (f_X2_takeOfTrap x s) (fun r26 w25 => gd (bb r26) (some (r26, w25))) := by
  unfold f_X2_take b_X2_take_0
  rw [h1, if_neg (by decide), if_neg (by decide), if_pos rfl]
theorem take_W {x : Wd} {s : Int32} (h1 : x.1 10 1 = 87) : f_X2_take x s = bd (f_X2_takeOfWire x s) (fun r26 w25 => gd (bb r26) (some (r26, w25))) := by
  unfold f_X2_take b_X2_take_0
  rw [h1, if_neg (by decide), if_neg (by decide), if_neg (by decide), if_pos rfl]
theorem take_X {x : Wd} {s : Int32} (h1 : x.1 10 1 = 88) : f_X2_take x s = bd (f_X2_takeOfClosed x s) (fun r26 w25 => gd (bb r26) (some (r26, w25))) := by
  unfold f_X2_take b_X2_take_0
  rw [h1, if_neg (by decide), if_neg (by decide), if_neg (by decide), if_neg (by decide), if_pos rfl]
theorem take_G {x : Wd} {s : Int32} (h1 : x.1 10 1 = 71) : f_X2_take x s = bd (f_X2_takeOfWalker x s) (fun r26 w25 => gd (bb r26) (some (r26, w25))) := by
  unfold f_X2_take b_X2_take_0
  rw [h1, if_neg (by decide), if_pos rfl]
theorem Md.first {p : Nat} {x : Wd} {a : Int32} (h0 : x.1 10 0 = nI p) : Md p x (up (up x 10 1 a) 10 2 0) a 0 := ⟨Fr.rf.up.up, by rw [up_ns (by decide), up_ns (by decide)]; exact h0, by rw [up_ns (by decide), up_eq], up_eq⟩
/-- the reference: no such part here -/
theorem part_fail {y : Wd} {i : Nat} (ha : y.1 105 17 = nI i) (hf : y.1 105 18 = -9) : b_X8_readPart_399 y = some (up y 105 18 (nI i)) := by
  unfold b_X8_readPart_399
  rw [fail_n hf, bv_ok, ha]
theorem PO.no {p i len : Nat} {tx : Nat → Nat} {x x' y : Wd} {c : Int32} (htx : TX x 1 1 2 len tx) (hi : i < len) (hx : f_X2_take x (nI (tx i)) = some (0, x')) (hfr : Fr x x') (hy : f_X8_readPart y c = some (up y 105 18 (nI i))) : PO p x y i len c :=
  Or.inl ⟨i, x', _, by omega, fun n => rd_n htx hi hx (n + 5), hy, up_eq, hfr.ox, Only.rf.up (Or.inr (Or.inr ⟨rfl, by omega⟩))⟩
theorem addTrap_71 {p k : Nat} {w : Wd} {b s0 s1 : Int32} (hk : k < 5) : b_X1_addTrap_71 p w (nI k) b s0 s1 = nm (up w p 3 (s1 ||| s0)) (fun w1 => nm (up w1 p 4 (w1.1 p 4 ||| (if k = 0 ∨ k = 2 then b else 0))) (fun w2 => nm (up w2 p 5 (w2.1 p 5 ||| (if k = 4 then b else 0))) (fun w3 => some (up w3 p 0 (w3.1 p 0 + 1))))) := by
  unfold b_X1_addTrap_71 b_X1_addTrap_89 b_X1_addTrap_95 b_X1_addTrap_115
  rcases (show k = 0 ∨ k = 1 ∨ k = 2 ∨ k = 3 ∨ k = 4 by omega) with rfl | rfl | rfl | rfl | rfl <;> rfl
theorem addTrap_v {p T c s k : Nat} {x : Wd} (hp : p = 3 ∨ p = 11) (hT : x.1 p 0 = nI T) (h6 : T < 6) (hk : k < 5) : ∃ x', f_X1_addTrap p x (nI c) (nI s) (nI k) = some x' ∧ (x'.1 p 0 = nI (T + 1) ∧ x'.1 p 1 = x.1 p 1 ∧ x'.1 p 2 = x.1 p 2 ∧ x'.1 p 3 = x.1 p 3 ||| (if k = 3 then (1 : Int32) <<< (nI T &&& 31) else 0) ∧ x'.1 p 4 = x.1 p 4 ||| (if k = 0 ∨ k = 2 then (1 : Int32) <<< (nI T &&& 31) else 0) ∧ x'.1 p 5 = x.1 p 5 ||| (if k = 4 then (1 : Int32) <<< (nI T &&& 31) else 0)) ∧ (∀ t, x'.1 (p + 1) t = if t = T then nI c else x.1 (p + 1) t) ∧ (∀ t, x'.1 (p + 2) t = if t = T then nI s else x.1 (p + 2) t) ∧ (∀ t, x'.1 (p + 3) t = if t = T then nI k else x.1 (p + 3) t) ∧ (∀ a, ¬ (p ≤ a ∧ a ≤ p + 3) → x'.1 a = x.1 a) ∧ x'.2 = x.2 := by
  unfold f_X1_addTrap b_X1_addTrap_0
  rw [hT, if_neg (nI_lt0 T (by omega)), if_pos (show nI T < (6 : Int32) from nI_lt (b := 6) h6 (by decide)), nm_ok, gd_true (inb_nI h6 (by decide)), nI_clamp (by omega), nm_ok]
  have e5 : (up x (p + 1) T (nI c)).1 p 0 = nI T := by rw [up_nc (by omega)]; exact hT
  rw [e5, gd_true (inb_nI h6 (by decide)), nI_clamp (by omega), nm_ok]
  have e7 : (up (up x (p + 1) T (nI c)) (p + 2) T (nI s)).1 p 0 = nI T := by rw [up_nc (by omega)]; exact e5
  rw [e7, gd_true (inb_nI h6 (by decide)), nI_clamp (by omega), nm_ok]
  obtain ⟨w9, h9⟩ : ∃ w9, w9 = up (up (up x (p + 1) T (nI c)) (p + 2) T (nI s)) (p + 3) T (nI k) := ⟨_, rfl⟩
  rw [← h9, addTrap_71 hk, addTrap_71 hk]
  have e : (if nI k = 3 then nm (up w9 p 3 (w9.1 p 3 ||| (1 : Int32) <<< (nI T &&& 31))) (fun w1 => nm (up w1 p 4 (w1.1 p 4 ||| (if k = 0 ∨ k = 2 then (1 : Int32) <<< (nI T &&& 31) else 0))) (fun w2 => nm (up w2 p 5 (w2.1 p 5 ||| (if k = 4 then (1 : Int32) <<< (nI T &&& 31) else 0))) (fun w3 => some (up w3 p 0 (w3.1 p 0 + 1))))) else nm (up w9 p 3 (w9.1 p 3 ||| 0)) (fun w1 => nm (up w1 p 4 (w1.1 p 4 ||| (if k = 0 ∨ k = 2 then (1 : Int32) <<< (nI T &&& 31) else 0))) (fun w2 => nm (up w2 p 5 (w2.1 p 5 ||| (if k = 4 then (1 : Int32) <<< (nI T &&& 31) else 0))) (fun w3 => some (up w3 p 0 (w3.1 p 0 + 1)))))) = nm (up w9 p 3 (w9.1 p 3 ||| (if k = 3 then (1 : Int32) <<< (nI T &&& 31) else 0))) (fun w1 => nm (up w1 p 4 (w1.1 p 4 ||| (if k = 0 ∨ k = 2 then (1 : Int32) <<< (nI T &&& 31) else 0))) (fun w2 => nm (up w2 p 5 (w2.1 p 5 ||| (if k = 4 then (1 : Int32) <<< (nI T &&& 31) else 0))) (fun w3 => some (up w3 p 0 (w3.1 p 0 + 1))))) := by
    by_cases h3 : k = 3
    · rw [if_pos (show nI k = 3 by rw [h3]; rfl), if_pos h3]
    · rw [if_neg (show ¬ nI k = 3 from fun z => h3 ((nI_eq (b := 3) (by omega) (by omega)).mp z)), if_neg h3]
  rw [e]
  simp only [nm_ok]
  have a0 : w9.1 p = x.1 p := by rw [h9, up_nc (by omega), up_nc (by omega), up_nc (by omega)]
  refine ⟨_, rfl, ⟨?_, ?_, ?_, ?_, ?_, ?_⟩, fun t => ?_, fun t => ?_, fun t => ?_, fun a ha => ?_, ?_⟩
  · rw [up_eq, up_ns (by decide), up_ns (by decide), up_ns (by decide), a0, hT, nI_1]
  · rw [up_ns (by decide), up_ns (by decide), up_ns (by decide), up_ns (by decide), a0]
  · rw [up_ns (by decide), up_ns (by decide), up_ns (by decide), up_ns (by decide), a0]
  · rw [up_ns (by decide), up_ns (by decide), up_ns (by decide), up_eq, a0]
  · rw [up_ns (by decide), up_ns (by decide), up_eq, up_ns (by decide), a0]
  · rw [up_ns (by decide), up_eq, up_ns (by decide), up_ns (by decide), a0]
  · rw [up_nc (by omega), up_nc (by omega), up_nc (by omega), up_nc (by omega), h9, up_nc (by omega), up_nc (by omega), up_get]
    simp
  · rw [up_nc (by omega), up_nc (by omega), up_nc (by omega), up_nc (by omega), h9, up_nc (by omega), up_get, up_nc (by omega)]
    simp
  · rw [up_nc (by omega), up_nc (by omega), up_nc (by omega), up_nc (by omega), h9, up_get, up_nc (by omega), up_nc (by omega)]
    simp
  · rw [up_nc (by omega), up_nc (by omega), up_nc (by omega), up_nc (by omega), h9, up_nc (by omega), up_nc (by omega), up_nc (by omega)]
  · rw [h9]; rfl
theorem or_one {x : Int32} {T : Nat} {q : Nat → Prop} {c : Prop} [Decidable c] (h6 : T < 6) (h : ∀ i, bt x i = true ↔ i < T ∧ q i) (i : Nat) {q' : Nat → Prop} (h1 : ∀ i, i < T → (q' i ↔ q i)) (h2 : q' T ↔ c) : bt (x ||| (if c then (1 : Int32) <<< (nI T &&& 31) else 0)) i = true ↔ i < T + 1 ∧ q' i := by
  rw [b_or, Bool.or_eq_true, h]
  have e : bt (if c then (1 : Int32) <<< (nI T &&& 31) else 0) i = true ↔ c ∧ i = T := by
    by_cases hc : c
    · rw [if_pos hc, one_t (by omega), decide_eq_true_iff]; simp [hc]
    · rw [if_neg hc, b_0]; simp [hc]
  rw [e]
  constructor
  · rintro (⟨k1, k2⟩ | ⟨k1, rfl⟩)
    · exact ⟨by omega, (h1 i k1).mpr k2⟩
    · exact ⟨by omega, h2.mpr k1⟩
  · rintro ⟨k1, k2⟩
    rcases Nat.lt_or_ge i T with q | q
    · exact Or.inl ⟨q, (h1 i q).mp k2⟩
    · obtain rfl : i = T := by omega
      exact Or.inr ⟨h2.mp k2, rfl⟩
theorem RdR.addT {p T G c s k : Nat} {x x' y y' : Wd} {cl kd cl' kd' st : Nat → Nat} (Hc : ∀ t, t < T → cl' t = cl t) (Hc0 : cl' T = c) (Hk : ∀ t, t < T → kd' t = kd t) (Hk0 : kd' T = k) (hR : RdR p x y T G cl kd st) (h6 : T < 6) (hc12 : c < 12) (hcl : ∀ t, t < T → cl t ≠ c) (hs : s < 2) (hk : k < 5)
    (X : x'.1 p 0 = nI (T + 1) ∧ x'.1 p 1 = x.1 p 1 ∧ x'.1 p 2 = x.1 p 2 ∧ x'.1 p 3 = x.1 p 3 ||| (if k = 3 then (1 : Int32) <<< (nI T &&& 31) else 0) ∧ x'.1 p 4 = x.1 p 4 ||| (if k = 0 ∨ k = 2 then (1 : Int32) <<< (nI T &&& 31) else 0) ∧ x'.1 p 5 = x.1 p 5 ||| (if k = 4 then (1 : Int32) <<< (nI T &&& 31) else 0))
    (Xc : ∀ t, x'.1 (p + 1) t = if t = T then nI c else x.1 (p + 1) t) (Xs : ∀ t, x'.1 (p + 2) t = if t = T then nI s else x.1 (p + 2) t) (Xk : ∀ t, x'.1 (p + 3) t = if t = T then nI k else x.1 (p + 3) t) (X4 : x'.1 (p + 4) = x.1 (p + 4)) (X5 : x'.1 (p + 5) = x.1 (p + 5)) (X6 : x'.1 (p + 6) = x.1 (p + 6))
    (Y2 : y'.1 105 2 = nI (T + 1)) (Y3 : y'.1 105 3 = y.1 105 3) (Y4 : y'.1 105 4 = y.1 105 4) (Yc : ∀ j, y'.1 106 j = if j = 4 * T + 3 then 0 else if j = 4 * T + 2 then nI k else if j = 4 * T + 1 then nI s else if j = 4 * T then nI c else y.1 106 j) (Y7 : y'.1 107 = y.1 107) : RdR p x' y' (T + 1) G cl' kd' st := by
  obtain ⟨a1, a2, a3, a4, a5, a6, a7, a8, a9, b1, b2, b3, b4, b5, b6, b7, b8, b9, d1⟩ := hR
  obtain ⟨X0, X1, X2, X3, X3', X3''⟩ := X
  have e0 : y'.1 106 (4 * T) = nI c := by rw [Yc, if_neg (by omega), if_neg (by omega), if_neg (by omega), if_pos rfl]
  have e1 : y'.1 106 (4 * T + 1) = nI s := by rw [Yc, if_neg (by omega), if_neg (by omega), if_pos rfl]
  have e2 : y'.1 106 (4 * T + 2) = nI k := by rw [Yc, if_neg (by omega), if_pos rfl]
  have e3 : y'.1 106 (4 * T + 3) = 0 := by rw [Yc, if_pos rfl]
  have eo : ∀ t, t < T → ∀ j, j ≤ 3 → y'.1 106 (4 * t + j) = y.1 106 (4 * t + j) := fun t ht j hj => by rw [Yc, if_neg (by omega), if_neg (by omega), if_neg (by omega), if_neg (by omega)]
  refine ⟨by omega, a2, X0, Y2, by rw [X1]; exact a5, by rw [Y3]; exact a6, by rw [X2, Y4]; exact a7, by rw [X2]; exact a8, fun t ht => ?_, fun t u ht hu h => ?_, fun t ht => ?_, fun t ht => ?_, fun t ht => ?_, fun t h1 h2 => ?_, fun i => ?_, fun i => ?_, fun i => ?_, fun g hg => ?_, fun g hg => ?_⟩
  · by_cases c0 : t = T
    · subst c0
      rw [Xc, if_pos rfl, Hc0]
      exact ⟨rfl, e0, hc12⟩
    · rw [Xc, if_neg c0, Hc t (by omega), show y'.1 106 (4 * t) = y.1 106 (4 * t) from eo t (by omega) 0 (by omega)]
      exact a9 t (by omega)
  · by_cases c0 : t = T
    · by_cases c1 : u = T
      · omega
      · rw [c0, Hc0, Hc u (by omega)] at h
        exact absurd h.symm (hcl u (by omega))
    · by_cases c1 : u = T
      · rw [c1, Hc0, Hc t (by omega)] at h
        exact absurd h (hcl t (by omega))
      · rw [Hc t (by omega), Hc u (by omega)] at h
        exact b1 t u (by omega) (by omega) h
  · by_cases c0 : t = T
    · subst c0
      rw [Xs, if_pos rfl, e1]
      refine ⟨rfl, ?_⟩
      rcases (show s = 0 ∨ s = 1 by omega) with rfl | rfl
      · exact Or.inl rfl
      · exact Or.inr rfl
    · rw [Xs, if_neg c0, eo t (by omega) 1 (by omega)]
      exact b2 t (by omega)
  · by_cases c0 : t = T
    · subst c0
      rw [Xk, if_pos rfl, Hk0]
      exact ⟨rfl, e2, hk⟩
    · rw [Xk, if_neg c0, Hk t (by omega), eo t (by omega) 2 (by omega)]
      exact b3 t (by omega)
  · by_cases c0 : t = T
    · subst c0
      rw [X4, e3, b5 t (Nat.le_refl t) h6]
      exact ⟨rfl, fun i hi => by rw [b_0] at hi; cases hi⟩
    · rw [X4, eo t (by omega) 3 (by omega)]
      exact ⟨(b4 t (by omega)).1, fun i hi => by have := (b4 t (by omega)).2 i hi; omega⟩
  · rw [X4]; exact b5 t (by omega) h2
  · rw [X3]
    exact or_one (q := fun i => kd i = 3) (q' := fun i => kd' i = 3) h6 b6 i (fun i hi => by rw [Hk i hi]) (by rw [Hk0])
  · rw [X3']
    exact or_one (q := fun i => kd i = 0 ∨ kd i = 2) (q' := fun i => kd' i = 0 ∨ kd' i = 2) h6 b7 i (fun i hi => by rw [Hk i hi]) (by rw [Hk0])
  · rw [X3'']
    exact or_one (q := fun i => kd i = 4) (q' := fun i => kd' i = 4) h6 b8 i (fun i hi => by rw [Hk i hi]) (by rw [Hk0])
  · rw [X5, Y7]; exact b9 g hg
  · rw [X6, Y7]; exact d1 g hg
