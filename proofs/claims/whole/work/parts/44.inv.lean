/-! ===== what ties the class's cells to the reference's ===== -/
/-- nothing has changed but what S names -/
def Only (S : Nat → Nat → Prop) (w w' : Wd) : Prop := (∀ k j, ¬ S k j → w'.1 k j = w.1 k j) ∧ w'.2 = w.2
theorem Only.rf {S : Nat → Nat → Prop} {w : Wd} : Only S w w := ⟨fun _ _ _ => rfl, rfl⟩
theorem Only.tr {S : Nat → Nat → Prop} {w w1 w2 : Wd} (h1 : Only S w w1) (h2 : Only S w1 w2) : Only S w w2 := ⟨fun k j h => (h2.1 k j h).trans (h1.1 k j h), h2.2.trans h1.2⟩
theorem Only.wd {S S2 : Nat → Nat → Prop} {w w1 : Wd} (h : Only S w w1) (hS : ∀ k j, S k j → S2 k j) : Only S2 w w1 := ⟨fun k j q => h.1 k j (fun z => q (hS k j z)), h.2⟩
theorem Only.up {S : Nat → Nat → Prop} {w w1 : Wd} {k j : Nat} {x : Int32} (h : Only S w w1) (hS : S k j) : Only S w (up w1 k j x) := ⟨fun a b q => by
  rw [up_get, if_neg (fun z => q (by rw [z.1, z.2]; exact hS))]
  exact h.1 a b q, h.2⟩
/-- slots that say nothing between calls -/
def Scr (T : Nat) (k j : Nat) : Prop := (3 ≤ k ∧ k ≤ 10) ∨ (22 ≤ k ∧ k ≤ 25) ∨ k = 93 ∨ k = 94 ∨ k = 106 ∨ k = 107 ∨ (116 ≤ k ∧ k ≤ 118) ∨ (k = 105 ∧ (j = 2 ∨ j = 3 ∨ j = 4 ∨ j = 17 ∨ j = 18)) ∨ (k = 113 ∧ 12 ≤ j) ∨ ((k = 108 ∨ k = 110 ∨ k = 111) ∧ T ≤ j)
def PlanR (w : Wd) (T W : Nat) (cl kd : Nat → Nat) : Prop :=
  T ≤ 6 ∧ W ≤ 4 ∧ w.1 11 0 = nI T ∧ w.1 105 10 = nI T ∧ w.1 11 1 = nI W ∧ w.1 105 11 = nI W ∧ w.1 11 2 = w.1 105 12 ∧ (∀ i, bt (w.1 11 2) i = true → i < 12) ∧
  (∀ t, t < T → w.1 12 t = nI (cl t) ∧ w.1 108 t = nI (cl t) ∧ cl t < 12) ∧ (∀ t u, t < T → u < T → cl t = cl u → t = u) ∧
  (∀ t, t < T → w.1 13 t = w.1 109 t ∧ (w.1 13 t = 0 ∨ w.1 13 t = 1)) ∧
  (∀ t, t < T → w.1 14 t = nI (kd t) ∧ w.1 110 t = nI (kd t) ∧ kd t < 5) ∧
  (∀ t, t < T → w.1 15 t = w.1 111 t ∧ ∀ i, bt (w.1 15 t) i = true → i < T) ∧ (∀ t, T ≤ t → t < 6 → w.1 15 t = 0) ∧
  (∀ i, bt (w.1 11 3) i = true ↔ i < T ∧ kd i = 3) ∧ (∀ i, bt (w.1 11 4) i = true ↔ i < T ∧ (kd i = 0 ∨ kd i = 2)) ∧ (∀ i, bt (w.1 11 5) i = true ↔ i < T ∧ kd i = 4) ∧
  (∀ g, g < W → w.1 17 g = w.1 112 g ∧ (w.1 17 g = -9 ∨ w.1 17 g = 0 ∨ w.1 17 g = 1))
/-- a scene of the class is in order -/
def ScW (w : Wd) (T W b : Nat) : Prop :=
  (∀ i, bt (w.1 b 1) i = true → i < T) ∧ (∀ i, bt (w.1 b 2) i = true → i < T) ∧ (∀ i, bt (w.1 (b + 1) 0) i = true → i < T) ∧ (∀ i, bt (w.1 (b + 1) 1) i = true → i < T) ∧
  (∀ g, g < W → ∃ c, c < 12 ∧ w.1 (b + 2) g = nI c) ∧ (∀ g, g < W → w.1 (b + 3) g = -9 ∨ ∃ t, t < T ∧ w.1 (b + 3) g = nI t) ∧ (w.1 b 3 = 0 ∨ w.1 b 3 = 1)
/-- a scene of the class and twelve numbers of the reference's -/
def ScR (w : Wd) (W b cM o : Nat) : Prop :=
  w.1 b 1 = w.1 cM o ∧ w.1 b 2 = w.1 cM (o + 1) ∧ w.1 (b + 1) 0 = w.1 cM (o + 2) ∧ w.1 (b + 1) 1 = w.1 cM (o + 3) ∧ ∀ g, g < W → w.1 (b + 2) g = w.1 cM (o + 4 + g) ∧ w.1 (b + 3) g = w.1 cM (o + 8 + g)
def TextR (w : Wd) : Prop := ∃ len, len ≤ 64 ∧ w.1 1 1 = nI len ∧ w.1 105 16 = nI len ∧ ∀ j, j < len → w.1 2 j = w.1 114 j ∧ ∃ b, b < 256 ∧ w.1 2 j = nI b
def NowR (w : Wd) (T W : Nat) : Prop := ScW w T W 18 ∧ ScR w W 18 113 0 ∧ w.1 18 3 = w.1 105 13 ∧ (w.1 18 3 = 0 ∨ w.1 18 3 = 1)
def ActsR (w : Wd) (T W : Nat) : Prop := ∃ A Q N, A ≤ 16 ∧ Q < 16 ∧ N < 16 ∧ w.1 26 2 = nI A ∧ w.1 105 19 = nI A ∧ w.1 26 1 = nI Q ∧ w.1 105 20 = nI N ∧ ∀ i, i < A → ScW w T W (28 + 4 * ((Q + i) % 16)) ∧ ScR w W (28 + 4 * ((Q + i) % 16)) 115 (12 * ((N + 16 - A + i) % 16))
def SlotR (w : Wd) (T W s : Nat) : Prop := w.1 104 s = w.1 119 s ∧ (w.1 104 s = 0 ∨ w.1 104 s = 1) ∧ (w.1 104 s = 1 → ScW w T W (96 + 4 * s) ∧ ScR w W (96 + 4 * s) 120 (13 * s) ∧ w.1 (96 + 4 * s) 3 = w.1 120 (13 * s + 12) ∧ (w.1 (96 + 4 * s) 3 = 0 ∨ w.1 (96 + 4 * s) 3 = 1))
def InvT (w : Wd) (T W : Nat) (cl kd : Nat → Nat) : Prop := PlanR w T W cl kd ∧ TextR w ∧ NowR w T W ∧ ActsR w T W ∧ (SlotR w T W 0 ∧ SlotR w T W 1) ∧ w.2 0 = w.2 105
def Inv (w : Wd) : Prop := ∃ T W cl kd, InvT w T W cl kd
theorem ScW.fr {w w' : Wd} {T W b : Nat} (h : ScW w T W b) (h0 : ∀ j, w'.1 b j = w.1 b j) (h1 : ∀ j, w'.1 (b + 1) j = w.1 (b + 1) j) (h2 : ∀ j, w'.1 (b + 2) j = w.1 (b + 2) j) (h3 : ∀ j, w'.1 (b + 3) j = w.1 (b + 3) j) : ScW w' T W b := by
  unfold ScW at h ⊢
  simp only [h0, h1, h2, h3]
  exact h
theorem ScR.fr {w w' : Wd} {W b cM o : Nat} (h : ScR w W b cM o) (hW : W ≤ 4) (h0 : ∀ j, w'.1 b j = w.1 b j) (h1 : ∀ j, w'.1 (b + 1) j = w.1 (b + 1) j) (h2 : ∀ j, w'.1 (b + 2) j = w.1 (b + 2) j) (h3 : ∀ j, w'.1 (b + 3) j = w.1 (b + 3) j) (hm : ∀ j, o ≤ j → j < o + 12 → w'.1 cM j = w.1 cM j) : ScR w' W b cM o := by
  obtain ⟨a1, a2, a3, a4, a5⟩ := h
  unfold ScR
  rw [h0, h0, h1, h1, hm o (by omega) (by omega), hm (o + 1) (by omega) (by omega), hm (o + 2) (by omega) (by omega), hm (o + 3) (by omega) (by omega)]
  refine ⟨a1, a2, a3, a4, fun g hg => ?_⟩
  rw [h2, h3, hm (o + 4 + g) (by omega) (by omega), hm (o + 8 + g) (by omega) (by omega)]
  exact a5 g hg
theorem PlanR.fr {w w' : Wd} {T W : Nat} {cl kd : Nat → Nat} (h : PlanR w T W cl kd) (hx : ∀ k j, 11 ≤ k → k ≤ 17 → w'.1 k j = w.1 k j) (hm : ∀ j, 10 ≤ j → j ≤ 12 → w'.1 105 j = w.1 105 j) (ha : ∀ k j, 108 ≤ k → k ≤ 111 → j < T → w'.1 k j = w.1 k j) (hg : ∀ j, w'.1 112 j = w.1 112 j) : PlanR w' T W cl kd := by
  obtain ⟨a1, a2, a3, a4, a5, a6, a7, a8, a9, b1, b2, b3, b4, b5, b6, b7, b8, b9⟩ := h
  unfold PlanR
  rw [hx 11 0 (by omega) (by omega), hx 11 1 (by omega) (by omega), hx 11 2 (by omega) (by omega), hx 11 3 (by omega) (by omega), hx 11 4 (by omega) (by omega), hx 11 5 (by omega) (by omega), hm 10 (by omega) (by omega), hm 11 (by omega) (by omega), hm 12 (by omega) (by omega)]
  refine ⟨a1, a2, a3, a4, a5, a6, a7, a8, fun t ht => ?_, b1, fun t ht => ?_, fun t ht => ?_, fun t ht => ?_, fun t h1 h2 => ?_, b6, b7, b8, fun g hg9 => ?_⟩
  · rw [hx 12 t (by omega) (by omega), ha 108 t (by omega) (by omega) ht]; exact a9 t ht
  · rw [hx 13 t (by omega) (by omega), ha 109 t (by omega) (by omega) ht]; exact b2 t ht
  · rw [hx 14 t (by omega) (by omega), ha 110 t (by omega) (by omega) ht]; exact b3 t ht
  · rw [hx 15 t (by omega) (by omega), ha 111 t (by omega) (by omega) ht]; exact b4 t ht
  · rw [hx 15 t (by omega) (by omega)]; exact b5 t h1 h2
  · rw [hx 17 g (by omega) (by omega), hg]; exact b9 g hg9
theorem TextR.fr {w w' : Wd} (h : TextR w) (h1 : w'.1 1 1 = w.1 1 1) (h2 : ∀ j, w'.1 2 j = w.1 2 j) (h3 : w'.1 105 16 = w.1 105 16) (h4 : ∀ j, w'.1 114 j = w.1 114 j) : TextR w' := by
  unfold TextR at h ⊢
  simp only [h1, h2, h3, h4]
  exact h
theorem NowR.fr {w w' : Wd} {T W : Nat} (h : NowR w T W) (hW : W ≤ 4) (h0 : ∀ k j, 18 ≤ k → k ≤ 21 → w'.1 k j = w.1 k j) (h1 : ∀ j, j < 12 → w'.1 113 j = w.1 113 j) (h2 : w'.1 105 13 = w.1 105 13) : NowR w' T W := by
  obtain ⟨a1, a2, a3, a4⟩ := h
  have e0 := fun j => h0 18 j (by omega) (by omega)
  have e1 := fun j => h0 (18 + 1) j (by omega) (by omega)
  have e2 := fun j => h0 (18 + 2) j (by omega) (by omega)
  have e3 := fun j => h0 (18 + 3) j (by omega) (by omega)
  exact ⟨a1.fr e0 e1 e2 e3, a2.fr hW e0 e1 e2 e3 (fun j _ h => h1 j (by omega)), by rw [e0, h2]; exact a3, by rw [e0]; exact a4⟩
theorem ActsR.fr {w w' : Wd} {T W : Nat} (h : ActsR w T W) (hW : W ≤ 4) (h0 : ∀ k j, 26 ≤ k → k ≤ 91 → w'.1 k j = w.1 k j) (h1 : ∀ j, w'.1 115 j = w.1 115 j) (h2 : w'.1 105 19 = w.1 105 19) (h3 : w'.1 105 20 = w.1 105 20) : ActsR w' T W := by
  obtain ⟨A, Q, N, a1, a2, a3, a4, a5, a6, a7, a8⟩ := h
  refine ⟨A, Q, N, a1, a2, a3, by rw [h0 26 2 (by omega) (by omega)]; exact a4, by rw [h2]; exact a5, by rw [h0 26 1 (by omega) (by omega)]; exact a6, by rw [h3]; exact a7, fun i hi => ?_⟩
  have hm : (Q + i) % 16 < 16 := Nat.mod_lt _ (by decide)
  have e0 := fun j => h0 (28 + 4 * ((Q + i) % 16)) j (by omega) (by omega)
  have e1 := fun j => h0 (28 + 4 * ((Q + i) % 16) + 1) j (by omega) (by omega)
  have e2 := fun j => h0 (28 + 4 * ((Q + i) % 16) + 2) j (by omega) (by omega)
  have e3 := fun j => h0 (28 + 4 * ((Q + i) % 16) + 3) j (by omega) (by omega)
  exact ⟨(a8 i hi).1.fr e0 e1 e2 e3, (a8 i hi).2.fr hW e0 e1 e2 e3 (fun j _ _ => h1 j)⟩
theorem SlotR.fr {w w' : Wd} {T W s : Nat} (h : SlotR w T W s) (hs : s < 2) (hW : W ≤ 4) (h0 : ∀ k j, 96 ≤ k → k ≤ 104 → w'.1 k j = w.1 k j) (h1 : ∀ j, w'.1 119 j = w.1 119 j) (h2 : ∀ j, w'.1 120 j = w.1 120 j) : SlotR w' T W s := by
  obtain ⟨a1, a2, a3⟩ := h
  have e0 := fun j => h0 (96 + 4 * s) j (by omega) (by omega)
  have e1 := fun j => h0 (96 + 4 * s + 1) j (by omega) (by omega)
  have e2 := fun j => h0 (96 + 4 * s + 2) j (by omega) (by omega)
  have e3 := fun j => h0 (96 + 4 * s + 3) j (by omega) (by omega)
  refine ⟨by rw [h0 104 s (by omega) (by omega), h1]; exact a1, by rw [h0 104 s (by omega) (by omega)]; exact a2, fun z => ?_⟩
  rw [h0 104 s (by omega) (by omega)] at z
  obtain ⟨b1, b2, b3, b4⟩ := a3 z
  exact ⟨b1.fr e0 e1 e2 e3, b2.fr hW e0 e1 e2 e3 (fun j _ _ => h2 j), by rw [e0, h2]; exact b3, by rw [e0]; exact b4⟩
theorem InvT.fr {w w' : Wd} {T W : Nat} {cl kd : Nat → Nat} (h : InvT w T W cl kd) (ho : Only (Scr T) w w') : InvT w' T W cl kd := by
  obtain ⟨a1, a2, a3, a4, a5, a6⟩ := h
  have hW := a1.2.1
  have hs : ∀ k j, ¬ Scr T k j → w'.1 k j = w.1 k j := ho.1
  unfold Scr at hs
  refine ⟨a1.fr (fun k j _ _ => hs k j (by omega)) (fun j _ _ => hs 105 j (by omega)) (fun k j _ _ _ => hs k j (by omega)) (fun j => hs 112 j (by omega)), a2.fr (hs 1 1 (by omega)) (fun j => hs 2 j (by omega)) (hs 105 16 (by omega)) (fun j => hs 114 j (by omega)), a3.fr hW (fun k j _ _ => hs k j (by omega)) (fun j _ => hs 113 j (by omega)) (hs 105 13 (by omega)), a4.fr hW (fun k j _ _ => hs k j (by omega)) (fun j => hs 115 j (by omega)) (hs 105 19 (by omega)) (hs 105 20 (by omega)), ⟨a5.1.fr (by decide) hW (fun k j _ _ => hs k j (by omega)) (fun j => hs 119 j (by omega)) (fun j => hs 120 j (by omega)), a5.2.fr (by decide) hW (fun k j _ _ => hs k j (by omega)) (fun j => hs 119 j (by omega)) (fun j => hs 120 j (by omega))⟩, ?_⟩
  rw [ho.2]; exact a6
/-- at the start -/
theorem Inv_0 : Inv wX := by
  refine ⟨0, 0, fun _ => 0, fun _ => 0, ?_, ?_, ?_, ?_, ⟨?_, ?_⟩, rfl⟩
  · refine ⟨by decide, by decide, rfl, rfl, rfl, rfl, rfl, fun i h => ?_, fun t h => by omega, fun t u h => by omega, fun t h => by omega, fun t h => by omega, fun t h => by omega, fun t _ _ => rfl, fun i => ?_, fun i => ?_, fun i => ?_, fun g h => by omega⟩
    · rw [show wX.1 11 2 = 0 from rfl, b_0] at h; cases h
    · rw [show wX.1 11 3 = 0 from rfl, b_0]; simp
    · rw [show wX.1 11 4 = 0 from rfl, b_0]; simp
    · rw [show wX.1 11 5 = 0 from rfl, b_0]; simp
  · exact ⟨0, by decide, rfl, rfl, fun j h => by omega⟩
  · refine ⟨⟨fun i h => ?_, fun i h => ?_, fun i h => ?_, fun i h => ?_, fun g h => by omega, fun g h => by omega, Or.inl rfl⟩, ⟨rfl, rfl, rfl, rfl, fun g h => by omega⟩, rfl, Or.inl rfl⟩
    · rw [show wX.1 18 1 = 0 from rfl, b_0] at h; cases h
    · rw [show wX.1 18 2 = 0 from rfl, b_0] at h; cases h
    · rw [show wX.1 (18 + 1) 0 = 0 from rfl, b_0] at h; cases h
    · rw [show wX.1 (18 + 1) 1 = 0 from rfl, b_0] at h; cases h
  · exact ⟨0, 0, 0, by decide, by decide, by decide, rfl, rfl, rfl, rfl, fun i h => by omega⟩
  · exact ⟨rfl, Or.inl rfl, fun h => absurd h (by decide)⟩
  · exact ⟨rfl, Or.inl rfl, fun h => absurd h (by decide)⟩
