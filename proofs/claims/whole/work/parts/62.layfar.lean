/-! the reference's distances -/
theorem fw_least {P : Nat → Prop} (h : ∃ c, P c) : ∃ c, P c ∧ ∀ d, d < c → ¬ P d := by
  obtain ⟨c, hc⟩ := h
  induction c using Nat.strongRecOn with
  | _ c ih =>
    by_cases h : ∃ d, d < c ∧ P d
    · obtain ⟨d, h1, h2⟩ := h
      exact ih d h1 h2
    · exact ⟨c, hc, fun d h1 h2 => h ⟨d, h1, h2⟩⟩
def KD (w : Wd) (g u : Nat) : Prop := ∃ s, s < 2 ∧ w.1 112 g = nI s ∧ bt (w.1 113 (2 + s)) u = true ∧ bt (w.1 113 0) u = true ∧ ¬ w.1 110 u = 3
def Dg (w : Wd) (T : Nat) (cl : Nat → Nat) (g c : Nat) : Prop := bt (w.1 11 2) c = true ∨ ∃ u, u < T ∧ KD w g u ∧ cl u = c
def FarS (D : Nat → Prop) (st go : Nat) (w : Wd) (F : Nat → Nat) : Prop := ∀ c, c < 12 → w.1 116 c = nI (F c) ∧ F c ≤ 99 ∧ (F c = 99 ∨ Fpw D st go (F c) c)
theorem side_or {w : Wd} {T W g : Nat} {cl kd : Nat → Nat} (hp : PlanR w T W cl kd) (hg : g < W) : (w.1 17 g = -9 ∧ w.1 112 g = -9) ∨ ∃ s, s < 2 ∧ w.1 17 g = nI s ∧ w.1 112 g = nI s := by
  obtain ⟨hT, hW, x0, m0, x1, m1, hs9, hs2, hc, hci, hsd, hkd, hwi, hwz, hsh, hsn, hne, hgg⟩ := hp
  obtain ⟨q1, q2 | q2 | q2⟩ := hgg g hg
  · exact Or.inl ⟨q2, q1.symm.trans q2⟩
  · exact Or.inr ⟨0, by omega, q2, q1.symm.trans q2⟩
  · exact Or.inr ⟨1, by omega, q2, q1.symm.trans q2⟩
theorem KD.no9 {w : Wd} {g u : Nat} (h9 : w.1 112 g = -9) : ¬ KD w g u := fun ⟨s, s1, s2, _⟩ => by
  rw [h9] at s2
  exact nI_ne9 (by omega) s2.symm
theorem KD.at {w : Wd} {g u s : Nat} (hs : s < 2) (h : w.1 112 g = nI s) : KD w g u ↔ bt (w.1 113 (2 + s)) u = true ∧ bt (w.1 113 0) u = true ∧ ¬ w.1 110 u = 3 := by
  constructor
  · rintro ⟨s', s1, s2, s3⟩
    rw [h] at s2
    have : s = s' := (nI_eq (by omega) (by omega)).mp s2
    subst this
    exact s3
  · intro z
    exact ⟨s, hs, h, z⟩
theorem lf_8 {w : Wd} {T W g : Nat} {cl kd : Nat → Nat} {v2 : Int32} (hp : PlanR w T W cl kd) (hg : g < W) : ∀ (n t : Nat) (x : Int32), T - t < n → t ≤ T → (∀ i, i < 32 → (bt x i = true ↔ bt (w.1 11 2) i = true ∨ ∃ u, u < t ∧ KD w g u ∧ cl u = i)) → ∃ x1, b_X8_layFar_8 n w (nI g) v2 x (nI t) = b_X8_layFar_113 LF w (nI g) v2 x1 0 ∧ ∀ i, i < 32 → (bt x1 i = true ↔ Dg w T cl g i) := by
  have hp0 := hp
  obtain ⟨hT, hW, x0, m0, x1, m1, hs9, hs2, hc, hci, hsd, hkd, hwi, hwz, hsh, hsn, hne, hgg⟩ := hp
  intro n
  induction n with
  | zero => intro t x h; omega
  | succ n ih =>
    intro t x hn ht hx
    rw [b_X8_layFar_8, m0]
    by_cases h : t = T
    · subst h
      rw [if_pos (nI_le (Nat.le_refl t) (by omega))]
      exact ⟨x, rfl, hx⟩
    · have hlt : t < T := by omega
      have hcl := hc t hlt
      rw [if_neg (nI_ge hlt (by omega))]
      have e0 : b_X8_layFar_101 (b_X8_layFar_8 n) w (nI g) v2 (nI t) x = b_X8_layFar_8 n w (nI g) v2 x (nI (t + 1)) := by
        unfold b_X8_layFar_101 b_X8_layFar_102
        rw [nm_ok, nm_ok, or_0, nI_1]
      have e54 : b_X8_layFar_54 (b_X8_layFar_8 n) w (nI g) v2 x (nI t) = b_X8_layFar_8 n w (nI g) v2 x (nI (t + 1)) := by
        unfold b_X8_layFar_54 b_X8_layFar_55
        rw [if_pos rfl, e0]
      have skip : ¬ KD w g t → ∃ x1, b_X8_layFar_8 n w (nI g) v2 x (nI (t + 1)) = b_X8_layFar_113 LF w (nI g) v2 x1 0 ∧ ∀ i, i < 32 → (bt x1 i = true ↔ Dg w T cl g i) := fun hk => ih (t + 1) x (by omega) (by omega) (fun i hi => by
        rw [hx i hi]
        constructor
        · rintro (q | ⟨u, q1, q2⟩)
          · exact Or.inl q
          · exact Or.inr ⟨u, by omega, q2⟩
        · rintro (q | ⟨u, q1, q2, q3⟩)
          · exact Or.inl q
          · refine Or.inr ⟨u, ?_, q2, q3⟩
            rcases Nat.lt_or_ge u t with z | z
            · exact z
            · have : u = t := by omega
              subst this
              exact absurd q2 hk)
      simp only [gd_true (inb_nI (show g < 4 by omega) (by decide)), nI_clamp (show g < 2 ^ 31 by omega)]
      rcases side_or hp0 hg with ⟨-, h9⟩ | ⟨s, hss, -, hsg⟩
      · rw [if_pos h9, e54]
        exact skip (KD.no9 h9)
      · rw [hsg, if_neg (nI_ne9 (by omega)), lit_add 2 (b := 2) rfl]
        simp only [gd_true (inb_nI (show 2 + s < 72 by omega) (by decide)), nI_clamp (show 2 + s < 2 ^ 31 by omega)]
        by_cases hk : bt (w.1 113 (2 + s)) t = true
        · rw [if_pos ((tb1 _ (by omega)).mpr hk)]
          unfold b_X8_layFar_55
          rw [if_neg (show ¬ (1 : Int32) = 0 by decide), show ((0 : Int32)).toNatClampNeg = 0 from rfl]
          by_cases ha : bt (w.1 113 0) t = true
          · rw [if_pos ((tb1 _ (by omega)).mpr ha)]
            simp only [gd_true (inb_nI (show t < 7 by omega) (by decide)), nI_clamp (show t < 2 ^ 31 by omega)]
            by_cases h3 : w.1 110 t = 3
            · rw [if_pos h3, e0]
              exact skip (fun z => ((KD.at hss hsg).mp z).2.2 h3)
            · rw [if_neg h3]
              unfold b_X8_layFar_102
              rw [nm_ok, nm_ok, nI_1, hcl.2.1]
              refine ih (t + 1) _ (by omega) (by omega) (fun i hi => ?_)
              rw [b_or, Bool.or_eq_true, hx i hi, b_one (by omega) hi, decide_eq_true_iff]
              constructor
              · rintro ((q | ⟨u, q1, q2⟩) | q)
                · exact Or.inl q
                · exact Or.inr ⟨u, by omega, q2⟩
                · exact Or.inr ⟨t, by omega, (KD.at hss hsg).mpr ⟨hk, ha, h3⟩, q.symm⟩
              · rintro (q | ⟨u, q1, q2, q3⟩)
                · exact Or.inl (Or.inl q)
                · rcases Nat.lt_or_ge u t with z | z
                  · exact Or.inl (Or.inr ⟨u, z, q2, q3⟩)
                  · have : u = t := by omega
                    subst this
                    exact Or.inr q3.symm
          · rw [if_neg (fun z => ha ((tb1 _ (by omega)).mp z)), e0]
            exact skip (fun z => ha ((KD.at hss hsg).mp z).2.1)
        · rw [if_neg (fun z => hk ((tb1 _ (by omega)).mp z)), e54]
          exact skip (fun z => hk ((KD.at hss hsg).mp z).1)
theorem lf_113 {g st go : Nat} {x : Int32} (hg : g < 4) (hgo : go < 12) (hst : st < 12) : ∀ (n t : Nat) (w : Wd), 12 - t < n → t ≤ 12 → w.1 113 (4 + g) = nI st → ∃ w1, b_X8_layFar_113 n w (nI g) (nI go) x (nI t) = b_X8_layFar_170 LF w1 x 0 ∧ Only (fun k _ => k = 116) w w1 ∧ (∀ c, t ≤ c → c < 12 → w1.1 116 c = if c = go ∧ (bt x c = false ∨ c = st) then 0 else 99) ∧ ∀ c, c < t → w1.1 116 c = w.1 116 c := by
  intro n
  induction n with
  | zero => intro t w h; omega
  | succ n ih =>
    intro t w hn ht hat
    rw [b_X8_layFar_113]
    by_cases h : t = 12
    · subst h
      rw [if_pos (show (12 : Int32) ≤ nI 12 by decide)]
      exact ⟨w, rfl, Only.rf, fun c h1 h2 => by omega, fun c _ => rfl⟩
    · rw [if_neg (show ¬ (12 : Int32) ≤ nI t from nI_ge (b := 12) (by omega) (by decide))]
      have fin : ∀ y : Int32, y = (if t = go ∧ (bt x t = false ∨ t = st) then 0 else 99) → ∃ w1, b_X8_layFar_160 (b_X8_layFar_113 n) w (nI g) (nI go) x (nI t) y (nI t) = b_X8_layFar_170 LF w1 x 0 ∧ Only (fun k _ => k = 116) w w1 ∧ (∀ c, t ≤ c → c < 12 → w1.1 116 c = if c = go ∧ (bt x c = false ∨ c = st) then 0 else 99) ∧ ∀ c, c < t → w1.1 116 c = w.1 116 c := fun y hy => by
        unfold b_X8_layFar_160
        rw [gd_true (inb_nI (show t < 12 by omega) (by decide)), nm_ok, nm_ok, nI_1, nI_clamp (by omega)]
        obtain ⟨w1, e1, o1, g1, g2⟩ := ih (t + 1) (up w 116 t y) (by omega) (by omega) (by rw [up_nc (by decide)]; exact hat)
        refine ⟨w1, e1, (Only.up (S := fun k _ => k = 116) Only.rf rfl).tr o1, fun c h1 h2 => ?_, fun c hc => by rw [g2 c (by omega), up_ns (by omega)]⟩
        by_cases hc : c = t
        · subst hc; rw [g2 c (by omega), up_eq, hy]
        · exact g1 c (by omega) h2
      unfold b_X8_layFar_154 b_X8_layFar_158
      rw [lit_add 4 (b := 4) rfl]
      simp only [gd_true (inb_nI (show 4 + g < 72 by omega) (by decide)), nI_clamp (show 4 + g < 2 ^ 31 by omega)]
      by_cases h1 : t = go
      · rw [if_pos (show nI t = nI go by rw [h1])]
        by_cases hb : bt x t = false
        · rw [if_pos ((tb0 _ (by omega)).mpr hb)]
          exact fin 0 (by rw [if_pos ⟨h1, Or.inl hb⟩])
        · rw [if_neg (fun z => hb ((tb0 _ (by omega)).mp z)), hat]
          by_cases h2 : t = st
          · rw [if_pos (show nI t = nI st by rw [h2])]
            exact fin 0 (by rw [if_pos ⟨h1, Or.inr h2⟩])
          · rw [if_neg (show ¬ nI t = nI st from fun z => h2 ((nI_eq (by omega) (by omega)).mp z))]
            exact fin 99 (by rw [if_neg (fun z => z.2.elim hb h2)])
      · rw [if_neg (show ¬ nI t = nI go from fun z => h1 ((nI_eq (by omega) (by omega)).mp z))]
        exact fin 99 (by rw [if_neg (fun z => h1 z.1)])
theorem lf_190 {D : Nat → Prop} {st go c : Nat} {x v4 : Int32} {kb170 : Wd → Int32 → Int32 → Option Wd} {kb180 : Wd → Int32 → Int32 → Int32 → Option Wd} (hc : c < 12) (hD : ∀ i, i < 12 → (bt x i = true ↔ D i)) : ∀ (n t : Nat) (w : Wd) (F : Nat → Nat), 12 - t < n → t ≤ 12 → FarS D st go w F → ∃ w1 F1, b_X8_layFar_190 kb170 kb180 n w x v4 (nI c) (nI t) = kb180 w1 x v4 (nI (c + 1)) ∧ Only (fun k _ => k = 116) w w1 ∧ FarS D st go w1 F1 ∧ (∀ e, F1 e ≤ F e) ∧ ∀ d, t ≤ d → d < 12 → bt (aro c) d = true → ¬ D d → F1 c ≤ F d + 1 := by
  intro n
  induction n with
  | zero => intro t w F h; omega
  | succ n ih =>
    intro t w F hn ht hF
    rw [b_X8_layFar_190]
    by_cases h : t = 12
    · subst h
      rw [if_pos (show (12 : Int32) ≤ nI 12 by decide), nm_ok, nI_1]
      exact ⟨w, F, rfl, Only.rf, hF, fun e => Nat.le_refl _, fun d h1 h2 => by omega⟩
    · rw [if_neg (show ¬ (12 : Int32) ≤ nI t from nI_ge (b := 12) (by omega) (by decide)), mNeighbours_v hc, bd_ok]
      have hFt := hF t (by omega)
      have hFc := hF c hc
      have put : ∀ a, a ≤ F c → (a = 99 ∨ Fpw D st go a c) → (bt (aro c) t = true → ¬ D t → a ≤ F t + 1) → ∃ w1 F1, b_X8_layFar_276 kb170 kb180 (b_X8_layFar_190 kb170 kb180 n) w x v4 (nI c) (nI t) (nI a) (nI c) = kb180 w1 x v4 (nI (c + 1)) ∧ Only (fun k _ => k = 116) w w1 ∧ FarS D st go w1 F1 ∧ (∀ e, F1 e ≤ F e) ∧ ∀ d, t ≤ d → d < 12 → bt (aro c) d = true → ¬ D d → F1 c ≤ F d + 1 := fun a ha hp hq => by
        unfold b_X8_layFar_276
        rw [gd_true (inb_nI hc (by decide)), nm_ok, nm_ok, nI_1, nI_clamp (by omega)]
        obtain ⟨F', fc, fo⟩ : ∃ z : Nat → Nat, z c = a ∧ ∀ e, e ≠ c → z e = F e := ⟨fun e => if e = c then a else F e, if_pos rfl, fun e he => if_neg he⟩
        obtain ⟨w1, F1, e1, o1, s1, l1, g1⟩ := ih (t + 1) (up w 116 c (nI a)) F' (by omega) (by omega) (fun e he => by
          by_cases hec : e = c
          · subst hec
            rw [up_eq, fc]
            exact ⟨rfl, Nat.le_trans ha hFc.2.1, hp⟩
          · rw [up_ns hec, fo e hec]
            exact hF e he)
        have hle : ∀ e, F' e ≤ F e := fun e => by
          by_cases hec : e = c
          · rw [hec, fc]; exact ha
          · rw [fo e hec]; exact Nat.le_refl _
        refine ⟨w1, F1, e1, (Only.up (S := fun k _ => k = 116) Only.rf rfl).tr o1, s1, fun e => Nat.le_trans (l1 e) (hle e), fun d h1 h2 h3 h4 => ?_⟩
        by_cases hdt : d = t
        · subst hdt
          have q1 := l1 c
          have q2 := hq h3 h4
          omega
        · have q1 := g1 d (by omega) h2 h3 h4
          have q2 := hle d
          omega
      have same : (bt (aro c) t = true → ¬ D t → F c ≤ F t + 1) → ∃ w1 F1, b_X8_layFar_269 kb170 kb180 (b_X8_layFar_190 kb170 kb180 n) w x v4 (nI c) (nI t) (nI c) = kb180 w1 x v4 (nI (c + 1)) ∧ Only (fun k _ => k = 116) w w1 ∧ FarS D st go w1 F1 ∧ (∀ e, F1 e ≤ F e) ∧ ∀ d, t ≤ d → d < 12 → bt (aro c) d = true → ¬ D d → F1 c ≤ F d + 1 := fun hq => by
        unfold b_X8_layFar_269
        rw [gd_true (inb_nI hc (by decide)), nI_clamp (by omega), hFc.1]
        exact put (F c) (Nat.le_refl _) hFc.2.2 hq
      by_cases hb : bt (aro c) t = true
      · rw [if_pos ((tb1 _ (by omega)).mpr hb)]
        by_cases hd : bt x t = true
        · rw [if_neg (fun z => by rw [tb0 _ (by omega), hd] at z; cases z)]
          unfold b_X8_layFar_224 b_X8_layFar_225
          rw [if_pos rfl]
          exact same (fun _ z => absurd ((hD t (by omega)).mp hd) z)
        · rw [if_pos ((tb0 _ (by omega)).mpr (by simpa using hd))]
          unfold b_X8_layFar_225
          rw [if_neg (show ¬ (1 : Int32) = 0 by decide)]
          simp only [gd_true (inb_nI (show t < 12 by omega) (by decide)), gd_true (inb_nI hc (by decide)), nI_clamp (show t < 2 ^ 31 by omega), nI_clamp (show c < 2 ^ 31 by omega)]
          rw [hFc.1, hFt.1, nI_1]
          by_cases hle : F c ≤ F t + 1
          · rw [if_pos (nI_le hle (by omega))]
            exact same (fun _ _ => hle)
          · rw [if_neg (nI_ge (by omega) (by omega))]
            refine put (F t + 1) (by omega) ?_ (fun _ _ => Nat.le_refl _)
            exact Or.inr ⟨t, by omega, hb, fun z => hd ((hD t (by omega)).mpr z), hFt.2.2.resolve_left (by omega)⟩
      · rw [if_neg (fun z => hb ((tb1 _ (by omega)).mp z))]
        unfold b_X8_layFar_224 b_X8_layFar_225
        rw [if_pos rfl]
        exact same (fun z => absurd z hb)
theorem lf_180 {D : Nat → Prop} {st go : Nat} {x v4 : Int32} {kb170 : Wd → Int32 → Int32 → Option Wd} (hD : ∀ i, i < 12 → (bt x i = true ↔ D i)) : ∀ (n t : Nat) (w : Wd) (F : Nat → Nat), 12 - t < n → t ≤ 12 → FarS D st go w F → ∃ w1 F1, b_X8_layFar_180 kb170 n w x v4 (nI t) = kb170 w1 x (v4 + 1) ∧ Only (fun k _ => k = 116) w w1 ∧ FarS D st go w1 F1 ∧ (∀ e, F1 e ≤ F e) ∧ ∀ c, t ≤ c → c < 12 → ∀ d, d < 12 → bt (aro c) d = true → ¬ D d → F1 c ≤ F d + 1 := by
  intro n
  induction n with
  | zero => intro t w F h; omega
  | succ n ih =>
    intro t w F hn ht hF
    rw [b_X8_layFar_180]
    by_cases h : t = 12
    · subst h
      rw [if_pos (show (12 : Int32) ≤ nI 12 by decide), nm_ok]
      exact ⟨w, F, rfl, Only.rf, hF, fun e => Nat.le_refl _, fun c h1 h2 => by omega⟩
    · rw [if_neg (show ¬ (12 : Int32) ≤ nI t from nI_ge (b := 12) (by omega) (by decide))]
      obtain ⟨w1, F1, e1, o1, s1, l1, g1⟩ := lf_190 (v4 := v4) (kb170 := kb170) (kb180 := b_X8_layFar_180 kb170 n) (show t < 12 by omega) hD LF 0 w F (by unfold LF; omega) (by omega) hF
      rw [show (0 : Int32) = nI 0 from rfl, e1]
      obtain ⟨w2, F2, e2, o2, s2, l2, g2⟩ := ih (t + 1) w1 F1 (by omega) (by omega) s1
      refine ⟨w2, F2, e2, o1.tr o2, s2, fun e => Nat.le_trans (l2 e) (l1 e), fun c h1 h2 d h3 h4 h5 => ?_⟩
      by_cases hct : c = t
      · subst hct
        have q1 := l2 c
        have q2 := g1 d (by omega) h3 h4 h5
        omega
      · have q1 := g2 c (by omega) h2 d h3 h4 h5
        have q2 := l1 d
        omega
theorem lf_170 {D : Nat → Prop} {st go : Nat} {x : Int32} (hD : ∀ i, i < 12 → (bt x i = true ↔ D i)) : ∀ (n r : Nat) (w : Wd) (F : Nat → Nat), 12 - r < n → r ≤ 12 → FarS D st go w F → (∀ m, m ≤ r → ∀ c, c < 12 → Fpw D st go m c → F c ≤ m) → ∃ w1 F1, b_X8_layFar_170 n w x (nI r) = some w1 ∧ Only (fun k _ => k = 116) w w1 ∧ FarS D st go w1 F1 ∧ ∀ m, m ≤ 12 → ∀ c, c < 12 → Fpw D st go m c → F1 c ≤ m := by
  intro n
  induction n with
  | zero => intro r w F h; omega
  | succ n ih =>
    intro r w F hn hr hF hC
    rw [b_X8_layFar_170]
    by_cases h : r = 12
    · subst h
      rw [if_pos (show (12 : Int32) ≤ nI 12 by decide)]
      exact ⟨w, F, rfl, Only.rf, hF, hC⟩
    · rw [if_neg (show ¬ (12 : Int32) ≤ nI r from nI_ge (b := 12) (by omega) (by decide))]
      obtain ⟨w1, F1, e1, o1, s1, l1, g1⟩ := lf_180 (v4 := nI r) (kb170 := b_X8_layFar_170 n) hD LF 0 w F (by unfold LF; omega) (by omega) hF
      rw [show (0 : Int32) = nI 0 from rfl, e1, nI_1]
      obtain ⟨w2, F2, e2, o2, s2, g2⟩ := ih (r + 1) w1 F1 (by omega) (by omega) s1 (fun m hm c hc hp => by
        cases m with
        | zero =>
          have q1 := l1 c
          have q2 := hC 0 (by omega) c hc hp
          omega
        | succ m =>
          obtain ⟨d, d1, d2, d3, d4⟩ := hp
          have q1 := g1 c (by omega) hc d d1 d2 d3
          have q2 := hC m (by omega) d d1 d4
          omega)
      exact ⟨w2, F2, e2, o1.tr o2, s2, g2⟩
theorem layFar_v {w : Wd} {T W g st go : Nat} {cl kd : Nat → Nat} (hp : PlanR w T W cl kd) (hg : g < W) (hst : st < 12) (hgo : go < 12) (hat : w.1 113 (4 + g) = nI st) : ∃ w1 F, f_X8_layFar w (nI g) (nI go) = some w1 ∧ Only (fun k _ => k = 116) w w1 ∧ FarS (Dg w T cl g) st go w1 F ∧ ∀ m, m ≤ 12 → ∀ c, c < 12 → Fpw (Dg w T cl g) st go m c → F c ≤ m := by
  have hs9 : w.1 11 2 = w.1 105 12 := hp.2.2.2.2.2.2.1
  have hW : W ≤ 4 := hp.2.1
  unfold f_X8_layFar b_X8_layFar_0
  rw [nm_ok]
  obtain ⟨x, e1, hx⟩ := lf_8 (v2 := nI go) hp hg LF 0 (w.1 105 12) (by have := hp.1; unfold LF; omega) (by omega) (fun i _ => by
    rw [← hs9]
    exact ⟨Or.inl, fun q => q.elim id (fun ⟨u, hu, _⟩ => by omega)⟩)
  rw [show b_X8_layFar_8 LF w (nI g) (nI go) (w.1 105 12) 0 = b_X8_layFar_8 LF w (nI g) (nI go) (w.1 105 12) (nI 0) from rfl, e1]
  obtain ⟨w1, e2, o1, g1, -⟩ := lf_113 (x := x) (show g < 4 by omega) hgo hst LF 0 w (by unfold LF; omega) (by omega) hat
  rw [show b_X8_layFar_113 LF w (nI g) (nI go) x 0 = b_X8_layFar_113 LF w (nI g) (nI go) x (nI 0) from rfl, e2]
  have hD : ∀ i, i < 12 → (bt x i = true ↔ Dg w T cl g i) := fun i hi => hx i (by omega)
  have hD0 : ∀ i, i < 12 → (bt x i = false ↔ ¬ Dg w T cl g i) := fun i hi => by
    rw [← hD i hi]
    cases bt x i <;> simp
  obtain ⟨F0, f0⟩ : ∃ z : Nat → Nat, ∀ c, z c = if c = go ∧ (bt x c = false ∨ c = st) then 0 else 99 := ⟨fun c => if c = go ∧ (bt x c = false ∨ c = st) then 0 else 99, fun c => rfl⟩
  obtain ⟨w2, F, e3, o2, s2, g2⟩ := lf_170 (D := Dg w T cl g) (st := st) (go := go) hD LF 0 w1 F0 (by unfold LF; omega) (by omega) (fun c hc => by
    rw [g1 c (by omega) hc, f0 c]
    by_cases hq : c = go ∧ (bt x c = false ∨ c = st)
    · rw [if_pos hq, if_pos hq]
      refine ⟨rfl, by omega, Or.inr ⟨hq.1, ?_⟩⟩
      rw [← hq.1]
      exact hq.2.imp (fun z => (hD0 c hc).mp z) id
    · rw [if_neg hq, if_neg hq]
      exact ⟨rfl, Nat.le_refl _, Or.inl rfl⟩) (fun m hm c hc hq => by
    have : m = 0 := by omega
    subst this
    obtain ⟨q1, q2⟩ := hq
    rw [f0 c, if_pos ⟨q1, by rw [q1]; exact q2.imp (fun z => (hD0 go hgo).mpr z) id⟩]
    exact Nat.le_refl _)
  exact ⟨w2, F, e3, o1.tr o2, s2, g2⟩
