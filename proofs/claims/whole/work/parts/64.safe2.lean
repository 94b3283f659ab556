theorem refusal_w {w : Wd} {W : Nat} {v u : Int32} (x1 : w.1 11 1 = nI W) (h : v < 0 ∨ nI W ≤ v) : f_X7_refusalOfWay w v u = some (-1, w) := by
  unfold f_X7_refusalOfWay b_X7_refusalOfWay_0
  rw [hasWalker_no x1 h, bd_ok, if_pos rfl]
theorem refusal_c {w : Wd} {W g : Nat} {u : Int32} (x1 : w.1 11 1 = nI W) (hW : W ≤ 4) (hg : g < W) (h : u < 0 ∨ (12 : Int32) ≤ u) : f_X7_refusalOfWay w (nI g) u = some (-1, w) := by
  unfold f_X7_refusalOfWay b_X7_refusalOfWay_0
  rw [hasWalker_yes x1 hW hg, bd_ok, if_neg (show ¬ (1 : Int32) = 0 by decide), isCell_no h, bd_ok, if_pos rfl]
theorem refusal_v {w : Wd} {W g c : Nat} (x1 : w.1 11 1 = nI W) (hW : W ≤ 4) (hg : g < W) (hc : c < 12) : f_X7_refusalOfWay w (nI g) (nI c) = some (if w.1 21 g = -9 then 0 else -3, w) := by
  unfold f_X7_refusalOfWay b_X7_refusalOfWay_0
  rw [hasWalker_yes x1 hW hg, bd_ok, if_neg (show ¬ (1 : Int32) = 0 by decide), isCell_yes hc, bd_ok, if_neg (show ¬ (1 : Int32) = 0 by decide), isFree_yes x1 hW hg, bd_ok]
  by_cases h : w.1 21 g = -9
  · rw [if_pos (show w.1 (18 + 3) g = -9 from h), if_neg (show ¬ (1 : Int32) = 0 by decide), if_pos h]
  · rw [if_neg (show ¬ w.1 (18 + 3) g = -9 from h), if_pos rfl, if_neg h]
theorem mSafe_w {w : Wd} {W : Nat} {v u : Int32} (m1 : w.1 105 11 = nI W) (hW : W ≤ 4) (h : v < 0 ∨ nI W ≤ v) : f_X8_safe w v u = some (-1, w) := by
  unfold f_X8_safe b_X8_safe_0
  rw [mIsWalker_no m1 hW h, bd_ok, if_pos rfl]
theorem mSafe_c {w : Wd} {W g : Nat} {u : Int32} (m1 : w.1 105 11 = nI W) (hW : W ≤ 4) (hg : g < W) (h : u < 0 ∨ (12 : Int32) ≤ u) : f_X8_safe w (nI g) u = some (-1, w) := by
  unfold f_X8_safe b_X8_safe_0
  rw [mIsWalker_yes m1 hW hg, bd_ok, if_neg (show ¬ (1 : Int32) = 0 by decide), mIsCell_no h, bd_ok, if_pos rfl]
theorem mSafe_3 {w : Wd} {W g c : Nat} (m1 : w.1 105 11 = nI W) (hW : W ≤ 4) (hg : g < W) (hc : c < 12) (h : ¬ w.1 113 (8 + g) = -9) : f_X8_safe w (nI g) (nI c) = some (-3, w) := by
  unfold f_X8_safe b_X8_safe_0
  rw [mIsWalker_yes m1 hW hg, bd_ok, if_neg (show ¬ (1 : Int32) = 0 by decide), mIsCell_yes hc, bd_ok, if_neg (show ¬ (1 : Int32) = 0 by decide), lit_add 8 (b := 8) rfl, gd_true (inb_nI (show 8 + g < 72 by omega) (by decide)), nI_clamp (by omega), if_neg h]
theorem mSafe_v {w1 w2 : Wd} {W g go st : Nat} {F : Nat → Nat} (m1 : w1.1 105 11 = nI W) (hW : W ≤ 4) (hg : g < W) (hgo : go < 12) (hst : st < 12) (hat1 : w1.1 113 (4 + g) = nI st) (h9 : w1.1 113 (8 + g) = -9) (e3 : f_X8_layFar w1 (nI g) (nI go) = some w2) (o2 : Only (fun k _ => k = 116) w1 w2) (hS : w2.1 116 st = nI (F st) ∧ F st ≤ 99) : f_X8_safe w1 (nI g) (nI go) = some (if F st ≤ 98 then nI (F st) else -9, w2) := by
  unfold f_X8_safe b_X8_safe_0
  rw [mIsWalker_yes m1 hW hg, bd_ok, if_neg (show ¬ (1 : Int32) = 0 by decide), mIsCell_yes hgo, bd_ok, if_neg (show ¬ (1 : Int32) = 0 by decide), lit_add 8 (b := 8) rfl, lit_add 4 (b := 4) rfl]
  simp only [gd_true (inb_nI (show 8 + g < 72 by omega) (by decide)), nI_clamp (show 8 + g < 2 ^ 31 by omega), gd_true (inb_nI (show 4 + g < 72 by omega) (by decide)), nI_clamp (show 4 + g < 2 ^ 31 by omega)]
  rw [if_pos h9, e3, bv_ok, o2.1 113 (4 + g) (by omega), hat1]
  simp only [gd_true (inb_nI hst (by decide)), nI_clamp (show st < 2 ^ 31 by omega)]
  rw [hS.1]
  by_cases h : F st ≤ 98
  · rw [if_pos (show nI (F st) ≤ (98 : Int32) from nI_le (b := 98) h (by omega)), if_pos h]
  · rw [if_neg (show ¬ nI (F st) ≤ (98 : Int32) from nI_ge (a := 98) (by omega) (by omega)), if_neg h]
theorem s_safe (v u : Int32) : Step (fun w => f_X7_safe w v u) (fun w => f_X8_safe w v u) := by
  intro w hw
  obtain ⟨T, W, cl, kd, hi⟩ := hw
  have hi0 := hi
  obtain ⟨⟨hT, hW, x0, m0, x1, m1, hs, hs2, hc, hci, hsd, hkd, hwi, hwz, hsh, hsn, hne, hgg⟩, -, ⟨⟨b1, b2, b3, b4, b5, b6, b7⟩, ⟨n1, n2, n3, n4, n5⟩, n6, n7⟩, -, -⟩ := hi
  show ∃ r w1 w2, f_X7_safe w v u = _ ∧ f_X8_safe w1 v u = _ ∧ _
  rcases ix v (n := W) (by omega) with h | ⟨g, hg, rfl⟩
  · refine ⟨-1, w, w, ?_, mSafe_w m1 hW h, T, W, cl, kd, hi0⟩
    unfold f_X7_safe b_X7_safe_0
    rw [refusal_w x1 h, bd_ok, if_neg (show ¬ (-1 : Int32) = 0 by decide)]
  · rcases ix u (n := 12) (by omega) with h | ⟨go, hgo, rfl⟩
    · refine ⟨-1, w, w, ?_, mSafe_c m1 hW hg h, T, W, cl, kd, hi0⟩
      unfold f_X7_safe b_X7_safe_0
      rw [refusal_c x1 hW hg h, bd_ok, if_neg (show ¬ (-1 : Int32) = 0 by decide)]
    · have e8 := (n5 g hg).2
      rw [Nat.zero_add] at e8
      by_cases h9 : w.1 21 g = -9
      · obtain ⟨st, hst, hat⟩ := b5 g hg
        obtain ⟨dv, w1, w2, F, e1, e2, o1, hL, e3, o2, hS, hC, i1, i2, hDD⟩ := way_both hi0 hg hst hgo hat
        have hat1 : w1.1 113 (4 + g) = nI st := by
          rw [o1.1 113 (4 + g) (by omega), ← hat]
          have := (n5 g hg).1
          rw [Nat.zero_add] at this
          exact this.symm
        have h91 : w1.1 113 (8 + g) = -9 := by rw [o1.1 113 (8 + g) (by omega), ← e8]; exact h9
        refine ⟨w1.1 93 st, w1, w2, ?_, ?_, T, W, cl, kd, i2⟩
        · unfold f_X7_safe b_X7_safe_0
          rw [refusal_v x1 hW hg hgo, if_pos h9, bd_ok, if_pos rfl]
          simp only [gd_true (inb_nI (show g < 4 by omega) (by decide)), nI_clamp (show g < 2 ^ 31 by omega)]
          rw [e1, bd_ok, show w.1 20 g = nI st from hat, e2, bv_ok, o1.1 20 g (by omega), show w.1 20 g = nI st from hat, stepsFrom_v hst, bd_ok]
        · rw [mSafe_v (F := F) i1.1.2.2.2.2.2.1 hW hg hgo hst hat1 h91 e3 o2 ⟨(hS st hst).1, (hS st hst).2.1⟩]
          rcases far_st hst (hL st hst) (hS st hst).2.2 (fun m hm q => hC m hm st hst q) with ⟨N, hN, hx, hFN⟩ | ⟨hx, hF9⟩
          · rw [hx, hFN, if_pos (by omega)]
          · rw [hx, hF9, if_neg (by omega)]
      · refine ⟨-3, w, w, ?_, mSafe_3 m1 hW hg hgo (by rw [← e8]; exact h9), T, W, cl, kd, hi0⟩
        unfold f_X7_safe b_X7_safe_0
        rw [refusal_v x1 hW hg hgo, if_neg h9, bd_ok, if_neg (show ¬ (-3 : Int32) = 0 by decide)]
theorem way_walk {w1 w2 : Wd} {T W g st go N i : Nat} {cl kd : Nat → Nat} {F : Nat → Nat} {D : Nat → Prop} (hp2 : PlanR w2 T W cl kd) (hg : g < W) (hDg : Dg w2 T cl g = D) (hL : ∀ c, c < 12 → LeftOK D st go (w1.1 93 c) c) (hS : FarS D st go w2 F) (hC : ∀ m, m ≤ 12 → ∀ c, c < 12 → Fpw D st go m c → F c ≤ m) (hst : st < 12) (hN : N < 12) (hLs : w1.1 93 st = nI N) (hiN : i < N) : ∀ (n q k here : Nat), i + 1 - k < n → i + 1 - k < q → k ≤ i + 1 → here < 12 → w1.1 93 here = nI (N - k) → ∃ r, b_X6_cellBehind_21 n w1 (nI i) (nI here) (nI k) = some (r, w1) ∧ b_X8_safeAt_53 q w2 (nI g) (nI i) (nI N) (nI here) (nI k) = some (r, w2) := by
  intro n
  induction n with
  | zero => intro q k here h; omega
  | succ n ih =>
    intro q k here hn hq hk hh hl
    cases q with
    | zero => omega
    | succ q =>
      by_cases h : k = i + 1
      · subst h
        refine ⟨nI here, ?_, ?_⟩
        · rw [b_X6_cellBehind_21, if_pos (nI_lt (by omega) (by omega))]
        · rw [b_X8_safeAt_53, if_pos (nI_lt (by omega) (by omega))]
      · obtain ⟨m, hm⟩ : ∃ m, m + 1 + k = N := ⟨N - k - 1, by omega⟩
        have hl' : w1.1 93 here = nI (m + 1) := by rw [hl]; congr 1; omega
        obtain ⟨c, ⟨c1, c2, c3⟩, c4⟩ := fw_least (far_ex (L := w1.1 93) hL (by omega) hh hl')
        have nx := fun (d : Nat) (hd : d < 12) (hb : bt (aro here) d = true) => far_nx (L := w1.1 93) (c := d) hL (fun c hc => (hS c hc).2.2) hC hst hN hLs (show m < N by omega) hh hl' hd hb
        obtain ⟨r, r1, r2⟩ := ih q (k + 1) c (by omega) (by omega) (by omega) c1 (by rw [c3]; congr 1; omega)
        refine ⟨r, ?_, ?_⟩
        · rw [b_X6_cellBehind_21, if_neg (nI_nlt (by omega) (by omega)), if_neg (show ¬ (12 : Int32) ≤ nI k from nI_ge (b := 12) (by omega) (by decide)), nextFrom_v hh hl' (by omega) c1 c2 c3 (fun d hd z => c4 d hd ⟨by omega, z.1, z.2⟩), bd_ok, nm_ok, nI_1]
          exact r1
        · obtain ⟨y1, y2⟩ := (nx c c1 c2).mp c3
          rw [b_X8_safeAt_53, if_neg (nI_nlt (by omega) (by omega)), show (0 : Int32) = nI 0 from rfl, safeAt62 (m := m) (c := c) (F := F) hp2 hg hh (fun c hc => ⟨(hS c hc).1, (hS c hc).2.1⟩) hN hm c1 c2 (by rw [hDg]; exact y1) y2 (fun d hd z => c4 d hd ⟨by omega, z.1, (nx d (by omega) z.1).mpr ⟨by rw [← hDg]; exact z.2.1, z.2.2⟩⟩) LF 0 (by unfold LF; omega) (by omega)]
          exact r2
theorem safeAt_neg {w z : Wd} {v u i : Int32} {r : Int32} (e : f_X8_safe w v u = some (r, z)) (h : r < 0) : f_X8_safeAt w v u i = some (r, z) := by
  unfold f_X8_safeAt b_X8_safeAt_0
  rw [e, bd_ok, if_pos h]
  unfold b_X8_safeAt_27
  rw [if_neg (fun z => by rw [i_le] at z; rw [i_lt] at h; omega)]
theorem s_safeAt (v u i : Int32) : Step (fun w => f_X7_safeAt w v u i) (fun w => f_X8_safeAt w v u i) := by
  intro w hw
  obtain ⟨T, W, cl, kd, hi⟩ := hw
  have hi0 := hi
  obtain ⟨⟨hT, hW, x0, m0, x1, m1, hs, hs2, hc, hci, hsd, hkd, hwi, hwz, hsh, hsn, hne, hgg⟩, -, ⟨⟨b1, b2, b3, b4, b5, b6, b7⟩, ⟨n1, n2, n3, n4, n5⟩, n6, n7⟩, -, -⟩ := hi
  show ∃ r w1 w2, f_X7_safeAt w v u i = _ ∧ f_X8_safeAt w1 v u i = _ ∧ _
  rcases ix v (n := W) (by omega) with h | ⟨g, hg, rfl⟩
  · refine ⟨-1, w, w, ?_, safeAt_neg (mSafe_w m1 hW h) (by decide), T, W, cl, kd, hi0⟩
    unfold f_X7_safeAt b_X7_safeAt_0
    rw [refusal_w x1 h, bd_ok, if_neg (show ¬ (-1 : Int32) = 0 by decide)]
  · rcases ix u (n := 12) (by omega) with h | ⟨go, hgo, rfl⟩
    · refine ⟨-1, w, w, ?_, safeAt_neg (mSafe_c m1 hW hg h) (by decide), T, W, cl, kd, hi0⟩
      unfold f_X7_safeAt b_X7_safeAt_0
      rw [refusal_c x1 hW hg h, bd_ok, if_neg (show ¬ (-1 : Int32) = 0 by decide)]
    · have e8 := (n5 g hg).2
      rw [Nat.zero_add] at e8
      by_cases h9 : w.1 21 g = -9
      · obtain ⟨st, hst, hat⟩ := b5 g hg
        obtain ⟨dv, w1, w2, F, e1, e2, o1, hL, e3, o2, hS, hC, i1, i2, hDD⟩ := way_both hi0 hg hst hgo hat
        have hat1 : w1.1 113 (4 + g) = nI st := by
          rw [o1.1 113 (4 + g) (by omega), ← hat]
          have := (n5 g hg).1
          rw [Nat.zero_add] at this
          exact this.symm
        have h91 : w1.1 113 (8 + g) = -9 := by rw [o1.1 113 (8 + g) (by omega), ← e8]; exact h9
        have hm := mSafe_v (F := F) i1.1.2.2.2.2.2.1 hW hg hgo hst hat1 h91 e3 o2 ⟨(hS st hst).1, (hS st hst).2.1⟩
        have hx7 : ∀ r, f_X6_cellBehind w1 (nI st) i = some (r, w1) → f_X7_safeAt w (nI g) (nI go) i = some (r, w1) := fun r hr => by
          unfold f_X7_safeAt b_X7_safeAt_0
          rw [refusal_v x1 hW hg hgo, if_pos h9, bd_ok, if_pos rfl]
          simp only [gd_true (inb_nI (show g < 4 by omega) (by decide)), nI_clamp (show g < 2 ^ 31 by omega)]
          rw [e1, bd_ok, show w.1 20 g = nI st from hat, e2, bv_ok, o1.1 20 g (by omega), show w.1 20 g = nI st from hat, hr, bd_ok]
        rcases far_st hst (hL st hst) (hS st hst).2.2 (fun m hm q => hC m hm st hst q) with ⟨N, hN, hx, hFN⟩ | ⟨hx, hF9⟩
        · rw [hFN, if_pos (by omega)] at hm
          rcases ix i (n := N) (by omega) with h | ⟨k, hk, rfl⟩
          · refine ⟨-9, w1, w2, hx7 _ ?_, ?_, T, W, cl, kd, i2⟩
            · unfold f_X6_cellBehind b_X6_cellBehind_0
              by_cases h0 : i < 0
              · rw [if_pos h0]
              · rw [if_neg h0, stepsFrom_v hst, bd_ok, hx, if_neg (fun z => by
                  have q := h.resolve_left h0
                  rw [i_le] at q
                  rw [i_lt] at z
                  omega)]
            · unfold f_X8_safeAt b_X8_safeAt_0
              rw [hm, bd_ok, if_neg (nI_lt0 N (by omega)), show (0 : Int64) = (0 : Int32).toInt64 from rfl, in_i, bd_ok, if_neg (show ¬ ((0 : Int32) ≤ i ∧ i ≤ nI N - 1) from fun z => by
                obtain ⟨z1, z2⟩ := z
                rw [i_le] at z1 z2
                rw [sub1_toInt (by omega)] at z2
                have h00 : (0 : Int32).toInt = 0 := rfl
                rcases h with h | h
                · rw [i_lt] at h; omega
                · rw [i_le, nI_toInt (by omega)] at h; omega), if_pos rfl]
              unfold b_X8_safeAt_27
              rw [if_pos (nI_pos' (by omega))]
          · obtain ⟨r, r1, r2⟩ := way_walk i2.1 hg hDD hL hS hC hst hN hx hk LF LF 0 st (by unfold LF; omega) (by unfold LF; omega) (by omega) hst hx
            refine ⟨r, w1, w2, hx7 _ ?_, ?_, T, W, cl, kd, i2⟩
            · unfold f_X6_cellBehind b_X6_cellBehind_0
              rw [if_neg (nI_lt0 k (by omega)), stepsFrom_v hst, bd_ok, hx, if_pos (nI_lt hk (by omega))]
              exact r1
            · unfold f_X8_safeAt b_X8_safeAt_0
              rw [hm, bd_ok, if_neg (nI_lt0 N (by omega)), show (0 : Int64) = (0 : Int32).toInt64 from rfl, in_i, bd_ok, if_pos (show (0 : Int32) ≤ nI k ∧ nI k ≤ nI N - 1 from ⟨nI_pos' (by omega), by
                rw [i_le, sub1_toInt (by omega), nI_toInt (by omega)]; omega⟩), if_neg (show ¬ (1 : Int32) = 0 by decide), lit_add 4 (b := 4) rfl, gd_true (inb_nI (show 4 + g < 72 by omega) (by decide)), nm_ok, nI_clamp (show 4 + g < 2 ^ 31 by omega), o2.1 113 (4 + g) (by omega), hat1]
              exact r2
        · rw [hF9, if_neg (by omega)] at hm
          refine ⟨-9, w1, w2, hx7 _ ?_, safeAt_neg hm (by decide), T, W, cl, kd, i2⟩
          unfold f_X6_cellBehind b_X6_cellBehind_0
          by_cases h0 : i < 0
          · rw [if_pos h0]
          · rw [if_neg h0, stepsFrom_v hst, bd_ok, hx, if_neg (fun z => h0 (by
              rw [i_lt] at z ⊢
              have e9 : (-9 : Int32).toInt = -9 := rfl
              have e0 : (0 : Int32).toInt = 0 := rfl
              omega))]
      · refine ⟨-3, w, w, ?_, safeAt_neg (mSafe_3 m1 hW hg hgo (by rw [← e8]; exact h9)) (by decide), T, W, cl, kd, hi0⟩
        unfold f_X7_safeAt b_X7_safeAt_0
        rw [refusal_v x1 hW hg hgo, if_neg h9, bd_ok, if_neg (show ¬ (-3 : Int32) = 0 by decide)]
