theorem law_one {fx fm : Wd → Option (Int32 × Wd)} (h : Step fx fm) {w : Wd} (hI : Inv w) {k : Wd → Option Wd} (hk : ∀ w', Inv w' → ∃ wz, k w' = some wz) : ∃ wz, bd (fx w) (fun r w8 => bd (fm w8) (fun r2 w14 => if r = r2 then k w14 else none)) = some wz := by
  obtain ⟨r, w1, w2, e1, e2, i2⟩ := h w hI
  rw [e1, bd_ok, e2, bd_ok, if_pos rfl]
  exact hk w2 i2
theorem lg_same (a : Int64) : lg_cmp a a = 0 := by
  unfold lg_cmp
  rw [if_neg (show ¬ a > a from fun z => by rw [gt_iff_lt, l_lt] at z; omega), if_pos rfl]
theorem law_long {fx fm : Wd → Option (Int64 × Wd)} (h : Step fx fm) {w : Wd} (hI : Inv w) {k : Wd → Option Wd} (hk : ∀ w', Inv w' → ∃ wz, k w' = some wz) : ∃ wz, bd (fx w) (fun r w8 => bd (fm w8) (fun r2 w14 => if (lg_cmp r r2) = 0 then k w14 else none)) = some wz := by
  obtain ⟨r, w1, w2, e1, e2, i2⟩ := h w hI
  rw [e1, bd_ok, e2, bd_ok, if_pos (lg_same r)]
  exact hk w2 i2
theorem law_frost {xs : Nat → Int32} {L : Nat} {w : Wd} {v3 : Int32} {kb : Wd → Int32 → Option Wd} (hI : Inv w) (hk : ∀ w', Inv w' → ∃ wz, b_L_law_920 kb xs L w' v3 = some wz) (g1 : inb (v3 + 1) L = true) : ∃ wz, (if xs (v3 + 1).toNatClampNeg = 0 then b_L_law_361 kb xs L w v3 0 else b_L_law_361 kb xs L w v3 1) = some wz := by
  unfold b_L_law_361 b_L_law_378
  by_cases hz : xs (v3 + 1).toNatClampNeg = 0
  · rw [if_pos hz]
    simp only [gd_true g1, if_pos hz]
    exact law_one (s_frost 0 rfl) hI hk
  · rw [if_neg hz]
    simp only [gd_true g1, if_neg hz]
    exact law_one (s_frost 1 rfl) hI hk
theorem law_strays {xs : Nat → Int32} {L : Nat} {w : Wd} {v3 : Int32} {kb : Wd → Int32 → Option Wd} (hI : Inv w) (hk : ∀ w', Inv w' → ∃ wz, b_L_law_920 kb xs L w' v3 = some wz) (g1 : inb (v3 + 1) L = true) (g2 : inb (v3 + 2) L = true) (g3 : inb (v3 + 3) L = true) : ∃ wz, (if xs (v3 + 3).toNatClampNeg = 0 then b_L_law_706 kb xs L w v3 0 (xs (v3 + 2).toNatClampNeg) (xs (v3 + 1).toNatClampNeg) else b_L_law_706 kb xs L w v3 1 (xs (v3 + 2).toNatClampNeg) (xs (v3 + 1).toNatClampNeg)) = some wz := by
  unfold b_L_law_706 b_L_law_733
  by_cases hz : xs (v3 + 3).toNatClampNeg = 0
  · rw [if_pos hz]
    simp only [gd_true g1, gd_true g2, gd_true g3, if_pos hz]
    exact law_one (s_strays _ _ 0) hI hk
  · rw [if_neg hz]
    simp only [gd_true g1, gd_true g2, gd_true g3, if_neg hz]
    exact law_one (s_strays _ _ 1) hI hk
set_option maxHeartbeats 4000000 in
theorem law_loop (hfault : Step f_X7_fault f_X8_fault) (hwood : Step f_X7_wood f_X8_wood) {xs : Nat → Int32} {L : Nat} (hL : L ≤ 256) : ∀ (n i : Nat) (w : Wd), L < n + i → i ≤ L → Inv w → ∃ wz, b_L_law_18 xs L n w (nI i) = some wz := by
  intro n
  induction n with
  | zero => intro i w h1 h2; omega
  | succ n ih =>
    intro i w hn hi hI
    rw [b_L_law_18]
    by_cases hend : Int32.ofNat L - 4 < nI i
    · rw [if_pos hend]; exact ⟨w, rfl⟩
    · rw [if_neg hend]
      have h4 : i + 4 ≤ L := by
        rw [i_lt, show Int32.ofNat L - 4 = nI L - nI 4 from rfl, pk_sub_toInt (by omega) (by omega), nI_toInt (by omega)] at hend
        omega
      have hk : ∀ w', Inv w' → ∃ wz, b_L_law_920 (b_L_law_18 xs L n) xs L w' (nI i) = some wz := fun w' h' => by
        unfold b_L_law_920
        rw [nm_ok, show nI i + 4 = nI (i + 4) from nI_add i 4]
        exact ih (i + 4) w' (by omega) h4 h'
      have g1 : inb (nI i + 1) L = true := by rw [nI_1]; exact inb_nI (by omega) (by omega)
      have g2 : inb (nI i + 2) L = true := by rw [lit_add' 2 (b := 2) rfl]; exact inb_nI (by omega) (by omega)
      have g3 : inb (nI i + 3) L = true := by rw [lit_add' 3 (b := 3) rfl]; exact inb_nI (by omega) (by omega)
      rw [gd_true (inb_nI (show i < L by omega) (by omega))]
      simp only [gd_true g1, gd_true g2, gd_true g3]
      generalize b_L_law_18 xs L n = kb at hk ⊢
      generalize xs (nI i).toNatClampNeg &&& 31 = op
      by_cases h0 : op = 0
      · rw [if_pos h0]
        exact law_one (s_write _ _) hI hk
      rw [if_neg h0]
      by_cases h1 : op = 1
      · rw [if_pos h1]
        exact law_one s_wipe hI hk
      rw [if_neg h1]
      by_cases h2 : op = 2
      · rw [if_pos h2]
        exact law_one hfault hI hk
      rw [if_neg h2]
      by_cases h3 : op = 3
      · rw [if_pos h3]
        exact law_one hwood hI hk
      rw [if_neg h3]
      by_cases h4 : op = 4
      · rw [if_pos h4]
        exact law_one (s_trap _ _) hI hk
      rw [if_neg h4]
      by_cases h5 : op = 5
      · rw [if_pos h5]
        exact law_one (s_walker _ _) hI hk
      rw [if_neg h5]
      by_cases h6 : op = 6
      · rw [if_pos h6]
        exact law_one (s_near _) hI hk
      rw [if_neg h6]
      by_cases h7 : op = 7
      · rw [if_pos h7]
        exact law_frost hI hk g1
      rw [if_neg h7]
      by_cases h8 : op = 8
      · rw [if_pos h8]
        exact law_one (s_step _ _) hI hk
      rw [if_neg h8]
      by_cases h9 : op = 9
      · rw [if_pos h9]
        exact law_one (s_arm _) hI hk
      rw [if_neg h9]
      by_cases h10 : op = 10
      · rw [if_pos h10]
        exact law_one (s_look _ _) hI hk
      rw [if_neg h10]
      by_cases h11 : op = 11
      · rw [if_pos h11]
        exact law_one (s_free _) hI hk
      rw [if_neg h11]
      by_cases h12 : op = 12
      · rw [if_pos h12]
        exact law_one s_undo hI hk
      rw [if_neg h12]
      by_cases h13 : op = 13
      · rw [if_pos h13]
        exact law_one (s_sprung _) hI hk
      rw [if_neg h13]
      by_cases h14 : op = 14
      · rw [if_pos h14]
        exact law_one s_rings hI hk
      rw [if_neg h14]
      by_cases h15 : op = 15
      · rw [if_pos h15]
        exact law_one s_all hI hk
      rw [if_neg h15]
      by_cases h16 : op = 16
      · rw [if_pos h16]
        exact law_one (s_first _) hI hk
      rw [if_neg h16]
      by_cases h17 : op = 17
      · rw [if_pos h17]
        exact law_one (s_safe _ _) hI hk
      rw [if_neg h17]
      by_cases h18 : op = 18
      · rw [if_pos h18]
        exact law_one (s_safeAt _ _ _) hI hk
      rw [if_neg h18]
      by_cases h19 : op = 19
      · rw [if_pos h19]
        exact law_one (s_toLook _) hI hk
      rw [if_neg h19]
      by_cases h20 : op = 20
      · rw [if_pos h20]
        exact law_strays hI hk g1 g2 g3
      rw [if_neg h20]
      by_cases h21 : op = 21
      · rw [if_pos h21]
        exact law_one (s_oneMore _ _) hI hk
      rw [if_neg h21]
      by_cases h22 : op = 22
      · rw [if_pos h22]
        exact law_long (s_seed _) hI hk
      rw [if_neg h22]
      by_cases h23 : op = 23
      · rw [if_pos h23]
        exact law_one (s_night _) hI hk
      rw [if_neg h23]
      by_cases h24 : op = 24
      · rw [if_pos h24]
        exact law_one (s_keep _) hI hk
      rw [if_neg h24]
      by_cases h25 : op = 25
      · rw [if_pos h25]
        exact law_one (s_again _) hI hk
      rw [if_neg h25]
      by_cases h26 : op = 26
      · rw [if_pos h26]
        exact law_one (s_count _) hI hk
      rw [if_neg h26]
      exact hk w hI
theorem law_pure (hfault : Step f_X7_fault f_X8_fault) (hwood : Step f_X7_wood f_X8_wood) (xs : Nat → Int32) (L : Nat) (hL : L ≤ 256) : ∃ wz, b_L_law_18 xs L LF wX 0 = some wz :=
  law_loop hfault hwood hL LF 0 wX (by unfold LF; omega) (by omega) Inv_0
