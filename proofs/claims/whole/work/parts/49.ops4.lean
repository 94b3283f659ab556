theorem s_look (v u : Int32) : Step (fun w => f_X7_look w v u) (fun w => f_X8_look w v u) := by
  intro w hw
  obtain ⟨T, W, cl, kd, hi⟩ := hw
  obtain ⟨w1, e, f1, f2, hact⟩ := act_both hi
  have hi0 := hi
  obtain ⟨⟨hT, hW, x0, m0, x1, m1, hs, hs2, hc, hci, hsd, hkd, hwi, hwz, hsh, hsn, hne, hg⟩, -, ⟨⟨b1, b2, b3, b4, b5, b6, b7⟩, ⟨n1, n2, n3, n4, n5⟩, n6, n7⟩, -, -⟩ := hi
  show ∃ r w1 w2, f_X7_look w v u = _ ∧ f_X8_look w1 v u = _ ∧ _
  rcases ix u (n := 12) (by omega) with h | ⟨c, hcc, rfl⟩
  · refine ⟨-1, w, w, ?_, ?_, T, W, cl, kd, hi0⟩
    · unfold f_X7_look b_X7_look_0
      rw [isCell_no h]; rfl
    · unfold f_X8_look b_X8_look_0
      rw [mIsCell_no h]; rfl
  · rcases ix v (n := 2) (by omega) with h | ⟨s, hss, rfl⟩
    · refine ⟨-2, w, w, ?_, ?_, T, W, cl, kd, hi0⟩
      · unfold f_X7_look b_X7_look_0
        rw [isCell_yes hcc, bd_ok, if_neg (show ¬ (1 : Int32) = 0 by decide), isSide_no h]; rfl
      · unfold f_X8_look b_X8_look_0
        rw [mIsCell_yes hcc, bd_ok, if_neg (show ¬ (1 : Int32) = 0 by decide), mIn1_no h]; rfl
    · have ek : w.1 19 s = w.1 113 (2 + s) := by
        rcases (show s = 0 ∨ s = 1 by omega) with rfl | rfl
        · exact n3
        · exact n4
      obtain ⟨F, hF⟩ : ∃ z, z = mk (fun t => bt (aro c) (cl t) || decide (cl t = c)) T &&& (w.1 19 s ^^^ (-1)) := ⟨_, rfl⟩
      have hFT : ∀ i, bt F i = true → i < T := fun i hb => by
        have h32 := bt32 hb
        rw [hF, b_and, Bool.and_eq_true, b_mk _ T (by omega) i h32] at hb
        have := hb.1
        simp only [Bool.and_eq_true, decide_eq_true_eq] at this
        exact this.1
      obtain ⟨x2, hx2⟩ : ∃ z, z = up w1 19 s (w.1 19 s ||| F) := ⟨_, rfl⟩
      have ox : Only (fun k _ => 18 ≤ k ∧ k ≤ 21) w1 x2 := by rw [hx2]; exact Only.rf.up ⟨by decide, by decide⟩
      obtain ⟨y1, ey, g1, g2, hfin⟩ := hact x2 ox
      have fx : ∀ k j, k ≠ 19 → ¬ (26 ≤ k ∧ k ≤ 91) → x2.1 k j = w.1 k j := fun k j h1 h2 => by rw [hx2, up_nc h1, f1 k j h2]
      have fy : ∀ j, y1.1 113 j = w.1 113 j := fun j => by rw [g1 113 j (by decide) (by omega), fx 113 j (by decide) (by omega)]
      have ow : Only (fun k _ => k = 113) y1 (up y1 113 (2 + s) (w.1 19 s ||| F)) := Only.rf.up rfl
      refine ⟨F, x2, up y1 113 (2 + s) (w.1 19 s ||| F), ?_, ?_, hfin _ ow ?_⟩
      · unfold f_X7_look b_X7_look_0
        rw [isCell_yes hcc, bd_ok, if_neg (show ¬ (1 : Int32) = 0 by decide), isSide_yes hss, bd_ok, if_neg (show ¬ (1 : Int32) = 0 by decide), unknownFrom_v (cl := cl) x0 hT (fun t ht => ⟨(hc t ht).1, (hc t ht).2.2⟩) hss hcc, bd_ok, ← hF, e, bv_ok]
        simp only [nm_ok, gd_true (inb_nI (show s < 2 by omega) (by decide)), nI_clamp (show s < 2 ^ 31 by omega)]
        rw [f1 19 s (by omega), hx2]
      · unfold f_X8_look b_X8_look_0
        rw [mIsCell_yes hcc, bd_ok, if_neg (show ¬ (1 : Int32) = 0 by decide), show (1 : Int64) = (1 : Int32).toInt64 from rfl, mIn_yes (n := 1) 1 rfl (by omega) (by decide), bd_ok, if_neg (show ¬ (1 : Int32) = 0 by decide), ey, bv_ok, mFinds_v (cl := cl) (by rw [g1 105 10 (by decide) (by omega), fx 105 10 (by decide) (by omega)]; exact m0) hT (fun t ht => ⟨by rw [g1 108 t (by decide) (by omega), fx 108 t (by decide) (by omega)]; exact (hc t ht).2.1, (hc t ht).2.2⟩) hss hcc, bd_ok, fy (2 + s), ← ek, ← hF, lit_add 2 (b := 2) rfl]
        simp only [nm_ok, gd_true (inb_nI (show 2 + s < 72 by omega) (by decide)), nI_clamp (show 2 + s < 2 ^ 31 by omega)]
        rw [fy, ek]
      · have gk : ∀ k j, k ≠ 113 → k ≠ 115 → ¬ (k = 105 ∧ (j = 19 ∨ j = 20)) → (up y1 113 (2 + s) (w.1 19 s ||| F)).1 k j = x2.1 k j := fun k j h1 h2 h3 => by rw [up_nc h1, g1 k j h2 h3]
        refine NowR.of (w.1 18 1) (w.1 18 2) (if s = 0 then w.1 19 s ||| F else w.1 19 0) (if s = 1 then w.1 19 s ||| F else w.1 19 1) (w.1 18 3) (fun i => w.1 20 i) (fun i => w.1 21 i) ?_ ?_ ?_ ?_ ?_ ?_ ?_ ?_ ?_ ?_ ?_ ?_ ?_ ?_ n7 b1 b2 ?_ ?_ b5 b6
        · rw [gk 18 1 (by decide) (by decide) (by omega), fx 18 1 (by decide) (by omega)]
        · rw [gk 18 2 (by decide) (by decide) (by omega), fx 18 2 (by decide) (by omega)]
        · rw [gk 18 3 (by decide) (by decide) (by omega), fx 18 3 (by decide) (by omega)]
        · rw [gk 19 0 (by decide) (by decide) (by omega), hx2, up_get, f1 19 0 (by omega)]
          by_cases h : s = 0
          · rw [if_pos ⟨rfl, h.symm⟩, if_pos h]
          · rw [if_neg (fun z => h z.2.symm), if_neg h]
        · rw [gk 19 1 (by decide) (by decide) (by omega), hx2, up_get, f1 19 1 (by omega)]
          by_cases h : s = 1
          · rw [if_pos ⟨rfl, h.symm⟩, if_pos h]
          · rw [if_neg (fun z => h z.2.symm), if_neg h]
        · intro i _; rw [gk 20 i (by decide) (by decide) (by omega), fx 20 i (by decide) (by omega)]
        · intro i _; rw [gk 21 i (by decide) (by decide) (by omega), fx 21 i (by decide) (by omega)]
        · rw [up_ns (by omega), fy]; exact n1.symm
        · rw [up_ns (by omega), fy]; exact n2.symm
        · rw [up_get, fy]
          by_cases h : s = 0
          · rw [if_pos ⟨rfl, by omega⟩, if_pos h]
          · rw [if_neg (by omega), if_neg h]; exact n3.symm
        · rw [up_get, fy]
          by_cases h : s = 1
          · rw [if_pos ⟨rfl, by omega⟩, if_pos h]
          · rw [if_neg (by omega), if_neg h]; exact n4.symm
        · intro i hi; rw [up_ns (by omega), fy]; have := (n5 i hi).1; rw [Nat.zero_add] at this; exact this.symm
        · intro i hi; rw [up_ns (by omega), fy]; have := (n5 i hi).2; rw [Nat.zero_add] at this; exact this.symm
        · rw [up_nc (by decide), g1 105 13 (by decide) (by omega), fx 105 13 (by decide) (by omega)]; exact n6.symm
        · intro i hb
          by_cases h : s = 0
          · subst h
            rw [if_pos rfl, b_or, Bool.or_eq_true] at hb
            exact hb.elim (b3 i) (hFT i)
          · rw [if_neg h] at hb; exact b3 i hb
        · intro i hb
          by_cases h : s = 1
          · subst h
            rw [if_pos rfl, b_or, Bool.or_eq_true] at hb
            exact hb.elim (b4 i) (hFT i)
          · rw [if_neg h] at hb; exact b4 i hb
/-! how many bits -/
def pop (x : Int32) : Nat := fb_ct (bt x) 12
theorem small_of {x : Int32} (hx : ∀ i, bt x i = true → i < 12) : ∃ m, m < 4096 ∧ x = nI m := by
  have e : x = nI x.toBitVec.toNat := by
    apply Int32.toBitVec_inj.1
    show x.toBitVec = BitVec.ofNat 32 x.toBitVec.toNat
    simp
  refine ⟨x.toBitVec.toNat, ?_, e⟩
  refine Nat.lt_pow_two_of_testBit (n := 12) _ (fun i hi => ?_)
  cases hb : x.toBitVec.toNat.testBit i
  · rfl
  · exact absurd (hx i hb) (by omega)
theorem bc_two : ∀ a, a < 64 → ∀ b, b < 64 → (f_J6_bitCount_0f7a4 (fun _ _ => 0, fun _ => 0) (nI (64 * a + b))).map (fun q => q.1) = some (nI (pop (nI (64 * a + b)))) := by decide +kernel
theorem bc_all (m : Nat) (hm : m < 4096) : (f_J6_bitCount_0f7a4 (fun _ _ => 0, fun _ => 0) (nI m)).map (fun q => q.1) = some (nI (pop (nI m))) := by
  have := bc_two (m / 64) (by omega) (m % 64) (by omega)
  rwa [show 64 * (m / 64) + m % 64 = m by omega] at this
theorem bitCount_v {w : Wd} {x : Int32} (hx : ∀ i, bt x i = true → i < 12) : f_J6_bitCount_0f7a4 w x = some (nI (pop x), w) := by
  obtain ⟨m, hm, rfl⟩ := small_of hx
  have := bc_all m hm
  unfold f_J6_bitCount_0f7a4 b_J6_bitCount_0f7a4_0 at this ⊢
  simp only [nm_ok, Option.map_some, Option.some.injEq] at this ⊢
  rw [this]
theorem ones_v {w : Wd} {x : Int32} : f_X8_ones w x = some (nI (pop x), w) := by
  unfold f_X8_ones b_X8_ones_0
  have key : ∀ (n t : Nat), 12 - t < n → t ≤ 12 → b_X8_ones_4 n w x (nI (fb_ct (bt x) t)) (nI t) = some (nI (pop x), w) := by
    intro n
    induction n with
    | zero => intro t h; omega
    | succ n ih =>
      intro t hn ht
      rw [b_X8_ones_4]
      by_cases h : t = 12
      · subst h
        rw [if_pos (show (12 : Int32) ≤ nI 12 by decide)]; rfl
      · rw [if_neg (show ¬ (12 : Int32) ≤ nI t from nI_ge (b := 12) (by omega) (by decide))]
        simp only [nm_ok, nI_1]
        have e : nI (fb_ct (bt x) t) + ((x >>> (nI t &&& 31)) &&& 1) = nI (fb_ct (bt x) (t + 1)) := by
          rw [tb x (by omega), fb_ct_succ]
          cases bt x t
          · rw [if_neg (by decide), if_neg (by decide)]; exact nI_add _ 0
          · rw [if_pos rfl, if_pos rfl]; exact nI_add _ 1
        rw [e]
        exact ih (t + 1) (by omega) (by omega)
  exact key LF 0 (by unfold LF; omega) (by omega)
theorem pop_le (x : Int32) : pop x ≤ 12 := fb_ct_le _ _
theorem s_toLook (v : Int32) : Step (fun w => f_X7_toLook w v) (fun w => f_X8_toLook w v) := by
  refine Step.ro (fun w T W cl kd hi => ?_)
  obtain ⟨⟨hT, hW, x0, m0, x1, m1, hs, hs2, hc, hci, hsd, hkd, hwi, hwz, hsh, hsn, hne, hg⟩, -, ⟨-, ⟨n1, n2, n3, n4, n5⟩, -⟩, -⟩ := hi
  show ∃ r, f_X7_toLook w v = _ ∧ f_X8_toLook w v = _
  rcases ix v (n := 2) (by omega) with h | ⟨s, hss, rfl⟩
  · refine ⟨-2, ?_, ?_⟩
    · unfold f_X7_toLook b_X7_toLook_0
      rw [isSide_no h]; rfl
    · unfold f_X8_toLook b_X8_toLook_0
      rw [mIn1_no h]; rfl
  · have ek : w.1 19 s = w.1 113 (2 + s) := by
      rcases (show s = 0 ∨ s = 1 by omega) with rfl | rfl
      · exact n3
      · exact n4
    obtain ⟨F, hF⟩ : ∃ z : Nat → Int32, z = fun c => mk (fun t => bt (aro c) (cl t) || decide (cl t = c)) T &&& (w.1 19 s ^^^ (-1)) := ⟨_, rfl⟩
    have hFT : ∀ c i, bt (F c) i = true → i < 12 := fun c i hb => by
      have h32 := bt32 hb
      rw [hF] at hb
      simp only at hb
      rw [b_and, Bool.and_eq_true, b_mk _ T (by omega) i h32] at hb
      have := hb.1
      simp only [Bool.and_eq_true, decide_eq_true_eq] at this
      omega
    have hx : ∀ c, c < 12 → f_X7_unknownFrom w (nI s) (nI c) = some (F c, w) := fun c hcc => by
      rw [unknownFrom_v (cl := cl) x0 hT (fun t ht => ⟨(hc t ht).1, (hc t ht).2.2⟩) hss hcc, hF]
    have hm : ∀ c, c < 12 → f_X8_finds w (nI s) (nI c) = some (F c, w) := fun c hcc => by
      rw [mFinds_v (cl := cl) m0 hT (fun t ht => ⟨(hc t ht).2.1, (hc t ht).2.2⟩) hss hcc, hF, ← ek]
    have key : ∀ (n t b m : Nat), 12 - t < n → t ≤ 12 → b < 12 → 12 - t < m → ∃ r, b_X7_toLook_17 n w (nI s) (nI b) (nI (pop (F b))) (nI t) = some (r, w) ∧ b_X8_toLook_17 m w (nI s) (nI b) (nI t) = some (r, w) := by
      intro n
      induction n with
      | zero => intro t b m h; omega
      | succ n ih =>
        intro t b m hn ht hb hm9
        cases m with
        | zero => omega
        | succ m =>
          by_cases h : t = 12
          · subst h
            refine ⟨nI b, ?_, ?_⟩
            · rw [b_X7_toLook_17, if_pos (show (12 : Int32) ≤ nI 12 by decide)]
            · rw [b_X8_toLook_17, if_pos (show (12 : Int32) ≤ nI 12 by decide)]
          · have p1 := pop_le (F t)
            have p2 := pop_le (F b)
            by_cases hle : pop (F t) ≤ pop (F b)
            · obtain ⟨r, h1, h2⟩ := ih (t + 1) b m (by omega) (by omega) hb (by omega)
              refine ⟨r, ?_, ?_⟩
              · rw [b_X7_toLook_17, if_neg (show ¬ (12 : Int32) ≤ nI t from nI_ge (b := 12) (by omega) (by decide)), hx t (by omega), bd_ok, bitCount_v (hFT t), bd_ok, if_pos (nI_le hle (by omega))]
                unfold b_X7_toLook_48
                rw [nm_ok, nI_1]
                exact h1
              · rw [b_X8_toLook_17, if_neg (show ¬ (12 : Int32) ≤ nI t from nI_ge (b := 12) (by omega) (by decide)), hm t (by omega), bd_ok, ones_v, bd_ok, hm b hb, bd_ok, ones_v, bd_ok, if_pos (nI_le hle (by omega))]
                unfold b_X8_toLook_49
                rw [nm_ok, nI_1]
                exact h2
            · obtain ⟨r, h1, h2⟩ := ih (t + 1) t m (by omega) (by omega) (by omega) (by omega)
              refine ⟨r, ?_, ?_⟩
              · rw [b_X7_toLook_17, if_neg (show ¬ (12 : Int32) ≤ nI t from nI_ge (b := 12) (by omega) (by decide)), hx t (by omega), bd_ok, bitCount_v (hFT t), bd_ok, if_neg (nI_ge (by omega) (by omega))]
                unfold b_X7_toLook_48
                rw [nm_ok, nI_1]
                exact h1
              · rw [b_X8_toLook_17, if_neg (show ¬ (12 : Int32) ≤ nI t from nI_ge (b := 12) (by omega) (by decide)), hm t (by omega), bd_ok, ones_v, bd_ok, hm b hb, bd_ok, ones_v, bd_ok, if_neg (nI_ge (by omega) (by omega))]
                unfold b_X8_toLook_49
                rw [nm_ok, nI_1]
                exact h2
    obtain ⟨r, h1, h2⟩ := key (LF - 1) 1 0 LF (by unfold LF; omega) (by omega) (by omega) (by unfold LF; omega)
    refine ⟨r, ?_, ?_⟩
    · unfold f_X7_toLook b_X7_toLook_0
      rw [isSide_yes hss, bd_ok, if_neg (show ¬ (1 : Int32) = 0 by decide), show LF = (LF - 1) + 1 from rfl, b_X7_toLook_17, if_neg (show ¬ (12 : Int32) ≤ 0 by decide), show (0 : Int32) = nI 0 from rfl, hx 0 (by omega), bd_ok, bitCount_v (hFT 0), bd_ok]
      unfold b_X7_toLook_48
      by_cases hle : pop (F 0) = 0
      · rw [if_pos (nI_le (by omega) (by omega)), nm_ok, nI_1]
        rw [hle] at h1
        exact h1
      · have p1 := pop_le (F 0)
        rw [if_neg (nI_ge (by omega) (by omega)), nm_ok, nI_1]
        exact h1
    · unfold f_X8_toLook b_X8_toLook_0
      rw [show (1 : Int64) = (1 : Int32).toInt64 from rfl, mIn_yes (n := 1) 1 rfl (by omega) (by decide), bd_ok, if_neg (show ¬ (1 : Int32) = 0 by decide)]
      exact h2
