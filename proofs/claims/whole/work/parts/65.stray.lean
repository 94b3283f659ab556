/-! one that strays: the parts, as a sum over the ways -/
def sm (f : Nat → Nat) : Nat → Nat
  | 0 => 0
  | n + 1 => sm f n + f n
theorem sm_cong {f h : Nat → Nat} : ∀ n, (∀ i, i < n → f i = h i) → sm f n = sm h n
  | 0, _ => rfl
  | n + 1, q => by rw [sm, sm, sm_cong n (fun i hi => q i (by omega)), q n (by omega)]
theorem sm_0 {f : Nat → Nat} : ∀ n, (∀ i, i < n → f i = 0) → sm f n = 0
  | 0, _ => rfl
  | n + 1, q => by rw [sm, sm_0 n (fun i hi => q i (by omega)), q n (by omega)]
theorem sm_le {f : Nat → Nat} {p : Nat → Bool} {k : Nat} : ∀ n, (∀ i, i < n → f i ≤ if p i then k else 0) → sm f n ≤ fb_ct p n * k
  | 0, _ => Nat.zero_le _
  | n + 1, q => by
    have h1 := sm_le n (fun i hi => q i (by omega))
    have h2 := q n (by omega)
    rw [sm, fb_ct_succ, Nat.add_mul]
    cases hp : p n
    · rw [hp, if_neg (by decide)] at h2
      rw [if_neg (by decide), Nat.zero_mul]
      omega
    · rw [hp, if_pos rfl] at h2
      rw [if_pos rfl, Nat.one_mul]
      omega
def VV (wy : Nat → Int32) (nx : Nat → Int32 → Int32 → Bool × Int32 × Int32) : Nat → Nat → Nat → Int32 → Int32 → Nat
  | 0, _, _, _, _ => 0
  | s + 1, wh, c, a, v => sm (fun e => if bt (wy c) e then (if (nx e a v).1 then wh / pop (wy c) else VV wy nx s (wh / pop (wy c)) e (nx e a v).2.1 (nx e a v).2.2) else 0) 12
theorem VV_le {wy : Nat → Int32} {nx : Nat → Int32 → Int32 → Bool × Int32 × Int32} : ∀ (s wh c : Nat) (a v : Int32), VV wy nx s wh c a v ≤ wh
  | 0, _, _, _, _ => Nat.zero_le _
  | s + 1, wh, c, a, v => by
    rw [VV]
    refine Nat.le_trans (sm_le (p := bt (wy c)) (k := wh / pop (wy c)) 12 (fun i _ => ?_)) (Nat.mul_div_le wh (pop (wy c)))
    cases bt (wy c) i
    · exact Nat.le_refl _
    · show (if (nx i a v).1 then wh / pop (wy c) else _) ≤ wh / pop (wy c)
      cases (nx i a v).1
      · exact VV_le s _ _ _ _
      · exact Nat.le_refl _
theorem VV_zero {wy : Nat → Int32} {nx : Nat → Int32 → Int32 → Bool × Int32 × Int32} (h : ∀ e a v, (nx e a v).1 = false) : ∀ (s wh c : Nat) (a v : Int32), VV wy nx s wh c a v = 0
  | 0, _, _, _, _ => rfl
  | s + 1, wh, c, a, v => by
    rw [VV]
    refine sm_0 12 (fun i _ => ?_)
    rw [h i a v, VV_zero h s]
    cases bt (wy c) i <;> rfl
theorem VV_rel {wy : Nat → Int32} {nx ny : Nat → Int32 → Int32 → Bool × Int32 × Int32} {R : Int32 → Int32 → Int32 → Int32 → Prop} (h : ∀ e a v A V, e < 12 → R a v A V → (nx e a v).1 = (ny e A V).1 ∧ ((nx e a v).1 = false → R (nx e a v).2.1 (nx e a v).2.2 (ny e A V).2.1 (ny e A V).2.2)) : ∀ (s wh c : Nat) (a v A V : Int32), R a v A V → VV wy nx s wh c a v = VV wy ny s wh c A V
  | 0, _, _, _, _, _, _, _ => rfl
  | s + 1, wh, c, a, v, A, V, hR => by
    rw [VV, VV]
    refine sm_cong 12 (fun i hi => ?_)
    obtain ⟨h1, h2⟩ := h i a v A V hi hR
    cases bt (wy c) i
    · rfl
    · show (if (nx i a v).1 then wh / pop (wy c) else _) = (if (ny i A V).1 then wh / pop (wy c) else _)
      rw [← h1]
      cases hb : (nx i a v).1
      · exact VV_rel h s _ _ _ _ _ _ (h2 hb)
      · rfl
/-! one step of it -/
noncomputable def srr (w : Wd) (M : Nat) (a v fr : Int32) (e : Nat) : Int32 := Classical.choose (StR.ex w M a v fr e)
noncomputable def srk (w : Wd) (M : Nat) (a v fr : Int32) (e : Nat) : Int32 := Classical.choose (Classical.choose_spec (StR.ex w M a v fr e))
theorem sr_v (w : Wd) (M : Nat) (a v fr : Int32) (e : Nat) : StR w M a v fr e (srr w M a v fr e) (srk w M a v fr e) := Classical.choose_spec (Classical.choose_spec (StR.ex w M a v fr e))
def ctB (w : Wd) (g e : Nat) (r : Int32) : Bool := (List.range 7).any (fun i => bt r i && (decide (w.1 108 i = nI e) && catI (w.1 110 i) (w.1 112 g)))
theorem ctB_t {w : Wd} {g e : Nat} {r : Int32} : ctB w g e r = true ↔ ∃ i, i < 7 ∧ bt r i = true ∧ w.1 108 i = nI e ∧ catI (w.1 110 i) (w.1 112 g) = true := by
  unfold ctB
  rw [List.any_eq_true]
  constructor
  · rintro ⟨i, h1, h2⟩
    rw [Bool.and_eq_true, Bool.and_eq_true, decide_eq_true_iff] at h2
    exact ⟨i, List.mem_range.mp h1, h2⟩
  · rintro ⟨i, h1, h2⟩
    refine ⟨i, List.mem_range.mpr h1, ?_⟩
    rw [Bool.and_eq_true, Bool.and_eq_true, decide_eq_true_iff]
    exact h2
theorem ctB_0 {w : Wd} {g e : Nat} : ctB w g e 0 = false := by
  cases h : ctB w g e 0
  · rfl
  · obtain ⟨i, -, h2, -⟩ := ctB_t.mp h
    rw [b_0] at h2; cases h2
noncomputable def nxS (w : Wd) (M g : Nat) (fr : Int32) (e : Nat) (a v : Int32) : Bool × Int32 × Int32 := (ctB w g e (srr w M a v fr e), a &&& (srr w M a v fr e ^^^ (-1)), (v ||| srk w M a v fr e) &&& (srr w M a v fr e ^^^ (-1)))
theorem StR.fr0 {w : Wd} {M : Nat} {a v fr : Int32} {c : Nat} {r wk : Int32} (h : StR w M a v fr c r wk) (hf : ¬ fr = 0) : r = 0 ∧ wk = 0 := by
  rcases h with ⟨-, h1, h2⟩ | ⟨t, -, -, ⟨⟨-, q, -⟩, -⟩ | ⟨-, h1, h2⟩⟩
  · exact ⟨h1, h2⟩
  · exact absurd q hf
  · rw [if_neg hf] at h1; exact ⟨h1, h2⟩
theorem nxS_fr {w : Wd} {M g : Nat} {fr : Int32} (hf : ¬ fr = 0) (e : Nat) (a v : Int32) : (nxS w M g fr e a v).1 = false := by
  show ctB w g e (srr w M a v fr e) = false
  rw [((sr_v w M a v fr e).fr0 hf).1, ctB_0]
noncomputable def nxN (w : Wd) (M g : Nat) (fr net : Int32) (e : Nat) (a v : Int32) : Bool × Int32 × Int32 := if fr = 0 ∧ nI e = net then (true, a, v) else nxS w M g fr e a v
theorem StR.one {w : Wd} {M : Nat} {a v fr : Int32} {c : Nat} {r wk r2 wk2 : Int32} (hi : ∀ i j, i < M → j < M → w.1 108 i = w.1 108 j → i = j) (h : StR w M a v fr c r wk) (h2 : StR w M a v fr c r2 wk2) : r = r2 ∧ wk = wk2 := by
  rcases h with ⟨n1, a1, a2⟩ | ⟨t, t1, t2, ht⟩
  · rcases h2 with ⟨n2, b1, b2⟩ | ⟨u, u1, u2, hu⟩
    · rw [a1, a2, b1, b2]; exact ⟨rfl, rfl⟩
    · exact absurd u2 (n1 u u1)
  · rcases h2 with ⟨n2, b1, b2⟩ | ⟨u, u1, u2, hu⟩
    · exact absurd t2 (n2 t t1)
    · have : t = u := hi t u t1 u1 (t2.trans u2.symm)
      subst this
      rcases ht with ⟨p1, a1, a2⟩ | ⟨p1, a1, a2⟩
      · rcases hu with ⟨-, b1, b2⟩ | ⟨p2, -, -⟩
        · rw [a1, a2, b1, b2]; exact ⟨rfl, rfl⟩
        · exact absurd p1 p2
      · rcases hu with ⟨p2, -, -⟩ | ⟨-, b1, b2⟩
        · exact absurd p2 p1
        · rw [a1, a2, b1, b2]; exact ⟨rfl, rfl⟩
theorem bd_id {x : Option (Int32 × Wd)} : bd x (fun r w => some (r, w)) = x := by
  cases x <;> rfl
theorem onlyWakes_v {w : Wd} {T W t : Nat} {cl kd : Nat → Nat} {v : Int32} (hp : PlanR w T W cl kd) (ht : t < T) : f_X1_onlyWakes 11 w (nI t) v = some (if w.1 110 t = 2 ∧ bt v t = false then 1 else 0, w) := by
  obtain ⟨hT, hW, x0, m0, x1, m1, hs, hs2, hc, hci, hsd, hkd, hwi, hwz, hsh, hsn, hne, hgg⟩ := hp
  unfold f_X1_onlyWakes b_X1_onlyWakes_0
  rw [hasTrap_yes x0 hT ht, bd_ok, if_neg (show ¬ (1 : Int32) = 0 by decide), gd_true (inb_nI (show t < 6 by omega) (by decide)), nI_clamp (by omega), show w.1 (11 + 3) t = w.1 110 t from (hkd t ht).1.trans (hkd t ht).2.1.symm]
  by_cases h1 : w.1 110 t = 2
  · rw [if_pos h1]
    by_cases h2 : bt v t = false
    · rw [if_pos ((tb0 _ (by omega)).mpr h2), if_pos ⟨h1, h2⟩]
    · rw [if_neg (fun z => h2 ((tb0 _ (by omega)).mp z)), if_neg (fun z => h2 z.2)]
  · rw [if_neg h1, if_neg (fun z => h1 z.1)]
/-- the class on one cell -/
theorem caughtOn_v {w : Wd} {T W g e s wh : Nat} {cl kd : Nat → Nat} {a v net : Int32} (rc : Wd → Int32 → Int32 → Int32 → Int32 → Int32 → Option (Int32 × Wd)) (hp : PlanR w T W cl kd) (hg : g < W) (h1 : w.1 94 1 = nI g) (h2 : w.1 94 2 = net) (he : e < 12) (ha : ∀ i, bt a i = true → i < T) : f_X4_caughtOn rc w (nI e) a v (nI (s + 1)) (nI wh) = if (nxN w T g 0 net e a v).1 then some (nI wh, w) else rc w (nI e) (nxN w T g 0 net e a v).2.1 (nxN w T g 0 net e a v).2.2 (nI s) (nI wh) := by
  have hp0 := hp
  obtain ⟨hT, hW, x0, m0, x1, m1, hs9, hs2, hc, hci, hsd, hkd, hwi, hwz, hsh, hsn, hne, hgg⟩ := hp
  unfold f_X4_caughtOn b_X4_caughtOn_0 b_X4_caughtOn_56
  rw [h2, nI_pred]
  simp only [bd_id, nm_ok]
  by_cases hn : nI e = net
  · have hN : nxN w T g 0 net e a v = (true, a, v) := if_pos ⟨rfl, hn⟩
    rw [if_pos hn, hN]
    rfl
  · have hN : nxN w T g 0 net e a v = nxS w T g 0 e a v := if_neg (fun z => hn z.2)
    rw [if_neg hn, hN]
    unfold nxS
    have hS := sr_v w T a v 0 e
    obtain ⟨r, hr⟩ : ∃ z, z = srr w T a v 0 e := ⟨_, rfl⟩
    obtain ⟨k, hk⟩ : ∃ z, z = srk w T a v 0 e := ⟨_, rfl⟩
    rw [← hr, ← hk] at hS ⊢
    show _ = (if ctB w g e r = true then some (nI wh, w) else rc w (nI e) (a &&& (r ^^^ (-1))) ((v ||| k) &&& (r ^^^ (-1))) (nI s) (nI wh))
    have hcell : ∀ i, i < T → (w.1 108 i = nI e ↔ cl i = e) := fun i hi => by
      rw [(hc i hi).2.1]
      have := (hc i hi).2.2
      exact nI_eq (by omega) (by omega)
    have res0 : r = 0 → k = 0 → rc w (nI e) a v (nI s) (nI wh) = if ctB w g e r then some (nI wh, w) else rc w (nI e) (a &&& (r ^^^ (-1))) ((v ||| k) &&& (r ^^^ (-1))) (nI s) (nI wh) := fun q1 q2 => by
      subst q1; subst q2
      rw [ctB_0, if_neg (by decide), and_m0, and_m0, or_0]
    rcases hS with ⟨hn, q1, q2⟩ | ⟨t, ht, htc, hS⟩
    · rw [trapOn_n hp0 he (fun u hu z => hn u hu ((hcell u hu).mpr z)), bd_ok, hasTrap_no x0 (Or.inl (by decide)), bd_ok, if_pos rfl]
      exact res0 q1 q2
    · have hct := (hcell t ht).mp htc
      rw [trapOn_t hp0 ht hct, bd_ok, hasTrap_yes x0 hT ht, bd_ok, if_neg (show ¬ (1 : Int32) = 0 by decide)]
      have hrd := rd_eq hp0 ha t
      rcases hS with ⟨⟨y1, y2, y3, y4⟩, q1, q2⟩ | ⟨hno, q1, q2⟩
      · have hm : mrd w a t = true := mrd_t.mpr ⟨y1, by omega, by rw [y3]; decide⟩
        rw [if_neg (fun z => by rw [tb0 _ (by omega), hrd, hm] at z; cases z), onlyWakes_v hp0 ht, bd_ok, if_pos (show w.1 110 t = 2 ∧ bt v t = false from ⟨y3, y4⟩), if_neg (show ¬ (1 : Int32) = 0 by decide), q1, ctB_0, if_neg (by decide), and_m0, and_m0, q2]
      · rw [if_pos rfl] at q1
        by_cases hm : mrd w a t = true
        · have y1 := (mrd_t.mp hm).1
          have h6 : ∀ i, bt (a &&& (w.1 11 3 ^^^ (-1))) i = true → i < 6 := fun i hi => by
            rw [b_and, Bool.and_eq_true] at hi
            have := ha i hi.1
            omega
          rw [if_neg (fun z => by rw [tb0 _ (by omega), hrd, hm] at z; cases z), onlyWakes_v hp0 ht, bd_ok, if_neg (show ¬ (w.1 110 t = 2 ∧ bt v t = false) from fun z => hno ⟨y1, rfl, z.1, z.2⟩), if_pos rfl, h1, catches_v hp0 ht hg, bd_ok]
          have hbt : bt r t = true := by rw [q1]; exact (wave_v (by omega)).2.1 t (by simp) hm
          cases hcat : catI (w.1 110 t) (w.1 112 g)
          · have hct0 : ctB w g e r = false := by
              cases hq : ctB w g e r
              · rfl
              · obtain ⟨i, i1, i2, i3, i4⟩ := ctB_t.mp hq
                have hiT : i < T := by rw [q1] at i2; exact ha i (wvv_sub (by omega) i2).1
                have : i = t := hp0.inj i t hiT ht (i3.trans htc.symm)
                subst this
                rw [hcat] at i4; cases i4
            rw [if_pos (show (if false = true then (1 : Int32) else 0) = 0 by decide), (spread_v h6).1, bd_ok, wv_sp hp0 ha (show t < 7 by omega), ← q1, hct0, if_neg (by decide), q2, or_0]
          · have hct1 : ctB w g e r = true := ctB_t.mpr ⟨t, by omega, hbt, htc, hcat⟩
            rw [if_pos rfl, if_neg (show ¬ (1 : Int32) = 0 by decide), hct1, if_pos rfl]
        · have hm0 : mrd w a t = false := Bool.eq_false_iff.mpr hm
          rw [if_pos ((tb0 _ (by omega)).mpr (by rw [hrd, hm0]))]
          rw [wvv_zero (by omega) hm0] at q1
          exact res0 q1 q2
theorem nxN_sub {w : Wd} {M g e : Nat} {fr net a v : Int32} {i : Nat} (h : bt (nxN w M g fr net e a v).2.1 i = true) : bt a i = true := by
  unfold nxN at h
  by_cases hc : fr = 0 ∧ nI e = net
  · rw [if_pos hc] at h; exact h
  · rw [if_neg hc] at h
    unfold nxS at h
    have h : bt (a &&& (srr w M a v fr e ^^^ (-1))) i = true := h
    rw [b_and, Bool.and_eq_true] at h
    exact h.1
def wyF (w : Wd) (c : Nat) : Int32 := aro c &&& (w.1 11 2 ^^^ (-1))
theorem caughtFrom_v {w : Wd} {T W g : Nat} {cl kd : Nat → Nat} {net : Int32} (hp : PlanR w T W cl kd) (hg : g < W) (h1 : w.1 94 1 = nI g) (h2 : w.1 94 2 = net) : ∀ (s d c wh : Nat) (a v : Int32), s < d → s ≤ 4 → c < 12 → wh < 2 ^ 31 → (∀ i, bt a i = true → i < T) → f_X4_caughtFrom d w (nI c) a v (nI s) (nI wh) = some (nI (VV (wyF w) (nxN w T g 0 net) s wh c a v), w) := by
  intro s
  induction s with
  | zero =>
    intro d c wh a v hd _ hc hwh ha
    cases d with
    | zero => omega
    | succ d =>
      rw [f_X4_caughtFrom]
      unfold b_X4_caughtFrom_0
      rw [waysFrom_v hc, bd_ok, bitCount_v (ways_b hc _), bd_ok, if_pos (show nI 0 ≤ 0 by decide)]
      rfl
  | succ s ih =>
    intro d c wh a v hd hs hc hwh ha
    cases d with
    | zero => omega
    | succ d =>
      rw [f_X4_caughtFrom]
      unfold b_X4_caughtFrom_0
      rw [waysFrom_v hc, bd_ok, bitCount_v (ways_b hc _), bd_ok, if_neg (nI_nle (by omega) (by omega)), if_neg (show ¬ (4 : Int32) < nI (s + 1) from nI_nlt (a := 4) (by omega) (by omega)), show aro c &&& (w.1 11 2 ^^^ (-1)) = wyF w c from rfl, VV]
      have hwb : ∀ i, bt (wyF w c) i = true → i < 12 := ways_b hc _
      have hpl := pop_le (wyF w c)
      by_cases hp0 : pop (wyF w c) = 0
      · have hz : ∀ i, bt (wyF w c) i = false := fun i => b0_of ((pop_0 hwb).mp hp0) i
        rw [hp0, if_pos (show nI 0 = 0 by decide), sm_0 12 (fun i _ => by rw [hz i]; rfl)]
        rfl
      · have hnz : ¬ nI (pop (wyF w c)) = 0 := nI_ne0 (by omega) (by omega)
        rw [if_neg hnz, gd_true (show nz (nI (pop (wyF w c))) = true from decide_eq_true hnz), nm_ok, pk_div hwh (by omega) (by omega)]
        obtain ⟨ea, hea⟩ : ∃ z, z = wh / pop (wyF w c) := ⟨_, rfl⟩
        have hea31 : ea < 2 ^ 31 := by rw [hea]; exact Nat.lt_of_le_of_lt (Nat.div_le_self _ _) hwh
        rw [← hea]
        obtain ⟨f, hf⟩ : ∃ z : Nat → Nat, z = fun e => if bt (wyF w c) e then (if (nxN w T g 0 net e a v).1 then ea else VV (wyF w) (nxN w T g 0 net) s ea e (nxN w T g 0 net e a v).2.1 (nxN w T g 0 net e a v).2.2) else 0 := ⟨_, rfl⟩
        rw [← hf]
        have key : ∀ (n t : Nat), 12 - t < n → t ≤ 12 → b_X4_caughtFrom_48 (f_X4_caughtFrom d) n w a v (nI (s + 1)) (wyF w c) (nI ea) (nI (sm f t)) (nI t) = some (nI (sm f 12), w) := by
          intro n
          induction n with
          | zero => intro t h; omega
          | succ n ihn =>
            intro t hn ht
            rw [b_X4_caughtFrom_48]
            by_cases h : t = 12
            · subst h
              rw [if_pos (show (12 : Int32) ≤ nI 12 by decide)]
            · rw [if_neg (show ¬ (12 : Int32) ≤ nI t from nI_ge (b := 12) (by omega) (by decide))]
              unfold b_X4_caughtFrom_83
              have ih' := ihn (t + 1) (by omega) (by omega)
              rw [sm] at ih'
              by_cases hb : bt (wyF w c) t = true
              · rw [if_neg (fun z => by rw [tb0 _ (by omega), hb] at z; cases z), caughtOn_v (f_X4_caughtFrom d) hp hg h1 h2 (show t < 12 by omega) ha]
                have hft : f t = if (nxN w T g 0 net t a v).1 then ea else VV (wyF w) (nxN w T g 0 net) s ea t (nxN w T g 0 net t a v).2.1 (nxN w T g 0 net t a v).2.2 := by
                  rw [hf]; show (if bt (wyF w c) t = true then _ else _) = _
                  rw [if_pos hb]
                cases hq : (nxN w T g 0 net t a v).1
                · rw [if_neg (by decide), ih d t ea _ _ (by omega) (by omega) (by omega) hea31 (fun i hi => ha i (nxN_sub hi)), bd_ok, nm_ok, nm_ok, nI_1, nI_add]
                  rw [hq, if_neg (by decide)] at hft
                  rw [← hft]
                  exact ih'
                · rw [if_pos rfl, bd_ok, nm_ok, nm_ok, nI_1, nI_add]
                  rw [hq, if_pos rfl] at hft
                  rw [hft] at ih'
                  exact ih'
              · rw [if_pos ((tb0 _ (by omega)).mpr (by simpa using hb)), nm_ok, nm_ok, nI_1]
                have hft : f t = 0 := by
                  rw [hf]; show (if bt (wyF w c) t = true then _ else _) = _
                  rw [if_neg hb]
                rw [hft] at ih'
                rw [show nI (sm f t) + 0 = nI (sm f t + 0) from nI_add _ 0]
                exact ih'
        exact key LF 0 (by unfold LF; omega) (by omega)
