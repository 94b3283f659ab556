theorem inlaw_X7 : ∀ w ∈ wsX70, w ∈ wsL_law := fun _ h => List.mem_append_left _ (List.mem_append_left _ (List.mem_append_left _ (List.mem_append_left _ (List.mem_append_left _ (List.mem_append_left _ (List.mem_append_left _ (List.mem_append_left _ (List.mem_append_left _ (List.mem_append_right _ h)))))))))
theorem inlaw_X8 : ∀ w ∈ wsX80, w ∈ wsL_law := fun _ h => List.mem_append_left _ (List.mem_append_left _ (List.mem_append_left _ (List.mem_append_left _ (List.mem_append_left _ (List.mem_append_left _ (List.mem_append_left _ (List.mem_append_left _ (List.mem_append_right _ h))))))))
theorem ePl_ext {ad ad' : Nat → Nat} {cy : Nat → ClassId} {p : Nat} {f : Nat → Int32} (h : ∀ j, j < 7 → ad (p + j) = ad' (p + j)) : ePl ad cy p f = ePl ad' cy p f := by
  funext n
  match n with
  | 0 => simp only [ePl, h 1 (by decide), h 2 (by decide), h 3 (by decide), h 4 (by decide), h 5 (by decide), h 6 (by decide)]
  | 1 => rfl
  | 2 => rfl
  | 3 => rfl
  | 4 => rfl
  | n + 5 => rfl
theorem eSc_ext {ad ad' : Nat → Nat} {cy : Nat → ClassId} {b : Nat} {f : Nat → Int32} (h0 : ad 11 = ad' 11) (h : ∀ j, j < 4 → ad (b + j) = ad' (b + j)) : eSc ad cy b f = eSc ad' cy b f := by
  funext n
  match n with
  | 0 => simp only [eSc, h0, h 1 (by decide), h 2 (by decide), h 3 (by decide)]
  | 1 => rfl
  | n + 2 => rfl
theorem ent_ext {ad ad' : Nat → Nat} {cy : Nat → ClassId} {k : Nat} {f : Nat → Int32} {q : Int64} (h : ∀ j, j < 105 → ad j = ad' j) (hk : k < 105) (h27 : k ≠ 27) (h95 : k ≠ 95) (hi : k = 10 → (f 0).toNatClampNeg < 105) : ent ad cy none k f q = ent ad' cy none k f q := by
  unfold ent
  by_cases c0 : k = 0
  · simp only [if_pos c0, Option.getD_none, h 1 (by decide), h 10 (by decide), h 3 (by decide), h 11 (by decide), h 18 (by decide), h 22 (by decide), h 26 (by decide), h 92 (by decide), h 94 (by decide), h 95 (by decide), h 104 (by decide)]
  rw [if_neg c0, if_neg c0]
  by_cases c1 : k = 1
  · simp only [if_pos c1, h 2 (by decide)]
  rw [if_neg c1, if_neg c1]
  by_cases c2 : k = 2
  · simp only [if_pos c2]
  rw [if_neg c2, if_neg c2]
  by_cases c3 : k < 10
  · rw [if_pos c3, if_pos c3, ePl_ext (p := 3) (fun j hj => h (3 + j) (by omega))]
  rw [if_neg c3, if_neg c3]
  by_cases c4 : k = 10
  · simp only [if_pos c4, h _ (hi c4)]
  rw [if_neg c4, if_neg c4]
  by_cases c5 : k < 18
  · rw [if_pos c5, if_pos c5, ePl_ext (p := 11) (fun j hj => h (11 + j) (by omega))]
  rw [if_neg c5, if_neg c5]
  by_cases c6 : k < 22
  · rw [if_pos c6, if_pos c6, eSc_ext (b := 18) (h 11 (by decide)) (fun j hj => h (18 + j) (by omega))]
  rw [if_neg c6, if_neg c6]
  by_cases c7 : k < 26
  · rw [if_pos c7, if_pos c7, eSc_ext (b := 22) (h 11 (by decide)) (fun j hj => h (22 + j) (by omega))]
  rw [if_neg c7, if_neg c7]
  by_cases c8 : k = 26
  · simp only [if_pos c8, h 27 (by decide)]
  rw [if_neg c8, if_neg c8, if_neg h27, if_neg h27]
  by_cases c9 : k < 92
  · rw [if_pos c9, if_pos c9, eSc_ext (b := k - k % 4) (h 11 (by decide)) (fun j hj => h (k - k % 4 + j) (by omega))]
  rw [if_neg c9, if_neg c9]
  by_cases d1 : k = 92
  · simp only [if_pos d1, h 11 (by decide), h 93 (by decide)]
  rw [if_neg d1, if_neg d1]
  by_cases d2 : k = 93
  · simp only [if_pos d2]
  rw [if_neg d2, if_neg d2]
  by_cases d3 : k = 94
  · simp only [if_pos d3, h 11 (by decide)]
  rw [if_neg d3, if_neg d3, if_neg h95, if_neg h95]
  by_cases d4 : k < 100
  · rw [if_pos d4, if_pos d4, eSc_ext (b := 96) (h 11 (by decide)) (fun j hj => h (96 + j) (by omega))]
  rw [if_neg d4, if_neg d4]
  by_cases d5 : k < 104
  · rw [if_pos d5, if_pos d5, eSc_ext (b := 100) (h 11 (by decide)) (fun j hj => h (100 + j) (by omega))]
  rw [if_neg d5, if_neg d5]
  have d6 : k = 104 := by omega
  simp only [if_pos d6]
theorem wl_ext {G : Gl} {ad ad' : Nat → Nat} {w : Wd} {H : Heap} (h : ∀ j, j < 105 → ad j = ad' j) (hi : (w.1 10 0).toNatClampNeg < 105) (hP : va_P (gD G) vwCl (wl (gX G ad 105 none) w) H) : va_P (gD G) vwCl (wl (gX G ad' 105 none) w) H := by
  intro k q hk
  have hk' : k < 105 := by simpa [wl] using (List.getElem?_eq_some_iff.mp hk).1
  have h1 := wl_at (G := gX G ad' 105 none) (w := w) hk'
  rw [h1] at hk
  cases hk
  have h2 := hP k _ (wl_at (G := gX G ad 105 none) (w := w) hk')
  show va_at (gD G) vwCl (ad' k, ent ad' (g_cy G) none k (w.1 k) (w.2 k)) H
  have h3 : va_at (gD G) vwCl (ad k, ent ad (g_cy G) none k (w.1 k) (w.2 k)) H := h2
  rw [h k hk'] at h3
  by_cases h27 : k = 27
  · subst h27
    rw [E_27] at h3 ⊢
    show H[ad' 27]? = some (vp_cell (g_cy G 2) _)
    have h4 : H[ad' 27]? = some (vp_cell (g_cy G 2) (16, .inr (.inr (.inr (.inr (fun j => some (ad (28 + 4 * j)))))))) := h3
    rw [h4, vp_cell_q, vp_cell_q]
    exact congrArg some (arrV_ext (fun j hj => by rw [h (28 + 4 * j) (by omega)]))
  by_cases h95 : k = 95
  · subst h95
    rw [E_95] at h3 ⊢
    show H[ad' 95]? = some (vp_cell (g_cy G 2) _)
    have h4 : H[ad' 95]? = some (vp_cell (g_cy G 2) (2, .inr (.inr (.inr (.inr (fun j => some (ad (96 + 4 * j)))))))) := h3
    rw [h4, vp_cell_q, vp_cell_q]
    exact congrArg some (arrV_ext (fun j hj => by rw [h (96 + 4 * j) (by omega)]))
  rw [← ent_ext h hk' h27 h95 (fun e => by subst e; exact hi)]
  exact h3
theorem wl_fst {G : Gl} {ad ad' : Nat → Nat} {w : Wd} {N : Nat} (h : ∀ j, j < N → ad j = ad' j) : (wl (gX G ad N none) w).map Prod.fst = (wl (gX G ad' N none) w).map Prod.fst := by
  unfold wl
  rw [List.map_map, List.map_map]
  apply List.map_congr_left
  intro k hk
  exact h k (List.mem_range.mp hk)
set_option maxHeartbeats 8000000 in
set_option maxRecDepth 100000 in
/-- the law from its entry, if the pure run of its loop comes through -/
theorem whole_open (hpure : ∀ (xs : Nat → Int32) (L : Nat), L ≤ 256 → ∃ wz, b_L_law_18 xs L LF wX 0 = some wz) {p : Program} {e : Env} {s : State} {m : MethodId} {below : List Frame} {meth : Method} {c : Code} (l : Launch) {b L : Nat} {xs : Nat → Int32} (hL : L ≤ 256) (C0 : lw_At p s m meth c b L xs) : W p l e room_1 s m #[Value.ref b] below meth c s.heap [] 0 0 (lw_Z below #[Value.ref b] s) (entryFrame m ([Value.ref b] : List Value).toArray 4) := by
  obtain ⟨hx, hb, hr, hml, hown, hts, hX, hbl, hlocks, hgv⟩ := id C0
  obtain ⟨cc0, iS0, hKn0⟩ := u_known (C := RX0) (T := TX0) (N := 3) (n := 3) hts inX0 (hts (.instantiable RX0 3) (List.mem_of_getElem? (i := 211) rfl))
  obtain ⟨cc1, iS1, hKn1⟩ := u_known (C := RX1) (T := TX1) (N := 12) (n := 12) hts inX1 (hts (.instantiable RX1 12) (List.mem_of_getElem? (i := 80) rfl))
  obtain ⟨cc2, iS2, hKn2⟩ := u_known (C := RX2) (T := TX2) (N := 5) (n := 5) hts inX2 (hts (.instantiable RX2 5) (List.mem_of_getElem? (i := 143) rfl))
  obtain ⟨cc3, iS3, hKn3⟩ := u_known (C := RX3) (T := TX3) (N := 7) (n := 7) hts inX3 (hts (.instantiable RX3 7) (List.mem_of_getElem? (i := 165) rfl))
  obtain ⟨cc4, iS4, hKn4⟩ := u_known (C := RX4) (T := TX4) (N := 3) (n := 3) hts inX4 (hts (.instantiable RX4 3) (List.mem_of_getElem? (i := 244) rfl))
  obtain ⟨cc5, iS5, hKn5⟩ := u_known (C := RX5) (T := TX5) (N := 2) (n := 2) hts inX5 (hts (.instantiable RX5 2) (List.mem_of_getElem? (i := 63) rfl))
  obtain ⟨cc6, iS6, hKn6⟩ := u_known (C := RX6) (T := TX6) (N := 2) (n := 2) hts inX6 (hts (.instantiable RX6 2) (List.mem_of_getElem? (i := 231) rfl))
  obtain ⟨cc7, iS7, hKn7⟩ := u_known (C := RX7) (T := TX7) (N := 12) (n := 12) hts inX7 (hts (.instantiable RX7 12) (List.mem_of_getElem? (i := 55) rfl))
  obtain ⟨cc8, iS8, hKn8⟩ := u_known (C := RX8) (T := TX8) (N := 28) (n := 28) hts inX8 (hts (.instantiable RX8 28) (List.mem_of_getElem? (i := 649) rfl))
  obtain ⟨ci0, k0, comp0, e01, e02, e03⟩ := Cond.arrayClass_spec (hts (.arrayClass .int) (List.mem_of_getElem? (i := 78) rfl))
  obtain ⟨ci1, k1, comp1, e11, e12, e13⟩ := Cond.arrayClass_spec (hts (.arrayClass .boolean) (List.mem_of_getElem? (i := 296) rfl))
  have hAO : va_AO RX3 s := va_AO.of (hts (.arrayOver (.object RX3)) (List.mem_of_getElem? (i := 217) rfl))
  obtain ⟨comp2, ci2, k2, e21, e22, e23, e24, e25⟩ := Cond.arrayOver_spec (hts (.arrayOver (.object RX3)) (List.mem_of_getElem? (i := 217) rfl))
  have hs := flat_of_before _ hgv
  obtain ⟨ta, hta, hT0⟩ := va_Tof (tm := .static "TrapsWatchTraps" "AROUND" "[I") (ty := .int) (N := 12) (f := fun j => .int (aro j)) (A := fun q => s.heap.size ≤ q) (by decide) (hs (Cond.arrayOf (.static "TrapsWatchTraps" "AROUND" "[I") .int) (by decide +kernel)) (va_eqt (hs (Cond.eq (.length (.static "TrapsWatchTraps" "AROUND" "[I")) (.int 12)) (by decide +kernel))) (fun j hj => by
    match j, hj with
    | 0, _ => exact va_eqt (hs (Cond.eq (.elem (.static "TrapsWatchTraps" "AROUND" "[I") (.int 0)) (.int 18)) (by decide +kernel))
    | 1, _ => exact va_eqt (hs (Cond.eq (.elem (.static "TrapsWatchTraps" "AROUND" "[I") (.int 1)) (.int 37)) (by decide +kernel))
    | 2, _ => exact va_eqt (hs (Cond.eq (.elem (.static "TrapsWatchTraps" "AROUND" "[I") (.int 2)) (.int 74)) (by decide +kernel))
    | 3, _ => exact va_eqt (hs (Cond.eq (.elem (.static "TrapsWatchTraps" "AROUND" "[I") (.int 3)) (.int 132)) (by decide +kernel))
    | 4, _ => exact va_eqt (hs (Cond.eq (.elem (.static "TrapsWatchTraps" "AROUND" "[I") (.int 4)) (.int 289)) (by decide +kernel))
    | 5, _ => exact va_eqt (hs (Cond.eq (.elem (.static "TrapsWatchTraps" "AROUND" "[I") (.int 5)) (.int 594)) (by decide +kernel))
    | 6, _ => exact va_eqt (hs (Cond.eq (.elem (.static "TrapsWatchTraps" "AROUND" "[I") (.int 6)) (.int 1188)) (by decide +kernel))
    | 7, _ => exact va_eqt (hs (Cond.eq (.elem (.static "TrapsWatchTraps" "AROUND" "[I") (.int 7)) (.int 2120)) (by decide +kernel))
    | 8, _ => exact va_eqt (hs (Cond.eq (.elem (.static "TrapsWatchTraps" "AROUND" "[I") (.int 8)) (.int 528)) (by decide +kernel))
    | 9, _ => exact va_eqt (hs (Cond.eq (.elem (.static "TrapsWatchTraps" "AROUND" "[I") (.int 9)) (.int 1312)) (by decide +kernel))
    | 10, _ => exact va_eqt (hs (Cond.eq (.elem (.static "TrapsWatchTraps" "AROUND" "[I") (.int 10)) (.int 2624)) (by decide +kernel))
    | 11, _ => exact va_eqt (hs (Cond.eq (.elem (.static "TrapsWatchTraps" "AROUND" "[I") (.int 11)) (.int 1152)) (by decide +kernel))
    | j + 12, hj => exact absurd hj (by omega)) (fun a ha => Nat.not_le.mpr ha)
  have hZ0 := va_Zref (A := fun q => s.heap.size ≤ q) (hts (.laysStatic "TrapsWatchTraps" "AROUND" "[I") (List.mem_of_getElem? (i := 427) rfl)) (hts (.initialized "TrapsWatchTraps") (List.mem_of_getElem? (i := 44) rfl)) hta (fun a ha => Nat.not_le.mpr ha)
  have hNw : ∀ q ∈ nestW, va_Nw (.methodLinkNest q.1 q.2.1 q.2.2 RX7) s := by
    intro q hq
    have hq' : q = (RX7, 9, yX5_init) ∨ q = (RX7, 18, yX1_init) ∨ q = (RX2, 109, yX7_isCell) ∨ q = (RX2, 89, yX7_isSide) ∨ q = (RX1, 49, yX7_neighbours) ∨ q = (RX6, 25, yX7_neighbours) ∨ q = (RX6, 29, yX7_isCell) := by simpa [nestW] using hq
    rcases hq' with rfl | rfl | rfl | rfl | rfl | rfl | rfl
    · exact va_Nw.of rfl (hts (.methodLinkNest RX7 9 yX5_init RX7) (List.mem_of_getElem? (i := 64) rfl))
    · exact va_Nw.of rfl (hts (.methodLinkNest RX7 18 yX1_init RX7) (List.mem_of_getElem? (i := 81) rfl))
    · exact va_Nw.of rfl (hts (.methodLinkNest RX2 109 yX7_isCell RX7) (List.mem_of_getElem? (i := 338) rfl))
    · exact va_Nw.of rfl (hts (.methodLinkNest RX2 89 yX7_isSide RX7) (List.mem_of_getElem? (i := 341) rfl))
    · exact va_Nw.of rfl (hts (.methodLinkNest RX1 49 yX7_neighbours RX7) (List.mem_of_getElem? (i := 423) rfl))
    · exact va_Nw.of rfl (hts (.methodLinkNest RX6 25 yX7_neighbours RX7) (List.mem_of_getElem? (i := 548) rfl))
    · exact va_Nw.of rfl (hts (.methodLinkNest RX6 29 yX7_isCell RX7) (List.mem_of_getElem? (i := 553) rfl))
  have hts := fun w h => hts w (wsL_law_in w h)
  obtain ⟨G0, hG0⟩ : ∃ z : Gl, z = (fun k => if k = 0 then cc0 else if k = 1 then cc1 else if k = 2 then cc2 else if k = 3 then cc3 else if k = 4 then cc4 else if k = 5 then cc5 else if k = 6 then cc6 else if k = 7 then cc7 else cc8, fun k => if k = 0 then iS0 else if k = 1 then iS1 else if k = 2 then iS2 else if k = 3 then iS3 else if k = 4 then iS4 else if k = 5 then iS5 else if k = 6 then iS6 else if k = 7 then iS7 else iS8, fun _ => 0, fun k => if k = 0 then ci0 else if k = 1 then ci1 else ci2, 0, ta, none) := ⟨_, rfl⟩
  have hK0 : va_K (gD G0) vwCl (gtys G0) s := by
    rw [hG0]
    refine ⟨?_, ?_⟩
    · intro k q hq
      match k, hq with
      | 0, hq => cases hq; exact hKn0
      | 1, hq => cases hq; exact hKn1
      | 2, hq => cases hq; exact hKn2
      | 3, hq => cases hq; exact hKn3
      | 4, hq => cases hq; exact hKn4
      | 5, hq => cases hq; exact hKn5
      | 6, hq => cases hq; exact hKn6
      | 7, hq => cases hq; exact hKn7
      | 8, hq => cases hq; exact hKn8
      | k + 9, hq => simp [vwCl] at hq
    · intro k q hq
      match k, hq with
      | 0, hq => cases hq; exact ⟨fun n z => ⟨fun k h => (by cases h), k0, e02, comp0, e03⟩, e01⟩
      | 1, hq => cases hq; exact ⟨fun n z => ⟨fun k h => (by cases h), k1, e12, comp1, e13⟩, e11⟩
      | 2, hq => cases hq; exact ⟨fun n z => ⟨fun k h => (by cases h), k2, e23, comp2, e24⟩, ⟨k2, comp2, e23, e24, e21, e25⟩⟩
      | k + 3, hq => simp [gtys] at hq
  have hta0 : g_ta G0 = ta := by rw [hG0]
  have hN0 : g_N G0 = 0 := by rw [hG0]
  have hA0 : ∀ q, Aw G0 s.heap.size q → s.heap.size ≤ q := fun q h => by
    rcases h with ⟨k, hk, _⟩ | h
    · rw [hN0] at hk; exact absurd hk (Nat.not_lt_zero k)
    · exact h
  have hSw0 : Sw G0 (Aw G0 s.heap.size) s s.heap := ⟨hK0, by rw [hta0]; exact hZ0.narrow hA0, by rw [hta0]; exact hT0.narrow hA0, hNw, hAO⟩
  obtain ⟨X, hXe⟩ : ∃ z : Cx, z = (G0, l, s.heap.size, lw_Z below #[Value.ref b] s, 0, 0, p, e, room_1, s, m, #[Value.ref b], below, meth, c, 4) := ⟨_, rfl⟩
  have hX1 : X.1 = G0 := by rw [hXe]
  have O : Ok X cL_law RL ret wsL_law 1000 20000 4 := by
    rw [hXe]
    exact ⟨hx, hb, hr, hml, hown, hts, hlocks, hSw0, rfl, ⟨by decide, by decide, by decide, by decide⟩, rfl⟩
  have hRc : Rc X 600000 7302250 := by rw [hXe]; exact ⟨rfl, rfl⟩
  have hl := lv_entry ([.ref b]) (n := 4) (Nat.le_of_ble_eq_true rfl)
  rw [lg_entry_eq]
  suffices hall : Wc X [] 0 0 0 [(0, .ref b)] [] by
    rw [hXe] at hall
    exact hall s.heap [] _ (fun k q h => by simp at h) ⟨fun i j p q h => by simp at h, fun k q h => by simp at h⟩ va_S.rf hl
  refine q_new O hRc (ci := 7) (fs := [.null, .null, .null, .null, .null, .null, .null, .null, .null, .null, .null, .long 0]) tyX7 tyX7_ok (fun w h => inlaw_X7 w h) (List.mem_of_getElem? (i := 0) rfl) (List.mem_of_getElem? (i := 1) rfl) (List.mem_of_getElem? (i := 2) rfl) rfl (fun j hj => by rcases (show j = 0 ∨ j = 1 ∨ j = 2 ∨ j = 3 ∨ j = 4 ∨ j = 5 ∨ j = 6 ∨ j = 7 ∨ j = 8 ∨ j = 9 ∨ j = 10 ∨ j = 11 by omega) with rfl | rfl | rfl | rfl | rfl | rfl | rfl | rfl | rfl | rfl | rfl | rfl <;> rfl) (by decide) dL_law_0 (fun q0 => ?_)
  refine q_dup O dL_law_3 rfl ?_
  refine q_callI O hRc (As := []) (rest := [.ref q0]) (q := q0) (L := []) (i_X7 (x_l X) (g1 X.1 q0)) gL_law_X7_init rfl (List.mem_of_getElem? (i := 2) rfl) (List.mem_of_getElem? (i := 7) rfl) (List.mem_of_getElem? (i := 8) rfl) rfl hd_X7_init (by decide) (by decide) rfl rfl rfl (Nat.le_of_ble_eq_true rfl) dL_law_4 (fun a => ?_)
  refine q_astore_n (lv' := [(1, .ref q0), (0, .ref b)]) O dL_law_7 rfl (by decide) rfl ?_
  refine q_new O hRc (ci := 8) (fs := [.null, .null, .int 0, .int 0, .int 0, .null, .null, .null, .null, .null, .int 0, .int 0, .int 0, .int 0, .null, .null, .int 0, .int 0, .int 0, .int 0, .int 0, .null, .null, .null, .null, .long 0, .null, .null]) tyX8 tyX8_ok (fun w h => inlaw_X8 w h) (List.mem_of_getElem? (i := 3) rfl) (List.mem_of_getElem? (i := 4) rfl) (List.mem_of_getElem? (i := 5) rfl) rfl (fun j hj => by rcases (show j = 0 ∨ j = 1 ∨ j = 2 ∨ j = 3 ∨ j = 4 ∨ j = 5 ∨ j = 6 ∨ j = 7 ∨ j = 8 ∨ j = 9 ∨ j = 10 ∨ j = 11 ∨ j = 12 ∨ j = 13 ∨ j = 14 ∨ j = 15 ∨ j = 16 ∨ j = 17 ∨ j = 18 ∨ j = 19 ∨ j = 20 ∨ j = 21 ∨ j = 22 ∨ j = 23 ∨ j = 24 ∨ j = 25 ∨ j = 26 ∨ j = 27 by omega) with rfl | rfl | rfl | rfl | rfl | rfl | rfl | rfl | rfl | rfl | rfl | rfl | rfl | rfl | rfl | rfl | rfl | rfl | rfl | rfl | rfl | rfl | rfl | rfl | rfl | rfl | rfl | rfl <;> rfl) (by decide) dL_law_8 (fun q1 => ?_)
  refine q_dup O dL_law_11 rfl ?_
  refine q_callI O hRc (As := []) (rest := [.ref q1]) (q := q1) (i_X8 (x_l X) (g1 X.1 q1)) gL_law_X8_init rfl (List.mem_of_getElem? (i := 5) rfl) (List.mem_of_getElem? (i := 121) rfl) (List.mem_of_getElem? (i := 122) rfl) rfl hd_X8_init (by decide) (by decide) rfl rfl rfl (Nat.le_of_ble_eq_true rfl) dL_law_12 (fun a8 => ?_)
  refine q_astore_n (lv' := [(2, .ref q1), (1, .ref q0), (0, .ref b)]) O dL_law_15 rfl (by decide) rfl ?_
  refine q_iconst O dL_law_16 (v := 0) (by decide) ?_
  refine q_istore_n (lv' := [(3, .int 0), (2, .ref q1), (1, .ref q0), (0, .ref b)]) O dL_law_17 rfl (by decide) rfl ?_
  obtain ⟨ad, hadd⟩ : ∃ z : Nat → Nat, z = fun k => if k = 0 then q0 else if k < 105 then a k else if k = 105 then q1 else a8 (k - 105) := ⟨_, rfl⟩
  have hag : ∀ j, j < 105 → (fun k => if k = 0 then q0 else a k) j = ad j := fun j hj => by
    rw [hadd]
    show (if j = 0 then q0 else a j) = (if j = 0 then q0 else if j < 105 then a j else if j = 105 then q1 else a8 (j - 105))
    rw [if_pos hj]
  have hw121 : wl (gX G0 ad 121 none) wX = wl (gX G0 ad 105 none) wX ++ B_X8 (g_cy G0) q1 a8 := by
    unfold wl
    rw [show List.range (g_N (gX G0 ad 121 none)) = List.range (g_N (gX G0 ad 105 none)) ++ [105, 106, 107, 108, 109, 110, 111, 112, 113, 114, 115, 116, 117, 118, 119, 120] from (show List.range 121 = List.range 105 ++ [105, 106, 107, 108, 109, 110, 111, 112, 113, 114, 115, 116, 117, 118, 119, 120] by decide +kernel), List.map_append]
    congr 1
    rw [hadd]
    rfl
  rw [hXe]
  intro H locs ls hP hD hS hl
  have hP1 : va_P (gD G0) vwCl (wl (gX G0 ad 121 none) wX) H := by
    rw [hw121]
    have hPa : va_P (gD G0) vwCl (wl (gX G0 (fun k => if k = 0 then q0 else a k) 105 none) wX ++ B_X8 (g_cy G0) q1 a8) H := hP
    exact (wl_ext hag (by decide) (va_P_l hPa)).app (va_P_r hPa)
  have hD1 : va_D (Aw G0 s.heap.size) (wl (gX G0 ad 121 none) wX) := by
    have hDa : va_D (Aw G0 s.heap.size) (wl (gX G0 (fun k => if k = 0 then q0 else a k) 105 none) wX ++ B_X8 (g_cy G0) q1 a8) := hD
    refine va_D_fst ?_ hDa
    rw [hw121, List.map_append, List.map_append, wl_fst hag]
  have hge : ∀ q, Aw (gX G0 ad 121 none) s.heap.size q → s.heap.size ≤ q := fun q h => by
    rcases h with ⟨k, hk, rfl⟩ | h
    · exact hA0 _ (hD1.2 k _ (wl_at (G := gX G0 ad 121 none) (w := wX) hk))
    · exact h
  have hSw1 : Sw (gX G0 ad 121 none) (Aw (gX G0 ad 121 none) s.heap.size) s s.heap := by
    have h9 : Sw G0 (fun q => s.heap.size ≤ q) s s.heap := hSw0.narrow (fun q h => Or.inr h)
    exact h9.narrow hge
  obtain ⟨wz, hz⟩ := hpure xs L hL
  have hWk := w_L_law_18 (X := (gX G0 ad 121 none, l, s.heap.size, lw_Z below #[Value.ref b] s, 121, 1023, p, e, room_1, s, m, #[Value.ref b], below, meth, c, 4)) (bs := b) (L := L) (xs := xs)
    ⟨hx, hb, hr, hml, hown, hts, hlocks, hSw1, rfl, ⟨by decide, by decide, by decide, by decide⟩, rfl⟩ ⟨hX, hbl, fun h => absurd hbl (Nat.not_lt.mpr (hge b h))⟩ ⟨rfl, rfl, rfl, by decide, by decide, hge⟩ (Nat.le_refl 121) rfl trivial LF hz
  have had0 : ad 0 = q0 := by rw [hadd]; try rfl
  have had1 : ad 105 = q1 := by rw [hadd]; try rfl
  refine W.widen (k := 121) (n := 1023) (by decide) (by decide) ?_
  refine hWk H locs ls hP1 (hD1.weaken (fun k q _ h => Or.inr (hA0 _ h))) ?_ (lv_sub hl [3, 2, 1, 0] (by rw [show g_ad (gX G0 ad 121 none) 0 = q0 from had0, show g_ad (gX G0 ad 121 none) 105 = q1 from had1]; rfl))
  have hS1 : va_S (Aw G0 s.heap.size) s.heap H locs := hS
  exact ⟨hS1.1, fun q h1 h2 => hS1.2.1 q h1 (fun h => h2 (Or.inr (hA0 _ h))), fun z hz9 => Or.inr (hA0 _ (hS1.2.2 z hz9))⟩
