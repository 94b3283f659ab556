/-! flat memory: every int of every cell in one function, cell by slot; every long by cell -/
abbrev Wd : Type := (Nat → Nat → Int32) × (Nat → Int64)
abbrev Gl : Type := (Nat → ClassId) × (Nat → Nat → Nat) × (Nat → Nat) × (Nat → ClassId) × Nat × Nat × Option (List Value)
abbrev g_ad (G : Gl) : Nat → Nat := G.2.2.1
abbrev g_cy (G : Gl) : Nat → ClassId := G.2.2.2.1
abbrev g_N (G : Gl) : Nat := G.2.2.2.2.1
abbrev g_ta (G : Gl) : Nat := G.2.2.2.2.2.1
abbrev g_mz (G : Gl) : Option (List Value) := G.2.2.2.2.2.2
abbrev gD (G : Gl) : va_G := (G.1, G.2.1)
abbrev gtys (G : Gl) : List (ClassId × FieldType) := [(g_cy G 0, .int), (g_cy G 1, .boolean), (g_cy G 2, .object "TrapsWatchTraps$Scene")]
def eAr (cy : Nat → ClassId) (n : Nat) (f : Nat → Int32) : va_E := .inl (cy 0, n, .inl f)
def ePl (ad : Nat → Nat) (cy : Nat → ClassId) (p : Nat) (f : Nat → Int32) : Nat → va_E
  | 0 => .inr (1, [.int (f 0), .int (f 1), .int (f 2), .int (f 3), .int (f 4), .int (f 5), .ref (ad (p + 1)), .ref (ad (p + 2)), .ref (ad (p + 3)), .ref (ad (p + 4)), .ref (ad (p + 5)), .ref (ad (p + 6))])
  | 1 => eAr cy 6 f
  | 2 => eAr cy 6 f
  | 3 => eAr cy 6 f
  | 4 => eAr cy 6 f
  | _ => eAr cy 4 f
def eSc (ad : Nat → Nat) (cy : Nat → ClassId) (b : Nat) (f : Nat → Int32) : Nat → va_E
  | 0 => .inr (3, [.ref (ad 11), .int (f 1), .int (f 2), .int (f 3), .ref (ad (b + 1)), .ref (ad (b + 2)), .ref (ad (b + 3))])
  | 1 => eAr cy 2 f
  | _ => eAr cy 4 f
def eMo (ad : Nat → Nat) (f : Nat → Int32) (q : Int64) : va_E := .inr (8, [.ref (ad 106), .ref (ad 107), .int (f 2), .int (f 3), .int (f 4), .ref (ad 108), .ref (ad 109), .ref (ad 110), .ref (ad 111), .ref (ad 112), .int (f 10), .int (f 11), .int (f 12), .int (f 13), .ref (ad 113), .ref (ad 114), .int (f 16), .int (f 17), .int (f 18), .int (f 19), .int (f 20), .ref (ad 115), .ref (ad 116), .ref (ad 117), .ref (ad 118), .long q, .ref (ad 119), .ref (ad 120)])
/-- what stands in cell k (mz: what the first cell's fields hold while it is made) -/
def ent (ad : Nat → Nat) (cy : Nat → ClassId) (mz : Option (List Value)) (k : Nat) (f : Nat → Int32) (q : Int64) : va_E :=
  if k = 0 then .inr (7, mz.getD [.ref (ad 1), .ref (ad 10), .ref (ad 3), .ref (ad 11), .ref (ad 18), .ref (ad 22), .ref (ad 26), .ref (ad 92), .ref (ad 94), .ref (ad 95), .ref (ad 104), .long q])
  else if k = 1 then .inr (5, [.ref (ad 2), .int (f 1)])
  else if k = 2 then eAr cy 64 f
  else if k < 10 then ePl ad cy 3 f (k - 3)
  else if k = 10 then .inr (2, [.ref (ad (f 0).toNatClampNeg), .int (f 1), .int (f 2), .int (f 3), .int (f 4)])
  else if k < 18 then ePl ad cy 11 f (k - 11)
  else if k < 22 then eSc ad cy 18 f (k - 18)
  else if k < 26 then eSc ad cy 22 f (k - 22)
  else if k = 26 then .inr (0, [.ref (ad 27), .int (f 1), .int (f 2)])
  else if k = 27 then .inl (cy 2, 16, .inr (.inr (.inr (.inr (fun j => some (ad (28 + 4 * j)))))))
  else if k < 92 then eSc ad cy (k - k % 4) f (k % 4)
  else if k = 92 then .inr (6, [.ref (ad 11), .ref (ad 93)])
  else if k = 93 then eAr cy 12 f
  else if k = 94 then .inr (4, [.ref (ad 11), .int (f 1), .int (f 2)])
  else if k = 95 then .inl (cy 2, 2, .inr (.inr (.inr (.inr (fun j => some (ad (96 + 4 * j)))))))
  else if k < 100 then eSc ad cy 96 f (k - 96)
  else if k < 104 then eSc ad cy 100 f (k - 100)
  else if k = 104 then .inl (cy 1, 2, .inl f)
  else if k = 105 then eMo ad f q
  else if k = 106 then eAr cy 24 f
  else if k = 107 then eAr cy 8 f
  else if k < 112 then eAr cy 7 f
  else if k = 112 then eAr cy 4 f
  else if k = 113 then eAr cy 72 f
  else if k = 114 then eAr cy 64 f
  else if k = 115 then eAr cy 192 f
  else if k = 116 then eAr cy 12 f
  else if k = 117 then eAr cy 6 f
  else if k = 118 then eAr cy 6 f
  else if k = 119 then .inl (cy 1, 2, .inl f)
  else eAr cy 26 f
/-- the bases of plans and of scenes -/
def plb (p : Nat) : Bool := p == 3 || p == 11
def scb (b : Nat) : Bool := b == 18 || b == 22 || (decide (28 ≤ b) && decide (b < 92) && b % 4 == 0) || b == 96 || b == 100
theorem plb_or {p : Nat} (h : plb p = true) : p = 3 ∨ p = 11 := by simpa [plb] using h
theorem scb_or {b : Nat} (h : scb b = true) : b = 18 ∨ b = 22 ∨ b = 28 ∨ b = 32 ∨ b = 36 ∨ b = 40 ∨ b = 44 ∨ b = 48 ∨ b = 52 ∨ b = 56 ∨ b = 60 ∨ b = 64 ∨ b = 68 ∨ b = 72 ∨ b = 76 ∨ b = 80 ∨ b = 84 ∨ b = 88 ∨ b = 96 ∨ b = 100 := by
  simp [scb] at h
  omega
theorem scb_lt {b : Nat} (h : scb b = true) : b < 101 ∧ 17 < b := by
  simp [scb] at h
  omega
theorem plb_lt {p : Nat} (h : plb p = true) : p < 12 := by
  rcases plb_or h with rfl | rfl <;> decide
section EE
variable {ad : Nat → Nat} {cy : Nat → ClassId} {mz : Option (List Value)} {f : Nat → Int32} {q : Int64}
theorem E_0 (hz : mz = none) : ent ad cy mz 0 f q = .inr (7, [.ref (ad 1), .ref (ad 10), .ref (ad 3), .ref (ad 11), .ref (ad 18), .ref (ad 22), .ref (ad 26), .ref (ad 92), .ref (ad 94), .ref (ad 95), .ref (ad 104), .long q]) := by
  subst hz
  rfl
theorem E_1 : ent ad cy mz 1 f q = .inr (5, [.ref (ad 2), .int (f 1)]) := rfl
theorem E_10 : ent ad cy mz 10 f q = .inr (2, [.ref (ad (f 0).toNatClampNeg), .int (f 1), .int (f 2), .int (f 3), .int (f 4)]) := rfl
theorem E_26 : ent ad cy mz 26 f q = .inr (0, [.ref (ad 27), .int (f 1), .int (f 2)]) := rfl
theorem E_27 : ent ad cy mz 27 f q = .inl (cy 2, 16, .inr (.inr (.inr (.inr (fun j => some (ad (28 + 4 * j))))))) := rfl
theorem E_92 : ent ad cy mz 92 f q = .inr (6, [.ref (ad 11), .ref (ad 93)]) := rfl
theorem E_94 : ent ad cy mz 94 f q = .inr (4, [.ref (ad 11), .int (f 1), .int (f 2)]) := rfl
theorem E_95 : ent ad cy mz 95 f q = .inl (cy 2, 2, .inr (.inr (.inr (.inr (fun j => some (ad (96 + 4 * j))))))) := rfl
theorem E_104 : ent ad cy mz 104 f q = .inl (cy 1, 2, .inl f) := rfl
theorem E_119 : ent ad cy mz 119 f q = .inl (cy 1, 2, .inl f) := rfl
theorem E_105 : ent ad cy mz 105 f q = .inr (8, [.ref (ad 106), .ref (ad 107), .int (f 2), .int (f 3), .int (f 4), .ref (ad 108), .ref (ad 109), .ref (ad 110), .ref (ad 111), .ref (ad 112), .int (f 10), .int (f 11), .int (f 12), .int (f 13), .ref (ad 113), .ref (ad 114), .int (f 16), .int (f 17), .int (f 18), .int (f 19), .int (f 20), .ref (ad 115), .ref (ad 116), .ref (ad 117), .ref (ad 118), .long q, .ref (ad 119), .ref (ad 120)]) := rfl
theorem E_2 : ent ad cy mz 2 f q = .inl (cy 0, 64, .inl f) := rfl
theorem E_93 : ent ad cy mz 93 f q = .inl (cy 0, 12, .inl f) := rfl
theorem E_106 : ent ad cy mz 106 f q = .inl (cy 0, 24, .inl f) := rfl
theorem E_107 : ent ad cy mz 107 f q = .inl (cy 0, 8, .inl f) := rfl
theorem E_108 : ent ad cy mz 108 f q = .inl (cy 0, 7, .inl f) := rfl
theorem E_109 : ent ad cy mz 109 f q = .inl (cy 0, 7, .inl f) := rfl
theorem E_110 : ent ad cy mz 110 f q = .inl (cy 0, 7, .inl f) := rfl
theorem E_111 : ent ad cy mz 111 f q = .inl (cy 0, 7, .inl f) := rfl
theorem E_112 : ent ad cy mz 112 f q = .inl (cy 0, 4, .inl f) := rfl
theorem E_113 : ent ad cy mz 113 f q = .inl (cy 0, 72, .inl f) := rfl
theorem E_114 : ent ad cy mz 114 f q = .inl (cy 0, 64, .inl f) := rfl
theorem E_115 : ent ad cy mz 115 f q = .inl (cy 0, 192, .inl f) := rfl
theorem E_116 : ent ad cy mz 116 f q = .inl (cy 0, 12, .inl f) := rfl
theorem E_117 : ent ad cy mz 117 f q = .inl (cy 0, 6, .inl f) := rfl
theorem E_118 : ent ad cy mz 118 f q = .inl (cy 0, 6, .inl f) := rfl
theorem E_120 : ent ad cy mz 120 f q = .inl (cy 0, 26, .inl f) := rfl
theorem E_pl {p : Nat} (hp : plb p = true) : ent ad cy mz p f q = .inr (1, [.int (f 0), .int (f 1), .int (f 2), .int (f 3), .int (f 4), .int (f 5), .ref (ad (p + 1)), .ref (ad (p + 2)), .ref (ad (p + 3)), .ref (ad (p + 4)), .ref (ad (p + 5)), .ref (ad (p + 6))]) := by
  rcases plb_or hp with rfl | rfl <;> rfl
theorem E_pl1 {p : Nat} (hp : plb p = true) : ent ad cy mz (p + 1) f q = .inl (cy 0, 6, .inl f) := by
  rcases plb_or hp with rfl | rfl <;> rfl
theorem E_pl2 {p : Nat} (hp : plb p = true) : ent ad cy mz (p + 2) f q = .inl (cy 0, 6, .inl f) := by
  rcases plb_or hp with rfl | rfl <;> rfl
theorem E_pl3 {p : Nat} (hp : plb p = true) : ent ad cy mz (p + 3) f q = .inl (cy 0, 6, .inl f) := by
  rcases plb_or hp with rfl | rfl <;> rfl
theorem E_pl4 {p : Nat} (hp : plb p = true) : ent ad cy mz (p + 4) f q = .inl (cy 0, 6, .inl f) := by
  rcases plb_or hp with rfl | rfl <;> rfl
theorem E_pl5 {p : Nat} (hp : plb p = true) : ent ad cy mz (p + 5) f q = .inl (cy 0, 4, .inl f) := by
  rcases plb_or hp with rfl | rfl <;> rfl
theorem E_pl6 {p : Nat} (hp : plb p = true) : ent ad cy mz (p + 6) f q = .inl (cy 0, 4, .inl f) := by
  rcases plb_or hp with rfl | rfl <;> rfl
theorem E_sc {b : Nat} (hb : scb b = true) : ent ad cy mz b f q = .inr (3, [.ref (ad 11), .int (f 1), .int (f 2), .int (f 3), .ref (ad (b + 1)), .ref (ad (b + 2)), .ref (ad (b + 3))]) := by
  rcases scb_or hb with rfl | rfl | rfl | rfl | rfl | rfl | rfl | rfl | rfl | rfl | rfl | rfl | rfl | rfl | rfl | rfl | rfl | rfl | rfl | rfl <;> rfl
theorem E_sc1 {b : Nat} (hb : scb b = true) : ent ad cy mz (b + 1) f q = .inl (cy 0, 2, .inl f) := by
  rcases scb_or hb with rfl | rfl | rfl | rfl | rfl | rfl | rfl | rfl | rfl | rfl | rfl | rfl | rfl | rfl | rfl | rfl | rfl | rfl | rfl | rfl <;> rfl
theorem E_sc2 {b : Nat} (hb : scb b = true) : ent ad cy mz (b + 2) f q = .inl (cy 0, 4, .inl f) := by
  rcases scb_or hb with rfl | rfl | rfl | rfl | rfl | rfl | rfl | rfl | rfl | rfl | rfl | rfl | rfl | rfl | rfl | rfl | rfl | rfl | rfl | rfl <;> rfl
theorem E_sc3 {b : Nat} (hb : scb b = true) : ent ad cy mz (b + 3) f q = .inl (cy 0, 4, .inl f) := by
  rcases scb_or hb with rfl | rfl | rfl | rfl | rfl | rfl | rfl | rfl | rfl | rfl | rfl | rfl | rfl | rfl | rfl | rfl | rfl | rfl | rfl | rfl <;> rfl
end EE
def wl (G : Gl) (w : Wd) : va_W := (List.range (g_N G)).map fun k => (g_ad G k, ent (g_ad G) (g_cy G) (g_mz G) k (w.1 k) (w.2 k))
def Aw (G : Gl) (sz : Nat) : Nat → Prop := fun q => (∃ k, k < g_N G ∧ q = g_ad G k) ∨ sz ≤ q
def up (w : Wd) (k j : Nat) (x : Int32) : Wd := (va_up w.1 k (upd (w.1 k) j x), w.2)
def upl (w : Wd) (k : Nat) (x : Int64) : Wd := (w.1, va_up w.2 k x)
def inb (i : Int32) (n : Nat) : Bool := decide (¬ (i < 0 ∨ n ≤ i.toNatClampNeg))
def bb (x : Int32) : Bool := decide (x = 0) || decide (x = 1)
def nz (x : Int32) : Bool := decide (¬ x = 0)
def nzl (x : Int64) : Bool := decide (¬ x = 0)
theorem inb_in {i : Int32} {n : Nat} (h : inb i n = true) : vp_in i n := by
  have h2 : decide (¬ (i < 0 ∨ n ≤ i.toNatClampNeg)) = true := h
  exact (of_decide_eq_true h2 : ¬ (i < 0 ∨ n ≤ i.toNatClampNeg))
theorem nz_ne {x : Int32} (h : nz x = true) : ¬ x = 0 := of_decide_eq_true h
theorem nzl_ne {x : Int64} (h : nzl x = true) : ¬ x = 0 := of_decide_eq_true h
theorem bb_or {x : Int32} (h : bb x = true) : x = 0 ∨ x = 1 := by simpa [bb] using h
theorem bb_nar {x : Int32} (h : bb x = true) : narrow .boolean (.int x) = .int x := by rcases bb_or h with rfl | rfl <;> decide
theorem bb_fit {x : Int32} (h : bb x = true) : fits .boolean (.int x) = true := by rcases bb_or h with rfl | rfl <;> decide
theorem bb_vp {x : Int32} (h : bb x = true) : vp_nar .boolean x = x := by rcases bb_or h with rfl | rfl <;> decide
def gd {α : Type} (b : Bool) (k : Option α) : Option α := if b = true then k else none
theorem gd_some {α : Type} {b : Bool} {k : Option α} {z : α} (h : gd b k = some z) : b = true ∧ k = some z := by
  unfold gd at h
  by_cases hb : b = true
  · rw [if_pos hb] at h; exact ⟨hb, h⟩
  · rw [if_neg hb] at h; cases h
theorem gd_true {α : Type} {b : Bool} {k : Option α} (h : b = true) : gd b k = k := by unfold gd; rw [if_pos h]
def nm {α β : Type} (e : α) (k : α → β) : β := k e
theorem nm_use {α β : Type} {e : α} {k : α → β} {z : β} (h : nm e k = z) (x : α) (hx : x = e) : k x = z := by subst hx; exact h
def bd {α β : Type} (c : Option (α × Wd)) (k : α → Wd → Option β) : Option β := match c with
  | none => none
  | some q => k q.1 q.2
theorem bd_some {α β : Type} {c : Option (α × Wd)} {k : α → Wd → Option β} {z : β} (h : bd c k = some z) : ∃ (r : α) (w : Wd), c = some (r, w) ∧ k r w = some z := by
  cases c with
  | none => cases h
  | some q => exact ⟨q.1, q.2, rfl, h⟩
def bv {β : Type} (c : Option Wd) (k : Wd → Option β) : Option β := match c with
  | none => none
  | some q => k q
theorem bv_some {β : Type} {c : Option Wd} {k : Wd → Option β} {z : β} (h : bv c k = some z) : ∃ w : Wd, c = some w ∧ k w = some z := by
  cases c with
  | none => cases h
  | some q => exact ⟨q, rfl, h⟩
def LF : Nat := 4000
theorem wl_at {G : Gl} {w : Wd} {k : Nat} (h : k < g_N G) : (wl G w)[k]? = some (g_ad G k, ent (g_ad G) (g_cy G) (g_mz G) k (w.1 k) (w.2 k)) := by
  unfold wl
  rw [List.getElem?_map, List.getElem?_range h]
  rfl
theorem wl_set {G : Gl} {w w' : Wd} {k : Nat} {e : va_E} (he : ent (g_ad G) (g_cy G) (g_mz G) k (w'.1 k) (w'.2 k) = e) (ho : ∀ i, i ≠ k → ent (g_ad G) (g_cy G) (g_mz G) i (w'.1 i) (w'.2 i) = ent (g_ad G) (g_cy G) (g_mz G) i (w.1 i) (w.2 i)) : (wl G w).set k (g_ad G k, e) = wl G w' := by
  apply List.ext_getElem?
  intro i
  by_cases hi : i < g_N G
  · rw [wl_at hi]
    by_cases hk : i = k
    · subst hk
      rw [List.getElem?_set_self (by simpa [wl] using hi), he]
    · rw [List.getElem?_set_ne (Ne.symm hk), wl_at hi, ho i hk]
  · rw [List.getElem?_eq_none (by simpa [wl] using hi), List.getElem?_eq_none (by simpa [wl] using hi)]
theorem up_ot {G : Gl} {w : Wd} {k j : Nat} {x : Int32} : ∀ i, i ≠ k → ent (g_ad G) (g_cy G) (g_mz G) i ((up w k j x).1 i) ((up w k j x).2 i) = ent (g_ad G) (g_cy G) (g_mz G) i (w.1 i) (w.2 i) := by
  intro i hi
  have : (up w k j x).1 i = w.1 i := va_up_ne _ _ hi
  rw [this]; rfl
theorem upl_ot {G : Gl} {w : Wd} {k : Nat} {x : Int64} : ∀ i, i ≠ k → ent (g_ad G) (g_cy G) (g_mz G) i ((upl w k x).1 i) ((upl w k x).2 i) = ent (g_ad G) (g_cy G) (g_mz G) i (w.1 i) (w.2 i) := by
  intro i hi
  have : (upl w k x).2 i = w.2 i := va_up_ne _ _ hi
  rw [this]; rfl
theorem up_at {w : Wd} {k j : Nat} {x : Int32} : (up w k j x).1 k = upd (w.1 k) j x := by simp [up, va_up]
theorem upl_at {w : Wd} {k : Nat} {x : Int64} : (upl w k x).2 k = x := by simp [upl, va_up]
def aro : Nat → Int32 := fun j => ([18, 37, 74, 132, 289, 594, 1188, 2120, 528, 1312, 2624, 1152] : List Int32).getD j 0
def nestW : List (String × Nat × MethodName) := [(RX7, 9, yX5_init), (RX7, 18, yX1_init), (RX2, 109, yX7_isCell), (RX2, 89, yX7_isSide), (RX1, 49, yX7_neighbours), (RX6, 25, yX7_neighbours), (RX6, 29, yX7_isCell)]
def Sw (G : Gl) (A : Nat → Prop) (U : State) (H : Heap) : Prop := va_K (gD G) vwCl (gtys G) U ∧ va_Z "TrapsWatchTraps" "AROUND" "[I" (.ref (g_ta G)) A U H ∧ va_T .int (g_ta G) 12 (fun j => .int (aro j)) A U H ∧ (∀ q ∈ nestW, va_Nw (.methodLinkNest q.1 q.2.1 q.2.2 RX7) U) ∧ va_AO RX3 U
theorem Sw.moved {G : Gl} {A : Nat → Prop} {u U : State} {H : Heap} (hW : u.WarmedH U.vm) (h : Sw G A u H) : Sw G A U H := ⟨va_K.moved hW.alike h.1, va_Z.moved hW.alike h.2.1, va_T.moved hW.alike h.2.2.1, fun q hq => va_Nw.warmM hW (h.2.2.2.1 q hq), va_AO.moved hW.alike h.2.2.2.2⟩
theorem Sw.kept {G : Gl} {A : Nat → Prop} {U : State} {H H1 : Heap} (h : Sw G A U H) (hq : ∀ a : Nat, a < H.size → ¬ A a → H1[a]? = H[a]?) : Sw G A U H1 := ⟨h.1, h.2.1.kept hq, h.2.2.1.kept hq, h.2.2.2⟩
theorem Sw.narrow {G : Gl} {A B : Nat → Prop} {U : State} {H : Heap} (h : Sw G A U H) (hAB : ∀ q, B q → A q) : Sw G B U H := ⟨h.1, h.2.1.narrow hAB, h.2.2.1.narrow hAB, h.2.2.2⟩
def Bw (G : Gl) (sz : Nat) (w : Wd) (H : Heap) : Prop := va_P (gD G) vwCl (wl G w) H ∧ va_D (Aw G sz) (wl G w)
def Pw (G : Gl) (sz : Nat) (w : Wd) (U : State) : Prop := U.heap.size = sz ∧ Bw G sz w U.heap ∧ Sw G (Aw G sz) U U.heap
def Qw (G : Gl) (sz : Nat) (o : Option Value × Wd) : Array Value → State → Outcome → State → Prop := fun _ st oc t => oc = .returned o.1 ∧ Bw G sz o.2 t.heap ∧ va_F (Aw G sz) st t
/-- a method's contract: from the flat memory w and the arguments av it comes to o (what it answers, the memory behind it) -/
def Ct (l : Launch) (y : MethodName) (ws : List Cond) (fr lo : Nat) (G : Gl) (av : List Value) (w : Wd) (o : Option Value × Wd) : Prop := ∀ sz : Nat, Met l y ws { frames := fr, cells := 0, slots := 0, locals := lo } (va_Pc av (Pw G sz w)) (Qw G sz o) 0 0 (Aw G sz)
abbrev Cx : Type := Gl × Launch × Nat × (State → Prop) × Nat × Nat × Program × Env × Room × State × MethodId × Array Value × List Frame × Method × Code × Nat
abbrev x_l (X : Cx) : Launch := X.2.1
def Wk (X : Cx) (w : Wd) (pc : Nat) (lv : List (Nat × Value)) (st : List Value) : Prop :=
  match X with
  | (G, l, sz, Q, cells, slots, p, e, R, s, m, args, below, meth, c, nL) =>
    ∀ (H : Heap) (locs : List Loc) (ls : Array Slot), va_P (gD G) vwCl (wl G w) H → va_D (Aw G sz) (wl G w) → va_S (Aw G sz) s.heap H locs → lv_has ls nL lv → W p l e R s m args below meth c H locs cells slots Q (F0 m pc ls st)
def Ro (X : Cx) (o : Option Value × Wd) : Prop :=
  match X with
  | (G, l, sz, Q, cells, slots, p, e, R, s, m, args, below, meth, c, nL) => Q = MQ below (Qw G sz o) args s 0 0 (Aw G sz) ∧ cells = 0 ∧ slots = 0
def Ok (X : Cx) (cc : ByteArray) (own : String) (ret : Option FieldType) (Ts : List Cond) (fr lo mL : Nat) : Prop :=
  match X with
  | (G, l, sz, Q, cells, slots, p, e, R, s, m, args, below, meth, c, nL) =>
    p.tables.exec = Jvm.exec ∧ c.code = cc ∧ meth.sig.returnType = ret ∧ c.maxLocals = nL ∧ s.vm.findClass own = some m.cls ∧ (∀ w ∈ Ts, w.before args s = true) ∧ meth.locks = false ∧ Sw G (Aw G sz) s s.heap ∧ s.heap.size = sz ∧ (fr ≤ R.frames ∧ lo ≤ R.locals ∧ cells ≤ R.cells ∧ slots ≤ R.slots) ∧ nL = mL
theorem rt_int {X : Cx} {r r' : Int32} {w w' : Wd} (h : some (r, w) = some (r', w')) (hx : Ro X (some (.int r'), w')) : Ro X (some (.int r), w) := by cases h; exact hx
theorem rt_long {X : Cx} {r r' : Int64} {w w' : Wd} (h : some (r, w) = some (r', w')) (hx : Ro X (some (.long r'), w')) : Ro X (some (.long r), w) := by cases h; exact hx
theorem rt_void {X : Cx} {w w' : Wd} (h : some w = some w') (hx : Ro X (none, w')) : Ro X (none, w) := by cases h; exact hx
theorem Ct.start {l : Launch} {y : MethodName} {ws ws' : List Cond} {fr lo : Nat} {G : Gl} {av : List Value} {w : Wd} {o : Option Value × Wd} {cc : ByteArray} {maxL : Nat} {ret : Option FieldType} {own : String} {lv : List (Nat × Value)} (hy : plainName y.cls = true) (hw : ws = Cond.code y cc maxL ret :: ws') (hc : y.cls = own) (hlv : lv_args 0 av = lv) (hle : (lg_sl av).length ≤ maxL)
    (body : ∀ X : Cx, G = X.1 → Ro X o → l = x_l X → Ok X cc own ret ws fr lo maxL → Wk X w 0 lv []) : Ct l y ws fr lo G av w o := by
  intro sz
  refine Met.ofW (cc := cc) (maxL := maxL) (ret := ret) hy hw ?_
  intro p e s m args below meth c s₁ B hml hv
  obtain ⟨rfl, hsz, hB, hS⟩ := hv
  have hts := atoms_spec (ws := ws) B.pre
  have hown : s.vm.findClass own = some m.cls := by rw [← hc]; exact findClass_of_methodNamed B.named
  have hl := lv_entry av (n := maxL) hle
  rw [lg_entry_eq]
  rw [hlv] at hl
  exact body (G, l, sz, MQ below (Qw G sz o) av.toArray s 0 0 (Aw G sz), 0, 0, p, e, { frames := fr, cells := 0, slots := 0, locals := lo }, s, m, av.toArray, below, meth, c, maxL) rfl ⟨rfl, rfl, rfl⟩ rfl
    ⟨B.exec, B.bytes, B.returns, hml, hown, hts, B.notSynchronized, hS, hsz, ⟨Nat.le_refl _, Nat.le_refl _, Nat.le_refl _, Nat.le_refl _⟩, rfl⟩ s.heap [] _ hB.1 hB.2 va_S.rf hl
section KK
variable {X : Cx} {cc : ByteArray} {own : String} {ret : Option FieldType} {Ts : List Cond} {fr lo mL : Nat} {w : Wd} {pc : Nat} {lv lv' : List (Nat × Value)} {rest : List Value}
theorem k_sub (ks : List Nat) (h : lv_pick lv ks = lv') {st : List Value} (k : Wk X w pc lv' st) : Wk X w pc lv st := by
  obtain ⟨G, l, sz, Q, cells, slots, p, e, R, s, m, args, below, meth, c, nL⟩ := X
  intro H locs ls hP hD hS hl
  exact k H locs ls hP hD hS (lv_sub hl ks h)
theorem k_topi {x : Int32} (k : ∀ y : Int32, y = x → Wk X w pc lv (.int y :: rest)) : Wk X w pc lv (.int x :: rest) := k x rfl
theorem k_topl {x : Int64} (k : ∀ y : Int64, y = x → Wk X w pc lv (.long y :: rest)) : Wk X w pc lv (.long x :: rest) := k x rfl
theorem k_iconst (O : Ok X cc own ret Ts fr lo mL) {n : Int} {v : Int32} (hdg : decode cc pc = .ok (.iconst n, 1)) (hv : Int32.ofInt n = v) (k : Wk X w (pc + 1) lv (.int v :: rest)) : Wk X w pc lv (rest) := by
  obtain ⟨G, l, sz, Q, cells, slots, p, e, R, s, m, args, below, meth, c, nL⟩ := X
  obtain ⟨hx, hb, hr, hml, hown, hts, hlk, hSw, hsz, hR, hmL⟩ := O
  intro H locs ls hP hD hS hl
  exact lv_iconst hx hb hdg hv (k H locs ls hP hD hS hl)
theorem k_bipush (O : Ok X cc own ret Ts fr lo mL) {n : Int} {v : Int32} (hdg : decode cc pc = .ok (.bipush n, 2)) (hv : (Int8.ofInt n).toInt32 = v) (k : Wk X w (pc + 2) lv (.int v :: rest)) : Wk X w pc lv (rest) := by
  obtain ⟨G, l, sz, Q, cells, slots, p, e, R, s, m, args, below, meth, c, nL⟩ := X
  obtain ⟨hx, hb, hr, hml, hown, hts, hlk, hSw, hsz, hR, hmL⟩ := O
  intro H locs ls hP hD hS hl
  exact lv_bipush hx hb hdg hv (k H locs ls hP hD hS hl)
theorem k_sipush (O : Ok X cc own ret Ts fr lo mL) {n : Int} {v : Int32} (hdg : decode cc pc = .ok (.sipush n, 3)) (hv : (Int16.ofInt n).toInt32 = v) (k : Wk X w (pc + 3) lv (.int v :: rest)) : Wk X w pc lv (rest) := by
  obtain ⟨G, l, sz, Q, cells, slots, p, e, R, s, m, args, below, meth, c, nL⟩ := X
  obtain ⟨hx, hb, hr, hml, hown, hts, hlk, hSw, hsz, hR, hmL⟩ := O
  intro H locs ls hP hD hS hl
  exact lv_sipush hx hb hdg hv (k H locs ls hP hD hS hl)
theorem k_lconst (O : Ok X cc own ret Ts fr lo mL) {n : Fin 2} {v : Int64} (hdg : decode cc pc = .ok (.lconst n, 1)) (hv : Int64.ofNat (n : Nat) = v) (k : Wk X w (pc + 1) lv (.long v :: rest)) : Wk X w pc lv (rest) := by
  obtain ⟨G, l, sz, Q, cells, slots, p, e, R, s, m, args, below, meth, c, nL⟩ := X
  obtain ⟨hx, hb, hr, hml, hown, hts, hlk, hSw, hsz, hR, hmL⟩ := O
  intro H locs ls hP hD hS hl
  exact lv_lconst hx hb hdg hv (k H locs ls hP hD hS hl)
theorem k_ldc2 (O : Ok X cc own ret Ts fr lo mL) {index : Nat} {v : Int64} (hdg : decode cc pc = .ok (.ldc2_w index, 3)) (hc : Jvm.Cond.constantLong own index v ∈ Ts) (k : Wk X w (pc + 3) lv (.long v :: rest)) : Wk X w pc lv (rest) := by
  obtain ⟨G, l, sz, Q, cells, slots, p, e, R, s, m, args, below, meth, c, nL⟩ := X
  obtain ⟨hx, hb, hr, hml, hown, hts, hlk, hSw, hsz, hR, hmL⟩ := O
  intro H locs ls hP hD hS hl
  exact lv_ldc2 hx hb hown (hts _ hc) hdg (k H locs ls hP hD hS hl)
theorem k_ldcw (O : Ok X cc own ret Ts fr lo mL) {index : Nat} {v : Int32} (hdg : decode cc pc = .ok (.ldc_w index, 3)) (hc : Jvm.Cond.constant own index v ∈ Ts) (k : Wk X w (pc + 3) lv (.int v :: rest)) : Wk X w pc lv (rest) := by
  obtain ⟨G, l, sz, Q, cells, slots, p, e, R, s, m, args, below, meth, c, nL⟩ := X
  obtain ⟨hx, hb, hr, hml, hown, hts, hlk, hSw, hsz, hR, hmL⟩ := O
  intro H locs ls hP hD hS hl
  exact lv_ldcw hx hb hown (hts _ hc) hdg (k H locs ls hP hD hS hl)
theorem k_iload_n (O : Ok X cc own ret Ts fr lo mL) {i : Fin 4} {x : Int32} (hdg : decode cc pc = .ok (.iload_n i, 1)) (j : Nat) (hj : lv[j]? = some ((i : Nat), .int x)) (k : Wk X w (pc + 1) lv (.int x :: rest)) : Wk X w pc lv (rest) := by
  obtain ⟨G, l, sz, Q, cells, slots, p, e, R, s, m, args, below, meth, c, nL⟩ := X
  obtain ⟨hx, hb, hr, hml, hown, hts, hlk, hSw, hsz, hR, hmL⟩ := O
  intro H locs ls hP hD hS hl
  exact lv_iload_n hx hb hdg rfl (lv_at hl j hj) (k H locs ls hP hD hS hl)
theorem k_iload (O : Ok X cc own ret Ts fr lo mL) {i : Nat} {x : Int32} (hdg : decode cc pc = .ok (.iload i, 2)) (j : Nat) (hj : lv[j]? = some (i, .int x)) (k : Wk X w (pc + 2) lv (.int x :: rest)) : Wk X w pc lv (rest) := by
  obtain ⟨G, l, sz, Q, cells, slots, p, e, R, s, m, args, below, meth, c, nL⟩ := X
  obtain ⟨hx, hb, hr, hml, hown, hts, hlk, hSw, hsz, hR, hmL⟩ := O
  intro H locs ls hP hD hS hl
  exact lv_iload hx hb hdg (lv_at hl j hj) (k H locs ls hP hD hS hl)
theorem k_lload_n (O : Ok X cc own ret Ts fr lo mL) {i : Fin 4} {x : Int64} (hdg : decode cc pc = .ok (.lload_n i, 1)) (j : Nat) (hj : lv[j]? = some ((i : Nat), .long x)) (k : Wk X w (pc + 1) lv (.long x :: rest)) : Wk X w pc lv (rest) := by
  obtain ⟨G, l, sz, Q, cells, slots, p, e, R, s, m, args, below, meth, c, nL⟩ := X
  obtain ⟨hx, hb, hr, hml, hown, hts, hlk, hSw, hsz, hR, hmL⟩ := O
  intro H locs ls hP hD hS hl
  exact lv_lload_n hx hb hdg rfl (lv_at hl j hj) (k H locs ls hP hD hS hl)
theorem k_lload (O : Ok X cc own ret Ts fr lo mL) {i : Nat} {x : Int64} (hdg : decode cc pc = .ok (.lload i, 2)) (j : Nat) (hj : lv[j]? = some (i, .long x)) (k : Wk X w (pc + 2) lv (.long x :: rest)) : Wk X w pc lv (rest) := by
  obtain ⟨G, l, sz, Q, cells, slots, p, e, R, s, m, args, below, meth, c, nL⟩ := X
  obtain ⟨hx, hb, hr, hml, hown, hts, hlk, hSw, hsz, hR, hmL⟩ := O
  intro H locs ls hP hD hS hl
  exact lv_lload hx hb hdg (lv_at hl j hj) (k H locs ls hP hD hS hl)
theorem k_aload_n (O : Ok X cc own ret Ts fr lo mL) {i : Fin 4} {x : Nat} (hdg : decode cc pc = .ok (.aload_n i, 1)) (j : Nat) (hj : lv[j]? = some ((i : Nat), .ref x)) (k : Wk X w (pc + 1) lv (.ref x :: rest)) : Wk X w pc lv (rest) := by
  obtain ⟨G, l, sz, Q, cells, slots, p, e, R, s, m, args, below, meth, c, nL⟩ := X
  obtain ⟨hx, hb, hr, hml, hown, hts, hlk, hSw, hsz, hR, hmL⟩ := O
  intro H locs ls hP hD hS hl
  exact lv_aload_n hx hb hdg rfl (lv_at hl j hj) (k H locs ls hP hD hS hl)
theorem k_aload (O : Ok X cc own ret Ts fr lo mL) {i : Nat} {x : Nat} (hdg : decode cc pc = .ok (.aload i, 2)) (j : Nat) (hj : lv[j]? = some (i, .ref x)) (k : Wk X w (pc + 2) lv (.ref x :: rest)) : Wk X w pc lv (rest) := by
  obtain ⟨G, l, sz, Q, cells, slots, p, e, R, s, m, args, below, meth, c, nL⟩ := X
  obtain ⟨hx, hb, hr, hml, hown, hts, hlk, hSw, hsz, hR, hmL⟩ := O
  intro H locs ls hP hD hS hl
  exact lv_aload hx hb hdg (lv_at hl j hj) (k H locs ls hP hD hS hl)
theorem k_istore_n (O : Ok X cc own ret Ts fr lo mL) {i : Nat} {i4 : Fin 4} {x : Int32} (hdg : decode cc pc = .ok (.istore_n i4, 1)) (hi : (i4 : Nat) = i) (hn : i < mL) (hl9 : (i, Value.int x) :: lv.filter (fun q => !(q.1 == i) && !(q.1 + 1 == i && q.2.category == 2)) = lv') (k : Wk X w (pc + 1) lv' rest) : Wk X w pc lv (.int x :: rest) := by
  obtain ⟨G, l, sz, Q, cells, slots, p, e, R, s, m, args, below, meth, c, nL⟩ := X
  obtain ⟨hx, hb, hr, hml, hown, hts, hlk, hSw, hsz, hR, hmL⟩ := O
  intro H locs ls hP hD hS hl
  subst hmL
  exact lv_istore_n hx hb hdg hi hl hn hl9 (fun ls hl => k H locs ls hP hD hS hl)
theorem k_istore (O : Ok X cc own ret Ts fr lo mL) {i : Nat} {x : Int32} (hdg : decode cc pc = .ok (.istore i, 2)) (hn : i < mL) (hl9 : (i, Value.int x) :: lv.filter (fun q => !(q.1 == i) && !(q.1 + 1 == i && q.2.category == 2)) = lv') (k : Wk X w (pc + 2) lv' rest) : Wk X w pc lv (.int x :: rest) := by
  obtain ⟨G, l, sz, Q, cells, slots, p, e, R, s, m, args, below, meth, c, nL⟩ := X
  obtain ⟨hx, hb, hr, hml, hown, hts, hlk, hSw, hsz, hR, hmL⟩ := O
  intro H locs ls hP hD hS hl
  subst hmL
  exact lv_istore hx hb hdg hl hn hl9 (fun ls hl => k H locs ls hP hD hS hl)
theorem k_astore_n (O : Ok X cc own ret Ts fr lo mL) {i : Nat} {i4 : Fin 4} {x : Nat} (hdg : decode cc pc = .ok (.astore_n i4, 1)) (hi : (i4 : Nat) = i) (hn : i < mL) (hl9 : (i, Value.ref x) :: lv.filter (fun q => !(q.1 == i) && !(q.1 + 1 == i && q.2.category == 2)) = lv') (k : Wk X w (pc + 1) lv' rest) : Wk X w pc lv (.ref x :: rest) := by
  obtain ⟨G, l, sz, Q, cells, slots, p, e, R, s, m, args, below, meth, c, nL⟩ := X
  obtain ⟨hx, hb, hr, hml, hown, hts, hlk, hSw, hsz, hR, hmL⟩ := O
  intro H locs ls hP hD hS hl
  subst hmL
  exact lv_astore_n hx hb hdg hi hl hn hl9 (fun ls hl => k H locs ls hP hD hS hl)
theorem k_astore (O : Ok X cc own ret Ts fr lo mL) {i : Nat} {x : Nat} (hdg : decode cc pc = .ok (.astore i, 2)) (hn : i < mL) (hl9 : (i, Value.ref x) :: lv.filter (fun q => !(q.1 == i) && !(q.1 + 1 == i && q.2.category == 2)) = lv') (k : Wk X w (pc + 2) lv' rest) : Wk X w pc lv (.ref x :: rest) := by
  obtain ⟨G, l, sz, Q, cells, slots, p, e, R, s, m, args, below, meth, c, nL⟩ := X
  obtain ⟨hx, hb, hr, hml, hown, hts, hlk, hSw, hsz, hR, hmL⟩ := O
  intro H locs ls hP hD hS hl
  subst hmL
  exact lv_astore hx hb hdg hl hn hl9 (fun ls hl => k H locs ls hP hD hS hl)
theorem k_lstore_n (O : Ok X cc own ret Ts fr lo mL) {i : Nat} {i4 : Fin 4} {x : Int64} (hdg : decode cc pc = .ok (.lstore_n i4, 1)) (hi : (i4 : Nat) = i) (hn : i + 1 < mL) (hl9 : (i, Value.long x) :: lv.filter (fun q => !(q.1 == i) && (!(q.1 == i + 1) && !(q.1 + 1 == i && q.2.category == 2))) = lv') (k : Wk X w (pc + 1) lv' rest) : Wk X w pc lv (.long x :: rest) := by
  obtain ⟨G, l, sz, Q, cells, slots, p, e, R, s, m, args, below, meth, c, nL⟩ := X
  obtain ⟨hx, hb, hr, hml, hown, hts, hlk, hSw, hsz, hR, hmL⟩ := O
  intro H locs ls hP hD hS hl
  subst hmL
  exact lv_lstore_n hx hb hdg hi hl hn hl9 (fun ls hl => k H locs ls hP hD hS hl)
theorem k_lstore (O : Ok X cc own ret Ts fr lo mL) {i : Nat} {x : Int64} (hdg : decode cc pc = .ok (.lstore i, 2)) (hn : i + 1 < mL) (hl9 : (i, Value.long x) :: lv.filter (fun q => !(q.1 == i) && (!(q.1 == i + 1) && !(q.1 + 1 == i && q.2.category == 2))) = lv') (k : Wk X w (pc + 2) lv' rest) : Wk X w pc lv (.long x :: rest) := by
  obtain ⟨G, l, sz, Q, cells, slots, p, e, R, s, m, args, below, meth, c, nL⟩ := X
  obtain ⟨hx, hb, hr, hml, hown, hts, hlk, hSw, hsz, hR, hmL⟩ := O
  intro H locs ls hP hD hS hl
  subst hmL
  exact lv_lstore hx hb hdg hl hn hl9 (fun ls hl => k H locs ls hP hD hS hl)
theorem k_nw {st : List Value} (k : ∀ w1 : Wd, w1 = w → Wk X w1 pc lv st) : Wk X w pc lv st := k w rfl
theorem k_iinc (O : Ok X cc own ret Ts fr lo mL) {i : Nat} {n : Int} {x v : Int32} (hdg : decode cc pc = .ok (.iinc i n, 3)) (j : Nat) (hj : lv[j]? = some (i, .int x)) (hv : x + Int32.ofInt n = v) (hn : i < mL) (hl9 : (i, Value.int v) :: lv.filter (fun q => !(q.1 == i) && !(q.1 + 1 == i && q.2.category == 2)) = lv') (k : Wk X w (pc + 3) lv' rest) : Wk X w pc lv rest := by
  obtain ⟨G, l, sz, Q, cells, slots, p, e, R, s, m, args, below, meth, c, nL⟩ := X
  obtain ⟨hx, hb, hr, hml, hown, hts, hlk, hSw, hsz, hR, hmL⟩ := O
  intro H locs ls hP hD hS hl
  subst hmL
  exact lv_iinc hx hb hdg hl hj hv hn hl9 (fun ls hl => k H locs ls hP hD hS hl)
theorem k_iadd (O : Ok X cc own ret Ts fr lo mL) {x y : Int32} (hdg : decode cc pc = .ok (.iadd, 1)) (k : Wk X w (pc + 1) lv (.int (x + y) :: rest)) : Wk X w pc lv (.int y :: .int x :: rest) := by
  obtain ⟨G, l, sz, Q, cells, slots, p, e, R, s, m, args, below, meth, c, nL⟩ := X
  obtain ⟨hx, hb, hr, hml, hown, hts, hlk, hSw, hsz, hR, hmL⟩ := O
  intro H locs ls hP hD hS hl
  exact lv_iadd hx hb hdg (k H locs ls hP hD hS hl)
theorem k_isub (O : Ok X cc own ret Ts fr lo mL) {x y : Int32} (hdg : decode cc pc = .ok (.isub, 1)) (k : Wk X w (pc + 1) lv (.int (x - y) :: rest)) : Wk X w pc lv (.int y :: .int x :: rest) := by
  obtain ⟨G, l, sz, Q, cells, slots, p, e, R, s, m, args, below, meth, c, nL⟩ := X
  obtain ⟨hx, hb, hr, hml, hown, hts, hlk, hSw, hsz, hR, hmL⟩ := O
  intro H locs ls hP hD hS hl
  exact lv_isub hx hb hdg (k H locs ls hP hD hS hl)
theorem k_imul (O : Ok X cc own ret Ts fr lo mL) {x y : Int32} (hdg : decode cc pc = .ok (.imul, 1)) (k : Wk X w (pc + 1) lv (.int (x * y) :: rest)) : Wk X w pc lv (.int y :: .int x :: rest) := by
  obtain ⟨G, l, sz, Q, cells, slots, p, e, R, s, m, args, below, meth, c, nL⟩ := X
  obtain ⟨hx, hb, hr, hml, hown, hts, hlk, hSw, hsz, hR, hmL⟩ := O
  intro H locs ls hP hD hS hl
  exact lv_imul hx hb hdg (k H locs ls hP hD hS hl)
theorem k_iand (O : Ok X cc own ret Ts fr lo mL) {x y : Int32} (hdg : decode cc pc = .ok (.iand, 1)) (k : Wk X w (pc + 1) lv (.int (x &&& y) :: rest)) : Wk X w pc lv (.int y :: .int x :: rest) := by
  obtain ⟨G, l, sz, Q, cells, slots, p, e, R, s, m, args, below, meth, c, nL⟩ := X
  obtain ⟨hx, hb, hr, hml, hown, hts, hlk, hSw, hsz, hR, hmL⟩ := O
  intro H locs ls hP hD hS hl
  exact lv_iand hx hb hdg (k H locs ls hP hD hS hl)
theorem k_ior (O : Ok X cc own ret Ts fr lo mL) {x y : Int32} (hdg : decode cc pc = .ok (.ior, 1)) (k : Wk X w (pc + 1) lv (.int (x ||| y) :: rest)) : Wk X w pc lv (.int y :: .int x :: rest) := by
  obtain ⟨G, l, sz, Q, cells, slots, p, e, R, s, m, args, below, meth, c, nL⟩ := X
  obtain ⟨hx, hb, hr, hml, hown, hts, hlk, hSw, hsz, hR, hmL⟩ := O
  intro H locs ls hP hD hS hl
  exact lv_ior hx hb hdg (k H locs ls hP hD hS hl)
theorem k_ixor (O : Ok X cc own ret Ts fr lo mL) {x y : Int32} (hdg : decode cc pc = .ok (.ixor, 1)) (k : Wk X w (pc + 1) lv (.int (x ^^^ y) :: rest)) : Wk X w pc lv (.int y :: .int x :: rest) := by
  obtain ⟨G, l, sz, Q, cells, slots, p, e, R, s, m, args, below, meth, c, nL⟩ := X
  obtain ⟨hx, hb, hr, hml, hown, hts, hlk, hSw, hsz, hR, hmL⟩ := O
  intro H locs ls hP hD hS hl
  exact lv_ixor hx hb hdg (k H locs ls hP hD hS hl)
theorem k_ishl (O : Ok X cc own ret Ts fr lo mL) {x y : Int32} (hdg : decode cc pc = .ok (.ishl, 1)) (k : Wk X w (pc + 1) lv (.int (x <<< (y &&& 31)) :: rest)) : Wk X w pc lv (.int y :: .int x :: rest) := by
  obtain ⟨G, l, sz, Q, cells, slots, p, e, R, s, m, args, below, meth, c, nL⟩ := X
  obtain ⟨hx, hb, hr, hml, hown, hts, hlk, hSw, hsz, hR, hmL⟩ := O
  intro H locs ls hP hD hS hl
  exact lv_ishl hx hb hdg (k H locs ls hP hD hS hl)
theorem k_ishr (O : Ok X cc own ret Ts fr lo mL) {x y : Int32} (hdg : decode cc pc = .ok (.ishr, 1)) (k : Wk X w (pc + 1) lv (.int (x >>> (y &&& 31)) :: rest)) : Wk X w pc lv (.int y :: .int x :: rest) := by
  obtain ⟨G, l, sz, Q, cells, slots, p, e, R, s, m, args, below, meth, c, nL⟩ := X
  obtain ⟨hx, hb, hr, hml, hown, hts, hlk, hSw, hsz, hR, hmL⟩ := O
  intro H locs ls hP hD hS hl
  exact lv_ishr hx hb hdg (k H locs ls hP hD hS hl)
theorem k_idiv (O : Ok X cc own ret Ts fr lo mL) {x y : Int32} (hdg : decode cc pc = .ok (.idiv, 1)) (hne : ¬ y = 0) (k : Wk X w (pc + 1) lv (.int (x / y) :: rest)) : Wk X w pc lv (.int y :: .int x :: rest) := by
  obtain ⟨G, l, sz, Q, cells, slots, p, e, R, s, m, args, below, meth, c, nL⟩ := X
  obtain ⟨hx, hb, hr, hml, hown, hts, hlk, hSw, hsz, hR, hmL⟩ := O
  intro H locs ls hP hD hS hl
  exact lv_idiv hx hb hdg hne (k H locs ls hP hD hS hl)
theorem k_irem (O : Ok X cc own ret Ts fr lo mL) {x y : Int32} (hdg : decode cc pc = .ok (.irem, 1)) (hne : ¬ y = 0) (k : Wk X w (pc + 1) lv (.int (x - x / y * y) :: rest)) : Wk X w pc lv (.int y :: .int x :: rest) := by
  obtain ⟨G, l, sz, Q, cells, slots, p, e, R, s, m, args, below, meth, c, nL⟩ := X
  obtain ⟨hx, hb, hr, hml, hown, hts, hlk, hSw, hsz, hR, hmL⟩ := O
  intro H locs ls hP hD hS hl
  exact lv_irem hx hb hdg hne (k H locs ls hP hD hS hl)
theorem k_iushr (O : Ok X cc own ret Ts fr lo mL) {x y : Int32} (hdg : decode cc pc = .ok (.iushr, 1)) (k : Wk X w (pc + 1) lv (.int ((x.toUInt32 >>> (y.toUInt32 &&& Int32.toUInt32 31)).toInt32) :: rest)) : Wk X w pc lv (.int y :: .int x :: rest) := by
  obtain ⟨G, l, sz, Q, cells, slots, p, e, R, s, m, args, below, meth, c, nL⟩ := X
  obtain ⟨hx, hb, hr, hml, hown, hts, hlk, hSw, hsz, hR, hmL⟩ := O
  intro H locs ls hP hD hS hl
  exact lv_iushr hx hb hdg rfl (k H locs ls hP hD hS hl)
theorem k_ladd (O : Ok X cc own ret Ts fr lo mL) {x y : Int64} (hdg : decode cc pc = .ok (.ladd, 1)) (k : Wk X w (pc + 1) lv (.long (x + y) :: rest)) : Wk X w pc lv (.long y :: .long x :: rest) := by
  obtain ⟨G, l, sz, Q, cells, slots, p, e, R, s, m, args, below, meth, c, nL⟩ := X
  obtain ⟨hx, hb, hr, hml, hown, hts, hlk, hSw, hsz, hR, hmL⟩ := O
  intro H locs ls hP hD hS hl
  exact lv_ladd hx hb hdg (k H locs ls hP hD hS hl)
theorem k_lmul (O : Ok X cc own ret Ts fr lo mL) {x y : Int64} (hdg : decode cc pc = .ok (.lmul, 1)) (k : Wk X w (pc + 1) lv (.long (x * y) :: rest)) : Wk X w pc lv (.long y :: .long x :: rest) := by
  obtain ⟨G, l, sz, Q, cells, slots, p, e, R, s, m, args, below, meth, c, nL⟩ := X
  obtain ⟨hx, hb, hr, hml, hown, hts, hlk, hSw, hsz, hR, hmL⟩ := O
  intro H locs ls hP hD hS hl
  exact lv_lmul hx hb hdg (k H locs ls hP hD hS hl)
theorem k_land (O : Ok X cc own ret Ts fr lo mL) {x y : Int64} (hdg : decode cc pc = .ok (.land, 1)) (k : Wk X w (pc + 1) lv (.long (x &&& y) :: rest)) : Wk X w pc lv (.long y :: .long x :: rest) := by
  obtain ⟨G, l, sz, Q, cells, slots, p, e, R, s, m, args, below, meth, c, nL⟩ := X
  obtain ⟨hx, hb, hr, hml, hown, hts, hlk, hSw, hsz, hR, hmL⟩ := O
  intro H locs ls hP hD hS hl
  exact lv_land hx hb hdg (k H locs ls hP hD hS hl)
theorem k_lor (O : Ok X cc own ret Ts fr lo mL) {x y : Int64} (hdg : decode cc pc = .ok (.lor, 1)) (k : Wk X w (pc + 1) lv (.long (x ||| y) :: rest)) : Wk X w pc lv (.long y :: .long x :: rest) := by
  obtain ⟨G, l, sz, Q, cells, slots, p, e, R, s, m, args, below, meth, c, nL⟩ := X
  obtain ⟨hx, hb, hr, hml, hown, hts, hlk, hSw, hsz, hR, hmL⟩ := O
  intro H locs ls hP hD hS hl
  exact lv_lor hx hb hdg (k H locs ls hP hD hS hl)
theorem k_lrem (O : Ok X cc own ret Ts fr lo mL) {x y : Int64} (hdg : decode cc pc = .ok (.lrem, 1)) (hne : ¬ y = 0) (k : Wk X w (pc + 1) lv (.long (x - x / y * y) :: rest)) : Wk X w pc lv (.long y :: .long x :: rest) := by
  obtain ⟨G, l, sz, Q, cells, slots, p, e, R, s, m, args, below, meth, c, nL⟩ := X
  obtain ⟨hx, hb, hr, hml, hown, hts, hlk, hSw, hsz, hR, hmL⟩ := O
  intro H locs ls hP hD hS hl
  exact lv_lrem hx hb hdg hne (k H locs ls hP hD hS hl)
theorem k_lushr (O : Ok X cc own ret Ts fr lo mL) {x : Int64} {y : Int32} (hdg : decode cc pc = .ok (.lushr, 1)) (k : Wk X w (pc + 1) lv (.long ((x.toUInt64 >>> (y.toInt64.toUInt64 &&& Int64.toUInt64 63)).toInt64) :: rest)) : Wk X w pc lv (.int y :: .long x :: rest) := by
  obtain ⟨G, l, sz, Q, cells, slots, p, e, R, s, m, args, below, meth, c, nL⟩ := X
  obtain ⟨hx, hb, hr, hml, hown, hts, hlk, hSw, hsz, hR, hmL⟩ := O
  intro H locs ls hP hD hS hl
  exact lv_lushr hx hb hdg rfl (k H locs ls hP hD hS hl)
theorem k_lshl (O : Ok X cc own ret Ts fr lo mL) {x : Int64} {y : Int32} (hdg : decode cc pc = .ok (.lshl, 1)) (k : Wk X w (pc + 1) lv (.long (x <<< (y.toInt64 &&& 63)) :: rest)) : Wk X w pc lv (.int y :: .long x :: rest) := by
  obtain ⟨G, l, sz, Q, cells, slots, p, e, R, s, m, args, below, meth, c, nL⟩ := X
  obtain ⟨hx, hb, hr, hml, hown, hts, hlk, hSw, hsz, hR, hmL⟩ := O
  intro H locs ls hP hD hS hl
  exact lv_lshl hx hb hdg rfl (k H locs ls hP hD hS hl)
theorem k_lshr (O : Ok X cc own ret Ts fr lo mL) {x : Int64} {y : Int32} (hdg : decode cc pc = .ok (.lshr, 1)) (k : Wk X w (pc + 1) lv (.long (x >>> (y.toInt64 &&& 63)) :: rest)) : Wk X w pc lv (.int y :: .long x :: rest) := by
  obtain ⟨G, l, sz, Q, cells, slots, p, e, R, s, m, args, below, meth, c, nL⟩ := X
  obtain ⟨hx, hb, hr, hml, hown, hts, hlk, hSw, hsz, hR, hmL⟩ := O
  intro H locs ls hP hD hS hl
  exact lv_lshr hx hb hdg rfl (k H locs ls hP hD hS hl)
theorem k_i2l (O : Ok X cc own ret Ts fr lo mL) {x : Int32} (hdg : decode cc pc = .ok (.i2l, 1)) (k : Wk X w (pc + 1) lv (.long x.toInt64 :: rest)) : Wk X w pc lv (.int x :: rest) := by
  obtain ⟨G, l, sz, Q, cells, slots, p, e, R, s, m, args, below, meth, c, nL⟩ := X
  obtain ⟨hx, hb, hr, hml, hown, hts, hlk, hSw, hsz, hR, hmL⟩ := O
  intro H locs ls hP hD hS hl
  exact lv_i2l hx hb hdg rfl (k H locs ls hP hD hS hl)
theorem k_l2i (O : Ok X cc own ret Ts fr lo mL) {x : Int64} (hdg : decode cc pc = .ok (.l2i, 1)) (k : Wk X w (pc + 1) lv (.int x.toInt32 :: rest)) : Wk X w pc lv (.long x :: rest) := by
  obtain ⟨G, l, sz, Q, cells, slots, p, e, R, s, m, args, below, meth, c, nL⟩ := X
  obtain ⟨hx, hb, hr, hml, hown, hts, hlk, hSw, hsz, hR, hmL⟩ := O
  intro H locs ls hP hD hS hl
  exact lv_l2i hx hb hdg rfl (k H locs ls hP hD hS hl)
theorem k_lcmp (O : Ok X cc own ret Ts fr lo mL) {x y : Int64} (hdg : decode cc pc = .ok (.lcmp, 1)) (k : Wk X w (pc + 1) lv (.int (lg_cmp x y) :: rest)) : Wk X w pc lv (.long y :: .long x :: rest) := by
  obtain ⟨G, l, sz, Q, cells, slots, p, e, R, s, m, args, below, meth, c, nL⟩ := X
  obtain ⟨hx, hb, hr, hml, hown, hts, hlk, hSw, hsz, hR, hmL⟩ := O
  intro H locs ls hP hD hS hl
  exact W.lcmp hx hb hdg (k H locs ls hP hD hS hl)
theorem k_dup (O : Ok X cc own ret Ts fr lo mL) {va : Value} (hdg : decode cc pc = .ok (.dup, 1)) (hva : va.category = 1) (k : Wk X w (pc + 1) lv (va :: va :: rest)) : Wk X w pc lv (va :: rest) := by
  obtain ⟨G, l, sz, Q, cells, slots, p, e, R, s, m, args, below, meth, c, nL⟩ := X
  obtain ⟨hx, hb, hr, hml, hown, hts, hlk, hSw, hsz, hR, hmL⟩ := O
  intro H locs ls hP hD hS hl
  exact lv_dup hx hb hdg hva (k H locs ls hP hD hS hl)
theorem k_pop (O : Ok X cc own ret Ts fr lo mL) {va : Value} (hdg : decode cc pc = .ok (.pop, 1)) (hva : va.category = 1) (k : Wk X w (pc + 1) lv (rest)) : Wk X w pc lv (va :: rest) := by
  obtain ⟨G, l, sz, Q, cells, slots, p, e, R, s, m, args, below, meth, c, nL⟩ := X
  obtain ⟨hx, hb, hr, hml, hown, hts, hlk, hSw, hsz, hR, hmL⟩ := O
  intro H locs ls hP hD hS hl
  exact lv_pop hx hb hdg hva (k H locs ls hP hD hS hl)
theorem k_dup2 (O : Ok X cc own ret Ts fr lo mL) {va vb : Value} (hdg : decode cc pc = .ok (.dup2, 1)) (hva : va.category = 1) (hvb : vb.category = 1) (k : Wk X w (pc + 1) lv (va :: vb :: va :: vb :: rest)) : Wk X w pc lv (va :: vb :: rest) := by
  obtain ⟨G, l, sz, Q, cells, slots, p, e, R, s, m, args, below, meth, c, nL⟩ := X
  obtain ⟨hx, hb, hr, hml, hown, hts, hlk, hSw, hsz, hR, hmL⟩ := O
  intro H locs ls hP hD hS hl
  exact lv_dup2_11 hx hb hdg hva hvb (k H locs ls hP hD hS hl)
theorem k_dup2l (O : Ok X cc own ret Ts fr lo mL) {va : Value} (hdg : decode cc pc = .ok (.dup2, 1)) (hva : va.category = 2) (k : Wk X w (pc + 1) lv (va :: va :: rest)) : Wk X w pc lv (va :: rest) := by
  obtain ⟨G, l, sz, Q, cells, slots, p, e, R, s, m, args, below, meth, c, nL⟩ := X
  obtain ⟨hx, hb, hr, hml, hown, hts, hlk, hSw, hsz, hR, hmL⟩ := O
  intro H locs ls hP hD hS hl
  exact lv_dup2_2 hx hb hdg hva (k H locs ls hP hD hS hl)
theorem k_ifnull (O : Ok X cc own ret Ts fr lo mL) {x : Nat} {off : Int} (hdg : decode cc pc = .ok (.ifnull off, 3)) (k : Wk X w (pc + 3) lv (rest)) : Wk X w pc lv (.ref x :: rest) := by
  obtain ⟨G, l, sz, Q, cells, slots, p, e, R, s, m, args, below, meth, c, nL⟩ := X
  obtain ⟨hx, hb, hr, hml, hown, hts, hlk, hSw, hsz, hR, hmL⟩ := O
  intro H locs ls hP hD hS hl
  exact lv_ifnull hx hb hdg (k H locs ls hP hD hS hl)
theorem k_ifnonnull (O : Ok X cc own ret Ts fr lo mL) {x : Nat} {off : Int} (tgt : Nat) (hdg : decode cc pc = .ok (.ifnonnull off, 3)) (ht : (pc : Int) + off = (tgt : Int)) (k : Wk X w tgt lv rest) : Wk X w pc lv (.ref x :: rest) := by
  obtain ⟨G, l, sz, Q, cells, slots, p, e, R, s, m, args, below, meth, c, nL⟩ := X
  obtain ⟨hx, hb, hr, hml, hown, hts, hlk, hSw, hsz, hR, hmL⟩ := O
  intro H locs ls hP hD hS hl
  exact lv_ifnonnull hx hb hdg ht (k H locs ls hP hD hS hl)
theorem k_goto (O : Ok X cc own ret Ts fr lo mL) {off : Int} (tgt : Nat) (hdg : decode cc pc = .ok (.goto off, 3)) (ht : (pc : Int) + off = (tgt : Int)) (k : Wk X w tgt lv rest) : Wk X w pc lv rest := by
  obtain ⟨G, l, sz, Q, cells, slots, p, e, R, s, m, args, below, meth, c, nL⟩ := X
  obtain ⟨hx, hb, hr, hml, hown, hts, hlk, hSw, hsz, hR, hmL⟩ := O
  intro H locs ls hP hD hS hl
  exact lv_goto hx hb hdg ht (k H locs ls hP hD hS hl)
theorem k_if_eq (O : Ok X cc own ret Ts fr lo mL) {x : Int32} {off : Int} (tgt : Nat) (hdg : decode cc pc = .ok (.ifCond .eq off, 3)) (ht : (pc : Int) + off = (tgt : Int)) (kt : x = 0 → Wk X w tgt lv rest) (kf : ¬ x = 0 → Wk X w (pc + 3) lv rest) : Wk X w pc lv (.int x :: rest) := by
  obtain ⟨G, l, sz, Q, cells, slots, p, e, R, s, m, args, below, meth, c, nL⟩ := X
  obtain ⟨hx, hb, hr, hml, hown, hts, hlk, hSw, hsz, hR, hmL⟩ := O
  intro H locs ls hP hD hS hl
  exact lv_if_eq hx hb hdg ht (fun h => kt h H locs ls hP hD hS hl) (fun h => kf h H locs ls hP hD hS hl)
theorem k_icmp_eq (O : Ok X cc own ret Ts fr lo mL) {x y : Int32} {off : Int} (tgt : Nat) (hdg : decode cc pc = .ok (.if_icmp .eq off, 3)) (ht : (pc : Int) + off = (tgt : Int)) (kt : x = y → Wk X w tgt lv rest) (kf : ¬ x = y → Wk X w (pc + 3) lv rest) : Wk X w pc lv (.int y :: .int x :: rest) := by
  obtain ⟨G, l, sz, Q, cells, slots, p, e, R, s, m, args, below, meth, c, nL⟩ := X
  obtain ⟨hx, hb, hr, hml, hown, hts, hlk, hSw, hsz, hR, hmL⟩ := O
  intro H locs ls hP hD hS hl
  exact lv_icmp_eq hx hb hdg ht (fun h => kt h H locs ls hP hD hS hl) (fun h => kf h H locs ls hP hD hS hl)
theorem k_if_ne (O : Ok X cc own ret Ts fr lo mL) {x : Int32} {off : Int} (tgt : Nat) (hdg : decode cc pc = .ok (.ifCond .ne off, 3)) (ht : (pc : Int) + off = (tgt : Int)) (kt : ¬ x = 0 → Wk X w tgt lv rest) (kf : x = 0 → Wk X w (pc + 3) lv rest) : Wk X w pc lv (.int x :: rest) := by
  obtain ⟨G, l, sz, Q, cells, slots, p, e, R, s, m, args, below, meth, c, nL⟩ := X
  obtain ⟨hx, hb, hr, hml, hown, hts, hlk, hSw, hsz, hR, hmL⟩ := O
  intro H locs ls hP hD hS hl
  exact lv_if_ne hx hb hdg ht (fun h => kt h H locs ls hP hD hS hl) (fun h => kf h H locs ls hP hD hS hl)
theorem k_icmp_ne (O : Ok X cc own ret Ts fr lo mL) {x y : Int32} {off : Int} (tgt : Nat) (hdg : decode cc pc = .ok (.if_icmp .ne off, 3)) (ht : (pc : Int) + off = (tgt : Int)) (kt : ¬ x = y → Wk X w tgt lv rest) (kf : x = y → Wk X w (pc + 3) lv rest) : Wk X w pc lv (.int y :: .int x :: rest) := by
  obtain ⟨G, l, sz, Q, cells, slots, p, e, R, s, m, args, below, meth, c, nL⟩ := X
  obtain ⟨hx, hb, hr, hml, hown, hts, hlk, hSw, hsz, hR, hmL⟩ := O
  intro H locs ls hP hD hS hl
  exact lv_icmp_ne hx hb hdg ht (fun h => kt h H locs ls hP hD hS hl) (fun h => kf h H locs ls hP hD hS hl)
theorem k_if_lt (O : Ok X cc own ret Ts fr lo mL) {x : Int32} {off : Int} (tgt : Nat) (hdg : decode cc pc = .ok (.ifCond .lt off, 3)) (ht : (pc : Int) + off = (tgt : Int)) (kt : x < 0 → Wk X w tgt lv rest) (kf : ¬ x < 0 → Wk X w (pc + 3) lv rest) : Wk X w pc lv (.int x :: rest) := by
  obtain ⟨G, l, sz, Q, cells, slots, p, e, R, s, m, args, below, meth, c, nL⟩ := X
  obtain ⟨hx, hb, hr, hml, hown, hts, hlk, hSw, hsz, hR, hmL⟩ := O
  intro H locs ls hP hD hS hl
  exact lv_if_lt hx hb hdg ht (fun h => kt h H locs ls hP hD hS hl) (fun h => kf h H locs ls hP hD hS hl)
theorem k_icmp_lt (O : Ok X cc own ret Ts fr lo mL) {x y : Int32} {off : Int} (tgt : Nat) (hdg : decode cc pc = .ok (.if_icmp .lt off, 3)) (ht : (pc : Int) + off = (tgt : Int)) (kt : x < y → Wk X w tgt lv rest) (kf : ¬ x < y → Wk X w (pc + 3) lv rest) : Wk X w pc lv (.int y :: .int x :: rest) := by
  obtain ⟨G, l, sz, Q, cells, slots, p, e, R, s, m, args, below, meth, c, nL⟩ := X
  obtain ⟨hx, hb, hr, hml, hown, hts, hlk, hSw, hsz, hR, hmL⟩ := O
  intro H locs ls hP hD hS hl
  exact lv_icmp_lt hx hb hdg ht (fun h => kt h H locs ls hP hD hS hl) (fun h => kf h H locs ls hP hD hS hl)
theorem k_if_ge (O : Ok X cc own ret Ts fr lo mL) {x : Int32} {off : Int} (tgt : Nat) (hdg : decode cc pc = .ok (.ifCond .ge off, 3)) (ht : (pc : Int) + off = (tgt : Int)) (kt : 0 ≤ x → Wk X w tgt lv rest) (kf : ¬ 0 ≤ x → Wk X w (pc + 3) lv rest) : Wk X w pc lv (.int x :: rest) := by
  obtain ⟨G, l, sz, Q, cells, slots, p, e, R, s, m, args, below, meth, c, nL⟩ := X
  obtain ⟨hx, hb, hr, hml, hown, hts, hlk, hSw, hsz, hR, hmL⟩ := O
  intro H locs ls hP hD hS hl
  exact lv_if_ge hx hb hdg ht (fun h => kt h H locs ls hP hD hS hl) (fun h => kf h H locs ls hP hD hS hl)
theorem k_icmp_ge (O : Ok X cc own ret Ts fr lo mL) {x y : Int32} {off : Int} (tgt : Nat) (hdg : decode cc pc = .ok (.if_icmp .ge off, 3)) (ht : (pc : Int) + off = (tgt : Int)) (kt : y ≤ x → Wk X w tgt lv rest) (kf : ¬ y ≤ x → Wk X w (pc + 3) lv rest) : Wk X w pc lv (.int y :: .int x :: rest) := by
  obtain ⟨G, l, sz, Q, cells, slots, p, e, R, s, m, args, below, meth, c, nL⟩ := X
  obtain ⟨hx, hb, hr, hml, hown, hts, hlk, hSw, hsz, hR, hmL⟩ := O
  intro H locs ls hP hD hS hl
  exact lv_icmp_ge hx hb hdg ht (fun h => kt h H locs ls hP hD hS hl) (fun h => kf h H locs ls hP hD hS hl)
theorem k_if_gt (O : Ok X cc own ret Ts fr lo mL) {x : Int32} {off : Int} (tgt : Nat) (hdg : decode cc pc = .ok (.ifCond .gt off, 3)) (ht : (pc : Int) + off = (tgt : Int)) (kt : 0 < x → Wk X w tgt lv rest) (kf : ¬ 0 < x → Wk X w (pc + 3) lv rest) : Wk X w pc lv (.int x :: rest) := by
  obtain ⟨G, l, sz, Q, cells, slots, p, e, R, s, m, args, below, meth, c, nL⟩ := X
  obtain ⟨hx, hb, hr, hml, hown, hts, hlk, hSw, hsz, hR, hmL⟩ := O
  intro H locs ls hP hD hS hl
  exact lv_if_gt hx hb hdg ht (fun h => kt h H locs ls hP hD hS hl) (fun h => kf h H locs ls hP hD hS hl)
theorem k_icmp_gt (O : Ok X cc own ret Ts fr lo mL) {x y : Int32} {off : Int} (tgt : Nat) (hdg : decode cc pc = .ok (.if_icmp .gt off, 3)) (ht : (pc : Int) + off = (tgt : Int)) (kt : y < x → Wk X w tgt lv rest) (kf : ¬ y < x → Wk X w (pc + 3) lv rest) : Wk X w pc lv (.int y :: .int x :: rest) := by
  obtain ⟨G, l, sz, Q, cells, slots, p, e, R, s, m, args, below, meth, c, nL⟩ := X
  obtain ⟨hx, hb, hr, hml, hown, hts, hlk, hSw, hsz, hR, hmL⟩ := O
  intro H locs ls hP hD hS hl
  exact lv_icmp_gt hx hb hdg ht (fun h => kt h H locs ls hP hD hS hl) (fun h => kf h H locs ls hP hD hS hl)
theorem k_if_le (O : Ok X cc own ret Ts fr lo mL) {x : Int32} {off : Int} (tgt : Nat) (hdg : decode cc pc = .ok (.ifCond .le off, 3)) (ht : (pc : Int) + off = (tgt : Int)) (kt : x ≤ 0 → Wk X w tgt lv rest) (kf : ¬ x ≤ 0 → Wk X w (pc + 3) lv rest) : Wk X w pc lv (.int x :: rest) := by
  obtain ⟨G, l, sz, Q, cells, slots, p, e, R, s, m, args, below, meth, c, nL⟩ := X
  obtain ⟨hx, hb, hr, hml, hown, hts, hlk, hSw, hsz, hR, hmL⟩ := O
  intro H locs ls hP hD hS hl
  exact lv_if_le hx hb hdg ht (fun h => kt h H locs ls hP hD hS hl) (fun h => kf h H locs ls hP hD hS hl)
theorem k_icmp_le (O : Ok X cc own ret Ts fr lo mL) {x y : Int32} {off : Int} (tgt : Nat) (hdg : decode cc pc = .ok (.if_icmp .le off, 3)) (ht : (pc : Int) + off = (tgt : Int)) (kt : x ≤ y → Wk X w tgt lv rest) (kf : ¬ x ≤ y → Wk X w (pc + 3) lv rest) : Wk X w pc lv (.int y :: .int x :: rest) := by
  obtain ⟨G, l, sz, Q, cells, slots, p, e, R, s, m, args, below, meth, c, nL⟩ := X
  obtain ⟨hx, hb, hr, hml, hown, hts, hlk, hSw, hsz, hR, hmL⟩ := O
  intro H locs ls hP hD hS hl
  exact lv_icmp_le hx hb hdg ht (fun h => kt h H locs ls hP hD hS hl) (fun h => kf h H locs ls hP hD hS hl)
theorem k_tabIn (O : Ok X cc own ret Ts fr lo mL) {dflt lo9 hi9 : Int} {offs : Array Int} {len : Nat} {x : Int32} {off : Int} (tgt : Nat) (hdg : decode cc pc = .ok (.tableswitch dflt lo9 hi9 offs, len)) (h1 : ¬ x.toInt < lo9) (h2 : ¬ hi9 < x.toInt) (ho : offs[(x.toInt - lo9).toNat]? = some off) (ht : (pc : Int) + off = (tgt : Int)) (k : Wk X w tgt lv rest) : Wk X w pc lv (.int x :: rest) := by
  obtain ⟨G, l, sz, Q, cells, slots, p, e, R, s, m, args, below, meth, c, nL⟩ := X
  obtain ⟨hx, hb, hr, hml, hown, hts, hlk, hSw, hsz, hR, hmL⟩ := O
  intro H locs ls hP hD hS hl
  exact lv_tableIn hx hb hdg h1 h2 ho ht (k H locs ls hP hD hS hl)
theorem k_tabOut (O : Ok X cc own ret Ts fr lo mL) {dflt lo9 hi9 : Int} {offs : Array Int} {len : Nat} {x : Int32} (tgt : Nat) (hdg : decode cc pc = .ok (.tableswitch dflt lo9 hi9 offs, len)) (h : x.toInt < lo9 ∨ hi9 < x.toInt) (ht : (pc : Int) + dflt = (tgt : Int)) (k : Wk X w tgt lv rest) : Wk X w pc lv (.int x :: rest) := by
  obtain ⟨G, l, sz, Q, cells, slots, p, e, R, s, m, args, below, meth, c, nL⟩ := X
  obtain ⟨hx, hb, hr, hml, hown, hts, hlk, hSw, hsz, hR, hmL⟩ := O
  intro H locs ls hP hD hS hl
  exact lv_tableOut hx hb hdg h ht (k H locs ls hP hD hS hl)
theorem k_look (O : Ok X cc own ret Ts fr lo mL) {dflt : Int} {ps : Array (Int × Int)} {len : Nat} {x : Int32} {off : Int} (tgt : Nat) (hdg : decode cc pc = .ok (.lookupswitch dflt ps, len)) (hp : (ps.toList.zip (ps.toList.drop 1)).all (fun (a, next) => a.1 < next.1) = true) (ho : Op.lookupswitch.offset ps.toList dflt x.toInt = off) (ht : (pc : Int) + off = (tgt : Int)) (k : Wk X w tgt lv rest) : Wk X w pc lv (.int x :: rest) := by
  obtain ⟨G, l, sz, Q, cells, slots, p, e, R, s, m, args, below, meth, c, nL⟩ := X
  obtain ⟨hx, hb, hr, hml, hown, hts, hlk, hSw, hsz, hR, hmL⟩ := O
  intro H locs ls hP hD hS hl
  exact lv_lookup hx hb hdg hp ho ht (k H locs ls hP hD hS hl)
theorem k_get (O : Ok X cc own ret Ts fr lo mL) {C : String} {T : u_T} {Nf ci index : Nat} {k : Nat} {fs : List Value} {v : Value} (hk : k < g_N X.1) (he : ent (g_ad X.1) (g_cy X.1) (g_mz X.1) k (w.1 k) (w.2 k) = .inr (ci, fs)) (hc : vwCl[ci]? = some (C, T, Nf)) (j : Nat) (hj : j < Nf) (hin : ∀ w ∈ u_ws C T Nf, w ∈ Ts) (hlink : Cond.fieldLink own index (T j).1 (T j).2.1 (T j).2.2.1 ∈ Ts) (hv : fs[j]? = some v) (hdg : decode cc pc = .ok (.getfield index, 3)) (kk : Wk X w (pc + 3) lv (v :: rest)) : Wk X w pc lv (.ref (g_ad X.1 k) :: rest) := by
  obtain ⟨G, l, sz, Q, cells, slots, p, e, R, s, m, args, below, meth, c, nL⟩ := X
  obtain ⟨hx, hb, hr, hml, hown, hts, hlk, hSw, hsz, hR, hmL⟩ := O
  intro H locs ls hP hD hS hl
  exact va_get (D := gD G) hx hb hts hin hown hSw.1 hP k ((wl_at hk).trans (congrArg (fun e => some (g_ad G k, e)) he)) hc j hj (hts _ hlink) (fun _ h9 => h9) hv hdg (kk H locs ls hP hD hS hl)
theorem k_put (O : Ok X cc own ret Ts fr lo mL) {C : String} {T : u_T} {Nf ci index : Nat} {k : Nat} {fs : List Value} {v : Value} {w' : Wd} (ty0 : Nat → FieldType) (hty : ∀ k, k < Nf → parseFieldDescriptor (T k).2.2.1 = some (ty0 k)) (hnm : ∀ a, a < Nf → ∀ b, b < Nf → a ≠ b → (T a).2.1 ≠ (T b).2.1) (hk : k < g_N X.1) (he : ent (g_ad X.1) (g_cy X.1) (g_mz X.1) k (w.1 k) (w.2 k) = .inr (ci, fs)) (hc : vwCl[ci]? = some (C, T, Nf)) (j : Nat) (hj : j < Nf) (hin : ∀ w ∈ u_ws C T Nf, w ∈ Ts) (hlink : Cond.fieldLink own index (T j).1 (T j).2.1 (T j).2.2.1 ∈ Ts) (hfin : (T j).2.2.2 = false) (hn : narrow (ty0 j) v = v) (hfit : fits (ty0 j) v = true) (hlen : j < fs.length) (hot : ∀ i, i ≠ k → ent (g_ad X.1) (g_cy X.1) (g_mz X.1) i (w'.1 i) (w'.2 i) = ent (g_ad X.1) (g_cy X.1) (g_mz X.1) i (w.1 i) (w.2 i)) (he' : ent (g_ad X.1) (g_cy X.1) (g_mz X.1) k (w'.1 k) (w'.2 k) = .inr (ci, fs.set j v)) (hdg : decode cc pc = .ok (.putfield index, 3)) (kk : Wk X w' (pc + 3) lv rest) : Wk X w pc lv (v :: .ref (g_ad X.1 k) :: rest) := by
  obtain ⟨G, l, sz, Q, cells, slots, p, e, R, s, m, args, below, meth, c, nL⟩ := X
  obtain ⟨hx, hb, hr, hml, hown, hts, hlk, hSw, hsz, hR, hmL⟩ := O
  intro H locs ls hP hD hS hl
  refine va_put (D := gD G) hx hb hts hin ty0 hty hnm hown hSw.1 hP hD hS k ((wl_at hk).trans (congrArg (fun e => some (g_ad G k, e)) he)) hc j hj (hts _ hlink) (fun _ h9 => h9) hfin (hty j hj) hn hfit hlen hdg (fun H1 locs1 hP1 hD1 hS1 => ?_)
  have hq := wl_set (G := G) he' hot
  rw [hq] at hP1 hD1
  exact kk H1 locs1 ls hP1 hD1 hS1 hl
theorem k_puti (O : Ok X cc own ret Ts fr lo mL) {C : String} {T : u_T} {Nf ci index : Nat} {k : Nat} {fs : List Value} {x : Int32} (ty0 : Nat → FieldType) (hty : ∀ k, k < Nf → parseFieldDescriptor (T k).2.2.1 = some (ty0 k)) (hnm : ∀ a, a < Nf → ∀ b, b < Nf → a ≠ b → (T a).2.1 ≠ (T b).2.1) (hk : k < g_N X.1) (he : ent (g_ad X.1) (g_cy X.1) (g_mz X.1) k (w.1 k) (w.2 k) = .inr (ci, fs)) (hc : vwCl[ci]? = some (C, T, Nf)) (j : Nat) (hj : j < Nf) (hin : ∀ w ∈ u_ws C T Nf, w ∈ Ts) (hlink : Cond.fieldLink own index (T j).1 (T j).2.1 (T j).2.2.1 ∈ Ts) (hfin : (T j).2.2.2 = false) (hn : narrow (ty0 j) (.int x) = .int x) (hfit : fits (ty0 j) (.int x) = true) (hlen : j < fs.length) (he' : ent (g_ad X.1) (g_cy X.1) (g_mz X.1) k (upd (w.1 k) j x) (w.2 k) = .inr (ci, fs.set j (.int x))) (hdg : decode cc pc = .ok (.putfield index, 3)) (kk : Wk X (up w k j x) (pc + 3) lv rest) : Wk X w pc lv (.int x :: .ref (g_ad X.1 k) :: rest) :=
  k_put O ty0 hty hnm hk he hc j hj hin hlink hfin hn hfit hlen up_ot (by rw [up_at]; exact he') hdg kk
theorem k_putl (O : Ok X cc own ret Ts fr lo mL) {C : String} {T : u_T} {Nf ci index : Nat} {k : Nat} {fs : List Value} {x : Int64} (ty0 : Nat → FieldType) (hty : ∀ k, k < Nf → parseFieldDescriptor (T k).2.2.1 = some (ty0 k)) (hnm : ∀ a, a < Nf → ∀ b, b < Nf → a ≠ b → (T a).2.1 ≠ (T b).2.1) (hk : k < g_N X.1) (he : ent (g_ad X.1) (g_cy X.1) (g_mz X.1) k (w.1 k) (w.2 k) = .inr (ci, fs)) (hc : vwCl[ci]? = some (C, T, Nf)) (j : Nat) (hj : j < Nf) (hin : ∀ w ∈ u_ws C T Nf, w ∈ Ts) (hlink : Cond.fieldLink own index (T j).1 (T j).2.1 (T j).2.2.1 ∈ Ts) (hfin : (T j).2.2.2 = false) (hn : narrow (ty0 j) (.long x) = .long x) (hfit : fits (ty0 j) (.long x) = true) (hlen : j < fs.length) (he' : ent (g_ad X.1) (g_cy X.1) (g_mz X.1) k (w.1 k) x = .inr (ci, fs.set j (.long x))) (hdg : decode cc pc = .ok (.putfield index, 3)) (kk : Wk X (upl w k x) (pc + 3) lv rest) : Wk X w pc lv (.long x :: .ref (g_ad X.1 k) :: rest) :=
  k_put O ty0 hty hnm hk he hc j hj hin hlink hfin hn hfit hlen upl_ot (by rw [upl_at]; exact he') hdg kk
theorem k_iald (O : Ok X cc own ret Ts fr lo mL) {k n : Nat} {i : Int32} (hk : k < g_N X.1) (he : ent (g_ad X.1) (g_cy X.1) (g_mz X.1) k (w.1 k) (w.2 k) = .inl (g_cy X.1 0, n, .inl (w.1 k))) (hi : inb i n = true) (hdg : decode cc pc = .ok (.iaload, 1)) (kk : Wk X w (pc + 1) lv (.int (w.1 k i.toNatClampNeg) :: rest)) : Wk X w pc lv (.int i :: .ref (g_ad X.1 k) :: rest) := by
  obtain ⟨G, l, sz, Q, cells, slots, p, e, R, s, m, args, below, meth, c, nL⟩ := X
  obtain ⟨hx, hb, hr, hml, hown, hts, hlk, hSw, hsz, hR, hmL⟩ := O
  intro H locs ls hP hD hS hl
  exact va_iald (D := gD G) hx hb hSw.1 hP k 0 ((wl_at hk).trans (congrArg (fun e => some (g_ad G k, e)) he)) rfl (inb_in hi) hdg (kk H locs ls hP hD hS hl)
theorem k_zald (O : Ok X cc own ret Ts fr lo mL) {k n : Nat} {i : Int32} (hk : k < g_N X.1) (he : ent (g_ad X.1) (g_cy X.1) (g_mz X.1) k (w.1 k) (w.2 k) = .inl (g_cy X.1 1, n, .inl (w.1 k))) (hi : inb i n = true) (hdg : decode cc pc = .ok (.baload, 1)) (kk : Wk X w (pc + 1) lv (.int (w.1 k i.toNatClampNeg) :: rest)) : Wk X w pc lv (.int i :: .ref (g_ad X.1 k) :: rest) := by
  obtain ⟨G, l, sz, Q, cells, slots, p, e, R, s, m, args, below, meth, c, nL⟩ := X
  obtain ⟨hx, hb, hr, hml, hown, hts, hlk, hSw, hsz, hR, hmL⟩ := O
  intro H locs ls hP hD hS hl
  exact va_zald (D := gD G) hx hb hSw.1 hP k 1 ((wl_at hk).trans (congrArg (fun e => some (g_ad G k, e)) he)) rfl (inb_in hi) hdg (kk H locs ls hP hD hS hl)
theorem k_aald (O : Ok X cc own ret Ts fr lo mL) {k n : Nat} {i : Int32} {g : Nat → Nat} (hk : k < g_N X.1) (he : ent (g_ad X.1) (g_cy X.1) (g_mz X.1) k (w.1 k) (w.2 k) = .inl (g_cy X.1 2, n, .inr (.inr (.inr (.inr (fun j => some (g_ad X.1 (g j)))))))) (hi : inb i n = true) (hdg : decode cc pc = .ok (.aaload, 1)) (kk : Wk X w (pc + 1) lv (.ref (g_ad X.1 (g i.toNatClampNeg)) :: rest)) : Wk X w pc lv (.int i :: .ref (g_ad X.1 k) :: rest) := by
  obtain ⟨G, l, sz, Q, cells, slots, p, e, R, s, m, args, below, meth, c, nL⟩ := X
  obtain ⟨hx, hb, hr, hml, hown, hts, hlk, hSw, hsz, hR, hmL⟩ := O
  intro H locs ls hP hD hS hl
  exact va_aldq (D := gD G) hx hb hSw.1 hP k 2 ((wl_at hk).trans (congrArg (fun e => some (g_ad G k, e)) he)) rfl (inb_in hi) hdg (kk H locs ls hP hD hS hl)
theorem k_iast (O : Ok X cc own ret Ts fr lo mL) {k n : Nat} {i x : Int32} (hk : k < g_N X.1) (he : ent (g_ad X.1) (g_cy X.1) (g_mz X.1) k (w.1 k) (w.2 k) = .inl (g_cy X.1 0, n, .inl (w.1 k))) (he' : ∀ f : Nat → Int32, ent (g_ad X.1) (g_cy X.1) (g_mz X.1) k f (w.2 k) = .inl (g_cy X.1 0, n, .inl f)) (hi : inb i n = true) (hdg : decode cc pc = .ok (.iastore, 1)) (kk : Wk X (up w k i.toNatClampNeg x) (pc + 1) lv rest) : Wk X w pc lv (.int x :: .int i :: .ref (g_ad X.1 k) :: rest) := by
  obtain ⟨G, l, sz, Q, cells, slots, p, e, R, s, m, args, below, meth, c, nL⟩ := X
  obtain ⟨hx, hb, hr, hml, hown, hts, hlk, hSw, hsz, hR, hmL⟩ := O
  intro H locs ls hP hD hS hl
  refine va_iast (D := gD G) hx hb hSw.1 hP hD hS k 0 ((wl_at hk).trans (congrArg (fun e => some (g_ad G k, e)) he)) rfl (inb_in hi) hdg (fun H1 locs1 hP1 hD1 hS1 => ?_)
  have hq := wl_set (G := G) (w := w) (w' := up w k i.toNatClampNeg x) (k := k) (e := .inl (g_cy G 0, n, .inl (upd (w.1 k) i.toNatClampNeg x))) (by rw [up_at]; exact he' _) up_ot
  rw [hq] at hP1 hD1
  exact kk H1 locs1 ls hP1 hD1 hS1 hl
theorem k_zast (O : Ok X cc own ret Ts fr lo mL) {k n : Nat} {i x : Int32} (hk : k < g_N X.1) (he : ent (g_ad X.1) (g_cy X.1) (g_mz X.1) k (w.1 k) (w.2 k) = .inl (g_cy X.1 1, n, .inl (w.1 k))) (he' : ∀ f : Nat → Int32, ent (g_ad X.1) (g_cy X.1) (g_mz X.1) k f (w.2 k) = .inl (g_cy X.1 1, n, .inl f)) (hi : inb i n = true) (hn : vp_nar .boolean x = x) (hdg : decode cc pc = .ok (.bastore, 1)) (kk : Wk X (up w k i.toNatClampNeg x) (pc + 1) lv rest) : Wk X w pc lv (.int x :: .int i :: .ref (g_ad X.1 k) :: rest) := by
  obtain ⟨G, l, sz, Q, cells, slots, p, e, R, s, m, args, below, meth, c, nL⟩ := X
  obtain ⟨hx, hb, hr, hml, hown, hts, hlk, hSw, hsz, hR, hmL⟩ := O
  intro H locs ls hP hD hS hl
  refine va_zast (D := gD G) hx hb hSw.1 hP hD hS k 1 ((wl_at hk).trans (congrArg (fun e => some (g_ad G k, e)) he)) rfl (inb_in hi) hdg (fun H1 locs1 hP1 hD1 hS1 => ?_)
  rw [hn] at hP1 hD1
  have hq := wl_set (G := G) (w := w) (w' := up w k i.toNatClampNeg x) (k := k) (e := .inl (g_cy G 1, n, .inl (upd (w.1 k) i.toNatClampNeg x))) (by rw [up_at]; exact he' _) up_ot
  rw [hq] at hP1 hD1
  exact kk H1 locs1 ls hP1 hD1 hS1 hl
theorem k_gets (O : Ok X cc own ret Ts fr lo mL) {index : Nat} (hlink : Cond.fieldLink own index "TrapsWatchTraps" "AROUND" "[I" ∈ Ts) (hdg : decode cc pc = .ok (.getstatic index, 3)) (kk : Wk X w (pc + 3) lv (.ref (g_ta X.1) :: rest)) : Wk X w pc lv rest := by
  obtain ⟨G, l, sz, Q, cells, slots, p, e, R, s, m, args, below, meth, c, nL⟩ := X
  obtain ⟨hx, hb, hr, hml, hown, hts, hlk, hSw, hsz, hR, hmL⟩ := O
  intro H locs ls hP hD hS hl
  exact va_gets hx hb hSw.2.1 hS hown (hts _ hlink) (fun _ h9 => h9) hdg (kk H locs ls hP hD hS hl)
theorem k_tald (O : Ok X cc own ret Ts fr lo mL) {i : Int32} (hi : inb i 12 = true) (hdg : decode cc pc = .ok (.iaload, 1)) (kk : Wk X w (pc + 1) lv (.int (aro i.toNatClampNeg) :: rest)) : Wk X w pc lv (.int i :: .ref (g_ta X.1) :: rest) := by
  obtain ⟨G, l, sz, Q, cells, slots, p, e, R, s, m, args, below, meth, c, nL⟩ := X
  obtain ⟨hx, hb, hr, hml, hown, hts, hlk, hSw, hsz, hR, hmL⟩ := O
  intro H locs ls hP hD hS hl
  exact va_ti hx hb hSw.2.2.1 hS (inb_in hi) rfl hdg (kk H locs ls hP hD hS hl)
theorem k_iret (O : Ok X cc own (some .int) Ts fr lo mL) {v : Int32} (hdg : decode cc pc = .ok (.ireturn, 1)) (ho : Ro X (some (.int v), w)) : Wk X w pc lv [.int v] := by
  obtain ⟨G, l, sz, Q, cells, slots, p, e, R, s, m, args, below, meth, c, nL⟩ := X
  obtain ⟨hx, hb, hr, hml, hown, hts, hlk, hSw, hsz, hR, hmL⟩ := O
  intro H locs ls hP hD hS hl
  obtain ⟨hQ, h0, h1⟩ := ho
  subst hQ
  subst h0
  subst h1
  exact W.iret (v := v) hx hb hr (fun t ht hW => ⟨rfl, ⟨by rw [ht]; exact hP, hD⟩, hS.F ht⟩) hS.2.2 hdg hlk
theorem k_zret (O : Ok X cc own (some .boolean) Ts fr lo mL) {v : Int32} (hn : narrow .boolean (.int v) = .int v) (hdg : decode cc pc = .ok (.ireturn, 1)) (ho : Ro X (some (.int v), w)) : Wk X w pc lv [.int v] := by
  obtain ⟨G, l, sz, Q, cells, slots, p, e, R, s, m, args, below, meth, c, nL⟩ := X
  obtain ⟨hx, hb, hr, hml, hown, hts, hlk, hSw, hsz, hR, hmL⟩ := O
  intro H locs ls hP hD hS hl
  obtain ⟨hQ, h0, h1⟩ := ho
  subst hQ
  subst h0
  subst h1
  exact W.zret (v := v) hx hb hr hn (fun t ht hW => ⟨rfl, ⟨by rw [ht]; exact hP, hD⟩, hS.F ht⟩) hS.2.2 hdg hlk
theorem k_lret (O : Ok X cc own (some .long) Ts fr lo mL) {v : Int64} (hdg : decode cc pc = .ok (.lreturn, 1)) (ho : Ro X (some (.long v), w)) : Wk X w pc lv [.long v] := by
  obtain ⟨G, l, sz, Q, cells, slots, p, e, R, s, m, args, below, meth, c, nL⟩ := X
  obtain ⟨hx, hb, hr, hml, hown, hts, hlk, hSw, hsz, hR, hmL⟩ := O
  intro H locs ls hP hD hS hl
  obtain ⟨hQ, h0, h1⟩ := ho
  subst hQ
  subst h0
  subst h1
  exact W.lret (v := v) hx hb hr (fun t ht hW => ⟨rfl, ⟨by rw [ht]; exact hP, hD⟩, hS.F ht⟩) hS.2.2 hdg hlk
theorem k_vret (O : Ok X cc own (none) Ts fr lo mL) (hdg : decode cc pc = .ok (.return_, 1)) (ho : Ro X (none, w)) : Wk X w pc lv [] := by
  obtain ⟨G, l, sz, Q, cells, slots, p, e, R, s, m, args, below, meth, c, nL⟩ := X
  obtain ⟨hx, hb, hr, hml, hown, hts, hlk, hSw, hsz, hR, hmL⟩ := O
  intro H locs ls hP hD hS hl
  obtain ⟨hQ, h0, h1⟩ := ho
  subst hQ
  subst h0
  subst h1
  exact W.vret hx hb hr (fun t ht hW => ⟨rfl, ⟨by rw [ht]; exact hP, hD⟩, hS.F ht⟩) hS.2.2 hdg hlk
theorem Aw_le {G : Gl} {a b : Nat} (h : a ≤ b) : ∀ q, Aw G b q → Aw G a q := fun q hq => hq.elim Or.inl (fun z => Or.inr (Nat.le_trans h z))
theorem Aw_D {G : Gl} {a b : Nat} {w : Wd} {A : Nat → Prop} (h : va_D A (wl G w)) : va_D (Aw G b) (wl G w) := by
  refine ⟨h.1, fun k q hk => Or.inl ⟨k, ?_⟩⟩
  have hk' : k < g_N G := by simpa [wl] using (List.getElem?_eq_some_iff.mp hk).1
  rw [wl_at hk'] at hk
  cases hk
  exact ⟨hk', rfl⟩
theorem Pw_blind {G : Gl} {sz : Nat} {w : Wd} {av : List Value} : FrameBlind (va_Pc av (Pw G sz w)) := fun a U g mk q => ⟨q.1, q.2.1, q.2.2.1, Sw.moved (State.WarmedH.refl U) q.2.2.2⟩
theorem k_callV (O : Ok X cc own ret Ts fr lo mL) {y : MethodName} {bytes : ByteArray} {maxL cfr clo index n : Nat} {ret' : Option FieldType} {ws ws' : List Cond} {st As rest : List Value} {o : Option Value × Wd} {C : String} {k ci : Nat} {fs : List Value} {q : vw_C} (hM : Ct (x_l X) y ws cfr clo X.1 (.ref (g_ad X.1 k) :: As) w o) (hG : GoodIn Ts (wsV own index C y ws)) (hw : ws = Cond.code y bytes maxL ret' :: ws') (hd : y.cls ≠ "java/lang/invoke/MethodHandle" ∧ y.cls ≠ "java/lang/invoke/VarHandle" ∧ (parseMethodDescriptor y.desc).map (fun d => d.parameters.length) = some n) (hR9 : cfr + 1 ≤ fr ∧ 8 + (maxL + 11) + clo ≤ lo) (hk : k < g_N X.1) (he : ent (g_ad X.1) (g_cy X.1) (g_mz X.1) k (w.1 k) (w.2 k) = .inr (ci, fs)) (hc : vwCl[ci]? = some q) (hC : q.1 = C) (hyC : y.cls = C) (hn : As.length = n) (hst : st = As.reverse ++ .ref (g_ad X.1 k) :: rest) (hcat : (rest.map fun v => v.category).sum ≤ 8) (hdg : decode cc pc = .ok (.invokevirtual index, 3)) (kk : Wk X o.2 (pc + 3) lv (o.1.toList ++ rest)) : Wk X w pc lv st := by
  obtain ⟨G, l, sz, Q, cells, slots, p, e, R, s, m, args, below, meth, c, nL⟩ := X
  obtain ⟨hx, hb, hr, hml, hown, hts, hlk, hSw, hsz, hR, hmL⟩ := O
  intro H locs ls hP hD hS hl
  subst hst
  have hsS : sz ≤ H.size := by rw [← hsz]; exact hS.1
  have hSw1 : Sw G (Aw G H.size) s H := (hSw.kept (fun a h1 h2 => hS.2.1 a h1 h2)).narrow (Aw_le hsS)
  have hpre : ∀ U : State, U.heap = H → s.WarmedH U.vm → va_Pc (.ref (g_ad G k) :: As) (Pw G H.size w) (.ref (g_ad G k) :: As).toArray U := fun U hU hW => ⟨rfl, by rw [hU], ⟨by rw [hU]; exact hP, Aw_D (a := 0) hD⟩, by rw [hU]; exact Sw.moved hW hSw1⟩
  have hrun := va_runV (R := R) (As := As) (rest := rest) (locs := locs) (cells := cells) (slots := slots) (g := F0 m pc ls (As.reverse ++ .ref (g_ad G k) :: rest)) (below := below) (meth := meth) (e := e) ⟨hx, hb, hml, hown, hts⟩ (hM H.size) (cwV n hts hG hw rfl rfl ⟨hyC, hd⟩ ⟨Nat.le_trans hR9.1 hR.1, Nat.le_trans hR9.2 hR.2.1⟩) ⟨Pw_blind, by rw [← hC]; exact va_recv hSw.1 hP hc ((wl_at hk).trans (congrArg (fun e => some (g_ad G k, e)) he)), hpre⟩ rfl hn hl.1 rfl (lv_room hcat) hdg hR.2.2
  intro T hT X9
  obtain ⟨v, st₀, t, T', L, h0, X', hL, e1, e2, ⟨hv, ⟨hb1, hb2⟩, hz, hk⟩, stp⟩ := hrun T hT X9
  have hv : v = o.1 := by injection hv
  subst hv
  rw [h0] at hz hk
  have hAA : ∀ q, Aw G H.size q → Aw G sz q := Aw_le hsS
  obtain ⟨t2, a1, b1⟩ := kk T'.heap (locs ++ L) ls (by rw [e1]; exact hb1) (Aw_D (a := 0) hb2) ⟨Nat.le_trans hS.1 (by rw [e1]; exact hz), fun q h1 h2 => by rw [e1, hk q (Nat.lt_of_lt_of_le h1 hS.1) (fun z => h2 (hAA q z))]; exact hS.2.1 q h1 h2, fun q hq => by
      rcases List.mem_append.mp hq with h | h
      · exact hS.2.2 q h
      · exact hAA _ (hL q h)⟩ hl T' rfl X'
  exact ⟨t2, stp t2 a1, b1⟩
theorem k_callS (O : Ok X cc own ret Ts fr lo mL) {y : MethodName} {bytes : ByteArray} {maxL cfr clo index n : Nat} {ret' : Option FieldType} {ws ws' : List Cond} {st As rest : List Value} {o : Option Value × Wd} (hM : Ct (x_l X) y ws cfr clo X.1 (As) w o) (hG : GoodIn Ts (va_wsS own index y ws)) (hw : ws = Cond.code y bytes maxL ret' :: ws') (hd : y.cls ≠ "java/lang/invoke/MethodHandle" ∧ y.cls ≠ "java/lang/invoke/VarHandle" ∧ (parseMethodDescriptor y.desc).map (fun d => d.parameters.length) = some n) (hR9 : cfr + 1 ≤ fr ∧ 8 + (maxL + 11) + clo ≤ lo) (hn : As.length = n) (hst : st = As.reverse ++ rest) (hcat : (rest.map fun v => v.category).sum ≤ 8) (hdg : decode cc pc = .ok (.invokestatic index, 3)) (kk : Wk X o.2 (pc + 3) lv (o.1.toList ++ rest)) : Wk X w pc lv st := by
  obtain ⟨G, l, sz, Q, cells, slots, p, e, R, s, m, args, below, meth, c, nL⟩ := X
  obtain ⟨hx, hb, hr, hml, hown, hts, hlk, hSw, hsz, hR, hmL⟩ := O
  intro H locs ls hP hD hS hl
  subst hst
  have hsS : sz ≤ H.size := by rw [← hsz]; exact hS.1
  have hSw1 : Sw G (Aw G H.size) s H := (hSw.kept (fun a h1 h2 => hS.2.1 a h1 h2)).narrow (Aw_le hsS)
  have hpre : ∀ U : State, U.heap = H → s.WarmedH U.vm → va_Pc (As) (Pw G H.size w) (As).toArray U := fun U hU hW => ⟨rfl, by rw [hU], ⟨by rw [hU]; exact hP, Aw_D (a := 0) hD⟩, by rw [hU]; exact Sw.moved hW hSw1⟩
  have hrun := va_runS (R := R) (As := As) (rest := rest) (locs := locs) (cells := cells) (slots := slots) (g := F0 m pc ls (As.reverse ++ rest)) (below := below) (meth := meth) (e := e) ⟨hx, hb, hml, hown, hts⟩ (hM H.size) (va_cwS n hts hG hw rfl rfl hd ⟨Nat.le_trans hR9.1 hR.1, Nat.le_trans hR9.2 hR.2.1⟩) ⟨Pw_blind, hpre⟩ rfl hn hl.1 rfl (lv_room hcat) hdg hR.2.2
  intro T hT X9
  obtain ⟨v, st₀, t, T', L, h0, X', hL, e1, e2, ⟨hv, ⟨hb1, hb2⟩, hz, hk⟩, stp⟩ := hrun T hT X9
  have hv : v = o.1 := by injection hv
  subst hv
  rw [h0] at hz hk
  have hAA : ∀ q, Aw G H.size q → Aw G sz q := Aw_le hsS
  obtain ⟨t2, a1, b1⟩ := kk T'.heap (locs ++ L) ls (by rw [e1]; exact hb1) (Aw_D (a := 0) hb2) ⟨Nat.le_trans hS.1 (by rw [e1]; exact hz), fun q h1 h2 => by rw [e1, hk q (Nat.lt_of_lt_of_le h1 hS.1) (fun z => h2 (hAA q z))]; exact hS.2.1 q h1 h2, fun q hq => by
      rcases List.mem_append.mp hq with h | h
      · exact hS.2.2 q h
      · exact hAA _ (hL q h)⟩ hl T' rfl X'
  exact ⟨t2, stp t2 a1, b1⟩
theorem k_callN (O : Ok X cc own ret Ts fr lo mL) {y : MethodName} {bytes : ByteArray} {maxL cfr clo index n : Nat} {ret' : Option FieldType} {ws ws' : List Cond} {st As rest : List Value} {o : Option Value × Wd} (hM : Ct (x_l X) y ws cfr clo X.1 (As) w o) (hG : GoodIn Ts ws) (hw : ws = Cond.code y bytes maxL ret' :: ws') (hd : y.cls ≠ "java/lang/invoke/MethodHandle" ∧ y.cls ≠ "java/lang/invoke/VarHandle" ∧ (parseMethodDescriptor y.desc).map (fun d => d.parameters.length) = some n) (hR9 : cfr + 1 ≤ fr ∧ 8 + (maxL + 11) + clo ≤ lo) (hnw : (own, index, y) ∈ nestW) (hini : Cond.initialized y.cls ∈ Ts) (hstat : Cond.static y ∈ Ts) (hn : As.length = n) (hst : st = As.reverse ++ rest) (hcat : (rest.map fun v => v.category).sum ≤ 8) (hdg : decode cc pc = .ok (.invokestatic index, 3)) (kk : Wk X o.2 (pc + 3) lv (o.1.toList ++ rest)) : Wk X w pc lv st := by
  obtain ⟨G, l, sz, Q, cells, slots, p, e, R, s, m, args, below, meth, c, nL⟩ := X
  obtain ⟨hx, hb, hr, hml, hown, hts, hlk, hSw, hsz, hR, hmL⟩ := O
  intro H locs ls hP hD hS hl
  subst hst
  have hsS : sz ≤ H.size := by rw [← hsz]; exact hS.1
  have hSw1 : Sw G (Aw G H.size) s H := (hSw.kept (fun a h1 h2 => hS.2.1 a h1 h2)).narrow (Aw_le hsS)
  have hpre : ∀ U : State, U.heap = H → s.WarmedH U.vm → va_Pc (As) (Pw G H.size w) (As).toArray U := fun U hU hW => ⟨rfl, by rw [hU], ⟨by rw [hU]; exact hP, Aw_D (a := 0) hD⟩, by rw [hU]; exact Sw.moved hW hSw1⟩
  have hrun := va_runSN (host := RX7) (R := R) (As := As) (rest := rest) (locs := locs) (cells := cells) (slots := slots) (g := F0 m pc ls (As.reverse ++ rest)) (below := below) (meth := meth) (e := e) ⟨hx, hb, hml, hown, hts⟩ (hM H.size) ⟨va_cnB n hts hG hw rfl rfl (hSw.2.2.2.1 _ hnw) (hts _ hini) hd ⟨Nat.le_trans hR9.1 hR.1, Nat.le_trans hR9.2 hR.2.1⟩, hts _ hstat, trivial⟩ ⟨Pw_blind, hpre⟩ rfl hn hl.1 rfl (lv_room hcat) hdg hR.2.2
  intro T hT X9
  obtain ⟨v, st₀, t, T', L, h0, X', hL, e1, e2, ⟨hv, ⟨hb1, hb2⟩, hz, hk⟩, stp⟩ := hrun T hT X9
  have hv : v = o.1 := by injection hv
  subst hv
  rw [h0] at hz hk
  have hAA : ∀ q, Aw G H.size q → Aw G sz q := Aw_le hsS
  obtain ⟨t2, a1, b1⟩ := kk T'.heap (locs ++ L) ls (by rw [e1]; exact hb1) (Aw_D (a := 0) hb2) ⟨Nat.le_trans hS.1 (by rw [e1]; exact hz), fun q h1 h2 => by rw [e1, hk q (Nat.lt_of_lt_of_le h1 hS.1) (fun z => h2 (hAA q z))]; exact hS.2.1 q h1 h2, fun q hq => by
      rcases List.mem_append.mp hq with h | h
      · exact hS.2.2 q h
      · exact hAA _ (hL q h)⟩ hl T' rfl X'
  exact ⟨t2, stp t2 a1, b1⟩
theorem k_callVi (O : Ok X cc own ret Ts fr lo mL) {y : MethodName} {bytes : ByteArray} {maxL cfr clo index n : Nat} {ret' : Option FieldType} {ws ws' : List Cond} {st As rest : List Value} {w1 : Wd} {r : Int32} {C : String} {k ci : Nat} {fs : List Value} {q : vw_C} (hM : Ct (x_l X) y ws cfr clo X.1 (.ref (g_ad X.1 k) :: As) w (some (.int r), w1)) (hG : GoodIn Ts (wsV own index C y ws)) (hw : ws = Cond.code y bytes maxL ret' :: ws') (hd : y.cls ≠ "java/lang/invoke/MethodHandle" ∧ y.cls ≠ "java/lang/invoke/VarHandle" ∧ (parseMethodDescriptor y.desc).map (fun d => d.parameters.length) = some n) (hR9 : cfr + 1 ≤ fr ∧ 8 + (maxL + 11) + clo ≤ lo) (hk : k < g_N X.1) (he : ent (g_ad X.1) (g_cy X.1) (g_mz X.1) k (w.1 k) (w.2 k) = .inr (ci, fs)) (hc : vwCl[ci]? = some q) (hC : q.1 = C) (hyC : y.cls = C) (hn : As.length = n) (hst : st = As.reverse ++ .ref (g_ad X.1 k) :: rest) (hcat : (rest.map fun v => v.category).sum ≤ 8) (hdg : decode cc pc = .ok (.invokevirtual index, 3)) (kk : Wk X w1 (pc + 3) lv (.int r :: rest)) : Wk X w pc lv st := k_callV O hM hG hw hd hR9 hk he hc hC hyC hn hst hcat hdg kk
theorem k_callVv (O : Ok X cc own ret Ts fr lo mL) {y : MethodName} {bytes : ByteArray} {maxL cfr clo index n : Nat} {ret' : Option FieldType} {ws ws' : List Cond} {st As rest : List Value} {w1 : Wd} {C : String} {k ci : Nat} {fs : List Value} {q : vw_C} (hM : Ct (x_l X) y ws cfr clo X.1 (.ref (g_ad X.1 k) :: As) w (none, w1)) (hG : GoodIn Ts (wsV own index C y ws)) (hw : ws = Cond.code y bytes maxL ret' :: ws') (hd : y.cls ≠ "java/lang/invoke/MethodHandle" ∧ y.cls ≠ "java/lang/invoke/VarHandle" ∧ (parseMethodDescriptor y.desc).map (fun d => d.parameters.length) = some n) (hR9 : cfr + 1 ≤ fr ∧ 8 + (maxL + 11) + clo ≤ lo) (hk : k < g_N X.1) (he : ent (g_ad X.1) (g_cy X.1) (g_mz X.1) k (w.1 k) (w.2 k) = .inr (ci, fs)) (hc : vwCl[ci]? = some q) (hC : q.1 = C) (hyC : y.cls = C) (hn : As.length = n) (hst : st = As.reverse ++ .ref (g_ad X.1 k) :: rest) (hcat : (rest.map fun v => v.category).sum ≤ 8) (hdg : decode cc pc = .ok (.invokevirtual index, 3)) (kk : Wk X w1 (pc + 3) lv (rest)) : Wk X w pc lv st := k_callV O hM hG hw hd hR9 hk he hc hC hyC hn hst hcat hdg kk
theorem k_callSi (O : Ok X cc own ret Ts fr lo mL) {y : MethodName} {bytes : ByteArray} {maxL cfr clo index n : Nat} {ret' : Option FieldType} {ws ws' : List Cond} {st As rest : List Value} {w1 : Wd} {r : Int32} (hM : Ct (x_l X) y ws cfr clo X.1 (As) w (some (.int r), w1)) (hG : GoodIn Ts (va_wsS own index y ws)) (hw : ws = Cond.code y bytes maxL ret' :: ws') (hd : y.cls ≠ "java/lang/invoke/MethodHandle" ∧ y.cls ≠ "java/lang/invoke/VarHandle" ∧ (parseMethodDescriptor y.desc).map (fun d => d.parameters.length) = some n) (hR9 : cfr + 1 ≤ fr ∧ 8 + (maxL + 11) + clo ≤ lo) (hn : As.length = n) (hst : st = As.reverse ++ rest) (hcat : (rest.map fun v => v.category).sum ≤ 8) (hdg : decode cc pc = .ok (.invokestatic index, 3)) (kk : Wk X w1 (pc + 3) lv (.int r :: rest)) : Wk X w pc lv st := k_callS O hM hG hw hd hR9 hn hst hcat hdg kk
theorem k_callSv (O : Ok X cc own ret Ts fr lo mL) {y : MethodName} {bytes : ByteArray} {maxL cfr clo index n : Nat} {ret' : Option FieldType} {ws ws' : List Cond} {st As rest : List Value} {w1 : Wd} (hM : Ct (x_l X) y ws cfr clo X.1 (As) w (none, w1)) (hG : GoodIn Ts (va_wsS own index y ws)) (hw : ws = Cond.code y bytes maxL ret' :: ws') (hd : y.cls ≠ "java/lang/invoke/MethodHandle" ∧ y.cls ≠ "java/lang/invoke/VarHandle" ∧ (parseMethodDescriptor y.desc).map (fun d => d.parameters.length) = some n) (hR9 : cfr + 1 ≤ fr ∧ 8 + (maxL + 11) + clo ≤ lo) (hn : As.length = n) (hst : st = As.reverse ++ rest) (hcat : (rest.map fun v => v.category).sum ≤ 8) (hdg : decode cc pc = .ok (.invokestatic index, 3)) (kk : Wk X w1 (pc + 3) lv (rest)) : Wk X w pc lv st := k_callS O hM hG hw hd hR9 hn hst hcat hdg kk
theorem k_callNi (O : Ok X cc own ret Ts fr lo mL) {y : MethodName} {bytes : ByteArray} {maxL cfr clo index n : Nat} {ret' : Option FieldType} {ws ws' : List Cond} {st As rest : List Value} {w1 : Wd} {r : Int32} (hM : Ct (x_l X) y ws cfr clo X.1 (As) w (some (.int r), w1)) (hG : GoodIn Ts ws) (hw : ws = Cond.code y bytes maxL ret' :: ws') (hd : y.cls ≠ "java/lang/invoke/MethodHandle" ∧ y.cls ≠ "java/lang/invoke/VarHandle" ∧ (parseMethodDescriptor y.desc).map (fun d => d.parameters.length) = some n) (hR9 : cfr + 1 ≤ fr ∧ 8 + (maxL + 11) + clo ≤ lo) (hnw : (own, index, y) ∈ nestW) (hini : Cond.initialized y.cls ∈ Ts) (hstat : Cond.static y ∈ Ts) (hn : As.length = n) (hst : st = As.reverse ++ rest) (hcat : (rest.map fun v => v.category).sum ≤ 8) (hdg : decode cc pc = .ok (.invokestatic index, 3)) (kk : Wk X w1 (pc + 3) lv (.int r :: rest)) : Wk X w pc lv st := k_callN O hM hG hw hd hR9 hnw hini hstat hn hst hcat hdg kk
theorem k_callNv (O : Ok X cc own ret Ts fr lo mL) {y : MethodName} {bytes : ByteArray} {maxL cfr clo index n : Nat} {ret' : Option FieldType} {ws ws' : List Cond} {st As rest : List Value} {w1 : Wd} (hM : Ct (x_l X) y ws cfr clo X.1 (As) w (none, w1)) (hG : GoodIn Ts ws) (hw : ws = Cond.code y bytes maxL ret' :: ws') (hd : y.cls ≠ "java/lang/invoke/MethodHandle" ∧ y.cls ≠ "java/lang/invoke/VarHandle" ∧ (parseMethodDescriptor y.desc).map (fun d => d.parameters.length) = some n) (hR9 : cfr + 1 ≤ fr ∧ 8 + (maxL + 11) + clo ≤ lo) (hnw : (own, index, y) ∈ nestW) (hini : Cond.initialized y.cls ∈ Ts) (hstat : Cond.static y ∈ Ts) (hn : As.length = n) (hst : st = As.reverse ++ rest) (hcat : (rest.map fun v => v.category).sum ≤ 8) (hdg : decode cc pc = .ok (.invokestatic index, 3)) (kk : Wk X w1 (pc + 3) lv (rest)) : Wk X w pc lv st := k_callN O hM hG hw hd hR9 hnw hini hstat hn hst hcat hdg kk
theorem ite_t {c : Prop} [Decidable c] {α : Type} {a b z : α} (hc : c) (h : (if c then a else b) = z) : a = z := by rw [if_pos hc] at h; exact h
theorem ite_f {c : Prop} [Decidable c] {α : Type} {a b z : α} (hc : ¬ c) (h : (if c then a else b) = z) : b = z := by rw [if_neg hc] at h; exact h
theorem ite_n {c : Prop} [Decidable c] {α : Type} {a b z : α} (hc : ¬ ¬ c) (h : (if c then a else b) = z) : a = z := ite_t (Decidable.not_not.mp hc) h
theorem inb_lt {i : Int32} {n : Nat} (h : inb i n = true) : i.toNatClampNeg < n := Nat.not_le.mp fun q => inb_in h (Or.inr q)
theorem scb_ah {i : Int32} (h : inb i 16 = true) : scb (28 + 4 * i.toNatClampNeg) = true := by
  have := inb_lt h
  simp [scb]
  omega
theorem scb_sl {i : Int32} (h : inb i 2 = true) : scb (96 + 4 * i.toNatClampNeg) = true := by
  have := inb_lt h
  simp [scb]
  omega
theorem pl_back {p : Nat} (h : plb p = true) : (Int32.ofNat p).toNatClampNeg = p := by rcases plb_or h with rfl | rfl <;> decide
end KK
