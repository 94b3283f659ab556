/-! making: the worlds of the constructors, lists that grow -/
abbrev x_s (X : Cx) : State := X.2.2.2.2.2.2.2.2.2.1
def Wc (X : Cx) (ws : va_W) (cells slots pc : Nat) (lv : List (Nat × Value)) (st : List Value) : Prop :=
  match X with
  | (G, l, sz, Q, _, _, p, e, R, s, m, args, below, meth, c, nL) =>
    ∀ (H : Heap) (locs : List Loc) (ls : Array Slot), va_P (gD G) vwCl ws H → va_D (Aw G sz) ws → va_S (Aw G sz) s.heap H locs → lv_has ls nL lv → W p l e R s m args below meth c H locs cells slots Q (F0 m pc ls st)
def Rc (X : Cx) (mc ms : Nat) : Prop := match X with
  | (G, l, sz, Q, _, _, p, e, R, s, m, args, below, meth, c, nL) => R.cells = mc ∧ R.slots = ms
def Mi (X : Cx) : Prop := match X with
  | (G, l, sz, Q, _, _, p, e, R, s, m, args, below, meth, c, nL) => meth.name = "<init>"
def Qi (G : Gl) (sz : Nat) (B : (Nat → Nat) → va_W) : Array Value → State → Outcome → State → Prop := fun _ st oc t => oc = .returned none ∧ (∃ a, va_P (gD G) vwCl (B a) t.heap ∧ va_D (Aw G sz) (B a)) ∧ va_F (Aw G sz) st t
def Pi (G : Gl) (sz : Nat) (e0 : va_E) (U : State) : Prop := U.heap.size = sz ∧ (va_P (gD G) vwCl [(g_ad G 0, e0)] U.heap ∧ va_D (Aw G sz) [(g_ad G 0, e0)]) ∧ Sw G (Aw G sz) U U.heap
/-- a constructor's contract: from the one cell e0 to the cells B a, a the new addresses -/
def Ci (l : Launch) (y : MethodName) (ws : List Cond) (fr lo mc ms : Nat) (G : Gl) (av : List Value) (e0 : va_E) (B : (Nat → Nat) → va_W) : Prop := ∀ sz : Nat, Met l y ws { frames := fr, cells := mc, slots := ms, locals := lo } (va_Pc av (Pi G sz e0)) (Qi G sz B) mc ms (Aw G sz)
def Rq (X : Cx) (mc ms : Nat) (B : (Nat → Nat) → va_W) : Prop := match X with
  | (G, l, sz, Q, _, _, p, e, R, s, m, args, below, meth, c, nL) => Q = MQ below (Qi G sz B) args s mc ms (Aw G sz)
abbrev g1 (G : Gl) (q : Nat) : Gl := (G.1, G.2.1, fun _ => q, g_cy G, 1, g_ta G, none)
theorem va_P_l {D : va_G} {cl : List vw_C} {a b : va_W} {H : Heap} (h : va_P D cl (a ++ b) H) : va_P D cl a H := fun k q hk => h k q (by rw [List.getElem?_append_left (List.getElem?_eq_some_iff.mp hk).1]; exact hk)
theorem va_P_r {D : va_G} {cl : List vw_C} {a b : va_W} {H : Heap} (h : va_P D cl (a ++ b) H) : va_P D cl b H := fun k q hk => h (a.length + k) q (by rw [List.getElem?_append_right (by omega), Nat.add_sub_cancel_left]; exact hk)
theorem va_D_l {A : Nat → Prop} {a b : va_W} (h : va_D A (a ++ b)) : va_D A a := by
  have key : ∀ (k : Nat) (q : Nat × va_E), a[k]? = some q → (a ++ b)[k]? = some q := fun k q hk => by rw [List.getElem?_append_left (List.getElem?_eq_some_iff.mp hk).1]; exact hk
  exact ⟨fun i j p q hi hj e => h.1 i j p q (key i p hi) (key j q hj) e, fun k q hk => h.2 k q (key k q hk)⟩
theorem va_D_r {A : Nat → Prop} {a b : va_W} (h : va_D A (a ++ b)) : va_D A b := by
  have key : ∀ (k : Nat) (q : Nat × va_E), b[k]? = some q → (a ++ b)[a.length + k]? = some q := fun k q hk => by rw [List.getElem?_append_right (by omega), Nat.add_sub_cancel_left]; exact hk
  exact ⟨fun i j p q hi hj e => by have := h.1 _ _ p q (key i p hi) (key j q hj) e; omega, fun k q hk => h.2 _ q (key k q hk)⟩
theorem va_D_x {A : Nat → Prop} {a b : va_W} (h : va_D A (a ++ b)) {i j : Nat} {p q : Nat × va_E} (hi : a[i]? = some p) (hj : b[j]? = some q) : p.1 ≠ q.1 := by
  intro e
  have hl := (List.getElem?_eq_some_iff.mp hi).1
  have h1 : (a ++ b)[i]? = some p := by rw [List.getElem?_append_left hl]; exact hi
  have h2 : (a ++ b)[a.length + j]? = some q := by rw [List.getElem?_append_right (by omega), Nat.add_sub_cancel_left]; exact hj
  have := h.1 _ _ p q h1 h2 e
  omega
theorem Ci.start {l : Launch} {y : MethodName} {ws ws' : List Cond} {fr lo mc ms : Nat} {G : Gl} {av : List Value} {e0 : va_E} {B : (Nat → Nat) → va_W} {cc : ByteArray} {maxL : Nat} {own : String} {lv : List (Nat × Value)} (hy : plainName y.cls = true) (hw : ws = Cond.code y cc maxL none :: ws') (hc : y.cls = own) (hyn : y.name = "<init>") (hlv : lv_args 0 av = lv) (hle : (lg_sl av).length ≤ maxL)
    (body : ∀ X : Cx, G = X.1 → Rq X mc ms B → l = x_l X → Rc X mc ms → Mi X → Ok X cc own none ws fr lo maxL → Wc X [(g_ad G 0, e0)] 0 0 0 lv []) : Ci l y ws fr lo mc ms G av e0 B := by
  intro sz
  refine Met.ofW (cc := cc) (maxL := maxL) (ret := none) hy hw ?_
  intro p e s m args below meth c s₁ B9 hml hv
  obtain ⟨rfl, hsz, hB, hS⟩ := hv
  have hts := atoms_spec (ws := ws) B9.pre
  have hown : s.vm.findClass own = some m.cls := by rw [← hc]; exact findClass_of_methodNamed B9.named
  have hin : meth.name = "<init>" := by rw [← hyn]; exact (name_of_methodNamed B9.named B9.method).1
  have hl := lv_entry av (n := maxL) hle
  rw [lg_entry_eq]
  rw [hlv] at hl
  exact body (G, l, sz, MQ below (Qi G sz B) av.toArray s mc ms (Aw G sz), 0, 0, p, e, { frames := fr, cells := mc, slots := ms, locals := lo }, s, m, av.toArray, below, meth, c, maxL) rfl rfl rfl ⟨rfl, rfl⟩ hin
    ⟨B9.exec, B9.bytes, B9.returns, hml, hown, hts, B9.notSynchronized, hS, hsz, ⟨Nat.le_refl _, Nat.le_refl _, Nat.zero_le _, Nat.zero_le _⟩, rfl⟩ s.heap [] _ hB.1 hB.2 va_S.rf hl
section KC
variable {X : Cx} {cc : ByteArray} {own : String} {ret9 : Option FieldType} {Ts : List Cond} {fr lo mL : Nat} {ws ws9 : va_W} {cells slots pc : Nat} {lv lv' : List (Nat × Value)} {rest st : List Value} {MC MS : Nat}
theorem q_ws (h : ws = ws9) (k : Wc X ws9 cells slots pc lv st) : Wc X ws cells slots pc lv st := by subst h; exact k
theorem q_wd {k n : Nat} (h1 : cells ≤ k) (h2 : slots ≤ n) (kk : Wc X ws k n pc lv st) : Wc X ws cells slots pc lv st := by
  obtain ⟨G, l, sz, Q, c0, s0, p, e, R, s, m, args, below, meth, c, nL⟩ := X
  intro H locs ls hP hD hS hl
  exact W.widen h1 h2 (kk H locs ls hP hD hS hl)
theorem q_iconst (O : Ok X cc own ret9 Ts fr lo mL) {n : Int} {v : Int32} (hdg : decode cc pc = .ok (.iconst n, 1)) (hv : Int32.ofInt n = v) (k : Wc X ws cells slots (pc + 1) lv (.int v :: rest)) : Wc X ws cells slots pc lv (rest) := by
  obtain ⟨G, l, sz, Q, c0, s0, p, e, R, s, m, args, below, meth, c, nL⟩ := X
  obtain ⟨hx, hb, hr, hml, hown, hts, hlk, hSw, hsz, hR, hmL⟩ := O
  intro H locs ls hP hD hS hl
  exact lv_iconst hx hb hdg hv (k H locs ls hP hD hS hl)
theorem q_bipush (O : Ok X cc own ret9 Ts fr lo mL) {n : Int} {v : Int32} (hdg : decode cc pc = .ok (.bipush n, 2)) (hv : (Int8.ofInt n).toInt32 = v) (k : Wc X ws cells slots (pc + 2) lv (.int v :: rest)) : Wc X ws cells slots pc lv (rest) := by
  obtain ⟨G, l, sz, Q, c0, s0, p, e, R, s, m, args, below, meth, c, nL⟩ := X
  obtain ⟨hx, hb, hr, hml, hown, hts, hlk, hSw, hsz, hR, hmL⟩ := O
  intro H locs ls hP hD hS hl
  exact lv_bipush hx hb hdg hv (k H locs ls hP hD hS hl)
theorem q_sipush (O : Ok X cc own ret9 Ts fr lo mL) {n : Int} {v : Int32} (hdg : decode cc pc = .ok (.sipush n, 3)) (hv : (Int16.ofInt n).toInt32 = v) (k : Wc X ws cells slots (pc + 3) lv (.int v :: rest)) : Wc X ws cells slots pc lv (rest) := by
  obtain ⟨G, l, sz, Q, c0, s0, p, e, R, s, m, args, below, meth, c, nL⟩ := X
  obtain ⟨hx, hb, hr, hml, hown, hts, hlk, hSw, hsz, hR, hmL⟩ := O
  intro H locs ls hP hD hS hl
  exact lv_sipush hx hb hdg hv (k H locs ls hP hD hS hl)
theorem q_lconst (O : Ok X cc own ret9 Ts fr lo mL) {n : Fin 2} {v : Int64} (hdg : decode cc pc = .ok (.lconst n, 1)) (hv : Int64.ofNat (n : Nat) = v) (k : Wc X ws cells slots (pc + 1) lv (.long v :: rest)) : Wc X ws cells slots pc lv (rest) := by
  obtain ⟨G, l, sz, Q, c0, s0, p, e, R, s, m, args, below, meth, c, nL⟩ := X
  obtain ⟨hx, hb, hr, hml, hown, hts, hlk, hSw, hsz, hR, hmL⟩ := O
  intro H locs ls hP hD hS hl
  exact lv_lconst hx hb hdg hv (k H locs ls hP hD hS hl)
theorem q_iload_n (O : Ok X cc own ret9 Ts fr lo mL) {i : Fin 4} {x : Int32} (hdg : decode cc pc = .ok (.iload_n i, 1)) (j : Nat) (hj : lv[j]? = some ((i : Nat), .int x)) (k : Wc X ws cells slots (pc + 1) lv (.int x :: rest)) : Wc X ws cells slots pc lv (rest) := by
  obtain ⟨G, l, sz, Q, c0, s0, p, e, R, s, m, args, below, meth, c, nL⟩ := X
  obtain ⟨hx, hb, hr, hml, hown, hts, hlk, hSw, hsz, hR, hmL⟩ := O
  intro H locs ls hP hD hS hl
  exact lv_iload_n hx hb hdg rfl (lv_at hl j hj) (k H locs ls hP hD hS hl)
theorem q_aload_n (O : Ok X cc own ret9 Ts fr lo mL) {i : Fin 4} {x : Nat} (hdg : decode cc pc = .ok (.aload_n i, 1)) (j : Nat) (hj : lv[j]? = some ((i : Nat), .ref x)) (k : Wc X ws cells slots (pc + 1) lv (.ref x :: rest)) : Wc X ws cells slots pc lv (rest) := by
  obtain ⟨G, l, sz, Q, c0, s0, p, e, R, s, m, args, below, meth, c, nL⟩ := X
  obtain ⟨hx, hb, hr, hml, hown, hts, hlk, hSw, hsz, hR, hmL⟩ := O
  intro H locs ls hP hD hS hl
  exact lv_aload_n hx hb hdg rfl (lv_at hl j hj) (k H locs ls hP hD hS hl)
theorem q_istore_n (O : Ok X cc own ret9 Ts fr lo mL) {i : Nat} {i4 : Fin 4} {x : Int32} (hdg : decode cc pc = .ok (.istore_n i4, 1)) (hi : (i4 : Nat) = i) (hn : i < mL) (hl9 : (i, Value.int x) :: lv.filter (fun q => !(q.1 == i) && !(q.1 + 1 == i && q.2.category == 2)) = lv') (k : Wc X ws cells slots (pc + 1) lv' rest) : Wc X ws cells slots pc lv (.int x :: rest) := by
  obtain ⟨G, l, sz, Q, c0, s0, p, e, R, s, m, args, below, meth, c, nL⟩ := X
  obtain ⟨hx, hb, hr, hml, hown, hts, hlk, hSw, hsz, hR, hmL⟩ := O
  intro H locs ls hP hD hS hl
  subst hmL
  exact lv_istore_n hx hb hdg hi hl hn hl9 (fun ls hl => k H locs ls hP hD hS hl)
theorem q_astore_n (O : Ok X cc own ret9 Ts fr lo mL) {i : Nat} {i4 : Fin 4} {x : Nat} (hdg : decode cc pc = .ok (.astore_n i4, 1)) (hi : (i4 : Nat) = i) (hn : i < mL) (hl9 : (i, Value.ref x) :: lv.filter (fun q => !(q.1 == i) && !(q.1 + 1 == i && q.2.category == 2)) = lv') (k : Wc X ws cells slots (pc + 1) lv' rest) : Wc X ws cells slots pc lv (.ref x :: rest) := by
  obtain ⟨G, l, sz, Q, c0, s0, p, e, R, s, m, args, below, meth, c, nL⟩ := X
  obtain ⟨hx, hb, hr, hml, hown, hts, hlk, hSw, hsz, hR, hmL⟩ := O
  intro H locs ls hP hD hS hl
  subst hmL
  exact lv_astore_n hx hb hdg hi hl hn hl9 (fun ls hl => k H locs ls hP hD hS hl)
theorem q_iinc (O : Ok X cc own ret9 Ts fr lo mL) {i : Nat} {n : Int} {x v : Int32} (hdg : decode cc pc = .ok (.iinc i n, 3)) (j : Nat) (hj : lv[j]? = some (i, .int x)) (hv : x + Int32.ofInt n = v) (hn : i < mL) (hl9 : (i, Value.int v) :: lv.filter (fun q => !(q.1 == i) && !(q.1 + 1 == i && q.2.category == 2)) = lv') (k : Wc X ws cells slots (pc + 3) lv' rest) : Wc X ws cells slots pc lv rest := by
  obtain ⟨G, l, sz, Q, c0, s0, p, e, R, s, m, args, below, meth, c, nL⟩ := X
  obtain ⟨hx, hb, hr, hml, hown, hts, hlk, hSw, hsz, hR, hmL⟩ := O
  intro H locs ls hP hD hS hl
  subst hmL
  exact lv_iinc hx hb hdg hl hj hv hn hl9 (fun ls hl => k H locs ls hP hD hS hl)
theorem q_dup (O : Ok X cc own ret9 Ts fr lo mL) {va : Value} (hdg : decode cc pc = .ok (.dup, 1)) (hva : va.category = 1) (k : Wc X ws cells slots (pc + 1) lv (va :: va :: rest)) : Wc X ws cells slots pc lv (va :: rest) := by
  obtain ⟨G, l, sz, Q, c0, s0, p, e, R, s, m, args, below, meth, c, nL⟩ := X
  obtain ⟨hx, hb, hr, hml, hown, hts, hlk, hSw, hsz, hR, hmL⟩ := O
  intro H locs ls hP hD hS hl
  exact lv_dup hx hb hdg hva (k H locs ls hP hD hS hl)
theorem q_goto (O : Ok X cc own ret9 Ts fr lo mL) {off : Int} (tgt : Nat) (hdg : decode cc pc = .ok (.goto off, 3)) (ht : (pc : Int) + off = (tgt : Int)) (k : Wc X ws cells slots tgt lv rest) : Wc X ws cells slots pc lv rest := by
  obtain ⟨G, l, sz, Q, c0, s0, p, e, R, s, m, args, below, meth, c, nL⟩ := X
  obtain ⟨hx, hb, hr, hml, hown, hts, hlk, hSw, hsz, hR, hmL⟩ := O
  intro H locs ls hP hD hS hl
  exact lv_goto hx hb hdg ht (k H locs ls hP hD hS hl)
theorem q_icmp_ge (O : Ok X cc own ret9 Ts fr lo mL) {x y : Int32} {off : Int} (tgt : Nat) (hdg : decode cc pc = .ok (.if_icmp .ge off, 3)) (ht : (pc : Int) + off = (tgt : Int)) (kt : y ≤ x → Wc X ws cells slots tgt lv rest) (kf : ¬ y ≤ x → Wc X ws cells slots (pc + 3) lv rest) : Wc X ws cells slots pc lv (.int y :: .int x :: rest) := by
  obtain ⟨G, l, sz, Q, c0, s0, p, e, R, s, m, args, below, meth, c, nL⟩ := X
  obtain ⟨hx, hb, hr, hml, hown, hts, hlk, hSw, hsz, hR, hmL⟩ := O
  intro H locs ls hP hD hS hl
  exact lv_icmp_ge hx hb hdg ht (fun h => kt h H locs ls hP hD hS hl) (fun h => kf h H locs ls hP hD hS hl)
theorem q_get (O : Ok X cc own ret9 Ts fr lo mL) {C : String} {T : u_T} {Nf ci index a : Nat} {fs : List Value} {v : Value} (j0 : Nat) (he : ws[j0]? = some (a, .inr (ci, fs))) (hc : vwCl[ci]? = some (C, T, Nf)) (j : Nat) (hj : j < Nf) (hin : ∀ w ∈ u_ws C T Nf, w ∈ Ts) (hlink : Cond.fieldLink own index (T j).1 (T j).2.1 (T j).2.2.1 ∈ Ts) (hv : fs[j]? = some v) (hdg : decode cc pc = .ok (.getfield index, 3)) (kk : Wc X ws cells slots (pc + 3) lv (v :: rest)) : Wc X ws cells slots pc lv (.ref a :: rest) := by
  obtain ⟨G, l, sz, Q, c0, s0, p, e, R, s, m, args, below, meth, c, nL⟩ := X
  obtain ⟨hx, hb, hr, hml, hown, hts, hlk, hSw, hsz, hR, hmL⟩ := O
  intro H locs ls hP hD hS hl
  exact va_get (D := gD G) hx hb hts hin hown hSw.1 hP j0 he hc j hj (hts _ hlink) (fun _ h9 => h9) hv hdg (kk H locs ls hP hD hS hl)
theorem q_put (O : Ok X cc own ret9 Ts fr lo mL) {C : String} {T : u_T} {Nf ci index a : Nat} {fs : List Value} {v : Value} (ty0 : Nat → FieldType) (hty : ∀ k, k < Nf → parseFieldDescriptor (T k).2.2.1 = some (ty0 k)) (hnm : ∀ a, a < Nf → ∀ b, b < Nf → a ≠ b → (T a).2.1 ≠ (T b).2.1) (j0 : Nat) (he : ws[j0]? = some (a, .inr (ci, fs))) (hc : vwCl[ci]? = some (C, T, Nf)) (j : Nat) (hj : j < Nf) (hin : ∀ w ∈ u_ws C T Nf, w ∈ Ts) (hlink : Cond.fieldLink own index (T j).1 (T j).2.1 (T j).2.2.1 ∈ Ts) (hfin : (T j).2.2.2 = false) (hn : narrow (ty0 j) v = v) (hfit : fits (ty0 j) v = true) (hlen : j < fs.length) (hws : ws.set j0 (a, .inr (ci, fs.set j v)) = ws9) (hdg : decode cc pc = .ok (.putfield index, 3)) (kk : Wc X ws9 cells slots (pc + 3) lv rest) : Wc X ws cells slots pc lv (v :: .ref a :: rest) := by
  obtain ⟨G, l, sz, Q, c0, s0, p, e, R, s, m, args, below, meth, c, nL⟩ := X
  obtain ⟨hx, hb, hr, hml, hown, hts, hlk, hSw, hsz, hR, hmL⟩ := O
  intro H locs ls hP hD hS hl
  refine va_put (D := gD G) hx hb hts hin ty0 hty hnm hown hSw.1 hP hD hS j0 he hc j hj (hts _ hlink) (fun _ h9 => h9) hfin (hty j hj) hn hfit hlen hdg (fun H1 locs1 hP1 hD1 hS1 => ?_)
  rw [hws] at hP1 hD1
  exact kk H1 locs1 ls hP1 hD1 hS1 hl
theorem q_putF (O : Ok X cc own ret9 Ts fr lo mL) {C : String} {T : u_T} {Nf ci index a : Nat} {fs : List Value} {v : Value} (ty0 : Nat → FieldType) (hty : ∀ k, k < Nf → parseFieldDescriptor (T k).2.2.1 = some (ty0 k)) (hnm : ∀ a, a < Nf → ∀ b, b < Nf → a ≠ b → (T a).2.1 ≠ (T b).2.1) (j0 : Nat) (he : ws[j0]? = some (a, .inr (ci, fs))) (hc : vwCl[ci]? = some (C, T, Nf)) (j : Nat) (hj : j < Nf) (hin : ∀ w ∈ u_ws C T Nf, w ∈ Ts) (hlink : Cond.fieldLink own index (T j).1 (T j).2.1 (T j).2.2.1 ∈ Ts) (hfin : (T j).2.2.2 = true) (hMi : Mi X) (hdecl : (T j).1 = own) (hn : narrow (ty0 j) v = v) (hfit : fits (ty0 j) v = true) (hlen : j < fs.length) (hws : ws.set j0 (a, .inr (ci, fs.set j v)) = ws9) (hdg : decode cc pc = .ok (.putfield index, 3)) (kk : Wc X ws9 cells slots (pc + 3) lv rest) : Wc X ws cells slots pc lv (v :: .ref a :: rest) := by
  obtain ⟨G, l, sz, Q, c0, s0, p, e, R, s, m, args, below, meth, c, nL⟩ := X
  obtain ⟨hx, hb, hr, hml, hown, hts, hlk, hSw, hsz, hR, hmL⟩ := O
  intro H locs ls hP hD hS hl
  refine va_putF (D := gD G) hx hb hts hin ty0 hty hnm hown hSw.1 hP hD hS j0 he hc j hj (hts _ hlink) (fun _ h9 => h9) hfin hMi hdecl (hty j hj) hn hfit hlen hdg (fun H1 locs1 hP1 hD1 hS1 => ?_)
  rw [hws] at hP1 hD1
  exact kk H1 locs1 ls hP1 hD1 hS1 hl
theorem q_newa (O : Ok X cc own ret9 Ts fr lo mL) (hRc : Rc X MC MS) {n : Int32} {N9 : Nat} (harr : Cond.arrayClass .int ∈ Ts) (hn : ¬ n < 0) (hN : n.toNatClampNeg = N9) (hb9 : N9 * 4 ≤ 536870912) (hcs : cells + 1 ≤ MC ∧ slots + N9 ≤ MS) (hdg : decode cc pc = .ok (.newarray .int, 2)) (kk : ∀ q : Nat, Wc X (ws ++ [(q, .inl (g_cy X.1 0, N9, .inl (fun _ => 0)))]) (cells + 1) (slots + N9) (pc + 2) lv (.ref q :: rest)) : Wc X ws cells slots pc lv (.int n :: rest) := by
  obtain ⟨G, l, sz, Q, c0, s0, p, e, R, s, m, args, below, meth, c, nL⟩ := X
  obtain ⟨hx, hb, hr, hml, hown, hts, hlk, hSw, hsz, hR, hmL⟩ := O
  intro H locs ls hP hD hS hl
  obtain ⟨hRc1, hRc2⟩ := hRc
  have hA : ∀ q, s.heap.size ≤ q → Aw G sz q := fun q h => Or.inr (by rw [← hsz]; exact h)
  refine va_newa (D := gD G) (atype := .int) (ty := .int) (a0 := (N9, .inl (fun _ => 0))) hx hb (hts _ harr) rfl hSw.1 hP hD hS hA (fun cA => rfl) hn hN hb9 (by rw [hRc1]; exact hcs.1) (by rw [hRc2]; exact hcs.2) hdg (fun q cA H1 hK1 hP1 hD1 hS1 => ?_)
  have e1 : s.vm.findClass "[I" = some cA := va_nm_int (hK1.2 3 (cA, .int) rfl).2
  have e2 : s.vm.findClass "[I" = some (g_cy G 0) := va_nm_int (hSw.1.2 0 (g_cy G 0, .int) rfl).2
  have e3 : cA = g_cy G 0 := Option.some.inj (e1.symm.trans e2)
  rw [e3] at hP1 hD1
  exact kk q H1 locs ls hP1 hD1 hS1 hl
theorem q_newz (O : Ok X cc own ret9 Ts fr lo mL) (hRc : Rc X MC MS) {n : Int32} {N9 : Nat} (harr : Cond.arrayClass .boolean ∈ Ts) (hn : ¬ n < 0) (hN : n.toNatClampNeg = N9) (hb9 : N9 * 1 ≤ 536870912) (hcs : cells + 1 ≤ MC ∧ slots + N9 ≤ MS) (hdg : decode cc pc = .ok (.newarray .boolean, 2)) (kk : ∀ q : Nat, Wc X (ws ++ [(q, .inl (g_cy X.1 1, N9, .inl (fun _ => 0)))]) (cells + 1) (slots + N9) (pc + 2) lv (.ref q :: rest)) : Wc X ws cells slots pc lv (.int n :: rest) := by
  obtain ⟨G, l, sz, Q, c0, s0, p, e, R, s, m, args, below, meth, c, nL⟩ := X
  obtain ⟨hx, hb, hr, hml, hown, hts, hlk, hSw, hsz, hR, hmL⟩ := O
  intro H locs ls hP hD hS hl
  obtain ⟨hRc1, hRc2⟩ := hRc
  have hA : ∀ q, s.heap.size ≤ q → Aw G sz q := fun q h => Or.inr (by rw [← hsz]; exact h)
  refine va_newa (D := gD G) (atype := .boolean) (ty := .boolean) (a0 := (N9, .inl (fun _ => 0))) hx hb (hts _ harr) rfl hSw.1 hP hD hS hA (fun cA => rfl) hn hN hb9 (by rw [hRc1]; exact hcs.1) (by rw [hRc2]; exact hcs.2) hdg (fun q cA H1 hK1 hP1 hD1 hS1 => ?_)
  have e1 : s.vm.findClass "[Z" = some cA := va_nm_boolean (hK1.2 3 (cA, .boolean) rfl).2
  have e2 : s.vm.findClass "[Z" = some (g_cy G 1) := va_nm_boolean (hSw.1.2 1 (g_cy G 1, .boolean) rfl).2
  have e3 : cA = g_cy G 1 := Option.some.inj (e1.symm.trans e2)
  rw [e3] at hP1 hD1
  exact kk q H1 locs ls hP1 hD1 hS1 hl
theorem q_newq (O : Ok X cc own ret9 Ts fr lo mL) (hRc : Rc X MC MS) {n : Int32} {N9 index : Nat} (hcl : Cond.classLink own index RX3 ∈ Ts) (hn : ¬ n < 0) (hN : n.toNatClampNeg = N9) (hb9 : N9 * 4 ≤ 536870912) (hcs : cells + 1 ≤ MC ∧ slots + N9 ≤ MS) (hdg : decode cc pc = .ok (.anewarray index, 3)) (kk : ∀ q : Nat, Wc X (ws ++ [(q, .inl (g_cy X.1 2, N9, .inr (.inr (.inr (.inr (fun _ => none))))))]) (cells + 1) (slots + N9) (pc + 3) lv (.ref q :: rest)) : Wc X ws cells slots pc lv (.int n :: rest) := by
  obtain ⟨G, l, sz, Q, c0, s0, p, e, R, s, m, args, below, meth, c, nL⟩ := X
  obtain ⟨hx, hb, hr, hml, hown, hts, hlk, hSw, hsz, hR, hmL⟩ := O
  intro H locs ls hP hD hS hl
  obtain ⟨hRc1, hRc2⟩ := hRc
  have hA : ∀ q, s.heap.size ≤ q → Aw G sz q := fun q h => Or.inr (by rw [← hsz]; exact h)
  refine va_newq (D := gD G) hx hb hown (hts _ hcl) hSw.2.2.2.2 hSw.1 hP hD hS hA hn hN hb9 (by rw [hRc1]; exact hcs.1) (by rw [hRc2]; exact hcs.2) hdg (fun q cA H1 hK1 hP1 hD1 hS1 => ?_)
  have e1 : s.vm.findClass "[LTrapsWatchTraps$Scene;" = some cA := va_nmO (hK1.2 3 (cA, .object RX3) rfl).2 (by decide +kernel)
  have e2 : s.vm.findClass "[LTrapsWatchTraps$Scene;" = some (g_cy G 2) := va_nmO (hSw.1.2 2 (g_cy G 2, .object "TrapsWatchTraps$Scene") rfl).2 (by decide +kernel)
  have e3 : cA = g_cy G 2 := Option.some.inj (e1.symm.trans e2)
  rw [e3] at hP1 hD1
  exact kk q H1 locs ls hP1 hD1 hS1 hl
theorem q_new (O : Ok X cc own ret9 Ts fr lo mL) (hRc : Rc X MC MS) {C : String} {T : u_T} {Nf ci index : Nat} {fs : List Value} (ty : Nat → FieldType) (hty : ∀ k, k < Nf → parseFieldDescriptor (T k).2.2.1 = some (ty k)) (hin : ∀ w ∈ u_ws C T Nf, w ∈ Ts) (hcl : Cond.classLink own index C ∈ Ts) (hinst : Cond.instantiable C Nf ∈ Ts) (hini : Cond.initialized C ∈ Ts) (hc : vwCl[ci]? = some (C, T, Nf)) (hfs : ∀ j, j < Nf → defaultValue (ty j) = vp_V fs j) (hcs : cells + 1 ≤ MC ∧ slots + Nf ≤ MS) (hdg : decode cc pc = .ok (.new index, 3)) (kk : ∀ q : Nat, Wc X (ws ++ [(q, .inr (ci, fs))]) (cells + 1) (slots + Nf) (pc + 3) lv (.ref q :: rest)) : Wc X ws cells slots pc lv rest := by
  obtain ⟨G, l, sz, Q, c0, s0, p, e, R, s, m, args, below, meth, c, nL⟩ := X
  obtain ⟨hx, hb, hr, hml, hown, hts, hlk, hSw, hsz, hR, hmL⟩ := O
  intro H locs ls hP hD hS hl
  obtain ⟨hRc1, hRc2⟩ := hRc
  have hA : ∀ q, s.heap.size ≤ q → Aw G sz q := fun q h => Or.inr (by rw [← hsz]; exact h)
  exact va_new (D := gD G) hx hb hts hin ty hty hown (hts _ hcl) (hts _ hinst) (hts _ hini) hSw.1 hP hD hS hA hc hfs (by rw [hRc1]; exact hcs.1) (by rw [hRc2]; exact hcs.2) hdg (fun q H1 hP1 hD1 hS1 => kk q H1 locs ls hP1 hD1 hS1 hl)
theorem q_aast (O : Ok X cc own ret9 Ts fr lo mL) {a v n ci : Nat} {vs : List Value} {i : Int32} {f : Nat → Option Nat} (q0 qk : Nat) (ha : ws[q0]? = some (a, .inl (g_cy X.1 2, n, .inr (.inr (.inr (.inr f)))))) (hv : ws[qk]? = some (v, .inr (3, vs))) (hi : inb i n = true) (hws : ws.set q0 (a, .inl (g_cy X.1 2, n, .inr (.inr (.inr (.inr (va_up f i.toNatClampNeg (some v))))))) = ws9) (hdg : decode cc pc = .ok (.aastore, 1)) (kk : Wc X ws9 cells slots (pc + 1) lv rest) : Wc X ws cells slots pc lv (.ref v :: .int i :: .ref a :: rest) := by
  obtain ⟨G, l, sz, Q, c0, s0, p, e, R, s, m, args, below, meth, c, nL⟩ := X
  obtain ⟨hx, hb, hr, hml, hown, hts, hlk, hSw, hsz, hR, hmL⟩ := O
  intro H locs ls hP hD hS hl
  refine va_astq (D := gD G) (r := (RX3, TX3, 7)) hx hb hSw.1 hP hD hS q0 2 qk 3 ha rfl hv rfl (inb_in hi) hdg (fun H1 locs1 hP1 hD1 hS1 => ?_)
  rw [hws] at hP1 hD1
  exact kk H1 locs1 ls hP1 hD1 hS1 hl
theorem q_objInit (O : Ok X cc own ret9 Ts fr lo mL) {idx a : Nat} (hl9 : Cond.methodLink own idx objectInit ∈ Ts) (hi9 : Cond.instanceMethod objectInit ∈ Ts) (hc9 : Cond.code objectInit ⟨#[0xb1]⟩ 1 none ∈ Ts) (hfr : 1 ≤ fr) (hlo : 12 ≤ lo) (hdg : decode cc pc = .ok (.invokespecial idx, 3)) (k : Wc X ws cells slots (pc + 3) lv []) : Wc X ws cells slots pc lv [.ref a] := by
  obtain ⟨G, l, sz, Q, c0, s0, p, e, R, s, m, args, below, meth, c, nL⟩ := X
  obtain ⟨hx, hb, hr, hml, hown, hts, hlk, hSw, hsz, hR, hmL⟩ := O
  intro H locs ls hP hD hS hl
  exact W.objInit hx hb hown (hts _ hl9) (hts _ hi9) (hts _ hc9) rfl (by rw [hml]; exact hl.1) rfl hdg (Nat.le_trans hfr hR.1) (Nat.le_trans (show 2 * 0 + 0 + 12 ≤ lo from hlo) hR.2.1) (W.eq (g2 := F0 m (pc + 3) ls []) rfl (k H locs ls hP hD hS hl))
theorem q_vret {B : (Nat → Nat) → va_W} (O : Ok X cc own none Ts fr lo mL) (hRq : Rq X cells slots B) (a : Nat → Nat) (hws : ws = B a) (hdg : decode cc pc = .ok (.return_, 1)) : Wc X ws cells slots pc lv [] := by
  obtain ⟨G, l, sz, Q, c0, s0, p, e, R, s, m, args, below, meth, c, nL⟩ := X
  obtain ⟨hx, hb, hr, hml, hown, hts, hlk, hSw, hsz, hR, hmL⟩ := O
  intro H locs ls hP hD hS hl
  have hRq : Q = _ := hRq
  subst hRq
  subst hws
  exact W.vret hx hb hr (fun t ht hW => ⟨rfl, ⟨a, by rw [ht]; exact hP, hD⟩, hS.F ht⟩) hS.2.2 hdg hlk
theorem q_callI (O : Ok X cc own ret9 Ts fr lo mL) (hRc : Rc X MC MS) {y : MethodName} {bytes : ByteArray} {maxL cfr clo mc ms index n : Nat} {wy wy' : List Cond} {As rest : List Value} {L : va_W} {q : Nat} {e0 : va_E} {B : (Nat → Nat) → va_W} (hM : Ci (x_l X) y wy cfr clo mc ms (g1 X.1 q) (.ref q :: As) e0 B) (hG : GoodIn Ts wy) (hw : wy = Cond.code y bytes maxL none :: wy') (hini : Cond.initialized y.cls ∈ Ts) (hl9 : Cond.methodLink own index y ∈ Ts) (hin : Cond.instanceMethod y ∈ Ts) (hy1 : y.name = "<init>") (hd : y.cls ≠ "java/lang/invoke/MethodHandle" ∧ y.cls ≠ "java/lang/invoke/VarHandle" ∧ (parseMethodDescriptor y.desc).map (fun d => d.parameters.length) = some n) (hR9 : cfr + 1 ≤ fr ∧ 8 + (maxL + 11) + clo ≤ lo) (hcs : cells + mc ≤ MC ∧ slots + ms ≤ MS) (hn : As.length = n) (hws : ws = L ++ [(q, e0)]) (hst : st = As.reverse ++ .ref q :: rest) (hcat : (rest.map fun v => v.category).sum ≤ 8) (hdg : decode cc pc = .ok (.invokespecial index, 3)) (kk : ∀ a : Nat → Nat, Wc X (L ++ B a) (cells + mc) (slots + ms) (pc + 3) lv rest) : Wc X ws cells slots pc lv st := by
  obtain ⟨G, l, sz, Q, c0, s0, p, e, R, s, m, args, below, meth, c, nL⟩ := X
  obtain ⟨hx, hb, hr, hml, hown, hts, hlk, hSw, hsz, hR, hmL⟩ := O
  intro H locs ls hP hD hS hl
  subst hst
  subst hws
  obtain ⟨hRc1, hRc2⟩ := hRc
  have hsS : sz ≤ H.size := by rw [← hsz]; exact hS.1
  have hAq : Aw G sz q := hD.2 L.length (q, e0) (by rw [List.getElem?_append_right (Nat.le_refl _), Nat.sub_self]; rfl)
  have hAA : ∀ z, Aw (g1 G q) H.size z → Aw G sz z := fun z hz => by
    rcases hz with ⟨k, _, rfl⟩ | hz
    · exact hAq
    · exact Or.inr (Nat.le_trans hsS hz)
  have hSw1 : Sw (g1 G q) (Aw (g1 G q) H.size) s H := (hSw.kept (fun a h1 h2 => hS.2.1 a h1 h2)).narrow hAA
  have hPq := va_P_r hP
  have hDq : va_D (Aw (g1 G q) H.size) [(q, e0)] := (va_D_r hD).weaken (fun k z hk _ => by
    have hk0 : k < 1 := (List.getElem?_eq_some_iff.mp hk).1
    have : k = 0 := by omega
    subst this
    cases hk
    exact Or.inl ⟨0, Nat.zero_lt_one, rfl⟩)
  have hpre : ∀ U : State, U.heap = H → s.WarmedH U.vm → va_Pc (.ref q :: As) (Pi (g1 G q) H.size e0) (Value.ref q :: As).toArray U := fun U hU hW => ⟨rfl, by rw [hU], ⟨by rw [hU]; exact hPq, hDq⟩, by rw [hU]; exact Sw.moved hW hSw1⟩
  have hblind : FrameBlind (va_Pc (.ref q :: As) (Pi (g1 G q) H.size e0)) := fun a U g mk z => ⟨z.1, z.2.1, z.2.2.1, Sw.moved (State.WarmedH.refl U) z.2.2.2⟩
  have hrun := va_runI (R := R) (As := As) (rest := rest) (locs := locs) (cells := cells) (slots := slots) (g := F0 m pc ls (As.reverse ++ .ref q :: rest)) (below := below) (meth := meth) (e := e) ⟨hx, hb, hml, hown, hts⟩ (hM H.size) (cwI n hts hG hw rfl rfl (hts _ hini) (hts _ hl9) (hts _ hin) hy1 hd ⟨Nat.le_trans hR9.1 hR.1, Nat.le_trans hR9.2 hR.2.1⟩) ⟨hblind, hpre⟩ rfl hn hl.1 rfl (lv_room hcat) hdg (by rw [hRc1, hRc2]; exact hcs)
  intro T hT X9
  obtain ⟨v, st₀, t, T', L9, h0, X', hL9, e1, e2, ⟨hv, ⟨a, hb1, hb2⟩, hz, hk⟩, stp⟩ := hrun T hT X9
  have hv : v = none := by injection hv
  subst hv
  rw [h0] at hz hk
  have hPL : va_P (gD G) vwCl L T'.heap := (va_P_l hP).kept (fun k z hkz => by
    rw [e1]
    refine hk z.1 ((va_P_l hP) k z hkz).lt (fun hq => ?_)
    rcases hq with ⟨_, _, e⟩ | hq
    · exact va_D_x hD hkz (j := 0) (q := (q, e0)) rfl e
    · exact absurd ((va_P_l hP) k z hkz).lt (Nat.not_lt.mpr hq))
  have hDL : va_D (Aw G sz) (L ++ B a) := va_D.app (va_D_l hD) (hb2.weaken (fun k z _ h => hAA _ h)) (fun i j x y9 hx9 hy9 e => by
    have h2 := hb2.2 j y9 hy9
    rcases h2 with ⟨_, _, e4⟩ | h2
    · exact va_D_x hD hx9 (j := 0) (q := (q, e0)) rfl (e.trans e4)
    · exact absurd ((va_P_l hP) i x hx9).lt (Nat.not_lt.mpr (by rw [e]; exact h2)))
  obtain ⟨t2, a1, b1⟩ := kk a T'.heap (locs ++ L9) ls (hPL.app (by rw [e1]; exact hb1)) hDL ⟨Nat.le_trans hS.1 (by rw [e1]; exact hz), fun z h1 h2 => by rw [e1, hk z (Nat.lt_of_lt_of_le h1 hS.1) (fun y9 => h2 (hAA z y9))]; exact hS.2.1 z h1 h2, fun z hz9 => by
      rcases List.mem_append.mp hz9 with h | h
      · exact hS.2.2 z h
      · exact hAA _ (hL9 z h)⟩ hl T' rfl X'
  exact ⟨t2, stp t2 a1, b1⟩
theorem q_callIN (O : Ok X cc own ret9 Ts fr lo mL) (hRc : Rc X MC MS) {y : MethodName} {bytes : ByteArray} {maxL cfr clo mc ms index n : Nat} {wy wy' : List Cond} {As rest : List Value} {L : va_W} {q : Nat} {e0 : va_E} {B : (Nat → Nat) → va_W} (hM : Ci (x_l X) y wy cfr clo mc ms (g1 X.1 q) (.ref q :: As) e0 B) (hG : GoodIn Ts wy) (hw : wy = Cond.code y bytes maxL none :: wy') (hini : Cond.initialized y.cls ∈ Ts) (hnw : (own, index, y) ∈ nestW) (hin : Cond.instanceMethod y ∈ Ts) (hy1 : y.name = "<init>") (hd : y.cls ≠ "java/lang/invoke/MethodHandle" ∧ y.cls ≠ "java/lang/invoke/VarHandle" ∧ (parseMethodDescriptor y.desc).map (fun d => d.parameters.length) = some n) (hR9 : cfr + 1 ≤ fr ∧ 8 + (maxL + 11) + clo ≤ lo) (hcs : cells + mc ≤ MC ∧ slots + ms ≤ MS) (hn : As.length = n) (hws : ws = L ++ [(q, e0)]) (hst : st = As.reverse ++ .ref q :: rest) (hcat : (rest.map fun v => v.category).sum ≤ 8) (hdg : decode cc pc = .ok (.invokespecial index, 3)) (kk : ∀ a : Nat → Nat, Wc X (L ++ B a) (cells + mc) (slots + ms) (pc + 3) lv rest) : Wc X ws cells slots pc lv st := by
  obtain ⟨G, l, sz, Q, c0, s0, p, e, R, s, m, args, below, meth, c, nL⟩ := X
  obtain ⟨hx, hb, hr, hml, hown, hts, hlk, hSw, hsz, hR, hmL⟩ := O
  intro H locs ls hP hD hS hl
  subst hst
  subst hws
  obtain ⟨hRc1, hRc2⟩ := hRc
  have hsS : sz ≤ H.size := by rw [← hsz]; exact hS.1
  have hAq : Aw G sz q := hD.2 L.length (q, e0) (by rw [List.getElem?_append_right (Nat.le_refl _), Nat.sub_self]; rfl)
  have hAA : ∀ z, Aw (g1 G q) H.size z → Aw G sz z := fun z hz => by
    rcases hz with ⟨k, _, rfl⟩ | hz
    · exact hAq
    · exact Or.inr (Nat.le_trans hsS hz)
  have hSw1 : Sw (g1 G q) (Aw (g1 G q) H.size) s H := (hSw.kept (fun a h1 h2 => hS.2.1 a h1 h2)).narrow hAA
  have hPq := va_P_r hP
  have hDq : va_D (Aw (g1 G q) H.size) [(q, e0)] := (va_D_r hD).weaken (fun k z hk _ => by
    have hk0 : k < 1 := (List.getElem?_eq_some_iff.mp hk).1
    have : k = 0 := by omega
    subst this
    cases hk
    exact Or.inl ⟨0, Nat.zero_lt_one, rfl⟩)
  have hpre : ∀ U : State, U.heap = H → s.WarmedH U.vm → va_Pc (.ref q :: As) (Pi (g1 G q) H.size e0) (Value.ref q :: As).toArray U := fun U hU hW => ⟨rfl, by rw [hU], ⟨by rw [hU]; exact hPq, hDq⟩, by rw [hU]; exact Sw.moved hW hSw1⟩
  have hblind : FrameBlind (va_Pc (.ref q :: As) (Pi (g1 G q) H.size e0)) := fun a U g mk z => ⟨z.1, z.2.1, z.2.2.1, Sw.moved (State.WarmedH.refl U) z.2.2.2⟩
  have hrun := va_runIN (host := RX7) (R := R) (As := As) (rest := rest) (locs := locs) (cells := cells) (slots := slots) (g := F0 m pc ls (As.reverse ++ .ref q :: rest)) (below := below) (meth := meth) (e := e) ⟨hx, hb, hml, hown, hts⟩ (hM H.size) ⟨va_cnB n hts hG hw rfl rfl (hSw.2.2.2.1 _ hnw) (hts _ hini) hd ⟨Nat.le_trans hR9.1 hR.1, Nat.le_trans hR9.2 hR.2.1⟩, hy1, hts _ hin⟩ ⟨hblind, hpre⟩ rfl hn hl.1 rfl (lv_room hcat) hdg (by rw [hRc1, hRc2]; exact hcs)
  intro T hT X9
  obtain ⟨v, st₀, t, T', L9, h0, X', hL9, e1, e2, ⟨hv, ⟨a, hb1, hb2⟩, hz, hk⟩, stp⟩ := hrun T hT X9
  have hv : v = none := by injection hv
  subst hv
  rw [h0] at hz hk
  have hPL : va_P (gD G) vwCl L T'.heap := (va_P_l hP).kept (fun k z hkz => by
    rw [e1]
    refine hk z.1 ((va_P_l hP) k z hkz).lt (fun hq => ?_)
    rcases hq with ⟨_, _, e⟩ | hq
    · exact va_D_x hD hkz (j := 0) (q := (q, e0)) rfl e
    · exact absurd ((va_P_l hP) k z hkz).lt (Nat.not_lt.mpr hq))
  have hDL : va_D (Aw G sz) (L ++ B a) := va_D.app (va_D_l hD) (hb2.weaken (fun k z _ h => hAA _ h)) (fun i j x y9 hx9 hy9 e => by
    have h2 := hb2.2 j y9 hy9
    rcases h2 with ⟨_, _, e4⟩ | h2
    · exact va_D_x hD hx9 (j := 0) (q := (q, e0)) rfl (e.trans e4)
    · exact absurd ((va_P_l hP) i x hx9).lt (Nat.not_lt.mpr (by rw [e]; exact h2)))
  obtain ⟨t2, a1, b1⟩ := kk a T'.heap (locs ++ L9) ls (hPL.app (by rw [e1]; exact hb1)) hDL ⟨Nat.le_trans hS.1 (by rw [e1]; exact hz), fun z h1 h2 => by rw [e1, hk z (Nat.lt_of_lt_of_le h1 hS.1) (fun y9 => h2 (hAA z y9))]; exact hS.2.1 z h1 h2, fun z hz9 => by
      rcases List.mem_append.mp hz9 with h | h
      · exact hS.2.2 z h
      · exact hAA _ (hL9 z h)⟩ hl T' rfl X'
  exact ⟨t2, stp t2 a1, b1⟩
end KC
