/-! THE CLAIM OUT OF ONE WALK OF THE LAW'S BODY. Your part is whole_start (and what it stands on); all else here is the same for every law, but numbers. -/
def R_law : String := "TrapsWatchTrapsLaw"
def lw_P (b : Addr) (xs : List Int32) (args : Array Value) (s : State) : Prop := args = #[.ref b] ∧ s.IntsAt b xs ∧ xs.length ≤ 256 ∧ (Jvm.Cond.and given_1 narrow_1).before args s = true
def lw_Q (_ : Array Value) (s : State) (o : Outcome) (t : State) : Prop := o = .returned (some (.int 1)) ∧ Framed s o t [] 600000 7302250
def lw_Z (below : List Frame) (a : Array Value) (s : State) : State → Prop := fun t => ∃ o, t.status = .running ∧ Ended t below o ∧ lw_Q a s o t
/-- the law's own end, with 1 on the stack, nothing written that was there before, its room as the claim has it -/
theorem lw_ret {p : Program} {l : Launch} {e : Env} {s : State} {m : MethodId} {below : List Frame} {meth : Method} {c : Code} {b : Nat} (hx : p.tables.exec = Jvm.exec) (hb : c.code = code) (hr : meth.sig.returnType = ret) (hlocks : meth.locks = false) {pc : Nat} {H : Heap} {ls : Array Slot} (hdg : decode code pc = .ok (.ireturn, 1)) : W p l e room_1 s m #[Value.ref b] below meth c H [] 600000 7302250 (lw_Z below #[Value.ref b] s) (F0 m pc ls [.int 1]) := by
  intro T hT X
  obtain ⟨fs, hret, hrun, hended, hW, hframe⟩ := X.leave (v := some (.int 1)) (hlocks := hlocks) (fun h => by rw [hr] at h; cases h)
  have hmeth' : T.vm.method? m = some meth := X.method'
  refine ⟨T.setFrames fs, ?_, .returned (some (.int 1)), hrun, hended, rfl, ⟨_, rfl⟩, hW, hframe⟩
  jvm_step X.here [X.here.top, hx, hb, hdg, hmeth', hr, ret, narrow_b1]
  (try refine ⟨rfl, ?_⟩); (try refine ⟨rfl, ?_⟩)
  first | (intro acts; rw [hret _ acts rfl rfl rfl]) | rw [hret _ _ rfl rfl rfl]
  exact Steps.refl _
/-- what holds at the law's entry: the machine, the code, the tables' words (any of lw_tbl by 'hts w (by decide +kernel)'), the script of L ints xs at the cell b, what the Statement gives of the start (any of its parts by flat_of_before) -/
def lw_At (p : Program) (s : State) (m : MethodId) (meth : Method) (c : Code) (b L : Nat) (xs : Nat → Int32) : Prop :=
  p.tables.exec = Jvm.exec ∧ c.code = code ∧ meth.sig.returnType = ret ∧ c.maxLocals = 4 ∧ s.vm.findClass R_law = some m.cls ∧ (∀ w ∈ lw_tbl, w.before #[Value.ref b] s = true) ∧ va_X b L xs s s.heap ∧ b < s.heap.size ∧ meth.locks = false ∧ (Jvm.Cond.and given_1 narrow_1).before #[Value.ref b] s = true
def Lx (X : Cx) (bs L : Nat) (xs : Nat → Int32) : Prop := match X with
  | (G, l, sz, Q, cells, slots, p, e, R, s, m, args, below, meth, c, nL) => va_X bs L xs s s.heap ∧ bs < s.heap.size ∧ ¬ Aw G sz bs
def Lr (X : Cx) (bs : Nat) : Prop := match X with
  | (G, l, sz, Q, cells, slots, p, e, R, s, m, args, below, meth, c, nL) => Q = lw_Z below #[Value.ref bs] s ∧ args = #[Value.ref bs] ∧ R = room_1 ∧ cells ≤ 600000 ∧ slots ≤ 7302250 ∧ ∀ q, Aw G sz q → s.heap.size ≤ q
section KL
variable {X : Cx} {cc : ByteArray} {own : String} {ret9 : Option FieldType} {Ts : List Cond} {fr lo mL : Nat} {w : Wd} {pc : Nat} {lv lv' : List (Nat × Value)} {rest : List Value} {bs L : Nat} {xs : Nat → Int32}
theorem k_sld (O : Ok X cc own ret9 Ts fr lo mL) (hLx : Lx X bs L xs) {i : Int32} (hi : inb i L = true) (hdg : decode cc pc = .ok (.iaload, 1)) (kk : Wk X w (pc + 1) lv (.int (xs i.toNatClampNeg) :: rest)) : Wk X w pc lv (.int i :: .ref bs :: rest) := by
  obtain ⟨G, l, sz, Q, cells, slots, p, e, R, s, m, args, below, meth, c, nL⟩ := X
  obtain ⟨hx, hb, hr, hml, hown, hts, hlk, hSw, hsz, hR, hmL⟩ := O
  intro H locs ls hP hD hS hl
  exact va_sld hx hb hLx.1 hLx.2.1 hLx.2.2 hS (inb_in hi) hdg (kk H locs ls hP hD hS hl)
theorem k_slen (O : Ok X cc own ret9 Ts fr lo mL) (hLx : Lx X bs L xs) (hdg : decode cc pc = .ok (.arraylength, 1)) (kk : Wk X w (pc + 1) lv (.int (Int32.ofNat L) :: rest)) : Wk X w pc lv (.ref bs :: rest) := by
  obtain ⟨G, l, sz, Q, cells, slots, p, e, R, s, m, args, below, meth, c, nL⟩ := X
  obtain ⟨hx, hb, hr, hml, hown, hts, hlk, hSw, hsz, hR, hmL⟩ := O
  intro H locs ls hP hD hS hl
  exact va_slen hx hb hLx.1 hLx.2.1 hLx.2.2 hS hdg (kk H locs ls hP hD hS hl)
theorem k_lawret (O : Ok X code own ret Ts fr lo mL) (hLr : Lr X bs) (hdg : decode code pc = .ok (.ireturn, 1)) : Wk X w pc lv [.int 1] := by
  obtain ⟨G, l, sz, Q, cells, slots, p, e, R, s, m, args, below, meth, c, nL⟩ := X
  obtain ⟨hx, hb, hr, hml, hown, hts, hlk, hSw, hsz, hR, hmL⟩ := O
  obtain ⟨hQ, ha, hR1, hc1, hs1, hA1⟩ := hLr
  intro H locs ls hP hD hS hl
  subst hQ
  subst ha
  subst hR1
  exact va_forget (fun q hq => hA1 _ (hS.2.2 q hq)) (W.widen hc1 hs1 (lw_ret hx hb hr hlk hdg))
theorem k_callVl (O : Ok X cc own ret9 Ts fr lo mL) {y : MethodName} {bytes : ByteArray} {maxL cfr clo index n : Nat} {ret' : Option FieldType} {ws ws' : List Cond} {st As rest : List Value} {w1 : Wd} {r : Int64} {C : String} {k ci : Nat} {fs : List Value} {q : vw_C} (hM : Ct (x_l X) y ws cfr clo X.1 (.ref (g_ad X.1 k) :: As) w (some (.long r), w1)) (hG : GoodIn Ts (wsV own index C y ws)) (hw : ws = Cond.code y bytes maxL ret' :: ws') (hd : y.cls ≠ "java/lang/invoke/MethodHandle" ∧ y.cls ≠ "java/lang/invoke/VarHandle" ∧ (parseMethodDescriptor y.desc).map (fun d => d.parameters.length) = some n) (hR9 : cfr + 1 ≤ fr ∧ 8 + (maxL + 11) + clo ≤ lo) (hk : k < g_N X.1) (he : ent (g_ad X.1) (g_cy X.1) (g_mz X.1) k (w.1 k) (w.2 k) = .inr (ci, fs)) (hc : vwCl[ci]? = some q) (hC : q.1 = C) (hyC : y.cls = C) (hn : As.length = n) (hst : st = As.reverse ++ .ref (g_ad X.1 k) :: rest) (hcat : (rest.map fun v => v.category).sum ≤ 8) (hdg : decode cc pc = .ok (.invokevirtual index, 3)) (kk : Wk X w1 (pc + 3) lv (.long r :: rest)) : Wk X w pc lv st := k_callV O hM hG hw hd hR9 hk he hc hC hyC hn hst hcat hdg kk
end KL
