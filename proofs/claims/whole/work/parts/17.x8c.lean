def b_X8_layFar_276 (kb170 : Wd → Int32 → Int32 → Option (Wd)) (kb180 : Wd → Int32 → Int32 → Int32 → Option (Wd)) (kb190 : Wd → Int32 → Int32 → Int32 → Int32 → Option (Wd)) (w : Wd) (v3 : Int32) (v4 : Int32) (v5 : Int32) (v6 : Int32) (s0 : Int32) (s1 : Int32) : Option (Wd) := gd (inb s1 12) (nm (up w 116 s1.toNatClampNeg s0) (fun w2 => nm (v6 + (1 : Int32)) (fun x3 => kb190 w2 v3 v4 v5 x3)))
def b_X8_layFar_269 (kb170 : Wd → Int32 → Int32 → Option (Wd)) (kb180 : Wd → Int32 → Int32 → Int32 → Option (Wd)) (kb190 : Wd → Int32 → Int32 → Int32 → Int32 → Option (Wd)) (w : Wd) (v3 : Int32) (v4 : Int32) (v5 : Int32) (v6 : Int32) (s0 : Int32) : Option (Wd) := gd (inb v5 12) (b_X8_layFar_276 kb170 kb180 kb190 w v3 v4 v5 v6 (w.1 116 v5.toNatClampNeg) s0)
def b_X8_layFar_225 (kb170 : Wd → Int32 → Int32 → Option (Wd)) (kb180 : Wd → Int32 → Int32 → Int32 → Option (Wd)) (kb190 : Wd → Int32 → Int32 → Int32 → Int32 → Option (Wd)) (w : Wd) (v3 : Int32) (v4 : Int32) (v5 : Int32) (v6 : Int32) (s0 : Int32) : Option (Wd) := if s0 = 0 then (b_X8_layFar_269 kb170 kb180 kb190 w v3 v4 v5 v6 v5) else (gd (inb v6 12) (gd (inb v5 12) (if (w.1 116 v5.toNatClampNeg) ≤ ((w.1 116 v6.toNatClampNeg) + ((1 : Int32))) then (b_X8_layFar_269 kb170 kb180 kb190 w v3 v4 v5 v6 v5) else (gd (inb v6 12) (b_X8_layFar_276 kb170 kb180 kb190 w v3 v4 v5 v6 ((w.1 116 v6.toNatClampNeg) + ((1 : Int32))) v5)))))
def b_X8_layFar_224 (kb170 : Wd → Int32 → Int32 → Option (Wd)) (kb180 : Wd → Int32 → Int32 → Int32 → Option (Wd)) (kb190 : Wd → Int32 → Int32 → Int32 → Int32 → Option (Wd)) (w : Wd) (v3 : Int32) (v4 : Int32) (v5 : Int32) (v6 : Int32) : Option (Wd) := b_X8_layFar_225 kb170 kb180 kb190 w v3 v4 v5 v6 ((0 : Int32))
def b_X8_layFar_190 (kb170 : Wd → Int32 → Int32 → Option (Wd)) (kb180 : Wd → Int32 → Int32 → Int32 → Option (Wd)) : Nat → Wd → Int32 → Int32 → Int32 → Int32 → Option (Wd)
  | 0, _, _, _, _, _ => none
  | n + 1, w, v3, v4, v5, v6 => if ((12 : Int32)) ≤ v6 then (nm (v5 + (1 : Int32)) (fun x2 => kb180 w v3 v4 x2)) else (bd (f_X8_neighbours w v5) (fun r5 w4 => if ((r5 >>> (v6 &&& 31)) &&& ((1 : Int32))) = ((1 : Int32)) then (if ((v3 >>> (v6 &&& 31)) &&& ((1 : Int32))) = 0 then (b_X8_layFar_225 kb170 kb180 (b_X8_layFar_190 kb170 kb180 n) w4 v3 v4 v5 v6 ((1 : Int32))) else (b_X8_layFar_224 kb170 kb180 (b_X8_layFar_190 kb170 kb180 n) w4 v3 v4 v5 v6)) else (b_X8_layFar_224 kb170 kb180 (b_X8_layFar_190 kb170 kb180 n) w4 v3 v4 v5 v6)))
def b_X8_layFar_180 (kb170 : Wd → Int32 → Int32 → Option (Wd)) : Nat → Wd → Int32 → Int32 → Int32 → Option (Wd)
  | 0, _, _, _, _ => none
  | n + 1, w, v3, v4, v5 => if ((12 : Int32)) ≤ v5 then (nm (v4 + (1 : Int32)) (fun x2 => kb170 w v3 x2)) else (b_X8_layFar_190 kb170 (b_X8_layFar_180 kb170 n) LF w v3 v4 v5 ((0 : Int32)))
def b_X8_layFar_170 : Nat → Wd → Int32 → Int32 → Option (Wd)
  | 0, _, _, _ => none
  | n + 1, w, v3, v4 => if ((12 : Int32)) ≤ v4 then (some w) else (b_X8_layFar_180 (b_X8_layFar_170 n) LF w v3 v4 ((0 : Int32)))
def b_X8_layFar_160 (kb113 : Wd → Int32 → Int32 → Int32 → Int32 → Option (Wd)) (w : Wd) (v1 : Int32) (v2 : Int32) (v3 : Int32) (v4 : Int32) (s0 : Int32) (s1 : Int32) : Option (Wd) := gd (inb s1 12) (nm (up w 116 s1.toNatClampNeg s0) (fun w2 => nm (v4 + (1 : Int32)) (fun x3 => kb113 w2 v1 v2 v3 x3)))
def b_X8_layFar_158 (kb113 : Wd → Int32 → Int32 → Int32 → Int32 → Option (Wd)) (w : Wd) (v1 : Int32) (v2 : Int32) (v3 : Int32) (v4 : Int32) (s0 : Int32) : Option (Wd) := b_X8_layFar_160 kb113 w v1 v2 v3 v4 ((99 : Int32)) s0
def b_X8_layFar_154 (kb113 : Wd → Int32 → Int32 → Int32 → Int32 → Option (Wd)) (w : Wd) (v1 : Int32) (v2 : Int32) (v3 : Int32) (v4 : Int32) (s0 : Int32) : Option (Wd) := b_X8_layFar_160 kb113 w v1 v2 v3 v4 ((0 : Int32)) s0
def b_X8_layFar_113 : Nat → Wd → Int32 → Int32 → Int32 → Int32 → Option (Wd)
  | 0, _, _, _, _, _ => none
  | n + 1, w, v1, v2, v3, v4 => if ((12 : Int32)) ≤ v4 then (b_X8_layFar_170 LF w v3 ((0 : Int32))) else (if v4 = v2 then (if ((v3 >>> (v4 &&& 31)) &&& ((1 : Int32))) = 0 then (b_X8_layFar_154 (b_X8_layFar_113 n) w v1 v2 v3 v4 v4) else (gd (inb (((4 : Int32)) + v1) 72) (if v4 = (w.1 113 (((4 : Int32)) + v1).toNatClampNeg) then (b_X8_layFar_154 (b_X8_layFar_113 n) w v1 v2 v3 v4 v4) else (b_X8_layFar_158 (b_X8_layFar_113 n) w v1 v2 v3 v4 v4)))) else (b_X8_layFar_158 (b_X8_layFar_113 n) w v1 v2 v3 v4 v4))
def b_X8_layFar_102 (kb8 : Wd → Int32 → Int32 → Int32 → Int32 → Option (Wd)) (w : Wd) (v1 : Int32) (v2 : Int32) (v4 : Int32) (s0 : Int32) (s1 : Int32) : Option (Wd) := nm (s1 ||| s0) (fun x1 => nm (v4 + (1 : Int32)) (fun x2 => kb8 w v1 v2 x1 x2))
def b_X8_layFar_101 (kb8 : Wd → Int32 → Int32 → Int32 → Int32 → Option (Wd)) (w : Wd) (v1 : Int32) (v2 : Int32) (v4 : Int32) (s0 : Int32) : Option (Wd) := b_X8_layFar_102 kb8 w v1 v2 v4 ((0 : Int32)) s0
def b_X8_layFar_55 (kb8 : Wd → Int32 → Int32 → Int32 → Int32 → Option (Wd)) (w : Wd) (v1 : Int32) (v2 : Int32) (v3 : Int32) (v4 : Int32) (s0 : Int32) : Option (Wd) := if s0 = 0 then (b_X8_layFar_101 kb8 w v1 v2 v4 v3) else (if (((w.1 113 ((0 : Int32)).toNatClampNeg) >>> (v4 &&& 31)) &&& ((1 : Int32))) = ((1 : Int32)) then (gd (inb v4 7) (if (w.1 110 v4.toNatClampNeg) = ((3 : Int32)) then (b_X8_layFar_101 kb8 w v1 v2 v4 v3) else (gd (inb v4 7) (b_X8_layFar_102 kb8 w v1 v2 v4 (((1 : Int32)) <<< ((w.1 108 v4.toNatClampNeg) &&& 31)) v3)))) else (b_X8_layFar_101 kb8 w v1 v2 v4 v3))
def b_X8_layFar_54 (kb8 : Wd → Int32 → Int32 → Int32 → Int32 → Option (Wd)) (w : Wd) (v1 : Int32) (v2 : Int32) (v3 : Int32) (v4 : Int32) : Option (Wd) := b_X8_layFar_55 kb8 w v1 v2 v3 v4 ((0 : Int32))
def b_X8_layFar_8 : Nat → Wd → Int32 → Int32 → Int32 → Int32 → Option (Wd)
  | 0, _, _, _, _, _ => none
  | n + 1, w, v1, v2, v3, v4 => if (w.1 105 10) ≤ v4 then (b_X8_layFar_113 LF w v1 v2 v3 ((0 : Int32))) else (gd (inb v1 4) (if (w.1 112 v1.toNatClampNeg) = ((-9 : Int32)) then (b_X8_layFar_54 (b_X8_layFar_8 n) w v1 v2 v3 v4) else (gd (inb v1 4) (gd (inb (((2 : Int32)) + (w.1 112 v1.toNatClampNeg)) 72) (if (((w.1 113 (((2 : Int32)) + (w.1 112 v1.toNatClampNeg)).toNatClampNeg) >>> (v4 &&& 31)) &&& ((1 : Int32))) = ((1 : Int32)) then (b_X8_layFar_55 (b_X8_layFar_8 n) w v1 v2 v3 v4 ((1 : Int32))) else (b_X8_layFar_54 (b_X8_layFar_8 n) w v1 v2 v3 v4))))))
def b_X8_layFar_0 (w : Wd) (v1 : Int32) (v2 : Int32) : Option (Wd) := nm (w.1 105 12) (fun x1 => b_X8_layFar_8 LF w v1 v2 x1 ((0 : Int32)))
def f_X8_layFar (w : Wd) (v1 : Int32) (v2 : Int32) : Option (Wd) := b_X8_layFar_0 w v1 v2
set_option maxHeartbeats 4000000 in
set_option maxRecDepth 100000 in
theorem w_X8_layFar_276 {X : Cx} {wz : Wd} (O : Ok X cX8_layFar RX8 none wsX8_layFar (1) (21) 8) (hN : 121 ≤ g_N X.1) {kb170 : Wd → Int32 → Int32 → Option (Wd)} (hk170 : ∀ {w : Wd} {v3 : Int32} {v4 : Int32}, kb170 w v3 v4 = some wz → Wk X w 170 [(0, .ref (g_ad X.1 105)), (3, .int v3), (4, .int v4)] []) {kb180 : Wd → Int32 → Int32 → Int32 → Option (Wd)} (hk180 : ∀ {w : Wd} {v3 : Int32} {v4 : Int32} {v5 : Int32}, kb180 w v3 v4 v5 = some wz → Wk X w 180 [(0, .ref (g_ad X.1 105)), (3, .int v3), (4, .int v4), (5, .int v5)] []) {kb190 : Wd → Int32 → Int32 → Int32 → Int32 → Option (Wd)} (hk190 : ∀ {w : Wd} {v3 : Int32} {v4 : Int32} {v5 : Int32} {v6 : Int32}, kb190 w v3 v4 v5 v6 = some wz → Wk X w 190 [(0, .ref (g_ad X.1 105)), (3, .int v3), (4, .int v4), (5, .int v5), (6, .int v6)] []) (ho : Ro X (none, wz)) {w : Wd} {v3 : Int32} {v4 : Int32} {v5 : Int32} {v6 : Int32} {s0 : Int32} {s1 : Int32} (h : b_X8_layFar_276 kb170 kb180 kb190 w v3 v4 v5 v6 s0 s1 = some wz) : Wk X w 276 [(0, .ref (g_ad X.1 105)), (3, .int v3), (4, .int v4), (5, .int v5), (6, .int v6)] [.int s0, .int s1, .ref (g_ad X.1 116)] := by
  unfold b_X8_layFar_276 at h
  obtain ⟨g1, h⟩ := gd_some h
  refine k_iast O (k := 116) (by omega) E_116 (fun _ => E_116) g1 dX8_layFar_276 ?_
  refine k_nw (fun w2 ew2 => ?_)
  have h := nm_use h w2 ew2
  obtain ⟨x3, ex3⟩ : ∃ z : Int32, z = v6 + (1 : Int32) := ⟨_, rfl⟩
  have h := nm_use h x3 ex3
  refine k_iinc (lv' := [(6, .int x3), (0, .ref (g_ad X.1 105)), (3, .int v3), (4, .int v4), (5, .int v5)]) O dX8_layFar_277 4 rfl (by rw [ex3]; rfl) (by decide) rfl ?_
  refine k_goto O 190 dX8_layFar_280 (by decide) ?_
  exact k_sub [1, 2, 3, 4, 0] rfl (hk190 h)
set_option maxHeartbeats 4000000 in
set_option maxRecDepth 100000 in
theorem w_X8_layFar_269 {X : Cx} {wz : Wd} (O : Ok X cX8_layFar RX8 none wsX8_layFar (1) (21) 8) (hN : 121 ≤ g_N X.1) {kb170 : Wd → Int32 → Int32 → Option (Wd)} (hk170 : ∀ {w : Wd} {v3 : Int32} {v4 : Int32}, kb170 w v3 v4 = some wz → Wk X w 170 [(0, .ref (g_ad X.1 105)), (3, .int v3), (4, .int v4)] []) {kb180 : Wd → Int32 → Int32 → Int32 → Option (Wd)} (hk180 : ∀ {w : Wd} {v3 : Int32} {v4 : Int32} {v5 : Int32}, kb180 w v3 v4 v5 = some wz → Wk X w 180 [(0, .ref (g_ad X.1 105)), (3, .int v3), (4, .int v4), (5, .int v5)] []) {kb190 : Wd → Int32 → Int32 → Int32 → Int32 → Option (Wd)} (hk190 : ∀ {w : Wd} {v3 : Int32} {v4 : Int32} {v5 : Int32} {v6 : Int32}, kb190 w v3 v4 v5 v6 = some wz → Wk X w 190 [(0, .ref (g_ad X.1 105)), (3, .int v3), (4, .int v4), (5, .int v5), (6, .int v6)] []) (ho : Ro X (none, wz)) {w : Wd} {v3 : Int32} {v4 : Int32} {v5 : Int32} {v6 : Int32} {s0 : Int32} (h : b_X8_layFar_269 kb170 kb180 kb190 w v3 v4 v5 v6 s0 = some wz) : Wk X w 269 [(0, .ref (g_ad X.1 105)), (3, .int v3), (4, .int v4), (5, .int v5), (6, .int v6)] [.int s0, .ref (g_ad X.1 116)] := by
  unfold b_X8_layFar_269 at h
  refine k_aload_n O dX8_layFar_269 0 rfl ?_
  refine k_get O (v := .ref (g_ad X.1 116)) (k := 105) (by omega) E_105 rfl 22 (by decide) (fun _ h9 => List.mem_cons_of_mem _ (List.mem_append_right _ h9)) (List.mem_of_getElem? (i := 7) rfl) rfl dX8_layFar_270 ?_
  refine k_iload O dX8_layFar_273 3 rfl ?_
  obtain ⟨g1, h⟩ := gd_some h
  refine k_iald O (k := 116) (by omega) E_116 g1 dX8_layFar_275 ?_
  exact k_sub [0, 1, 2, 3, 4] rfl (w_X8_layFar_276 O hN hk170 hk180 hk190 ho h)
set_option maxHeartbeats 4000000 in
set_option maxRecDepth 100000 in
theorem w_X8_layFar_225 {X : Cx} {wz : Wd} (O : Ok X cX8_layFar RX8 none wsX8_layFar (1) (21) 8) (hN : 121 ≤ g_N X.1) {kb170 : Wd → Int32 → Int32 → Option (Wd)} (hk170 : ∀ {w : Wd} {v3 : Int32} {v4 : Int32}, kb170 w v3 v4 = some wz → Wk X w 170 [(0, .ref (g_ad X.1 105)), (3, .int v3), (4, .int v4)] []) {kb180 : Wd → Int32 → Int32 → Int32 → Option (Wd)} (hk180 : ∀ {w : Wd} {v3 : Int32} {v4 : Int32} {v5 : Int32}, kb180 w v3 v4 v5 = some wz → Wk X w 180 [(0, .ref (g_ad X.1 105)), (3, .int v3), (4, .int v4), (5, .int v5)] []) {kb190 : Wd → Int32 → Int32 → Int32 → Int32 → Option (Wd)} (hk190 : ∀ {w : Wd} {v3 : Int32} {v4 : Int32} {v5 : Int32} {v6 : Int32}, kb190 w v3 v4 v5 v6 = some wz → Wk X w 190 [(0, .ref (g_ad X.1 105)), (3, .int v3), (4, .int v4), (5, .int v5), (6, .int v6)] []) (ho : Ro X (none, wz)) {w : Wd} {v3 : Int32} {v4 : Int32} {v5 : Int32} {v6 : Int32} {s0 : Int32} (h : b_X8_layFar_225 kb170 kb180 kb190 w v3 v4 v5 v6 s0 = some wz) : Wk X w 225 [(0, .ref (g_ad X.1 105)), (3, .int v3), (4, .int v4), (5, .int v5), (6, .int v6)] [.int s0] := by
  unfold b_X8_layFar_225 at h
  refine k_istore (lv' := [(7, .int s0), (0, .ref (g_ad X.1 105)), (3, .int v3), (4, .int v4), (5, .int v5), (6, .int v6)]) O dX8_layFar_225 (by decide) rfl ?_
  refine k_aload_n O dX8_layFar_227 1 rfl ?_
  refine k_get O (v := .ref (g_ad X.1 116)) (k := 105) (by omega) E_105 rfl 22 (by decide) (fun _ h9 => List.mem_cons_of_mem _ (List.mem_append_right _ h9)) (List.mem_of_getElem? (i := 7) rfl) rfl dX8_layFar_228 ?_
  refine k_iload O dX8_layFar_231 4 rfl ?_
  refine k_iload O dX8_layFar_233 0 rfl ?_
  refine k_if_eq O 269 dX8_layFar_235 (by decide) (fun c1 => ?_) (fun c1 => ?_)
  · have h := ite_t c1 h
    exact k_sub [1, 2, 3, 4, 5] rfl (w_X8_layFar_269 O hN hk170 hk180 hk190 ho h)
  · have h := ite_f c1 h
    refine k_aload_n O dX8_layFar_238 1 rfl ?_
    refine k_get O (v := .ref (g_ad X.1 116)) (k := 105) (by omega) E_105 rfl 22 (by decide) (fun _ h9 => List.mem_cons_of_mem _ (List.mem_append_right _ h9)) (List.mem_of_getElem? (i := 7) rfl) rfl dX8_layFar_239 ?_
    refine k_iload O dX8_layFar_242 5 rfl ?_
    obtain ⟨g2, h⟩ := gd_some h
    refine k_iald O (k := 116) (by omega) E_116 g2 dX8_layFar_244 ?_
    refine k_iconst O dX8_layFar_245 (v := 1) (by decide) ?_
    refine k_iadd O dX8_layFar_246 ?_
    refine k_aload_n O dX8_layFar_247 1 rfl ?_
    refine k_get O (v := .ref (g_ad X.1 116)) (k := 105) (by omega) E_105 rfl 22 (by decide) (fun _ h9 => List.mem_cons_of_mem _ (List.mem_append_right _ h9)) (List.mem_of_getElem? (i := 7) rfl) rfl dX8_layFar_248 ?_
    refine k_iload O dX8_layFar_251 4 rfl ?_
    obtain ⟨g3, h⟩ := gd_some h
    refine k_iald O (k := 116) (by omega) E_116 g3 dX8_layFar_253 ?_
    refine k_icmp_ge O 269 dX8_layFar_254 (by decide) (fun c4 => ?_) (fun c4 => ?_)
    · have h := ite_t c4 h
      exact k_sub [1, 2, 3, 4, 5] rfl (w_X8_layFar_269 O hN hk170 hk180 hk190 ho h)
    · have h := ite_f c4 h
      refine k_aload_n O dX8_layFar_257 1 rfl ?_
      refine k_get O (v := .ref (g_ad X.1 116)) (k := 105) (by omega) E_105 rfl 22 (by decide) (fun _ h9 => List.mem_cons_of_mem _ (List.mem_append_right _ h9)) (List.mem_of_getElem? (i := 7) rfl) rfl dX8_layFar_258 ?_
      refine k_iload O dX8_layFar_261 5 rfl ?_
      obtain ⟨g5, h⟩ := gd_some h
      refine k_iald O (k := 116) (by omega) E_116 g5 dX8_layFar_263 ?_
      refine k_iconst O dX8_layFar_264 (v := 1) (by decide) ?_
      refine k_iadd O dX8_layFar_265 ?_
      refine k_goto O 276 dX8_layFar_266 (by decide) ?_
      exact k_sub [1, 2, 3, 4, 5] rfl (w_X8_layFar_276 O hN hk170 hk180 hk190 ho h)
set_option maxHeartbeats 4000000 in
set_option maxRecDepth 100000 in
theorem w_X8_layFar_224 {X : Cx} {wz : Wd} (O : Ok X cX8_layFar RX8 none wsX8_layFar (1) (21) 8) (hN : 121 ≤ g_N X.1) {kb170 : Wd → Int32 → Int32 → Option (Wd)} (hk170 : ∀ {w : Wd} {v3 : Int32} {v4 : Int32}, kb170 w v3 v4 = some wz → Wk X w 170 [(0, .ref (g_ad X.1 105)), (3, .int v3), (4, .int v4)] []) {kb180 : Wd → Int32 → Int32 → Int32 → Option (Wd)} (hk180 : ∀ {w : Wd} {v3 : Int32} {v4 : Int32} {v5 : Int32}, kb180 w v3 v4 v5 = some wz → Wk X w 180 [(0, .ref (g_ad X.1 105)), (3, .int v3), (4, .int v4), (5, .int v5)] []) {kb190 : Wd → Int32 → Int32 → Int32 → Int32 → Option (Wd)} (hk190 : ∀ {w : Wd} {v3 : Int32} {v4 : Int32} {v5 : Int32} {v6 : Int32}, kb190 w v3 v4 v5 v6 = some wz → Wk X w 190 [(0, .ref (g_ad X.1 105)), (3, .int v3), (4, .int v4), (5, .int v5), (6, .int v6)] []) (ho : Ro X (none, wz)) {w : Wd} {v3 : Int32} {v4 : Int32} {v5 : Int32} {v6 : Int32} (h : b_X8_layFar_224 kb170 kb180 kb190 w v3 v4 v5 v6 = some wz) : Wk X w 224 [(0, .ref (g_ad X.1 105)), (3, .int v3), (4, .int v4), (5, .int v5), (6, .int v6)] [] := by
  unfold b_X8_layFar_224 at h
  refine k_iconst O dX8_layFar_224 (v := 0) (by decide) ?_
  exact k_sub [0, 1, 2, 3, 4] rfl (w_X8_layFar_225 O hN hk170 hk180 hk190 ho h)
set_option maxHeartbeats 4000000 in
set_option maxRecDepth 100000 in
theorem w_X8_layFar_190 {X : Cx} {wz : Wd} (O : Ok X cX8_layFar RX8 none wsX8_layFar (1) (21) 8) (hN : 121 ≤ g_N X.1) {kb170 : Wd → Int32 → Int32 → Option (Wd)} (hk170 : ∀ {w : Wd} {v3 : Int32} {v4 : Int32}, kb170 w v3 v4 = some wz → Wk X w 170 [(0, .ref (g_ad X.1 105)), (3, .int v3), (4, .int v4)] []) {kb180 : Wd → Int32 → Int32 → Int32 → Option (Wd)} (hk180 : ∀ {w : Wd} {v3 : Int32} {v4 : Int32} {v5 : Int32}, kb180 w v3 v4 v5 = some wz → Wk X w 180 [(0, .ref (g_ad X.1 105)), (3, .int v3), (4, .int v4), (5, .int v5)] []) (ho : Ro X (none, wz)) (n : Nat) : ∀ {w : Wd} {v3 : Int32} {v4 : Int32} {v5 : Int32} {v6 : Int32}, b_X8_layFar_190 kb170 kb180 n w v3 v4 v5 v6 = some wz → Wk X w 190 [(0, .ref (g_ad X.1 105)), (3, .int v3), (4, .int v4), (5, .int v5), (6, .int v6)] [] := by
  induction n with
  | zero => intro w v3 v4 v5 v6 h; exact nomatch (show (none : Option (Wd)) = some _ from h)
  | succ n ih =>
    intro w v3 v4 v5 v6 h
    rw [b_X8_layFar_190] at h
    refine k_iload O dX8_layFar_190 4 rfl ?_
    refine k_bipush O dX8_layFar_192 (v := 12) (by decide) ?_
    refine k_icmp_ge O 283 dX8_layFar_194 (by decide) (fun c1 => ?_) (fun c1 => ?_)
    · have h := ite_t c1 h
      obtain ⟨x2, ex2⟩ : ∃ z : Int32, z = v5 + (1 : Int32) := ⟨_, rfl⟩
      have h := nm_use h x2 ex2
      refine k_iinc (lv' := [(5, .int x2), (0, .ref (g_ad X.1 105)), (3, .int v3), (4, .int v4), (6, .int v6)]) O dX8_layFar_283 3 rfl (by rw [ex2]; rfl) (by decide) rfl ?_
      refine k_goto O 180 dX8_layFar_286 (by decide) ?_
      exact k_sub [1, 2, 3, 0] rfl (hk180 h)
    · have h := ite_f c1 h
      refine k_iload O dX8_layFar_197 3 rfl ?_
      obtain ⟨r5, w4, hc3, h⟩ := bd_some h
      refine k_callSi O (As := [.int v5]) (rest := []) (c_X8_neighbours (x_l X) X.1 hc3) gX8_layFar_X8_neighbours rfl hd_X8_neighbours (by decide) rfl rfl (Nat.le_of_ble_eq_true rfl) dX8_layFar_199 ?_
      refine k_iload O dX8_layFar_202 4 rfl ?_
      refine k_ishr O dX8_layFar_204 ?_
      refine k_iconst O dX8_layFar_205 (v := 1) (by decide) ?_
      refine k_iand O dX8_layFar_206 ?_
      refine k_iconst O dX8_layFar_207 (v := 1) (by decide) ?_
      refine k_icmp_ne O 224 dX8_layFar_208 (by decide) (fun c6 => ?_) (fun c6 => ?_)
      · have h := ite_f c6 h
        exact k_sub [0, 1, 2, 3, 4] rfl (w_X8_layFar_224 O hN hk170 hk180 (fun {_} {_} {_} {_} {_} h9 => ih h9) ho h)
      · have h := ite_t c6 h
        refine k_iload_n O dX8_layFar_211 1 rfl ?_
        refine k_iload O dX8_layFar_212 4 rfl ?_
        refine k_ishr O dX8_layFar_214 ?_
        refine k_iconst O dX8_layFar_215 (v := 1) (by decide) ?_
        refine k_iand O dX8_layFar_216 ?_
        refine k_if_ne O 224 dX8_layFar_217 (by decide) (fun c7 => ?_) (fun c7 => ?_)
        · have h := ite_f c7 h
          exact k_sub [0, 1, 2, 3, 4] rfl (w_X8_layFar_224 O hN hk170 hk180 (fun {_} {_} {_} {_} {_} h9 => ih h9) ho h)
        · have h := ite_t c7 h
          refine k_iconst O dX8_layFar_220 (v := 1) (by decide) ?_
          refine k_goto O 225 dX8_layFar_221 (by decide) ?_
          exact k_sub [0, 1, 2, 3, 4] rfl (w_X8_layFar_225 O hN hk170 hk180 (fun {_} {_} {_} {_} {_} h9 => ih h9) ho h)
set_option maxHeartbeats 4000000 in
set_option maxRecDepth 100000 in
theorem w_X8_layFar_180 {X : Cx} {wz : Wd} (O : Ok X cX8_layFar RX8 none wsX8_layFar (1) (21) 8) (hN : 121 ≤ g_N X.1) {kb170 : Wd → Int32 → Int32 → Option (Wd)} (hk170 : ∀ {w : Wd} {v3 : Int32} {v4 : Int32}, kb170 w v3 v4 = some wz → Wk X w 170 [(0, .ref (g_ad X.1 105)), (3, .int v3), (4, .int v4)] []) (ho : Ro X (none, wz)) (n : Nat) : ∀ {w : Wd} {v3 : Int32} {v4 : Int32} {v5 : Int32}, b_X8_layFar_180 kb170 n w v3 v4 v5 = some wz → Wk X w 180 [(0, .ref (g_ad X.1 105)), (3, .int v3), (4, .int v4), (5, .int v5)] [] := by
  induction n with
  | zero => intro w v3 v4 v5 h; exact nomatch (show (none : Option (Wd)) = some _ from h)
  | succ n ih =>
    intro w v3 v4 v5 h
    rw [b_X8_layFar_180] at h
    refine k_iload O dX8_layFar_180 3 rfl ?_
    refine k_bipush O dX8_layFar_182 (v := 12) (by decide) ?_
    refine k_icmp_ge O 289 dX8_layFar_184 (by decide) (fun c1 => ?_) (fun c1 => ?_)
    · have h := ite_t c1 h
      obtain ⟨x2, ex2⟩ : ∃ z : Int32, z = v4 + (1 : Int32) := ⟨_, rfl⟩
      have h := nm_use h x2 ex2
      refine k_iinc (lv' := [(4, .int x2), (0, .ref (g_ad X.1 105)), (3, .int v3), (5, .int v5)]) O dX8_layFar_289 2 rfl (by rw [ex2]; rfl) (by decide) rfl ?_
      refine k_goto O 170 dX8_layFar_292 (by decide) ?_
      exact k_sub [1, 2, 0] rfl (hk170 h)
    · have h := ite_f c1 h
      refine k_iconst O dX8_layFar_187 (v := 0) (by decide) ?_
      refine k_istore (lv' := [(6, .int ((0 : Int32))), (0, .ref (g_ad X.1 105)), (3, .int v3), (4, .int v4), (5, .int v5)]) O dX8_layFar_188 (by decide) rfl ?_
      exact k_sub [1, 2, 3, 4, 0] rfl (w_X8_layFar_190 O hN hk170 (fun {_} {_} {_} {_} h9 => ih h9) ho LF h)
set_option maxHeartbeats 4000000 in
set_option maxRecDepth 100000 in
theorem w_X8_layFar_170 {X : Cx} {wz : Wd} (O : Ok X cX8_layFar RX8 none wsX8_layFar (1) (21) 8) (hN : 121 ≤ g_N X.1) (ho : Ro X (none, wz)) (n : Nat) : ∀ {w : Wd} {v3 : Int32} {v4 : Int32}, b_X8_layFar_170 n w v3 v4 = some wz → Wk X w 170 [(0, .ref (g_ad X.1 105)), (3, .int v3), (4, .int v4)] [] := by
  induction n with
  | zero => intro w v3 v4 h; exact nomatch (show (none : Option (Wd)) = some _ from h)
  | succ n ih =>
    intro w v3 v4 h
    rw [b_X8_layFar_170] at h
    refine k_iload O dX8_layFar_170 2 rfl ?_
    refine k_bipush O dX8_layFar_172 (v := 12) (by decide) ?_
    refine k_icmp_ge O 295 dX8_layFar_174 (by decide) (fun c1 => ?_) (fun c1 => ?_)
    · have h := ite_t c1 h
      exact k_vret O dX8_layFar_295 (rt_void h ho)
    · have h := ite_f c1 h
      refine k_iconst O dX8_layFar_177 (v := 0) (by decide) ?_
      refine k_istore (lv' := [(5, .int ((0 : Int32))), (0, .ref (g_ad X.1 105)), (3, .int v3), (4, .int v4)]) O dX8_layFar_178 (by decide) rfl ?_
      exact k_sub [1, 2, 3, 0] rfl (w_X8_layFar_180 O hN (fun {_} {_} {_} h9 => ih h9) ho LF h)
set_option maxHeartbeats 4000000 in
set_option maxRecDepth 100000 in
theorem w_X8_layFar_160 {X : Cx} {wz : Wd} (O : Ok X cX8_layFar RX8 none wsX8_layFar (1) (21) 8) (hN : 121 ≤ g_N X.1) {kb113 : Wd → Int32 → Int32 → Int32 → Int32 → Option (Wd)} (hk113 : ∀ {w : Wd} {v1 : Int32} {v2 : Int32} {v3 : Int32} {v4 : Int32}, kb113 w v1 v2 v3 v4 = some wz → Wk X w 113 [(0, .ref (g_ad X.1 105)), (1, .int v1), (2, .int v2), (3, .int v3), (4, .int v4)] []) (ho : Ro X (none, wz)) {w : Wd} {v1 : Int32} {v2 : Int32} {v3 : Int32} {v4 : Int32} {s0 : Int32} {s1 : Int32} (h : b_X8_layFar_160 kb113 w v1 v2 v3 v4 s0 s1 = some wz) : Wk X w 160 [(0, .ref (g_ad X.1 105)), (1, .int v1), (2, .int v2), (3, .int v3), (4, .int v4)] [.int s0, .int s1, .ref (g_ad X.1 116)] := by
  unfold b_X8_layFar_160 at h
  obtain ⟨g1, h⟩ := gd_some h
  refine k_iast O (k := 116) (by omega) E_116 (fun _ => E_116) g1 dX8_layFar_160 ?_
  refine k_nw (fun w2 ew2 => ?_)
  have h := nm_use h w2 ew2
  obtain ⟨x3, ex3⟩ : ∃ z : Int32, z = v4 + (1 : Int32) := ⟨_, rfl⟩
  have h := nm_use h x3 ex3
  refine k_iinc (lv' := [(4, .int x3), (0, .ref (g_ad X.1 105)), (1, .int v1), (2, .int v2), (3, .int v3)]) O dX8_layFar_161 4 rfl (by rw [ex3]; rfl) (by decide) rfl ?_
  refine k_goto O 113 dX8_layFar_164 (by decide) ?_
  exact k_sub [1, 2, 3, 4, 0] rfl (hk113 h)
set_option maxHeartbeats 4000000 in
set_option maxRecDepth 100000 in
theorem w_X8_layFar_158 {X : Cx} {wz : Wd} (O : Ok X cX8_layFar RX8 none wsX8_layFar (1) (21) 8) (hN : 121 ≤ g_N X.1) {kb113 : Wd → Int32 → Int32 → Int32 → Int32 → Option (Wd)} (hk113 : ∀ {w : Wd} {v1 : Int32} {v2 : Int32} {v3 : Int32} {v4 : Int32}, kb113 w v1 v2 v3 v4 = some wz → Wk X w 113 [(0, .ref (g_ad X.1 105)), (1, .int v1), (2, .int v2), (3, .int v3), (4, .int v4)] []) (ho : Ro X (none, wz)) {w : Wd} {v1 : Int32} {v2 : Int32} {v3 : Int32} {v4 : Int32} {s0 : Int32} (h : b_X8_layFar_158 kb113 w v1 v2 v3 v4 s0 = some wz) : Wk X w 158 [(0, .ref (g_ad X.1 105)), (1, .int v1), (2, .int v2), (3, .int v3), (4, .int v4)] [.int s0, .ref (g_ad X.1 116)] := by
  unfold b_X8_layFar_158 at h
  refine k_bipush O dX8_layFar_158 (v := 99) (by decide) ?_
  exact k_sub [0, 1, 2, 3, 4] rfl (w_X8_layFar_160 O hN hk113 ho h)
set_option maxHeartbeats 4000000 in
set_option maxRecDepth 100000 in
theorem w_X8_layFar_154 {X : Cx} {wz : Wd} (O : Ok X cX8_layFar RX8 none wsX8_layFar (1) (21) 8) (hN : 121 ≤ g_N X.1) {kb113 : Wd → Int32 → Int32 → Int32 → Int32 → Option (Wd)} (hk113 : ∀ {w : Wd} {v1 : Int32} {v2 : Int32} {v3 : Int32} {v4 : Int32}, kb113 w v1 v2 v3 v4 = some wz → Wk X w 113 [(0, .ref (g_ad X.1 105)), (1, .int v1), (2, .int v2), (3, .int v3), (4, .int v4)] []) (ho : Ro X (none, wz)) {w : Wd} {v1 : Int32} {v2 : Int32} {v3 : Int32} {v4 : Int32} {s0 : Int32} (h : b_X8_layFar_154 kb113 w v1 v2 v3 v4 s0 = some wz) : Wk X w 154 [(0, .ref (g_ad X.1 105)), (1, .int v1), (2, .int v2), (3, .int v3), (4, .int v4)] [.int s0, .ref (g_ad X.1 116)] := by
  unfold b_X8_layFar_154 at h
  refine k_iconst O dX8_layFar_154 (v := 0) (by decide) ?_
  refine k_goto O 160 dX8_layFar_155 (by decide) ?_
  exact k_sub [0, 1, 2, 3, 4] rfl (w_X8_layFar_160 O hN hk113 ho h)
set_option maxHeartbeats 4000000 in
set_option maxRecDepth 100000 in
theorem w_X8_layFar_113 {X : Cx} {wz : Wd} (O : Ok X cX8_layFar RX8 none wsX8_layFar (1) (21) 8) (hN : 121 ≤ g_N X.1) (ho : Ro X (none, wz)) (n : Nat) : ∀ {w : Wd} {v1 : Int32} {v2 : Int32} {v3 : Int32} {v4 : Int32}, b_X8_layFar_113 n w v1 v2 v3 v4 = some wz → Wk X w 113 [(0, .ref (g_ad X.1 105)), (1, .int v1), (2, .int v2), (3, .int v3), (4, .int v4)] [] := by
  induction n with
  | zero => intro w v1 v2 v3 v4 h; exact nomatch (show (none : Option (Wd)) = some _ from h)
  | succ n ih =>
    intro w v1 v2 v3 v4 h
    rw [b_X8_layFar_113] at h
    refine k_iload O dX8_layFar_113 4 rfl ?_
    refine k_bipush O dX8_layFar_115 (v := 12) (by decide) ?_
    refine k_icmp_ge O 167 dX8_layFar_117 (by decide) (fun c1 => ?_) (fun c1 => ?_)
    · have h := ite_t c1 h
      refine k_iconst O dX8_layFar_167 (v := 0) (by decide) ?_
      refine k_istore (lv' := [(4, .int ((0 : Int32))), (0, .ref (g_ad X.1 105)), (1, .int v1), (2, .int v2), (3, .int v3)]) O dX8_layFar_168 (by decide) rfl ?_
      exact k_sub [1, 4, 0] rfl (w_X8_layFar_170 O hN ho LF h)
    · have h := ite_f c1 h
      refine k_aload_n O dX8_layFar_120 0 rfl ?_
      refine k_get O (v := .ref (g_ad X.1 116)) (k := 105) (by omega) E_105 rfl 22 (by decide) (fun _ h9 => List.mem_cons_of_mem _ (List.mem_append_right _ h9)) (List.mem_of_getElem? (i := 7) rfl) rfl dX8_layFar_121 ?_
      refine k_iload O dX8_layFar_124 4 rfl ?_
      refine k_iload O dX8_layFar_126 4 rfl ?_
      refine k_iload_n O dX8_layFar_128 2 rfl ?_
      refine k_icmp_ne O 158 dX8_layFar_129 (by decide) (fun c2 => ?_) (fun c2 => ?_)
      · have h := ite_f c2 h
        exact k_sub [0, 1, 2, 3, 4] rfl (w_X8_layFar_158 O hN (fun {_} {_} {_} {_} {_} h9 => ih h9) ho h)
      · have h := ite_t c2 h
        refine k_iload_n O dX8_layFar_132 3 rfl ?_
        refine k_iload O dX8_layFar_133 4 rfl ?_
        refine k_ishr O dX8_layFar_135 ?_
        refine k_iconst O dX8_layFar_136 (v := 1) (by decide) ?_
        refine k_iand O dX8_layFar_137 ?_
        refine k_if_eq O 154 dX8_layFar_138 (by decide) (fun c3 => ?_) (fun c3 => ?_)
        · have h := ite_t c3 h
          exact k_sub [0, 1, 2, 3, 4] rfl (w_X8_layFar_154 O hN (fun {_} {_} {_} {_} {_} h9 => ih h9) ho h)
        · have h := ite_f c3 h
          refine k_iload O dX8_layFar_141 4 rfl ?_
          refine k_aload_n O dX8_layFar_143 0 rfl ?_
          refine k_get O (v := .ref (g_ad X.1 113)) (k := 105) (by omega) E_105 rfl 14 (by decide) (fun _ h9 => List.mem_cons_of_mem _ (List.mem_append_right _ h9)) (List.mem_of_getElem? (i := 4) rfl) rfl dX8_layFar_144 ?_
          refine k_iconst O dX8_layFar_147 (v := 4) (by decide) ?_
          refine k_iload_n O dX8_layFar_148 1 rfl ?_
          refine k_iadd O dX8_layFar_149 ?_
          obtain ⟨g4, h⟩ := gd_some h
          refine k_iald O (k := 113) (by omega) E_113 g4 dX8_layFar_150 ?_
          refine k_icmp_ne O 158 dX8_layFar_151 (by decide) (fun c5 => ?_) (fun c5 => ?_)
          · have h := ite_f c5 h
            exact k_sub [0, 1, 2, 3, 4] rfl (w_X8_layFar_158 O hN (fun {_} {_} {_} {_} {_} h9 => ih h9) ho h)
          · have h := ite_t c5 h
            exact k_sub [0, 1, 2, 3, 4] rfl (w_X8_layFar_154 O hN (fun {_} {_} {_} {_} {_} h9 => ih h9) ho h)
set_option maxHeartbeats 4000000 in
set_option maxRecDepth 100000 in
theorem w_X8_layFar_102 {X : Cx} {wz : Wd} (O : Ok X cX8_layFar RX8 none wsX8_layFar (1) (21) 8) (hN : 121 ≤ g_N X.1) {kb8 : Wd → Int32 → Int32 → Int32 → Int32 → Option (Wd)} (hk8 : ∀ {w : Wd} {v1 : Int32} {v2 : Int32} {v3 : Int32} {v4 : Int32}, kb8 w v1 v2 v3 v4 = some wz → Wk X w 8 [(0, .ref (g_ad X.1 105)), (1, .int v1), (2, .int v2), (3, .int v3), (4, .int v4)] []) (ho : Ro X (none, wz)) {w : Wd} {v1 : Int32} {v2 : Int32} {v4 : Int32} {s0 : Int32} {s1 : Int32} (h : b_X8_layFar_102 kb8 w v1 v2 v4 s0 s1 = some wz) : Wk X w 102 [(0, .ref (g_ad X.1 105)), (1, .int v1), (2, .int v2), (4, .int v4)] [.int s0, .int s1] := by
  unfold b_X8_layFar_102 at h
  refine k_ior O dX8_layFar_102 ?_
  refine k_topi (fun x1 ex1 => ?_)
  have h := nm_use h x1 ex1
  refine k_istore_n (lv' := [(3, .int x1), (0, .ref (g_ad X.1 105)), (1, .int v1), (2, .int v2), (4, .int v4)]) O dX8_layFar_103 rfl (by decide) rfl ?_
  obtain ⟨x2, ex2⟩ : ∃ z : Int32, z = v4 + (1 : Int32) := ⟨_, rfl⟩
  have h := nm_use h x2 ex2
  refine k_iinc (lv' := [(4, .int x2), (3, .int x1), (0, .ref (g_ad X.1 105)), (1, .int v1), (2, .int v2)]) O dX8_layFar_104 4 rfl (by rw [ex2]; rfl) (by decide) rfl ?_
  refine k_goto O 8 dX8_layFar_107 (by decide) ?_
  exact k_sub [2, 3, 4, 1, 0] rfl (hk8 h)
set_option maxHeartbeats 4000000 in
set_option maxRecDepth 100000 in
theorem w_X8_layFar_101 {X : Cx} {wz : Wd} (O : Ok X cX8_layFar RX8 none wsX8_layFar (1) (21) 8) (hN : 121 ≤ g_N X.1) {kb8 : Wd → Int32 → Int32 → Int32 → Int32 → Option (Wd)} (hk8 : ∀ {w : Wd} {v1 : Int32} {v2 : Int32} {v3 : Int32} {v4 : Int32}, kb8 w v1 v2 v3 v4 = some wz → Wk X w 8 [(0, .ref (g_ad X.1 105)), (1, .int v1), (2, .int v2), (3, .int v3), (4, .int v4)] []) (ho : Ro X (none, wz)) {w : Wd} {v1 : Int32} {v2 : Int32} {v4 : Int32} {s0 : Int32} (h : b_X8_layFar_101 kb8 w v1 v2 v4 s0 = some wz) : Wk X w 101 [(0, .ref (g_ad X.1 105)), (1, .int v1), (2, .int v2), (4, .int v4)] [.int s0] := by
  unfold b_X8_layFar_101 at h
  refine k_iconst O dX8_layFar_101 (v := 0) (by decide) ?_
  exact k_sub [0, 1, 2, 3] rfl (w_X8_layFar_102 O hN hk8 ho h)
set_option maxHeartbeats 4000000 in
set_option maxRecDepth 100000 in
theorem w_X8_layFar_55 {X : Cx} {wz : Wd} (O : Ok X cX8_layFar RX8 none wsX8_layFar (1) (21) 8) (hN : 121 ≤ g_N X.1) {kb8 : Wd → Int32 → Int32 → Int32 → Int32 → Option (Wd)} (hk8 : ∀ {w : Wd} {v1 : Int32} {v2 : Int32} {v3 : Int32} {v4 : Int32}, kb8 w v1 v2 v3 v4 = some wz → Wk X w 8 [(0, .ref (g_ad X.1 105)), (1, .int v1), (2, .int v2), (3, .int v3), (4, .int v4)] []) (ho : Ro X (none, wz)) {w : Wd} {v1 : Int32} {v2 : Int32} {v3 : Int32} {v4 : Int32} {s0 : Int32} (h : b_X8_layFar_55 kb8 w v1 v2 v3 v4 s0 = some wz) : Wk X w 55 [(0, .ref (g_ad X.1 105)), (1, .int v1), (2, .int v2), (3, .int v3), (4, .int v4)] [.int s0] := by
  unfold b_X8_layFar_55 at h
  refine k_istore (lv' := [(5, .int s0), (0, .ref (g_ad X.1 105)), (1, .int v1), (2, .int v2), (3, .int v3), (4, .int v4)]) O dX8_layFar_55 (by decide) rfl ?_
  refine k_iload_n O dX8_layFar_57 4 rfl ?_
  refine k_iload O dX8_layFar_58 0 rfl ?_
  refine k_if_eq O 101 dX8_layFar_60 (by decide) (fun c1 => ?_) (fun c1 => ?_)
  · have h := ite_t c1 h
    exact k_sub [1, 2, 3, 5] rfl (w_X8_layFar_101 O hN hk8 ho h)
  · have h := ite_f c1 h
    refine k_aload_n O dX8_layFar_63 1 rfl ?_
    refine k_get O (v := .ref (g_ad X.1 113)) (k := 105) (by omega) E_105 rfl 14 (by decide) (fun _ h9 => List.mem_cons_of_mem _ (List.mem_append_right _ h9)) (List.mem_of_getElem? (i := 4) rfl) rfl dX8_layFar_64 ?_
    refine k_iconst O dX8_layFar_67 (v := 0) (by decide) ?_
    refine k_iald O (k := 113) (by omega) E_113 (by decide) dX8_layFar_68 ?_
    refine k_iload O dX8_layFar_69 5 rfl ?_
    refine k_ishr O dX8_layFar_71 ?_
    refine k_iconst O dX8_layFar_72 (v := 1) (by decide) ?_
    refine k_iand O dX8_layFar_73 ?_
    refine k_iconst O dX8_layFar_74 (v := 1) (by decide) ?_
    refine k_icmp_ne O 101 dX8_layFar_75 (by decide) (fun c2 => ?_) (fun c2 => ?_)
    · have h := ite_f c2 h
      exact k_sub [1, 2, 3, 5] rfl (w_X8_layFar_101 O hN hk8 ho h)
    · have h := ite_t c2 h
      refine k_aload_n O dX8_layFar_78 1 rfl ?_
      refine k_get O (v := .ref (g_ad X.1 110)) (k := 105) (by omega) E_105 rfl 7 (by decide) (fun _ h9 => List.mem_cons_of_mem _ (List.mem_append_right _ h9)) (List.mem_of_getElem? (i := 5) rfl) rfl dX8_layFar_79 ?_
      refine k_iload O dX8_layFar_82 5 rfl ?_
      obtain ⟨g3, h⟩ := gd_some h
      refine k_iald O (k := 110) (by omega) E_110 g3 dX8_layFar_84 ?_
      refine k_iconst O dX8_layFar_85 (v := 3) (by decide) ?_
      refine k_icmp_eq O 101 dX8_layFar_86 (by decide) (fun c4 => ?_) (fun c4 => ?_)
      · have h := ite_t c4 h
        exact k_sub [1, 2, 3, 5] rfl (w_X8_layFar_101 O hN hk8 ho h)
      · have h := ite_f c4 h
        refine k_iconst O dX8_layFar_89 (v := 1) (by decide) ?_
        refine k_aload_n O dX8_layFar_90 1 rfl ?_
        refine k_get O (v := .ref (g_ad X.1 108)) (k := 105) (by omega) E_105 rfl 5 (by decide) (fun _ h9 => List.mem_cons_of_mem _ (List.mem_append_right _ h9)) (List.mem_of_getElem? (i := 6) rfl) rfl dX8_layFar_91 ?_
        refine k_iload O dX8_layFar_94 5 rfl ?_
        obtain ⟨g5, h⟩ := gd_some h
        refine k_iald O (k := 108) (by omega) E_108 g5 dX8_layFar_96 ?_
        refine k_ishl O dX8_layFar_97 ?_
        refine k_goto O 102 dX8_layFar_98 (by decide) ?_
        exact k_sub [1, 2, 3, 5] rfl (w_X8_layFar_102 O hN hk8 ho h)
set_option maxHeartbeats 4000000 in
set_option maxRecDepth 100000 in
theorem w_X8_layFar_54 {X : Cx} {wz : Wd} (O : Ok X cX8_layFar RX8 none wsX8_layFar (1) (21) 8) (hN : 121 ≤ g_N X.1) {kb8 : Wd → Int32 → Int32 → Int32 → Int32 → Option (Wd)} (hk8 : ∀ {w : Wd} {v1 : Int32} {v2 : Int32} {v3 : Int32} {v4 : Int32}, kb8 w v1 v2 v3 v4 = some wz → Wk X w 8 [(0, .ref (g_ad X.1 105)), (1, .int v1), (2, .int v2), (3, .int v3), (4, .int v4)] []) (ho : Ro X (none, wz)) {w : Wd} {v1 : Int32} {v2 : Int32} {v3 : Int32} {v4 : Int32} (h : b_X8_layFar_54 kb8 w v1 v2 v3 v4 = some wz) : Wk X w 54 [(0, .ref (g_ad X.1 105)), (1, .int v1), (2, .int v2), (3, .int v3), (4, .int v4)] [] := by
  unfold b_X8_layFar_54 at h
  refine k_iconst O dX8_layFar_54 (v := 0) (by decide) ?_
  exact k_sub [0, 1, 2, 3, 4] rfl (w_X8_layFar_55 O hN hk8 ho h)
set_option maxHeartbeats 4000000 in
set_option maxRecDepth 100000 in
theorem w_X8_layFar_8 {X : Cx} {wz : Wd} (O : Ok X cX8_layFar RX8 none wsX8_layFar (1) (21) 8) (hN : 121 ≤ g_N X.1) (ho : Ro X (none, wz)) (n : Nat) : ∀ {w : Wd} {v1 : Int32} {v2 : Int32} {v3 : Int32} {v4 : Int32}, b_X8_layFar_8 n w v1 v2 v3 v4 = some wz → Wk X w 8 [(0, .ref (g_ad X.1 105)), (1, .int v1), (2, .int v2), (3, .int v3), (4, .int v4)] [] := by
  induction n with
  | zero => intro w v1 v2 v3 v4 h; exact nomatch (show (none : Option (Wd)) = some _ from h)
  | succ n ih =>
    intro w v1 v2 v3 v4 h
    rw [b_X8_layFar_8] at h
    refine k_iload O dX8_layFar_8 4 rfl ?_
    refine k_aload_n O dX8_layFar_10 0 rfl ?_
    refine k_get O (v := .int (w.1 105 10)) (k := 105) (by omega) E_105 rfl 10 (by decide) (fun _ h9 => List.mem_cons_of_mem _ (List.mem_append_right _ h9)) (List.mem_of_getElem? (i := 2) rfl) rfl dX8_layFar_11 ?_
    refine k_icmp_ge O 110 dX8_layFar_14 (by decide) (fun c1 => ?_) (fun c1 => ?_)
    · have h := ite_t c1 h
      refine k_iconst O dX8_layFar_110 (v := 0) (by decide) ?_
      refine k_istore (lv' := [(4, .int ((0 : Int32))), (0, .ref (g_ad X.1 105)), (1, .int v1), (2, .int v2), (3, .int v3)]) O dX8_layFar_111 (by decide) rfl ?_
      exact k_sub [1, 2, 3, 4, 0] rfl (w_X8_layFar_113 O hN ho LF h)
    · have h := ite_f c1 h
      refine k_aload_n O dX8_layFar_17 0 rfl ?_
      refine k_get O (v := .ref (g_ad X.1 112)) (k := 105) (by omega) E_105 rfl 9 (by decide) (fun _ h9 => List.mem_cons_of_mem _ (List.mem_append_right _ h9)) (List.mem_of_getElem? (i := 3) rfl) rfl dX8_layFar_18 ?_
      refine k_iload_n O dX8_layFar_21 1 rfl ?_
      obtain ⟨g2, h⟩ := gd_some h
      refine k_iald O (k := 112) (by omega) E_112 g2 dX8_layFar_22 ?_
      refine k_bipush O dX8_layFar_23 (v := -9) (by decide) ?_
      refine k_icmp_eq O 54 dX8_layFar_25 (by decide) (fun c3 => ?_) (fun c3 => ?_)
      · have h := ite_t c3 h
        exact k_sub [0, 1, 2, 3, 4] rfl (w_X8_layFar_54 O hN (fun {_} {_} {_} {_} {_} h9 => ih h9) ho h)
      · have h := ite_f c3 h
        refine k_aload_n O dX8_layFar_28 0 rfl ?_
        refine k_get O (v := .ref (g_ad X.1 113)) (k := 105) (by omega) E_105 rfl 14 (by decide) (fun _ h9 => List.mem_cons_of_mem _ (List.mem_append_right _ h9)) (List.mem_of_getElem? (i := 4) rfl) rfl dX8_layFar_29 ?_
        refine k_iconst O dX8_layFar_32 (v := 2) (by decide) ?_
        refine k_aload_n O dX8_layFar_33 0 rfl ?_
        refine k_get O (v := .ref (g_ad X.1 112)) (k := 105) (by omega) E_105 rfl 9 (by decide) (fun _ h9 => List.mem_cons_of_mem _ (List.mem_append_right _ h9)) (List.mem_of_getElem? (i := 3) rfl) rfl dX8_layFar_34 ?_
        refine k_iload_n O dX8_layFar_37 1 rfl ?_
        obtain ⟨g4, h⟩ := gd_some h
        refine k_iald O (k := 112) (by omega) E_112 g4 dX8_layFar_38 ?_
        refine k_iadd O dX8_layFar_39 ?_
        obtain ⟨g5, h⟩ := gd_some h
        refine k_iald O (k := 113) (by omega) E_113 g5 dX8_layFar_40 ?_
        refine k_iload O dX8_layFar_41 4 rfl ?_
        refine k_ishr O dX8_layFar_43 ?_
        refine k_iconst O dX8_layFar_44 (v := 1) (by decide) ?_
        refine k_iand O dX8_layFar_45 ?_
        refine k_iconst O dX8_layFar_46 (v := 1) (by decide) ?_
        refine k_icmp_ne O 54 dX8_layFar_47 (by decide) (fun c6 => ?_) (fun c6 => ?_)
        · have h := ite_f c6 h
          exact k_sub [0, 1, 2, 3, 4] rfl (w_X8_layFar_54 O hN (fun {_} {_} {_} {_} {_} h9 => ih h9) ho h)
        · have h := ite_t c6 h
          refine k_iconst O dX8_layFar_50 (v := 1) (by decide) ?_
          refine k_goto O 55 dX8_layFar_51 (by decide) ?_
          exact k_sub [0, 1, 2, 3, 4] rfl (w_X8_layFar_55 O hN (fun {_} {_} {_} {_} {_} h9 => ih h9) ho h)
set_option maxHeartbeats 4000000 in
set_option maxRecDepth 100000 in
theorem w_X8_layFar_0 {X : Cx} {wz : Wd} (O : Ok X cX8_layFar RX8 none wsX8_layFar (1) (21) 8) (hN : 121 ≤ g_N X.1) (ho : Ro X (none, wz)) {w : Wd} {v1 : Int32} {v2 : Int32} (h : b_X8_layFar_0 w v1 v2 = some wz) : Wk X w 0 [(0, .ref (g_ad X.1 105)), (1, .int v1), (2, .int v2)] [] := by
  unfold b_X8_layFar_0 at h
  refine k_aload_n O dX8_layFar_0 0 rfl ?_
  refine k_get O (v := .int (w.1 105 12)) (k := 105) (by omega) E_105 rfl 12 (by decide) (fun _ h9 => List.mem_cons_of_mem _ (List.mem_append_right _ h9)) (List.mem_of_getElem? (i := 1) rfl) rfl dX8_layFar_1 ?_
  refine k_topi (fun x1 ex1 => ?_)
  have h := nm_use h x1 ex1
  refine k_istore_n (lv' := [(3, .int x1), (0, .ref (g_ad X.1 105)), (1, .int v1), (2, .int v2)]) O dX8_layFar_4 rfl (by decide) rfl ?_
  refine k_iconst O dX8_layFar_5 (v := 0) (by decide) ?_
  refine k_istore (lv' := [(4, .int ((0 : Int32))), (3, .int x1), (0, .ref (g_ad X.1 105)), (1, .int v1), (2, .int v2)]) O dX8_layFar_6 (by decide) rfl ?_
  exact k_sub [2, 3, 4, 1, 0] rfl (w_X8_layFar_8 O hN ho LF h)
theorem c_X8_layFar (l : Launch) (G : Gl) (hN : 121 ≤ g_N G) {w wz : Wd} {v1 : Int32} {v2 : Int32} (h : f_X8_layFar w v1 v2 = some wz) : Ct l yX8_layFar wsX8_layFar (1) (21) G [.ref (g_ad G 105), .int v1, .int v2] w (none, wz) := by
  refine Ct.start (by decide) rfl rfl rfl (Nat.le_of_ble_eq_true rfl) (fun X hG ho hl O => ?_)
  subst hG
  subst hl
  exact k_sub [0, 1, 2] rfl (w_X8_layFar_0 O hN ho h)
def b_X8_safe_0 (w : Wd) (v1 : Int32) (v2 : Int32) : Option (Int32 × Wd) := bd (f_X8_isWalker w v1) (fun r3 w2 => if r3 = 0 then (some ((-1 : Int32), w2)) else (bd (f_X8_isCell w2 v2) (fun r7 w6 => if r7 = 0 then (some ((-1 : Int32), w6)) else (gd (inb (((8 : Int32)) + v1) 72) (if (w6.1 113 (((8 : Int32)) + v1).toNatClampNeg) = ((-9 : Int32)) then (bv (f_X8_layFar w6 v1 v2) (fun w12 => gd (inb (((4 : Int32)) + v1) 72) (gd (inb (w12.1 113 (((4 : Int32)) + v1).toNatClampNeg) 12) (if (w12.1 116 (w12.1 113 (((4 : Int32)) + v1).toNatClampNeg).toNatClampNeg) ≤ ((98 : Int32)) then (gd (inb (((4 : Int32)) + v1) 72) (gd (inb (w12.1 113 (((4 : Int32)) + v1).toNatClampNeg) 12) (some (w12.1 116 (w12.1 113 (((4 : Int32)) + v1).toNatClampNeg).toNatClampNeg, w12)))) else (some ((-9 : Int32), w12)))))) else (some ((-3 : Int32), w6)))))))
def f_X8_safe (w : Wd) (v1 : Int32) (v2 : Int32) : Option (Int32 × Wd) := b_X8_safe_0 w v1 v2
set_option maxHeartbeats 4000000 in
set_option maxRecDepth 100000 in
theorem w_X8_safe_0 {X : Cx} {rz : Int32} {wz : Wd} (O : Ok X cX8_safe RX8 ((some .int)) wsX8_safe (2) (48) 3) (hN : 121 ≤ g_N X.1) (ho : Ro X (some (.int rz), wz)) {w : Wd} {v1 : Int32} {v2 : Int32} (h : b_X8_safe_0 w v1 v2 = some (rz, wz)) : Wk X w 0 [(0, .ref (g_ad X.1 105)), (1, .int v1), (2, .int v2)] [] := by
  unfold b_X8_safe_0 at h
  refine k_aload_n O dX8_safe_0 0 rfl ?_
  refine k_iload_n O dX8_safe_1 1 rfl ?_
  obtain ⟨r3, w2, hc1, h⟩ := bd_some h
  refine k_callVi O (As := [.int v1]) (rest := []) (k := 105) (c_X8_isWalker (x_l X) X.1 hN hc1) gX8_safe_X8_isWalker rfl hd_X8_isWalker (by decide) (by omega) E_105 rfl rfl rfl rfl rfl (Nat.le_of_ble_eq_true rfl) dX8_safe_2 ?_
  refine k_if_eq O 15 dX8_safe_5 (by decide) (fun c4 => ?_) (fun c4 => ?_)
  · have h := ite_t c4 h
    refine k_iconst O dX8_safe_15 (v := -1) (by decide) ?_
    exact k_iret O dX8_safe_16 (rt_int h ho)
  · have h := ite_f c4 h
    refine k_iload_n O dX8_safe_8 2 rfl ?_
    obtain ⟨r7, w6, hc5, h⟩ := bd_some h
    refine k_callSi O (As := [.int v2]) (rest := []) (c_X8_isCell (x_l X) X.1 hc5) gX8_safe_X8_isCell rfl hd_X8_isCell (by decide) rfl rfl (Nat.le_of_ble_eq_true rfl) dX8_safe_9 ?_
    refine k_if_ne O 17 dX8_safe_12 (by decide) (fun c8 => ?_) (fun c8 => ?_)
    · have h := ite_f c8 h
      refine k_aload_n O dX8_safe_17 0 rfl ?_
      refine k_get O (v := .ref (g_ad X.1 113)) (k := 105) (by omega) E_105 rfl 14 (by decide) (fun _ h9 => List.mem_cons_of_mem _ (List.mem_append_right _ h9)) (List.mem_of_getElem? (i := 1) rfl) rfl dX8_safe_18 ?_
      refine k_bipush O dX8_safe_21 (v := 8) (by decide) ?_
      refine k_iload_n O dX8_safe_23 1 rfl ?_
      refine k_iadd O dX8_safe_24 ?_
      obtain ⟨g9, h⟩ := gd_some h
      refine k_iald O (k := 113) (by omega) E_113 g9 dX8_safe_25 ?_
      refine k_bipush O dX8_safe_26 (v := -9) (by decide) ?_
      refine k_icmp_eq O 34 dX8_safe_28 (by decide) (fun c10 => ?_) (fun c10 => ?_)
      · have h := ite_t c10 h
        refine k_aload_n O dX8_safe_34 0 rfl ?_
        refine k_iload_n O dX8_safe_35 1 rfl ?_
        refine k_iload_n O dX8_safe_36 2 rfl ?_
        obtain ⟨w12, hc11, h⟩ := bv_some h
        refine k_callVv O (As := [.int v1, .int v2]) (rest := []) (k := 105) (c_X8_layFar (x_l X) X.1 hN hc11) gX8_safe_X8_layFar rfl hd_X8_layFar (by decide) (by omega) E_105 rfl rfl rfl rfl rfl (Nat.le_of_ble_eq_true rfl) dX8_safe_37 ?_
        refine k_aload_n O dX8_safe_40 0 rfl ?_
        refine k_get O (v := .ref (g_ad X.1 116)) (k := 105) (by omega) E_105 rfl 22 (by decide) (fun _ h9 => List.mem_cons_of_mem _ (List.mem_append_right _ h9)) (List.mem_of_getElem? (i := 2) rfl) rfl dX8_safe_41 ?_
        refine k_aload_n O dX8_safe_44 0 rfl ?_
        refine k_get O (v := .ref (g_ad X.1 113)) (k := 105) (by omega) E_105 rfl 14 (by decide) (fun _ h9 => List.mem_cons_of_mem _ (List.mem_append_right _ h9)) (List.mem_of_getElem? (i := 1) rfl) rfl dX8_safe_45 ?_
        refine k_iconst O dX8_safe_48 (v := 4) (by decide) ?_
        refine k_iload_n O dX8_safe_49 1 rfl ?_
        refine k_iadd O dX8_safe_50 ?_
        obtain ⟨g13, h⟩ := gd_some h
        refine k_iald O (k := 113) (by omega) E_113 g13 dX8_safe_51 ?_
        obtain ⟨g14, h⟩ := gd_some h
        refine k_iald O (k := 116) (by omega) E_116 g14 dX8_safe_52 ?_
        refine k_bipush O dX8_safe_53 (v := 98) (by decide) ?_
        refine k_icmp_le O 63 dX8_safe_55 (by decide) (fun c15 => ?_) (fun c15 => ?_)
        · have h := ite_t c15 h
          refine k_aload_n O dX8_safe_63 0 rfl ?_
          refine k_get O (v := .ref (g_ad X.1 116)) (k := 105) (by omega) E_105 rfl 22 (by decide) (fun _ h9 => List.mem_cons_of_mem _ (List.mem_append_right _ h9)) (List.mem_of_getElem? (i := 2) rfl) rfl dX8_safe_64 ?_
          refine k_aload_n O dX8_safe_67 0 rfl ?_
          refine k_get O (v := .ref (g_ad X.1 113)) (k := 105) (by omega) E_105 rfl 14 (by decide) (fun _ h9 => List.mem_cons_of_mem _ (List.mem_append_right _ h9)) (List.mem_of_getElem? (i := 1) rfl) rfl dX8_safe_68 ?_
          refine k_iconst O dX8_safe_71 (v := 4) (by decide) ?_
          refine k_iload_n O dX8_safe_72 1 rfl ?_
          refine k_iadd O dX8_safe_73 ?_
          obtain ⟨g16, h⟩ := gd_some h
          refine k_iald O (k := 113) (by omega) E_113 g16 dX8_safe_74 ?_
          obtain ⟨g17, h⟩ := gd_some h
          refine k_iald O (k := 116) (by omega) E_116 g17 dX8_safe_75 ?_
          exact k_iret O dX8_safe_76 (rt_int h ho)
        · have h := ite_f c15 h
          refine k_bipush O dX8_safe_58 (v := -9) (by decide) ?_
          refine k_goto O 76 dX8_safe_60 (by decide) ?_
          exact k_iret O dX8_safe_76 (rt_int h ho)
      · have h := ite_f c10 h
        refine k_bipush O dX8_safe_31 (v := -3) (by decide) ?_
        exact k_iret O dX8_safe_33 (rt_int h ho)
    · have h := ite_t c8 h
      refine k_iconst O dX8_safe_15 (v := -1) (by decide) ?_
      exact k_iret O dX8_safe_16 (rt_int h ho)
theorem c_X8_safe (l : Launch) (G : Gl) (hN : 121 ≤ g_N G) {w wz : Wd} {v1 : Int32} {v2 : Int32} {rz : Int32} (h : f_X8_safe w v1 v2 = some (rz, wz)) : Ct l yX8_safe wsX8_safe (2) (48) G [.ref (g_ad G 105), .int v1, .int v2] w (some (.int rz), wz) := by
  refine Ct.start (by decide) rfl rfl rfl (Nat.le_of_ble_eq_true rfl) (fun X hG ho hl O => ?_)
  subst hG
  subst hl
  exact k_sub [0, 1, 2] rfl (w_X8_safe_0 O hN ho h)
def b_X8_isDanger_0 (w : Wd) (v1 : Int32) (v2 : Int32) : Option (Int32 × Wd) := bd (f_X8_trapAt w v2 (w.1 105 10)) (fun r3 w2 => if r3 = ((-9 : Int32)) then (some ((0 : Int32), w2)) else (gd (inb v1 4) (if (w2.1 112 v1.toNatClampNeg) = ((-9 : Int32)) then (some ((0 : Int32), w2)) else (gd (inb v1 4) (gd (inb (((2 : Int32)) + (w2.1 112 v1.toNatClampNeg)) 72) (if (((w2.1 113 (((2 : Int32)) + (w2.1 112 v1.toNatClampNeg)).toNatClampNeg) >>> (r3 &&& 31)) &&& ((1 : Int32))) = ((1 : Int32)) then (if (((w2.1 113 ((0 : Int32)).toNatClampNeg) >>> (r3 &&& 31)) &&& ((1 : Int32))) = ((1 : Int32)) then (gd (inb r3 7) (if (w2.1 110 r3.toNatClampNeg) = ((3 : Int32)) then (some ((0 : Int32), w2)) else (some ((1 : Int32), w2)))) else (some ((0 : Int32), w2))) else (some ((0 : Int32), w2))))))))
def f_X8_isDanger (w : Wd) (v1 : Int32) (v2 : Int32) : Option (Int32 × Wd) := b_X8_isDanger_0 w v1 v2
set_option maxHeartbeats 4000000 in
set_option maxRecDepth 100000 in
theorem w_X8_isDanger_0 {X : Cx} {rz : Int32} {wz : Wd} (O : Ok X cX8_isDanger RX8 ((some .boolean)) wsX8_isDanger (1) (24) 4) (hN : 121 ≤ g_N X.1) (ho : Ro X (some (.int rz), wz)) {w : Wd} {v1 : Int32} {v2 : Int32} (h : b_X8_isDanger_0 w v1 v2 = some (rz, wz)) : Wk X w 0 [(0, .ref (g_ad X.1 105)), (1, .int v1), (2, .int v2)] [] := by
  unfold b_X8_isDanger_0 at h
  refine k_aload_n O dX8_isDanger_0 0 rfl ?_
  refine k_iload_n O dX8_isDanger_1 2 rfl ?_
  refine k_aload_n O dX8_isDanger_2 0 rfl ?_
  refine k_get O (v := .int (w.1 105 10)) (k := 105) (by omega) E_105 rfl 10 (by decide) (fun _ h9 => List.mem_cons_of_mem _ (List.mem_append_right _ h9)) (List.mem_of_getElem? (i := 1) rfl) rfl dX8_isDanger_3 ?_
  obtain ⟨r3, w2, hc1, h⟩ := bd_some h
  refine k_callVi O (As := [.int v2, .int (w.1 105 10)]) (rest := []) (k := 105) (c_X8_trapAt (x_l X) X.1 hN hc1) gX8_isDanger_X8_trapAt rfl hd_X8_trapAt (by decide) (by omega) E_105 rfl rfl rfl rfl rfl (Nat.le_of_ble_eq_true rfl) dX8_isDanger_6 ?_
  refine k_istore_n (lv' := [(3, .int r3), (0, .ref (g_ad X.1 105)), (1, .int v1), (2, .int v2)]) O dX8_isDanger_9 rfl (by decide) rfl ?_
  refine k_iload_n O dX8_isDanger_10 0 rfl ?_
  refine k_bipush O dX8_isDanger_11 (v := -9) (by decide) ?_
  refine k_icmp_eq O 76 dX8_isDanger_13 (by decide) (fun c4 => ?_) (fun c4 => ?_)
  · have h := ite_t c4 h
    refine k_iconst O dX8_isDanger_76 (v := 0) (by decide) ?_
    exact k_zret O (by decide) dX8_isDanger_77 (rt_int h ho)
  · have h := ite_f c4 h
    refine k_aload_n O dX8_isDanger_16 1 rfl ?_
    refine k_get O (v := .ref (g_ad X.1 112)) (k := 105) (by omega) E_105 rfl 9 (by decide) (fun _ h9 => List.mem_cons_of_mem _ (List.mem_append_right _ h9)) (List.mem_of_getElem? (i := 2) rfl) rfl dX8_isDanger_17 ?_
    refine k_iload_n O dX8_isDanger_20 2 rfl ?_
    obtain ⟨g5, h⟩ := gd_some h
    refine k_iald O (k := 112) (by omega) E_112 g5 dX8_isDanger_21 ?_
    refine k_bipush O dX8_isDanger_22 (v := -9) (by decide) ?_
    refine k_icmp_eq O 76 dX8_isDanger_24 (by decide) (fun c6 => ?_) (fun c6 => ?_)
    · have h := ite_t c6 h
      refine k_iconst O dX8_isDanger_76 (v := 0) (by decide) ?_
      exact k_zret O (by decide) dX8_isDanger_77 (rt_int h ho)
    · have h := ite_f c6 h
      refine k_aload_n O dX8_isDanger_27 1 rfl ?_
      refine k_get O (v := .ref (g_ad X.1 113)) (k := 105) (by omega) E_105 rfl 14 (by decide) (fun _ h9 => List.mem_cons_of_mem _ (List.mem_append_right _ h9)) (List.mem_of_getElem? (i := 3) rfl) rfl dX8_isDanger_28 ?_
      refine k_iconst O dX8_isDanger_31 (v := 2) (by decide) ?_
      refine k_aload_n O dX8_isDanger_32 1 rfl ?_
      refine k_get O (v := .ref (g_ad X.1 112)) (k := 105) (by omega) E_105 rfl 9 (by decide) (fun _ h9 => List.mem_cons_of_mem _ (List.mem_append_right _ h9)) (List.mem_of_getElem? (i := 2) rfl) rfl dX8_isDanger_33 ?_
      refine k_iload_n O dX8_isDanger_36 2 rfl ?_
      obtain ⟨g7, h⟩ := gd_some h
      refine k_iald O (k := 112) (by omega) E_112 g7 dX8_isDanger_37 ?_
      refine k_iadd O dX8_isDanger_38 ?_
      obtain ⟨g8, h⟩ := gd_some h
      refine k_iald O (k := 113) (by omega) E_113 g8 dX8_isDanger_39 ?_
      refine k_iload_n O dX8_isDanger_40 0 rfl ?_
      refine k_ishr O dX8_isDanger_41 ?_
      refine k_iconst O dX8_isDanger_42 (v := 1) (by decide) ?_
      refine k_iand O dX8_isDanger_43 ?_
      refine k_iconst O dX8_isDanger_44 (v := 1) (by decide) ?_
      refine k_icmp_ne O 76 dX8_isDanger_45 (by decide) (fun c9 => ?_) (fun c9 => ?_)
      · have h := ite_f c9 h
        refine k_iconst O dX8_isDanger_76 (v := 0) (by decide) ?_
        exact k_zret O (by decide) dX8_isDanger_77 (rt_int h ho)
      · have h := ite_t c9 h
        refine k_aload_n O dX8_isDanger_48 1 rfl ?_
        refine k_get O (v := .ref (g_ad X.1 113)) (k := 105) (by omega) E_105 rfl 14 (by decide) (fun _ h9 => List.mem_cons_of_mem _ (List.mem_append_right _ h9)) (List.mem_of_getElem? (i := 3) rfl) rfl dX8_isDanger_49 ?_
        refine k_iconst O dX8_isDanger_52 (v := 0) (by decide) ?_
        refine k_iald O (k := 113) (by omega) E_113 (by decide) dX8_isDanger_53 ?_
        refine k_iload_n O dX8_isDanger_54 0 rfl ?_
        refine k_ishr O dX8_isDanger_55 ?_
        refine k_iconst O dX8_isDanger_56 (v := 1) (by decide) ?_
        refine k_iand O dX8_isDanger_57 ?_
        refine k_iconst O dX8_isDanger_58 (v := 1) (by decide) ?_
        refine k_icmp_ne O 76 dX8_isDanger_59 (by decide) (fun c10 => ?_) (fun c10 => ?_)
        · have h := ite_f c10 h
          refine k_iconst O dX8_isDanger_76 (v := 0) (by decide) ?_
          exact k_zret O (by decide) dX8_isDanger_77 (rt_int h ho)
        · have h := ite_t c10 h
          refine k_aload_n O dX8_isDanger_62 1 rfl ?_
          refine k_get O (v := .ref (g_ad X.1 110)) (k := 105) (by omega) E_105 rfl 7 (by decide) (fun _ h9 => List.mem_cons_of_mem _ (List.mem_append_right _ h9)) (List.mem_of_getElem? (i := 4) rfl) rfl dX8_isDanger_63 ?_
          refine k_iload_n O dX8_isDanger_66 0 rfl ?_
          obtain ⟨g11, h⟩ := gd_some h
          refine k_iald O (k := 110) (by omega) E_110 g11 dX8_isDanger_67 ?_
          refine k_iconst O dX8_isDanger_68 (v := 3) (by decide) ?_
          refine k_icmp_eq O 76 dX8_isDanger_69 (by decide) (fun c12 => ?_) (fun c12 => ?_)
          · have h := ite_t c12 h
            refine k_iconst O dX8_isDanger_76 (v := 0) (by decide) ?_
            exact k_zret O (by decide) dX8_isDanger_77 (rt_int h ho)
          · have h := ite_f c12 h
            refine k_iconst O dX8_isDanger_72 (v := 1) (by decide) ?_
            refine k_goto O 77 dX8_isDanger_73 (by decide) ?_
            exact k_zret O (by decide) dX8_isDanger_77 (rt_int h ho)
theorem c_X8_isDanger (l : Launch) (G : Gl) (hN : 121 ≤ g_N G) {w wz : Wd} {v1 : Int32} {v2 : Int32} {rz : Int32} (h : f_X8_isDanger w v1 v2 = some (rz, wz)) : Ct l yX8_isDanger wsX8_isDanger (1) (24) G [.ref (g_ad G 105), .int v1, .int v2] w (some (.int rz), wz) := by
  refine Ct.start (by decide) rfl rfl rfl (Nat.le_of_ble_eq_true rfl) (fun X hG ho hl O => ?_)
  subst hG
  subst hl
  exact k_sub [0, 1, 2] rfl (w_X8_isDanger_0 O hN ho h)
def b_X8_safeAt_103 (kb53 : Wd → Int32 → Int32 → Int32 → Int32 → Int32 → Option (Int32 × Wd)) (kb62 : Wd → Int32 → Int32 → Int32 → Int32 → Int32 → Int32 → Option (Int32 × Wd)) (w : Wd) (v1 : Int32) (v3 : Int32) (v4 : Int32) (v5 : Int32) (v6 : Int32) (v7 : Int32) : Option (Int32 × Wd) := nm (v7 + (1 : Int32)) (fun x1 => kb62 w v1 v3 v4 v5 v6 x1)
def b_X8_safeAt_62 (kb53 : Wd → Int32 → Int32 → Int32 → Int32 → Int32 → Option (Int32 × Wd)) : Nat → Wd → Int32 → Int32 → Int32 → Int32 → Int32 → Int32 → Option (Int32 × Wd)
  | 0, _, _, _, _, _, _, _ => none
  | n + 1, w, v1, v3, v4, v5, v6, v7 => bd (f_X8_nearTo w v5) (fun r3 w2 => if ((r3 >>> (v7 &&& 31)) &&& ((1 : Int32))) = 0 then (b_X8_safeAt_103 kb53 (b_X8_safeAt_62 kb53 n) w2 v1 v3 v4 v5 v6 v7) else (gd (inb v7 12) (if (w2.1 116 v7.toNatClampNeg) = ((v4 - ((1 : Int32))) - v6) then (bd (f_X8_isDanger w2 v1 v7) (fun r9 w8 => if r9 = 0 then (nm (v6 + (1 : Int32)) (fun x11 => kb53 w8 v1 v3 v4 v7 x11)) else (b_X8_safeAt_103 kb53 (b_X8_safeAt_62 kb53 n) w8 v1 v3 v4 v5 v6 v7))) else (b_X8_safeAt_103 kb53 (b_X8_safeAt_62 kb53 n) w2 v1 v3 v4 v5 v6 v7))))
def b_X8_safeAt_53 : Nat → Wd → Int32 → Int32 → Int32 → Int32 → Int32 → Option (Int32 × Wd)
  | 0, _, _, _, _, _, _ => none
  | n + 1, w, v1, v3, v4, v5, v6 => if v3 < v6 then (some (v5, w)) else (b_X8_safeAt_62 (b_X8_safeAt_53 n) LF w v1 v3 v4 v5 v6 ((0 : Int32)))
def b_X8_safeAt_27 (w : Wd) (v4 : Int32) : Option (Int32 × Wd) := if 0 ≤ v4 then (some ((-9 : Int32), w)) else (some (v4, w))
def b_X8_safeAt_0 (w : Wd) (v1 : Int32) (v2 : Int32) (v3 : Int32) : Option (Int32 × Wd) := bd (f_X8_safe w v1 v2) (fun r3 w2 => if r3 < 0 then (b_X8_safeAt_27 w2 r3) else (bd (f_X8_in w2 ((v3).toInt64) ((0 : Int64)) (((r3 - ((1 : Int32)))).toInt64)) (fun r7 w6 => if r7 = 0 then (b_X8_safeAt_27 w6 r3) else (gd (inb (((4 : Int32)) + v1) 72) (nm (w6.1 113 (((4 : Int32)) + v1).toNatClampNeg) (fun x10 => b_X8_safeAt_53 LF w6 v1 v3 r3 x10 ((0 : Int32))))))))
def f_X8_safeAt (w : Wd) (v1 : Int32) (v2 : Int32) (v3 : Int32) : Option (Int32 × Wd) := b_X8_safeAt_0 w v1 v2 v3
set_option maxHeartbeats 4000000 in
set_option maxRecDepth 100000 in
theorem w_X8_safeAt_103 {X : Cx} {rz : Int32} {wz : Wd} (O : Ok X cX8_safeAt RX8 ((some .int)) wsX8_safeAt (3) (70) 8) (hN : 121 ≤ g_N X.1) {kb53 : Wd → Int32 → Int32 → Int32 → Int32 → Int32 → Option (Int32 × Wd)} (hk53 : ∀ {w : Wd} {v1 : Int32} {v3 : Int32} {v4 : Int32} {v5 : Int32} {v6 : Int32}, kb53 w v1 v3 v4 v5 v6 = some (rz, wz) → Wk X w 53 [(0, .ref (g_ad X.1 105)), (1, .int v1), (3, .int v3), (4, .int v4), (5, .int v5), (6, .int v6)] []) {kb62 : Wd → Int32 → Int32 → Int32 → Int32 → Int32 → Int32 → Option (Int32 × Wd)} (hk62 : ∀ {w : Wd} {v1 : Int32} {v3 : Int32} {v4 : Int32} {v5 : Int32} {v6 : Int32} {v7 : Int32}, kb62 w v1 v3 v4 v5 v6 v7 = some (rz, wz) → Wk X w 62 [(0, .ref (g_ad X.1 105)), (1, .int v1), (3, .int v3), (4, .int v4), (5, .int v5), (6, .int v6), (7, .int v7)] []) (ho : Ro X (some (.int rz), wz)) {w : Wd} {v1 : Int32} {v3 : Int32} {v4 : Int32} {v5 : Int32} {v6 : Int32} {v7 : Int32} (h : b_X8_safeAt_103 kb53 kb62 w v1 v3 v4 v5 v6 v7 = some (rz, wz)) : Wk X w 103 [(0, .ref (g_ad X.1 105)), (1, .int v1), (3, .int v3), (4, .int v4), (5, .int v5), (6, .int v6), (7, .int v7)] [] := by
  unfold b_X8_safeAt_103 at h
  obtain ⟨x1, ex1⟩ : ∃ z : Int32, z = v7 + (1 : Int32) := ⟨_, rfl⟩
  have h := nm_use h x1 ex1
  refine k_iinc (lv' := [(7, .int x1), (0, .ref (g_ad X.1 105)), (1, .int v1), (3, .int v3), (4, .int v4), (5, .int v5), (6, .int v6)]) O dX8_safeAt_103 6 rfl (by rw [ex1]; rfl) (by decide) rfl ?_
  refine k_goto O 62 dX8_safeAt_106 (by decide) ?_
  exact k_sub [1, 2, 3, 4, 5, 6, 0] rfl (hk62 h)
set_option maxHeartbeats 4000000 in
set_option maxRecDepth 100000 in
theorem w_X8_safeAt_62 {X : Cx} {rz : Int32} {wz : Wd} (O : Ok X cX8_safeAt RX8 ((some .int)) wsX8_safeAt (3) (70) 8) (hN : 121 ≤ g_N X.1) {kb53 : Wd → Int32 → Int32 → Int32 → Int32 → Int32 → Option (Int32 × Wd)} (hk53 : ∀ {w : Wd} {v1 : Int32} {v3 : Int32} {v4 : Int32} {v5 : Int32} {v6 : Int32}, kb53 w v1 v3 v4 v5 v6 = some (rz, wz) → Wk X w 53 [(0, .ref (g_ad X.1 105)), (1, .int v1), (3, .int v3), (4, .int v4), (5, .int v5), (6, .int v6)] []) (ho : Ro X (some (.int rz), wz)) (n : Nat) : ∀ {w : Wd} {v1 : Int32} {v3 : Int32} {v4 : Int32} {v5 : Int32} {v6 : Int32} {v7 : Int32}, b_X8_safeAt_62 kb53 n w v1 v3 v4 v5 v6 v7 = some (rz, wz) → Wk X w 62 [(0, .ref (g_ad X.1 105)), (1, .int v1), (3, .int v3), (4, .int v4), (5, .int v5), (6, .int v6), (7, .int v7)] [] := by
  induction n with
  | zero => intro w v1 v3 v4 v5 v6 v7 h; exact nomatch (show (none : Option (Int32 × Wd)) = some _ from h)
  | succ n ih =>
    intro w v1 v3 v4 v5 v6 v7 h
    rw [b_X8_safeAt_62] at h
    refine k_aload_n O dX8_safeAt_62 0 rfl ?_
    refine k_iload O dX8_safeAt_63 4 rfl ?_
    obtain ⟨r3, w2, hc1, h⟩ := bd_some h
    refine k_callVi O (As := [.int v5]) (rest := []) (k := 105) (c_X8_nearTo (x_l X) X.1 hN hc1) gX8_safeAt_X8_nearTo rfl hd_X8_nearTo (by decide) (by omega) E_105 rfl rfl rfl rfl rfl (Nat.le_of_ble_eq_true rfl) dX8_safeAt_65 ?_
    refine k_iload O dX8_safeAt_68 6 rfl ?_
    refine k_ishr O dX8_safeAt_70 ?_
    refine k_iconst O dX8_safeAt_71 (v := 1) (by decide) ?_
    refine k_iand O dX8_safeAt_72 ?_
    refine k_if_eq O 103 dX8_safeAt_73 (by decide) (fun c4 => ?_) (fun c4 => ?_)
    · have h := ite_t c4 h
      exact k_sub [0, 1, 2, 3, 4, 5, 6] rfl (w_X8_safeAt_103 O hN hk53 (fun {_} {_} {_} {_} {_} {_} {_} h9 => ih h9) ho h)
    · have h := ite_f c4 h
      refine k_aload_n O dX8_safeAt_76 0 rfl ?_
      refine k_get O (v := .ref (g_ad X.1 116)) (k := 105) (by omega) E_105 rfl 22 (by decide) (fun _ h9 => List.mem_cons_of_mem _ (List.mem_append_right _ h9)) (List.mem_of_getElem? (i := 2) rfl) rfl dX8_safeAt_77 ?_
      refine k_iload O dX8_safeAt_80 6 rfl ?_
      obtain ⟨g5, h⟩ := gd_some h
      refine k_iald O (k := 116) (by omega) E_116 g5 dX8_safeAt_82 ?_
      refine k_iload O dX8_safeAt_83 3 rfl ?_
      refine k_iconst O dX8_safeAt_85 (v := 1) (by decide) ?_
      refine k_isub O dX8_safeAt_86 ?_
      refine k_iload O dX8_safeAt_87 5 rfl ?_
      refine k_isub O dX8_safeAt_89 ?_
      refine k_icmp_ne O 103 dX8_safeAt_90 (by decide) (fun c6 => ?_) (fun c6 => ?_)
      · have h := ite_f c6 h
        exact k_sub [0, 1, 2, 3, 4, 5, 6] rfl (w_X8_safeAt_103 O hN hk53 (fun {_} {_} {_} {_} {_} {_} {_} h9 => ih h9) ho h)
      · have h := ite_t c6 h
        refine k_aload_n O dX8_safeAt_93 0 rfl ?_
        refine k_iload_n O dX8_safeAt_94 1 rfl ?_
        refine k_iload O dX8_safeAt_95 6 rfl ?_
        obtain ⟨r9, w8, hc7, h⟩ := bd_some h
        refine k_callVi O (As := [.int v1, .int v7]) (rest := []) (k := 105) (c_X8_isDanger (x_l X) X.1 hN hc7) gX8_safeAt_X8_isDanger rfl hd_X8_isDanger (by decide) (by omega) E_105 rfl rfl rfl rfl rfl (Nat.le_of_ble_eq_true rfl) dX8_safeAt_97 ?_
        refine k_if_eq O 109 dX8_safeAt_100 (by decide) (fun c10 => ?_) (fun c10 => ?_)
        · have h := ite_t c10 h
          refine k_iload O dX8_safeAt_109 6 rfl ?_
          refine k_istore (lv' := [(5, .int v7), (0, .ref (g_ad X.1 105)), (1, .int v1), (3, .int v3), (4, .int v4), (6, .int v6), (7, .int v7)]) O dX8_safeAt_111 (by decide) rfl ?_
          obtain ⟨x11, ex11⟩ : ∃ z : Int32, z = v6 + (1 : Int32) := ⟨_, rfl⟩
          have h := nm_use h x11 ex11
          refine k_iinc (lv' := [(6, .int x11), (5, .int v7), (0, .ref (g_ad X.1 105)), (1, .int v1), (3, .int v3), (4, .int v4), (7, .int v7)]) O dX8_safeAt_113 5 rfl (by rw [ex11]; rfl) (by decide) rfl ?_
          refine k_goto O 53 dX8_safeAt_116 (by decide) ?_
          exact k_sub [2, 3, 4, 5, 1, 0] rfl (hk53 h)
        · have h := ite_f c10 h
          exact k_sub [0, 1, 2, 3, 4, 5, 6] rfl (w_X8_safeAt_103 O hN hk53 (fun {_} {_} {_} {_} {_} {_} {_} h9 => ih h9) ho h)
set_option maxHeartbeats 4000000 in
set_option maxRecDepth 100000 in
theorem w_X8_safeAt_53 {X : Cx} {rz : Int32} {wz : Wd} (O : Ok X cX8_safeAt RX8 ((some .int)) wsX8_safeAt (3) (70) 8) (hN : 121 ≤ g_N X.1) (ho : Ro X (some (.int rz), wz)) (n : Nat) : ∀ {w : Wd} {v1 : Int32} {v3 : Int32} {v4 : Int32} {v5 : Int32} {v6 : Int32}, b_X8_safeAt_53 n w v1 v3 v4 v5 v6 = some (rz, wz) → Wk X w 53 [(0, .ref (g_ad X.1 105)), (1, .int v1), (3, .int v3), (4, .int v4), (5, .int v5), (6, .int v6)] [] := by
  induction n with
  | zero => intro w v1 v3 v4 v5 v6 h; exact nomatch (show (none : Option (Int32 × Wd)) = some _ from h)
  | succ n ih =>
    intro w v1 v3 v4 v5 v6 h
    rw [b_X8_safeAt_53] at h
    refine k_iload O dX8_safeAt_53 5 rfl ?_
    refine k_iload_n O dX8_safeAt_55 2 rfl ?_
    refine k_icmp_gt O 119 dX8_safeAt_56 (by decide) (fun c1 => ?_) (fun c1 => ?_)
    · have h := ite_t c1 h
      refine k_iload O dX8_safeAt_119 4 rfl ?_
      exact k_iret O dX8_safeAt_121 (rt_int h ho)
    · have h := ite_f c1 h
      refine k_iconst O dX8_safeAt_59 (v := 0) (by decide) ?_
      refine k_istore (lv' := [(7, .int ((0 : Int32))), (0, .ref (g_ad X.1 105)), (1, .int v1), (3, .int v3), (4, .int v4), (5, .int v5), (6, .int v6)]) O dX8_safeAt_60 (by decide) rfl ?_
      exact k_sub [1, 2, 3, 4, 5, 6, 0] rfl (w_X8_safeAt_62 O hN (fun {_} {_} {_} {_} {_} {_} h9 => ih h9) ho LF h)
set_option maxHeartbeats 4000000 in
set_option maxRecDepth 100000 in
theorem w_X8_safeAt_27 {X : Cx} {rz : Int32} {wz : Wd} (O : Ok X cX8_safeAt RX8 ((some .int)) wsX8_safeAt (3) (70) 8) (hN : 121 ≤ g_N X.1) (ho : Ro X (some (.int rz), wz)) {w : Wd} {v4 : Int32} (h : b_X8_safeAt_27 w v4 = some (rz, wz)) : Wk X w 27 [(4, .int v4)] [] := by
  unfold b_X8_safeAt_27 at h
  refine k_iload O dX8_safeAt_27 0 rfl ?_
  refine k_if_ge O 37 dX8_safeAt_29 (by decide) (fun c1 => ?_) (fun c1 => ?_)
  · have h := ite_t c1 h
    refine k_bipush O dX8_safeAt_37 (v := -9) (by decide) ?_
    exact k_iret O dX8_safeAt_39 (rt_int h ho)
  · have h := ite_f c1 h
    refine k_iload O dX8_safeAt_32 0 rfl ?_
    refine k_goto O 39 dX8_safeAt_34 (by decide) ?_
    exact k_iret O dX8_safeAt_39 (rt_int h ho)
set_option maxHeartbeats 4000000 in
set_option maxRecDepth 100000 in
theorem w_X8_safeAt_0 {X : Cx} {rz : Int32} {wz : Wd} (O : Ok X cX8_safeAt RX8 ((some .int)) wsX8_safeAt (3) (70) 8) (hN : 121 ≤ g_N X.1) (ho : Ro X (some (.int rz), wz)) {w : Wd} {v1 : Int32} {v2 : Int32} {v3 : Int32} (h : b_X8_safeAt_0 w v1 v2 v3 = some (rz, wz)) : Wk X w 0 [(0, .ref (g_ad X.1 105)), (1, .int v1), (2, .int v2), (3, .int v3)] [] := by
  unfold b_X8_safeAt_0 at h
  refine k_aload_n O dX8_safeAt_0 0 rfl ?_
  refine k_iload_n O dX8_safeAt_1 1 rfl ?_
  refine k_iload_n O dX8_safeAt_2 2 rfl ?_
  obtain ⟨r3, w2, hc1, h⟩ := bd_some h
  refine k_callVi O (As := [.int v1, .int v2]) (rest := []) (k := 105) (c_X8_safe (x_l X) X.1 hN hc1) gX8_safeAt_X8_safe rfl hd_X8_safe (by decide) (by omega) E_105 rfl rfl rfl rfl rfl (Nat.le_of_ble_eq_true rfl) dX8_safeAt_3 ?_
  refine k_istore (lv' := [(4, .int r3), (0, .ref (g_ad X.1 105)), (1, .int v1), (2, .int v2), (3, .int v3)]) O dX8_safeAt_6 (by decide) rfl ?_
  refine k_iload O dX8_safeAt_8 0 rfl ?_
  refine k_if_lt O 27 dX8_safeAt_10 (by decide) (fun c4 => ?_) (fun c4 => ?_)
  · have h := ite_t c4 h
    exact k_sub [0] rfl (w_X8_safeAt_27 O hN ho h)
  · have h := ite_f c4 h
    refine k_iload_n O dX8_safeAt_13 4 rfl ?_
    refine k_i2l O dX8_safeAt_14 ?_
    refine k_lconst O dX8_safeAt_15 (v := 0) (by decide) ?_
    refine k_iload O dX8_safeAt_16 0 rfl ?_
    refine k_iconst O dX8_safeAt_18 (v := 1) (by decide) ?_
    refine k_isub O dX8_safeAt_19 ?_
    refine k_i2l O dX8_safeAt_20 ?_
    obtain ⟨r7, w6, hc5, h⟩ := bd_some h
    refine k_callSi O (As := [.long ((v3).toInt64), .long ((0 : Int64)), .long (((r3 - ((1 : Int32)))).toInt64)]) (rest := []) (c_X8_in (x_l X) X.1 hc5) gX8_safeAt_X8_in rfl hd_X8_in (by decide) rfl rfl (Nat.le_of_ble_eq_true rfl) dX8_safeAt_21 ?_
    refine k_if_ne O 40 dX8_safeAt_24 (by decide) (fun c8 => ?_) (fun c8 => ?_)
    · have h := ite_f c8 h
      refine k_aload_n O dX8_safeAt_40 1 rfl ?_
      refine k_get O (v := .ref (g_ad X.1 113)) (k := 105) (by omega) E_105 rfl 14 (by decide) (fun _ h9 => List.mem_cons_of_mem _ (List.mem_append_right _ h9)) (List.mem_of_getElem? (i := 1) rfl) rfl dX8_safeAt_41 ?_
      refine k_iconst O dX8_safeAt_44 (v := 4) (by decide) ?_
      refine k_iload_n O dX8_safeAt_45 2 rfl ?_
      refine k_iadd O dX8_safeAt_46 ?_
      obtain ⟨g9, h⟩ := gd_some h
      refine k_iald O (k := 113) (by omega) E_113 g9 dX8_safeAt_47 ?_
      refine k_topi (fun x10 ex10 => ?_)
      have h := nm_use h x10 ex10
      refine k_istore (lv' := [(5, .int x10), (4, .int r3), (0, .ref (g_ad X.1 105)), (1, .int v1), (2, .int v2), (3, .int v3)]) O dX8_safeAt_48 (by decide) rfl ?_
      refine k_iconst O dX8_safeAt_50 (v := 0) (by decide) ?_
      refine k_istore (lv' := [(6, .int ((0 : Int32))), (5, .int x10), (4, .int r3), (0, .ref (g_ad X.1 105)), (1, .int v1), (2, .int v2), (3, .int v3)]) O dX8_safeAt_51 (by decide) rfl ?_
      exact k_sub [3, 4, 6, 2, 1, 0] rfl (w_X8_safeAt_53 O hN ho LF h)
    · have h := ite_t c8 h
      exact k_sub [0] rfl (w_X8_safeAt_27 O hN ho h)
theorem c_X8_safeAt (l : Launch) (G : Gl) (hN : 121 ≤ g_N G) {w wz : Wd} {v1 : Int32} {v2 : Int32} {v3 : Int32} {rz : Int32} (h : f_X8_safeAt w v1 v2 v3 = some (rz, wz)) : Ct l yX8_safeAt wsX8_safeAt (3) (70) G [.ref (g_ad G 105), .int v1, .int v2, .int v3] w (some (.int rz), wz) := by
  refine Ct.start (by decide) rfl rfl rfl (Nat.le_of_ble_eq_true rfl) (fun X hG ho hl O => ?_)
  subst hG
  subst hl
  exact k_sub [0, 1, 2, 3] rfl (w_X8_safeAt_0 O hN ho h)
def b_X8_toLook_49 (kb17 : Wd → Int32 → Int32 → Int32 → Option (Int32 × Wd)) (w : Wd) (v1 : Int32) (v3 : Int32) (s0 : Int32) : Option (Int32 × Wd) := nm (v3 + (1 : Int32)) (fun x1 => kb17 w v1 s0 x1)
def b_X8_toLook_17 : Nat → Wd → Int32 → Int32 → Int32 → Option (Int32 × Wd)
  | 0, _, _, _, _ => none
  | n + 1, w, v1, v2, v3 => if ((12 : Int32)) ≤ v3 then (some (v2, w)) else (bd (f_X8_finds w v1 v3) (fun r4 w3 => bd (f_X8_ones w3 r4) (fun r7 w6 => bd (f_X8_finds w6 v1 v2) (fun r10 w9 => bd (f_X8_ones w9 r10) (fun r13 w12 => if r7 ≤ r13 then (b_X8_toLook_49 (b_X8_toLook_17 n) w12 v1 v3 v2) else (b_X8_toLook_49 (b_X8_toLook_17 n) w12 v1 v3 v3))))))
def b_X8_toLook_0 (w : Wd) (v1 : Int32) : Option (Int32 × Wd) := bd (f_X8_in w ((v1).toInt64) ((0 : Int64)) ((1 : Int64))) (fun r3 w2 => if r3 = 0 then (some ((-2 : Int32), w2)) else (b_X8_toLook_17 LF w2 v1 ((0 : Int32)) ((1 : Int32))))
def f_X8_toLook (w : Wd) (v1 : Int32) : Option (Int32 × Wd) := b_X8_toLook_0 w v1
set_option maxHeartbeats 4000000 in
set_option maxRecDepth 100000 in
theorem w_X8_toLook_49 {X : Cx} {rz : Int32} {wz : Wd} (O : Ok X cX8_toLook RX8 ((some .int)) wsX8_toLook (2) (45) 4) (hN : 121 ≤ g_N X.1) {kb17 : Wd → Int32 → Int32 → Int32 → Option (Int32 × Wd)} (hk17 : ∀ {w : Wd} {v1 : Int32} {v2 : Int32} {v3 : Int32}, kb17 w v1 v2 v3 = some (rz, wz) → Wk X w 17 [(0, .ref (g_ad X.1 105)), (1, .int v1), (2, .int v2), (3, .int v3)] []) (ho : Ro X (some (.int rz), wz)) {w : Wd} {v1 : Int32} {v3 : Int32} {s0 : Int32} (h : b_X8_toLook_49 kb17 w v1 v3 s0 = some (rz, wz)) : Wk X w 49 [(0, .ref (g_ad X.1 105)), (1, .int v1), (3, .int v3)] [.int s0] := by
  unfold b_X8_toLook_49 at h
  refine k_istore_n (lv' := [(2, .int s0), (0, .ref (g_ad X.1 105)), (1, .int v1), (3, .int v3)]) O dX8_toLook_49 rfl (by decide) rfl ?_
  obtain ⟨x1, ex1⟩ : ∃ z : Int32, z = v3 + (1 : Int32) := ⟨_, rfl⟩
  have h := nm_use h x1 ex1
  refine k_iinc (lv' := [(3, .int x1), (2, .int s0), (0, .ref (g_ad X.1 105)), (1, .int v1)]) O dX8_toLook_50 3 rfl (by rw [ex1]; rfl) (by decide) rfl ?_
  refine k_goto O 17 dX8_toLook_53 (by decide) ?_
  exact k_sub [2, 3, 1, 0] rfl (hk17 h)
set_option maxHeartbeats 4000000 in
set_option maxRecDepth 100000 in
theorem w_X8_toLook_17 {X : Cx} {rz : Int32} {wz : Wd} (O : Ok X cX8_toLook RX8 ((some .int)) wsX8_toLook (2) (45) 4) (hN : 121 ≤ g_N X.1) (ho : Ro X (some (.int rz), wz)) (n : Nat) : ∀ {w : Wd} {v1 : Int32} {v2 : Int32} {v3 : Int32}, b_X8_toLook_17 n w v1 v2 v3 = some (rz, wz) → Wk X w 17 [(0, .ref (g_ad X.1 105)), (1, .int v1), (2, .int v2), (3, .int v3)] [] := by
  induction n with
  | zero => intro w v1 v2 v3 h; exact nomatch (show (none : Option (Int32 × Wd)) = some _ from h)
  | succ n ih =>
    intro w v1 v2 v3 h
    rw [b_X8_toLook_17] at h
    refine k_iload_n O dX8_toLook_17 3 rfl ?_
    refine k_bipush O dX8_toLook_18 (v := 12) (by decide) ?_
    refine k_icmp_ge O 56 dX8_toLook_20 (by decide) (fun c1 => ?_) (fun c1 => ?_)
    · have h := ite_t c1 h
      refine k_iload_n O dX8_toLook_56 2 rfl ?_
      exact k_iret O dX8_toLook_57 (rt_int h ho)
    · have h := ite_f c1 h
      refine k_aload_n O dX8_toLook_23 0 rfl ?_
      refine k_iload_n O dX8_toLook_24 1 rfl ?_
      refine k_iload_n O dX8_toLook_25 3 rfl ?_
      obtain ⟨r4, w3, hc2, h⟩ := bd_some h
      refine k_callVi O (As := [.int v1, .int v3]) (rest := []) (k := 105) (c_X8_finds (x_l X) X.1 hN hc2) gX8_toLook_X8_finds rfl hd_X8_finds (by decide) (by omega) E_105 rfl rfl rfl rfl rfl (Nat.le_of_ble_eq_true rfl) dX8_toLook_26 ?_
      obtain ⟨r7, w6, hc5, h⟩ := bd_some h
      refine k_callSi O (As := [.int r4]) (rest := []) (c_X8_ones (x_l X) X.1 hc5) gX8_toLook_X8_ones rfl hd_X8_ones (by decide) rfl rfl (Nat.le_of_ble_eq_true rfl) dX8_toLook_29 ?_
      refine k_aload_n O dX8_toLook_32 0 rfl ?_
      refine k_iload_n O dX8_toLook_33 1 rfl ?_
      refine k_iload_n O dX8_toLook_34 2 rfl ?_
      obtain ⟨r10, w9, hc8, h⟩ := bd_some h
      refine k_callVi O (As := [.int v1, .int v2]) (rest := [.int r7]) (k := 105) (c_X8_finds (x_l X) X.1 hN hc8) gX8_toLook_X8_finds rfl hd_X8_finds (by decide) (by omega) E_105 rfl rfl rfl rfl rfl (Nat.le_of_ble_eq_true rfl) dX8_toLook_35 ?_
      obtain ⟨r13, w12, hc11, h⟩ := bd_some h
      refine k_callSi O (As := [.int r10]) (rest := [.int r7]) (c_X8_ones (x_l X) X.1 hc11) gX8_toLook_X8_ones rfl hd_X8_ones (by decide) rfl rfl (Nat.le_of_ble_eq_true rfl) dX8_toLook_38 ?_
      refine k_icmp_le O 48 dX8_toLook_41 (by decide) (fun c14 => ?_) (fun c14 => ?_)
      · have h := ite_t c14 h
        refine k_iload_n O dX8_toLook_48 2 rfl ?_
        exact k_sub [0, 1, 3] rfl (w_X8_toLook_49 O hN (fun {_} {_} {_} {_} h9 => ih h9) ho h)
      · have h := ite_f c14 h
        refine k_iload_n O dX8_toLook_44 3 rfl ?_
        refine k_goto O 49 dX8_toLook_45 (by decide) ?_
        exact k_sub [0, 1, 3] rfl (w_X8_toLook_49 O hN (fun {_} {_} {_} {_} h9 => ih h9) ho h)
set_option maxHeartbeats 4000000 in
set_option maxRecDepth 100000 in
theorem w_X8_toLook_0 {X : Cx} {rz : Int32} {wz : Wd} (O : Ok X cX8_toLook RX8 ((some .int)) wsX8_toLook (2) (45) 4) (hN : 121 ≤ g_N X.1) (ho : Ro X (some (.int rz), wz)) {w : Wd} {v1 : Int32} (h : b_X8_toLook_0 w v1 = some (rz, wz)) : Wk X w 0 [(0, .ref (g_ad X.1 105)), (1, .int v1)] [] := by
  unfold b_X8_toLook_0 at h
  refine k_iload_n O dX8_toLook_0 1 rfl ?_
  refine k_i2l O dX8_toLook_1 ?_
  refine k_lconst O dX8_toLook_2 (v := 0) (by decide) ?_
  refine k_lconst O dX8_toLook_3 (v := 1) (by decide) ?_
  obtain ⟨r3, w2, hc1, h⟩ := bd_some h
  refine k_callSi O (As := [.long ((v1).toInt64), .long ((0 : Int64)), .long ((1 : Int64))]) (rest := []) (c_X8_in (x_l X) X.1 hc1) gX8_toLook_X8_in rfl hd_X8_in (by decide) rfl rfl (Nat.le_of_ble_eq_true rfl) dX8_toLook_4 ?_
  refine k_if_ne O 13 dX8_toLook_7 (by decide) (fun c4 => ?_) (fun c4 => ?_)
  · have h := ite_f c4 h
    refine k_iconst O dX8_toLook_13 (v := 0) (by decide) ?_
    refine k_istore_n (lv' := [(2, .int ((0 : Int32))), (0, .ref (g_ad X.1 105)), (1, .int v1)]) O dX8_toLook_14 rfl (by decide) rfl ?_
    refine k_iconst O dX8_toLook_15 (v := 1) (by decide) ?_
    refine k_istore_n (lv' := [(3, .int ((1 : Int32))), (2, .int ((0 : Int32))), (0, .ref (g_ad X.1 105)), (1, .int v1)]) O dX8_toLook_16 rfl (by decide) rfl ?_
    exact k_sub [2, 3, 1, 0] rfl (w_X8_toLook_17 O hN ho LF h)
  · have h := ite_t c4 h
    refine k_bipush O dX8_toLook_10 (v := -2) (by decide) ?_
    exact k_iret O dX8_toLook_12 (rt_int h ho)
theorem c_X8_toLook (l : Launch) (G : Gl) (hN : 121 ≤ g_N G) {w wz : Wd} {v1 : Int32} {rz : Int32} (h : f_X8_toLook w v1 = some (rz, wz)) : Ct l yX8_toLook wsX8_toLook (2) (45) G [.ref (g_ad G 105), .int v1] w (some (.int rz), wz) := by
  refine Ct.start (by decide) rfl rfl rfl (Nat.le_of_ble_eq_true rfl) (fun X hG ho hl O => ?_)
  subst hG
  subst hl
  exact k_sub [0, 1] rfl (w_X8_toLook_0 O hN ho h)
def b_X8_ofCells_28 (kb4 : Wd → Int32 → Int32 → Int32 → Option (Int32 × Wd)) (w : Wd) (v0 : Int32) (v2 : Int32) (v3 : Int32) : Option (Int32 × Wd) := nm (v3 + (1 : Int32)) (fun x1 => kb4 w v0 v2 x1)
def b_X8_ofCells_4 : Nat → Wd → Int32 → Int32 → Int32 → Option (Int32 × Wd)
  | 0, _, _, _, _ => none
  | n + 1, w, v0, v2, v3 => if ((12 : Int32)) ≤ v3 then (some ((-9 : Int32), w)) else (if ((v0 >>> (v3 &&& 31)) &&& ((1 : Int32))) = ((1 : Int32)) then (if v2 = 0 then (some (v3, w)) else (nm (v2 + (-1 : Int32)) (fun x4 => b_X8_ofCells_28 (b_X8_ofCells_4 n) w v0 x4 v3))) else (b_X8_ofCells_28 (b_X8_ofCells_4 n) w v0 v2 v3))
def b_X8_ofCells_0 (w : Wd) (v0 : Int32) (v1 : Int32) : Option (Int32 × Wd) := b_X8_ofCells_4 LF w v0 v1 ((0 : Int32))
def f_X8_ofCells (w : Wd) (v0 : Int32) (v1 : Int32) : Option (Int32 × Wd) := b_X8_ofCells_0 w v0 v1
set_option maxHeartbeats 4000000 in
set_option maxRecDepth 100000 in
theorem w_X8_ofCells_28 {X : Cx} {rz : Int32} {wz : Wd} (O : Ok X cX8_ofCells RX8 ((some .int)) wsX8_ofCells (0) (0) 4) {kb4 : Wd → Int32 → Int32 → Int32 → Option (Int32 × Wd)} (hk4 : ∀ {w : Wd} {v0 : Int32} {v2 : Int32} {v3 : Int32}, kb4 w v0 v2 v3 = some (rz, wz) → Wk X w 4 [(0, .int v0), (2, .int v2), (3, .int v3)] []) (ho : Ro X (some (.int rz), wz)) {w : Wd} {v0 : Int32} {v2 : Int32} {v3 : Int32} (h : b_X8_ofCells_28 kb4 w v0 v2 v3 = some (rz, wz)) : Wk X w 28 [(0, .int v0), (2, .int v2), (3, .int v3)] [] := by
  unfold b_X8_ofCells_28 at h
  obtain ⟨x1, ex1⟩ : ∃ z : Int32, z = v3 + (1 : Int32) := ⟨_, rfl⟩
  have h := nm_use h x1 ex1
  refine k_iinc (lv' := [(3, .int x1), (0, .int v0), (2, .int v2)]) O dX8_ofCells_28 2 rfl (by rw [ex1]; rfl) (by decide) rfl ?_
  refine k_goto O 4 dX8_ofCells_31 (by decide) ?_
  exact k_sub [1, 2, 0] rfl (hk4 h)
set_option maxHeartbeats 4000000 in
set_option maxRecDepth 100000 in
theorem w_X8_ofCells_4 {X : Cx} {rz : Int32} {wz : Wd} (O : Ok X cX8_ofCells RX8 ((some .int)) wsX8_ofCells (0) (0) 4) (ho : Ro X (some (.int rz), wz)) (n : Nat) : ∀ {w : Wd} {v0 : Int32} {v2 : Int32} {v3 : Int32}, b_X8_ofCells_4 n w v0 v2 v3 = some (rz, wz) → Wk X w 4 [(0, .int v0), (2, .int v2), (3, .int v3)] [] := by
  induction n with
  | zero => intro w v0 v2 v3 h; exact nomatch (show (none : Option (Int32 × Wd)) = some _ from h)
  | succ n ih =>
    intro w v0 v2 v3 h
    rw [b_X8_ofCells_4] at h
    refine k_iload_n O dX8_ofCells_4 2 rfl ?_
    refine k_bipush O dX8_ofCells_5 (v := 12) (by decide) ?_
    refine k_icmp_ge O 34 dX8_ofCells_7 (by decide) (fun c1 => ?_) (fun c1 => ?_)
    · have h := ite_t c1 h
      refine k_bipush O dX8_ofCells_34 (v := -9) (by decide) ?_
      exact k_iret O dX8_ofCells_36 (rt_int h ho)
    · have h := ite_f c1 h
      refine k_iload_n O dX8_ofCells_10 0 rfl ?_
      refine k_iload_n O dX8_ofCells_11 2 rfl ?_
      refine k_ishr O dX8_ofCells_12 ?_
      refine k_iconst O dX8_ofCells_13 (v := 1) (by decide) ?_
      refine k_iand O dX8_ofCells_14 ?_
      refine k_iconst O dX8_ofCells_15 (v := 1) (by decide) ?_
      refine k_icmp_ne O 28 dX8_ofCells_16 (by decide) (fun c2 => ?_) (fun c2 => ?_)
      · have h := ite_f c2 h
        exact k_sub [0, 1, 2] rfl (w_X8_ofCells_28 O (fun {_} {_} {_} {_} h9 => ih h9) ho h)
      · have h := ite_t c2 h
        refine k_iload_n O dX8_ofCells_19 1 rfl ?_
        refine k_if_ne O 25 dX8_ofCells_20 (by decide) (fun c3 => ?_) (fun c3 => ?_)
        · have h := ite_f c3 h
          obtain ⟨x4, ex4⟩ : ∃ z : Int32, z = v2 + (-1 : Int32) := ⟨_, rfl⟩
          have h := nm_use h x4 ex4
          refine k_iinc (lv' := [(2, .int x4), (0, .int v0), (3, .int v3)]) O dX8_ofCells_25 1 rfl (by rw [ex4]; rfl) (by decide) rfl ?_
          exact k_sub [1, 0, 2] rfl (w_X8_ofCells_28 O (fun {_} {_} {_} {_} h9 => ih h9) ho h)
        · have h := ite_t c3 h
          refine k_iload_n O dX8_ofCells_23 2 rfl ?_
          exact k_iret O dX8_ofCells_24 (rt_int h ho)
set_option maxHeartbeats 4000000 in
set_option maxRecDepth 100000 in
theorem w_X8_ofCells_0 {X : Cx} {rz : Int32} {wz : Wd} (O : Ok X cX8_ofCells RX8 ((some .int)) wsX8_ofCells (0) (0) 4) (ho : Ro X (some (.int rz), wz)) {w : Wd} {v0 : Int32} {v1 : Int32} (h : b_X8_ofCells_0 w v0 v1 = some (rz, wz)) : Wk X w 0 [(0, .int v0), (1, .int v1)] [] := by
  unfold b_X8_ofCells_0 at h
  refine k_iload_n O dX8_ofCells_0 1 rfl ?_
  refine k_istore_n (lv' := [(2, .int v1), (0, .int v0), (1, .int v1)]) O dX8_ofCells_1 rfl (by decide) rfl ?_
  refine k_iconst O dX8_ofCells_2 (v := 0) (by decide) ?_
  refine k_istore_n (lv' := [(3, .int ((0 : Int32))), (2, .int v1), (0, .int v0), (1, .int v1)]) O dX8_ofCells_3 rfl (by decide) rfl ?_
  exact k_sub [2, 1, 0] rfl (w_X8_ofCells_4 O ho LF h)
theorem c_X8_ofCells (l : Launch) (G : Gl) {w wz : Wd} {v0 : Int32} {v1 : Int32} {rz : Int32} (h : f_X8_ofCells w v0 v1 = some (rz, wz)) : Ct l yX8_ofCells wsX8_ofCells (0) (0) G [.int v0, .int v1] w (some (.int rz), wz) := by
  refine Ct.start (by decide) rfl rfl rfl (Nat.le_of_ble_eq_true rfl) (fun X hG ho hl O => ?_)
  subst hG
  subst hl
  exact k_sub [0, 1] rfl (w_X8_ofCells_0 O ho h)
def b_X8_twelveTo_4 : Nat → Wd → Int32 → Int32 → Int32 → Option (Int32 × Wd)
  | 0, _, _, _, _ => none
  | n + 1, w, v0, v1, v2 => if v0 ≤ v2 then (some (v1, w)) else (nm (v1 * ((12 : Int32))) (fun x2 => nm (v2 + (1 : Int32)) (fun x3 => b_X8_twelveTo_4 n w v0 x2 x3)))
def b_X8_twelveTo_0 (w : Wd) (v0 : Int32) : Option (Int32 × Wd) := b_X8_twelveTo_4 LF w v0 ((1 : Int32)) ((0 : Int32))
def f_X8_twelveTo (w : Wd) (v0 : Int32) : Option (Int32 × Wd) := b_X8_twelveTo_0 w v0
set_option maxHeartbeats 4000000 in
set_option maxRecDepth 100000 in
theorem w_X8_twelveTo_4 {X : Cx} {rz : Int32} {wz : Wd} (O : Ok X cX8_twelveTo RX8 ((some .int)) wsX8_twelveTo (0) (0) 3) (ho : Ro X (some (.int rz), wz)) (n : Nat) : ∀ {w : Wd} {v0 : Int32} {v1 : Int32} {v2 : Int32}, b_X8_twelveTo_4 n w v0 v1 v2 = some (rz, wz) → Wk X w 4 [(0, .int v0), (1, .int v1), (2, .int v2)] [] := by
  induction n with
  | zero => intro w v0 v1 v2 h; exact nomatch (show (none : Option (Int32 × Wd)) = some _ from h)
  | succ n ih =>
    intro w v0 v1 v2 h
    rw [b_X8_twelveTo_4] at h
    refine k_iload_n O dX8_twelveTo_4 2 rfl ?_
    refine k_iload_n O dX8_twelveTo_5 0 rfl ?_
    refine k_icmp_ge O 20 dX8_twelveTo_6 (by decide) (fun c1 => ?_) (fun c1 => ?_)
    · have h := ite_t c1 h
      refine k_iload_n O dX8_twelveTo_20 1 rfl ?_
      exact k_iret O dX8_twelveTo_21 (rt_int h ho)
    · have h := ite_f c1 h
      refine k_iload_n O dX8_twelveTo_9 1 rfl ?_
      refine k_bipush O dX8_twelveTo_10 (v := 12) (by decide) ?_
      refine k_imul O dX8_twelveTo_12 ?_
      refine k_topi (fun x2 ex2 => ?_)
      have h := nm_use h x2 ex2
      refine k_istore_n (lv' := [(1, .int x2), (0, .int v0), (2, .int v2)]) O dX8_twelveTo_13 rfl (by decide) rfl ?_
      obtain ⟨x3, ex3⟩ : ∃ z : Int32, z = v2 + (1 : Int32) := ⟨_, rfl⟩
      have h := nm_use h x3 ex3
      refine k_iinc (lv' := [(2, .int x3), (1, .int x2), (0, .int v0)]) O dX8_twelveTo_14 2 rfl (by rw [ex3]; rfl) (by decide) rfl ?_
      refine k_goto O 4 dX8_twelveTo_17 (by decide) ?_
      exact k_sub [2, 1, 0] rfl (ih h)
set_option maxHeartbeats 4000000 in
set_option maxRecDepth 100000 in
theorem w_X8_twelveTo_0 {X : Cx} {rz : Int32} {wz : Wd} (O : Ok X cX8_twelveTo RX8 ((some .int)) wsX8_twelveTo (0) (0) 3) (ho : Ro X (some (.int rz), wz)) {w : Wd} {v0 : Int32} (h : b_X8_twelveTo_0 w v0 = some (rz, wz)) : Wk X w 0 [(0, .int v0)] [] := by
  unfold b_X8_twelveTo_0 at h
  refine k_iconst O dX8_twelveTo_0 (v := 1) (by decide) ?_
  refine k_istore_n (lv' := [(1, .int ((1 : Int32))), (0, .int v0)]) O dX8_twelveTo_1 rfl (by decide) rfl ?_
  refine k_iconst O dX8_twelveTo_2 (v := 0) (by decide) ?_
  refine k_istore_n (lv' := [(2, .int ((0 : Int32))), (1, .int ((1 : Int32))), (0, .int v0)]) O dX8_twelveTo_3 rfl (by decide) rfl ?_
  exact k_sub [2, 1, 0] rfl (w_X8_twelveTo_4 O ho LF h)
theorem c_X8_twelveTo (l : Launch) (G : Gl) {w wz : Wd} {v0 : Int32} {rz : Int32} (h : f_X8_twelveTo w v0 = some (rz, wz)) : Ct l yX8_twelveTo wsX8_twelveTo (0) (0) G [.int v0] w (some (.int rz), wz) := by
  refine Ct.start (by decide) rfl rfl rfl (Nat.le_of_ble_eq_true rfl) (fun X hG ho hl O => ?_)
  subst hG
  subst hl
  exact k_sub [0] rfl (w_X8_twelveTo_0 O ho h)
def b_X8_caughtParts_275 (kb20 : Wd → Int32 → Int32 → Int32 → Int32 → Int32 → Option (Int32 × Wd)) (w : Wd) (v1 : Int32) (v2 : Int32) (v3 : Int32) (v4 : Int32) (v5 : Int32) : Option (Int32 × Wd) := kb20 w v1 v2 v3 v4 v5
def b_X8_caughtParts_162 (kb20 : Wd → Int32 → Int32 → Int32 → Int32 → Int32 → Option (Int32 × Wd)) : Nat → Wd → Int32 → Int32 → Int32 → Int32 → Int32 → Int32 → Int32 → Option (Int32 × Wd)
  | 0, _, _, _, _, _, _, _, _ => none
  | n + 1, w, v1, v2, v3, v4, v5, v6, v8 => if ((12 : Int32)) ≤ v8 then (gd (inb v5 6) (bd (f_X8_ofCells w v6 (w.1 117 v5.toNatClampNeg)) (fun r5 w4 => bd (f_X8_stepOn w4 (v5 + ((1 : Int32))) v1 r5 v3) (fun r8 w7 => gd (inb v5 6) (gd (inb v5 6) (nm (up w7 117 v5.toNatClampNeg ((w7.1 117 v5.toNatClampNeg) + ((1 : Int32)))) (fun w11 => gd (inb v5 6) (bd (f_X8_ones w11 v6) (fun r15 w14 => gd (nz r15) (gd (inb (v5 + ((1 : Int32))) 6) (nm (up w14 118 (v5 + ((1 : Int32))).toNatClampNeg ((w11.1 118 v5.toNatClampNeg) * (((12 : Int32)) / r15))) (fun w18 => gd (inb (v5 + ((1 : Int32))) 6) (nm (up w18 117 (v5 + ((1 : Int32))).toNatClampNeg ((0 : Int32))) (fun w20 => nm (v5 + (1 : Int32)) (fun x21 => b_X8_caughtParts_275 kb20 w20 v1 v2 v3 v4 x21))))))))))))))) else (gd (inb ((((12 : Int32)) * v5) + v8) 72) (gd (inb ((((12 : Int32)) * (v5 + ((1 : Int32)))) + v8) 72) (nm (up w 113 ((((12 : Int32)) * (v5 + ((1 : Int32)))) + v8).toNatClampNeg (w.1 113 ((((12 : Int32)) * v5) + v8).toNatClampNeg)) (fun w24 => nm (v8 + (1 : Int32)) (fun x25 => b_X8_caughtParts_162 kb20 n w24 v1 v2 v3 v4 v5 v6 x25)))))
def b_X8_caughtParts_129 (kb20 : Wd → Int32 → Int32 → Int32 → Int32 → Int32 → Option (Int32 × Wd)) (w : Wd) (v1 : Int32) (v2 : Int32) (v3 : Int32) (v5 : Int32) (s0 : Int32) (s1 : Int32) : Option (Int32 × Wd) := nm (s1 + s0) (fun x1 => nm (v5 + (-1 : Int32)) (fun x2 => b_X8_caughtParts_275 kb20 w v1 v2 v3 x1 x2))
def b_X8_caughtParts_81 (kb20 : Wd → Int32 → Int32 → Int32 → Int32 → Int32 → Option (Int32 × Wd)) (w : Wd) (v1 : Int32) (v2 : Int32) (v3 : Int32) (v4 : Int32) (v5 : Int32) (v6 : Int32) (s0 : Int32) : Option (Int32 × Wd) := if s0 = 0 then (gd (inb v5 6) (bd (f_X8_ones w v6) (fun r5 w4 => if (w.1 117 v5.toNatClampNeg) = r5 then (nm (v5 + (-1 : Int32)) (fun x7 => b_X8_caughtParts_275 kb20 w4 v1 v2 v3 v4 x7)) else (b_X8_caughtParts_162 kb20 LF w4 v1 v2 v3 v4 v5 v6 ((0 : Int32)))))) else (gd (inb (((((12 : Int32)) * v5) + ((8 : Int32))) + v1) 72) (if (w.1 113 (((((12 : Int32)) * v5) + ((8 : Int32))) + v1).toNatClampNeg) = ((-9 : Int32)) then (b_X8_caughtParts_129 kb20 w v1 v2 v3 v5 ((0 : Int32)) v4) else (gd (inb v5 6) (bd (f_X8_twelveTo w (v2 - v5)) (fun r13 w12 => b_X8_caughtParts_129 kb20 w12 v1 v2 v3 v5 ((w.1 118 v5.toNatClampNeg) * r13) v4)))))
def b_X8_caughtParts_76 (kb20 : Wd → Int32 → Int32 → Int32 → Int32 → Int32 → Option (Int32 × Wd)) (w : Wd) (v1 : Int32) (v2 : Int32) (v3 : Int32) (v4 : Int32) (v5 : Int32) (v6 : Int32) : Option (Int32 × Wd) := b_X8_caughtParts_81 kb20 w v1 v2 v3 v4 v5 v6 ((1 : Int32))
def b_X8_caughtParts_20 : Nat → Wd → Int32 → Int32 → Int32 → Int32 → Int32 → Option (Int32 × Wd)
  | 0, _, _, _, _, _, _ => none
  | n + 1, w, v1, v2, v3, v4, v5 => if v5 < 0 then (some (v4, w)) else (gd (inb (((((12 : Int32)) * v5) + ((4 : Int32))) + v1) 72) (bd (f_X8_nearTo w (w.1 113 (((((12 : Int32)) * v5) + ((4 : Int32))) + v1).toNatClampNeg)) (fun r5 w4 => if v5 = v2 then (b_X8_caughtParts_76 (b_X8_caughtParts_20 n) w4 v1 v2 v3 v4 v5 r5) else (gd (inb (((((12 : Int32)) * v5) + ((8 : Int32))) + v1) 72) (if (w4.1 113 (((((12 : Int32)) * v5) + ((8 : Int32))) + v1).toNatClampNeg) = ((-9 : Int32)) then (if r5 = 0 then (b_X8_caughtParts_76 (b_X8_caughtParts_20 n) w4 v1 v2 v3 v4 v5 r5) else (b_X8_caughtParts_81 (b_X8_caughtParts_20 n) w4 v1 v2 v3 v4 v5 r5 ((0 : Int32)))) else (b_X8_caughtParts_76 (b_X8_caughtParts_20 n) w4 v1 v2 v3 v4 v5 r5))))))
def b_X8_caughtParts_0 (w : Wd) (v1 : Int32) (v2 : Int32) (v3 : Int32) : Option (Int32 × Wd) := nm (up w 117 ((0 : Int32)).toNatClampNeg ((0 : Int32))) (fun w1 => nm (up w1 118 ((0 : Int32)).toNatClampNeg ((1 : Int32))) (fun w2 => b_X8_caughtParts_20 LF w2 v1 v2 v3 ((0 : Int32)) ((0 : Int32))))
def f_X8_caughtParts (w : Wd) (v1 : Int32) (v2 : Int32) (v3 : Int32) : Option (Int32 × Wd) := b_X8_caughtParts_0 w v1 v2 v3
set_option maxHeartbeats 4000000 in
set_option maxRecDepth 100000 in
theorem w_X8_caughtParts_275 {X : Cx} {rz : Int32} {wz : Wd} (O : Ok X cX8_caughtParts RX8 ((some .int)) wsX8_caughtParts (3) (81) 9) (hN : 121 ≤ g_N X.1) {kb20 : Wd → Int32 → Int32 → Int32 → Int32 → Int32 → Option (Int32 × Wd)} (hk20 : ∀ {w : Wd} {v1 : Int32} {v2 : Int32} {v3 : Int32} {v4 : Int32} {v5 : Int32}, kb20 w v1 v2 v3 v4 v5 = some (rz, wz) → Wk X w 20 [(0, .ref (g_ad X.1 105)), (1, .int v1), (2, .int v2), (3, .int v3), (4, .int v4), (5, .int v5)] []) (ho : Ro X (some (.int rz), wz)) {w : Wd} {v1 : Int32} {v2 : Int32} {v3 : Int32} {v4 : Int32} {v5 : Int32} (h : b_X8_caughtParts_275 kb20 w v1 v2 v3 v4 v5 = some (rz, wz)) : Wk X w 275 [(0, .ref (g_ad X.1 105)), (1, .int v1), (2, .int v2), (3, .int v3), (4, .int v4), (5, .int v5)] [] := by
  unfold b_X8_caughtParts_275 at h
  refine k_goto O 20 dX8_caughtParts_275 (by decide) ?_
  exact k_sub [0, 1, 2, 3, 4, 5] rfl (hk20 h)
set_option maxHeartbeats 4000000 in
set_option maxRecDepth 100000 in
theorem w_X8_caughtParts_162 {X : Cx} {rz : Int32} {wz : Wd} (O : Ok X cX8_caughtParts RX8 ((some .int)) wsX8_caughtParts (3) (81) 9) (hN : 121 ≤ g_N X.1) {kb20 : Wd → Int32 → Int32 → Int32 → Int32 → Int32 → Option (Int32 × Wd)} (hk20 : ∀ {w : Wd} {v1 : Int32} {v2 : Int32} {v3 : Int32} {v4 : Int32} {v5 : Int32}, kb20 w v1 v2 v3 v4 v5 = some (rz, wz) → Wk X w 20 [(0, .ref (g_ad X.1 105)), (1, .int v1), (2, .int v2), (3, .int v3), (4, .int v4), (5, .int v5)] []) (ho : Ro X (some (.int rz), wz)) (n : Nat) : ∀ {w : Wd} {v1 : Int32} {v2 : Int32} {v3 : Int32} {v4 : Int32} {v5 : Int32} {v6 : Int32} {v8 : Int32}, b_X8_caughtParts_162 kb20 n w v1 v2 v3 v4 v5 v6 v8 = some (rz, wz) → Wk X w 162 [(0, .ref (g_ad X.1 105)), (1, .int v1), (2, .int v2), (3, .int v3), (4, .int v4), (5, .int v5), (6, .int v6), (8, .int v8)] [] := by
  induction n with
  | zero => intro w v1 v2 v3 v4 v5 v6 v8 h; exact nomatch (show (none : Option (Int32 × Wd)) = some _ from h)
  | succ n ih =>
    intro w v1 v2 v3 v4 v5 v6 v8 h
    rw [b_X8_caughtParts_162] at h
    refine k_iload O dX8_caughtParts_162 7 rfl ?_
    refine k_bipush O dX8_caughtParts_164 (v := 12) (by decide) ?_
    refine k_icmp_ge O 203 dX8_caughtParts_166 (by decide) (fun c1 => ?_) (fun c1 => ?_)
    · have h := ite_t c1 h
      refine k_aload_n O dX8_caughtParts_203 0 rfl ?_
      refine k_iload O dX8_caughtParts_204 5 rfl ?_
      refine k_iconst O dX8_caughtParts_206 (v := 1) (by decide) ?_
      refine k_iadd O dX8_caughtParts_207 ?_
      refine k_iload_n O dX8_caughtParts_208 1 rfl ?_
      refine k_iload O dX8_caughtParts_209 6 rfl ?_
      refine k_aload_n O dX8_caughtParts_211 0 rfl ?_
      refine k_get O (v := .ref (g_ad X.1 117)) (k := 105) (by omega) E_105 rfl 23 (by decide) (fun _ h9 => List.mem_cons_of_mem _ (List.mem_append_right _ h9)) (List.mem_of_getElem? (i := 1) rfl) rfl dX8_caughtParts_212 ?_
      refine k_iload O dX8_caughtParts_215 5 rfl ?_
      obtain ⟨g2, h⟩ := gd_some h
      refine k_iald O (k := 117) (by omega) E_117 g2 dX8_caughtParts_217 ?_
      obtain ⟨r5, w4, hc3, h⟩ := bd_some h
      refine k_callSi O (As := [.int v6, .int (w.1 117 v5.toNatClampNeg)]) (rest := [.int v1, .int (v5 + ((1 : Int32))), .ref (g_ad X.1 105)]) (c_X8_ofCells (x_l X) X.1 hc3) gX8_caughtParts_X8_ofCells rfl hd_X8_ofCells (by decide) rfl rfl (Nat.le_of_ble_eq_true rfl) dX8_caughtParts_218 ?_
      refine k_iload_n O dX8_caughtParts_221 3 rfl ?_
      obtain ⟨r8, w7, hc6, h⟩ := bd_some h
      refine k_callVi O (As := [.int (v5 + ((1 : Int32))), .int v1, .int r5, .int v3]) (rest := []) (k := 105) (c_X8_stepOn (x_l X) X.1 hN hc6) gX8_caughtParts_X8_stepOn rfl hd_X8_stepOn (by decide) (by omega) E_105 rfl rfl rfl rfl rfl (Nat.le_of_ble_eq_true rfl) dX8_caughtParts_222 ?_
      refine k_pop O dX8_caughtParts_225 rfl ?_
      refine k_aload_n O dX8_caughtParts_226 0 rfl ?_
      refine k_get O (v := .ref (g_ad X.1 117)) (k := 105) (by omega) E_105 rfl 23 (by decide) (fun _ h9 => List.mem_cons_of_mem _ (List.mem_append_right _ h9)) (List.mem_of_getElem? (i := 1) rfl) rfl dX8_caughtParts_227 ?_
      refine k_iload O dX8_caughtParts_230 5 rfl ?_
      refine k_dup2 O dX8_caughtParts_232 rfl rfl ?_
      obtain ⟨g9, h⟩ := gd_some h
      refine k_iald O (k := 117) (by omega) E_117 g9 dX8_caughtParts_233 ?_
      refine k_iconst O dX8_caughtParts_234 (v := 1) (by decide) ?_
      refine k_iadd O dX8_caughtParts_235 ?_
      obtain ⟨g10, h⟩ := gd_some h
      refine k_iast O (k := 117) (by omega) E_117 (fun _ => E_117) g10 dX8_caughtParts_236 ?_
      refine k_nw (fun w11 ew11 => ?_)
      have h := nm_use h w11 ew11
      refine k_aload_n O dX8_caughtParts_237 0 rfl ?_
      refine k_get O (v := .ref (g_ad X.1 118)) (k := 105) (by omega) E_105 rfl 24 (by decide) (fun _ h9 => List.mem_cons_of_mem _ (List.mem_append_right _ h9)) (List.mem_of_getElem? (i := 2) rfl) rfl dX8_caughtParts_238 ?_
      refine k_iload O dX8_caughtParts_241 5 rfl ?_
      refine k_iconst O dX8_caughtParts_243 (v := 1) (by decide) ?_
      refine k_iadd O dX8_caughtParts_244 ?_
      refine k_aload_n O dX8_caughtParts_245 0 rfl ?_
      refine k_get O (v := .ref (g_ad X.1 118)) (k := 105) (by omega) E_105 rfl 24 (by decide) (fun _ h9 => List.mem_cons_of_mem _ (List.mem_append_right _ h9)) (List.mem_of_getElem? (i := 2) rfl) rfl dX8_caughtParts_246 ?_
      refine k_iload O dX8_caughtParts_249 5 rfl ?_
      obtain ⟨g12, h⟩ := gd_some h
      refine k_iald O (k := 118) (by omega) E_118 g12 dX8_caughtParts_251 ?_
      refine k_bipush O dX8_caughtParts_252 (v := 12) (by decide) ?_
      refine k_iload O dX8_caughtParts_254 6 rfl ?_
      obtain ⟨r15, w14, hc13, h⟩ := bd_some h
      refine k_callSi O (As := [.int v6]) (rest := [.int ((12 : Int32)), .int (w11.1 118 v5.toNatClampNeg), .int (v5 + ((1 : Int32))), .ref (g_ad X.1 118)]) (c_X8_ones (x_l X) X.1 hc13) gX8_caughtParts_X8_ones rfl hd_X8_ones (by decide) rfl rfl (Nat.le_of_ble_eq_true rfl) dX8_caughtParts_256 ?_
      obtain ⟨g16, h⟩ := gd_some h
      refine k_idiv O dX8_caughtParts_259 (nz_ne g16) ?_
      refine k_imul O dX8_caughtParts_260 ?_
      obtain ⟨g17, h⟩ := gd_some h
      refine k_iast O (k := 118) (by omega) E_118 (fun _ => E_118) g17 dX8_caughtParts_261 ?_
      refine k_nw (fun w18 ew18 => ?_)
      have h := nm_use h w18 ew18
      refine k_aload_n O dX8_caughtParts_262 0 rfl ?_
      refine k_get O (v := .ref (g_ad X.1 117)) (k := 105) (by omega) E_105 rfl 23 (by decide) (fun _ h9 => List.mem_cons_of_mem _ (List.mem_append_right _ h9)) (List.mem_of_getElem? (i := 1) rfl) rfl dX8_caughtParts_263 ?_
      refine k_iload O dX8_caughtParts_266 5 rfl ?_
      refine k_iconst O dX8_caughtParts_268 (v := 1) (by decide) ?_
      refine k_iadd O dX8_caughtParts_269 ?_
      refine k_iconst O dX8_caughtParts_270 (v := 0) (by decide) ?_
      obtain ⟨g19, h⟩ := gd_some h
      refine k_iast O (k := 117) (by omega) E_117 (fun _ => E_117) g19 dX8_caughtParts_271 ?_
      refine k_nw (fun w20 ew20 => ?_)
      have h := nm_use h w20 ew20
      obtain ⟨x21, ex21⟩ : ∃ z : Int32, z = v5 + (1 : Int32) := ⟨_, rfl⟩
      have h := nm_use h x21 ex21
      refine k_iinc (lv' := [(5, .int x21), (0, .ref (g_ad X.1 105)), (1, .int v1), (2, .int v2), (3, .int v3), (4, .int v4), (6, .int v6), (8, .int v8)]) O dX8_caughtParts_272 5 rfl (by rw [ex21]; rfl) (by decide) rfl ?_
      exact k_sub [1, 2, 3, 4, 5, 0] rfl (w_X8_caughtParts_275 O hN hk20 ho h)
    · have h := ite_f c1 h
      refine k_aload_n O dX8_caughtParts_169 0 rfl ?_
      refine k_get O (v := .ref (g_ad X.1 113)) (k := 105) (by omega) E_105 rfl 14 (by decide) (fun _ h9 => List.mem_cons_of_mem _ (List.mem_append_right _ h9)) (List.mem_of_getElem? (i := 3) rfl) rfl dX8_caughtParts_170 ?_
      refine k_bipush O dX8_caughtParts_173 (v := 12) (by decide) ?_
      refine k_iload O dX8_caughtParts_175 5 rfl ?_
      refine k_iconst O dX8_caughtParts_177 (v := 1) (by decide) ?_
      refine k_iadd O dX8_caughtParts_178 ?_
      refine k_imul O dX8_caughtParts_179 ?_
      refine k_iload O dX8_caughtParts_180 7 rfl ?_
      refine k_iadd O dX8_caughtParts_182 ?_
      refine k_aload_n O dX8_caughtParts_183 0 rfl ?_
      refine k_get O (v := .ref (g_ad X.1 113)) (k := 105) (by omega) E_105 rfl 14 (by decide) (fun _ h9 => List.mem_cons_of_mem _ (List.mem_append_right _ h9)) (List.mem_of_getElem? (i := 3) rfl) rfl dX8_caughtParts_184 ?_
      refine k_bipush O dX8_caughtParts_187 (v := 12) (by decide) ?_
      refine k_iload O dX8_caughtParts_189 5 rfl ?_
      refine k_imul O dX8_caughtParts_191 ?_
      refine k_iload O dX8_caughtParts_192 7 rfl ?_
      refine k_iadd O dX8_caughtParts_194 ?_
      obtain ⟨g22, h⟩ := gd_some h
      refine k_iald O (k := 113) (by omega) E_113 g22 dX8_caughtParts_195 ?_
      obtain ⟨g23, h⟩ := gd_some h
      refine k_iast O (k := 113) (by omega) E_113 (fun _ => E_113) g23 dX8_caughtParts_196 ?_
      refine k_nw (fun w24 ew24 => ?_)
      have h := nm_use h w24 ew24
      obtain ⟨x25, ex25⟩ : ∃ z : Int32, z = v8 + (1 : Int32) := ⟨_, rfl⟩
      have h := nm_use h x25 ex25
      refine k_iinc (lv' := [(8, .int x25), (0, .ref (g_ad X.1 105)), (1, .int v1), (2, .int v2), (3, .int v3), (4, .int v4), (5, .int v5), (6, .int v6)]) O dX8_caughtParts_197 7 rfl (by rw [ex25]; rfl) (by decide) rfl ?_
      refine k_goto O 162 dX8_caughtParts_200 (by decide) ?_
      exact k_sub [1, 2, 3, 4, 5, 6, 7, 0] rfl (ih h)
set_option maxHeartbeats 4000000 in
set_option maxRecDepth 100000 in
theorem w_X8_caughtParts_129 {X : Cx} {rz : Int32} {wz : Wd} (O : Ok X cX8_caughtParts RX8 ((some .int)) wsX8_caughtParts (3) (81) 9) (hN : 121 ≤ g_N X.1) {kb20 : Wd → Int32 → Int32 → Int32 → Int32 → Int32 → Option (Int32 × Wd)} (hk20 : ∀ {w : Wd} {v1 : Int32} {v2 : Int32} {v3 : Int32} {v4 : Int32} {v5 : Int32}, kb20 w v1 v2 v3 v4 v5 = some (rz, wz) → Wk X w 20 [(0, .ref (g_ad X.1 105)), (1, .int v1), (2, .int v2), (3, .int v3), (4, .int v4), (5, .int v5)] []) (ho : Ro X (some (.int rz), wz)) {w : Wd} {v1 : Int32} {v2 : Int32} {v3 : Int32} {v5 : Int32} {s0 : Int32} {s1 : Int32} (h : b_X8_caughtParts_129 kb20 w v1 v2 v3 v5 s0 s1 = some (rz, wz)) : Wk X w 129 [(0, .ref (g_ad X.1 105)), (1, .int v1), (2, .int v2), (3, .int v3), (5, .int v5)] [.int s0, .int s1] := by
  unfold b_X8_caughtParts_129 at h
  refine k_iadd O dX8_caughtParts_129 ?_
  refine k_topi (fun x1 ex1 => ?_)
  have h := nm_use h x1 ex1
  refine k_istore (lv' := [(4, .int x1), (0, .ref (g_ad X.1 105)), (1, .int v1), (2, .int v2), (3, .int v3), (5, .int v5)]) O dX8_caughtParts_130 (by decide) rfl ?_
  obtain ⟨x2, ex2⟩ : ∃ z : Int32, z = v5 + (-1 : Int32) := ⟨_, rfl⟩
  have h := nm_use h x2 ex2
  refine k_iinc (lv' := [(5, .int x2), (4, .int x1), (0, .ref (g_ad X.1 105)), (1, .int v1), (2, .int v2), (3, .int v3)]) O dX8_caughtParts_132 5 rfl (by rw [ex2]; rfl) (by decide) rfl ?_
  refine k_goto O 275 dX8_caughtParts_135 (by decide) ?_
  exact k_sub [2, 3, 4, 5, 1, 0] rfl (w_X8_caughtParts_275 O hN hk20 ho h)
set_option maxHeartbeats 4000000 in
set_option maxRecDepth 100000 in
theorem w_X8_caughtParts_81 {X : Cx} {rz : Int32} {wz : Wd} (O : Ok X cX8_caughtParts RX8 ((some .int)) wsX8_caughtParts (3) (81) 9) (hN : 121 ≤ g_N X.1) {kb20 : Wd → Int32 → Int32 → Int32 → Int32 → Int32 → Option (Int32 × Wd)} (hk20 : ∀ {w : Wd} {v1 : Int32} {v2 : Int32} {v3 : Int32} {v4 : Int32} {v5 : Int32}, kb20 w v1 v2 v3 v4 v5 = some (rz, wz) → Wk X w 20 [(0, .ref (g_ad X.1 105)), (1, .int v1), (2, .int v2), (3, .int v3), (4, .int v4), (5, .int v5)] []) (ho : Ro X (some (.int rz), wz)) {w : Wd} {v1 : Int32} {v2 : Int32} {v3 : Int32} {v4 : Int32} {v5 : Int32} {v6 : Int32} {s0 : Int32} (h : b_X8_caughtParts_81 kb20 w v1 v2 v3 v4 v5 v6 s0 = some (rz, wz)) : Wk X w 81 [(0, .ref (g_ad X.1 105)), (1, .int v1), (2, .int v2), (3, .int v3), (4, .int v4), (5, .int v5), (6, .int v6)] [.int s0] := by
  unfold b_X8_caughtParts_81 at h
  refine k_istore (lv' := [(7, .int s0), (0, .ref (g_ad X.1 105)), (1, .int v1), (2, .int v2), (3, .int v3), (4, .int v4), (5, .int v5), (6, .int v6)]) O dX8_caughtParts_81 (by decide) rfl ?_
  refine k_iload O dX8_caughtParts_83 0 rfl ?_
  refine k_if_eq O 138 dX8_caughtParts_85 (by decide) (fun c1 => ?_) (fun c1 => ?_)
  · have h := ite_t c1 h
    refine k_aload_n O dX8_caughtParts_138 1 rfl ?_
    refine k_get O (v := .ref (g_ad X.1 117)) (k := 105) (by omega) E_105 rfl 23 (by decide) (fun _ h9 => List.mem_cons_of_mem _ (List.mem_append_right _ h9)) (List.mem_of_getElem? (i := 1) rfl) rfl dX8_caughtParts_139 ?_
    refine k_iload O dX8_caughtParts_142 6 rfl ?_
    obtain ⟨g2, h⟩ := gd_some h
    refine k_iald O (k := 117) (by omega) E_117 g2 dX8_caughtParts_144 ?_
    refine k_iload O dX8_caughtParts_145 7 rfl ?_
    obtain ⟨r5, w4, hc3, h⟩ := bd_some h
    refine k_callSi O (As := [.int v6]) (rest := [.int (w.1 117 v5.toNatClampNeg)]) (c_X8_ones (x_l X) X.1 hc3) gX8_caughtParts_X8_ones rfl hd_X8_ones (by decide) rfl rfl (Nat.le_of_ble_eq_true rfl) dX8_caughtParts_147 ?_
    refine k_icmp_ne O 159 dX8_caughtParts_150 (by decide) (fun c6 => ?_) (fun c6 => ?_)
    · have h := ite_f c6 h
      refine k_iconst O dX8_caughtParts_159 (v := 0) (by decide) ?_
      refine k_istore (lv' := [(8, .int ((0 : Int32))), (7, .int s0), (0, .ref (g_ad X.1 105)), (1, .int v1), (2, .int v2), (3, .int v3), (4, .int v4), (5, .int v5), (6, .int v6)]) O dX8_caughtParts_160 (by decide) rfl ?_
      exact k_sub [2, 3, 4, 5, 6, 7, 8, 0] rfl (w_X8_caughtParts_162 O hN hk20 ho LF h)
    · have h := ite_t c6 h
      obtain ⟨x7, ex7⟩ : ∃ z : Int32, z = v5 + (-1 : Int32) := ⟨_, rfl⟩
      have h := nm_use h x7 ex7
      refine k_iinc (lv' := [(5, .int x7), (7, .int s0), (0, .ref (g_ad X.1 105)), (1, .int v1), (2, .int v2), (3, .int v3), (4, .int v4), (6, .int v6)]) O dX8_caughtParts_153 6 rfl (by rw [ex7]; rfl) (by decide) rfl ?_
      refine k_goto O 275 dX8_caughtParts_156 (by decide) ?_
      exact k_sub [2, 3, 4, 5, 6, 0] rfl (w_X8_caughtParts_275 O hN hk20 ho h)
  · have h := ite_f c1 h
    refine k_iload O dX8_caughtParts_88 5 rfl ?_
    refine k_aload_n O dX8_caughtParts_90 1 rfl ?_
    refine k_get O (v := .ref (g_ad X.1 113)) (k := 105) (by omega) E_105 rfl 14 (by decide) (fun _ h9 => List.mem_cons_of_mem _ (List.mem_append_right _ h9)) (List.mem_of_getElem? (i := 3) rfl) rfl dX8_caughtParts_91 ?_
    refine k_bipush O dX8_caughtParts_94 (v := 12) (by decide) ?_
    refine k_iload O dX8_caughtParts_96 6 rfl ?_
    refine k_imul O dX8_caughtParts_98 ?_
    refine k_bipush O dX8_caughtParts_99 (v := 8) (by decide) ?_
    refine k_iadd O dX8_caughtParts_101 ?_
    refine k_iload_n O dX8_caughtParts_102 2 rfl ?_
    refine k_iadd O dX8_caughtParts_103 ?_
    obtain ⟨g8, h⟩ := gd_some h
    refine k_iald O (k := 113) (by omega) E_113 g8 dX8_caughtParts_104 ?_
    refine k_bipush O dX8_caughtParts_105 (v := -9) (by decide) ?_
    refine k_icmp_eq O 128 dX8_caughtParts_107 (by decide) (fun c9 => ?_) (fun c9 => ?_)
    · have h := ite_t c9 h
      refine k_iconst O dX8_caughtParts_128 (v := 0) (by decide) ?_
      exact k_sub [1, 2, 3, 4, 6] rfl (w_X8_caughtParts_129 O hN hk20 ho h)
    · have h := ite_f c9 h
      refine k_aload_n O dX8_caughtParts_110 1 rfl ?_
      refine k_get O (v := .ref (g_ad X.1 118)) (k := 105) (by omega) E_105 rfl 24 (by decide) (fun _ h9 => List.mem_cons_of_mem _ (List.mem_append_right _ h9)) (List.mem_of_getElem? (i := 2) rfl) rfl dX8_caughtParts_111 ?_
      refine k_iload O dX8_caughtParts_114 6 rfl ?_
      obtain ⟨g10, h⟩ := gd_some h
      refine k_iald O (k := 118) (by omega) E_118 g10 dX8_caughtParts_116 ?_
      refine k_iload_n O dX8_caughtParts_117 3 rfl ?_
      refine k_iload O dX8_caughtParts_118 6 rfl ?_
      refine k_isub O dX8_caughtParts_120 ?_
      obtain ⟨r13, w12, hc11, h⟩ := bd_some h
      refine k_callSi O (As := [.int (v2 - v5)]) (rest := [.int (w.1 118 v5.toNatClampNeg), .int v4]) (c_X8_twelveTo (x_l X) X.1 hc11) gX8_caughtParts_X8_twelveTo rfl hd_X8_twelveTo (by decide) rfl rfl (Nat.le_of_ble_eq_true rfl) dX8_caughtParts_121 ?_
      refine k_imul O dX8_caughtParts_124 ?_
      refine k_goto O 129 dX8_caughtParts_125 (by decide) ?_
      exact k_sub [1, 2, 3, 4, 6] rfl (w_X8_caughtParts_129 O hN hk20 ho h)
set_option maxHeartbeats 4000000 in
set_option maxRecDepth 100000 in
theorem w_X8_caughtParts_76 {X : Cx} {rz : Int32} {wz : Wd} (O : Ok X cX8_caughtParts RX8 ((some .int)) wsX8_caughtParts (3) (81) 9) (hN : 121 ≤ g_N X.1) {kb20 : Wd → Int32 → Int32 → Int32 → Int32 → Int32 → Option (Int32 × Wd)} (hk20 : ∀ {w : Wd} {v1 : Int32} {v2 : Int32} {v3 : Int32} {v4 : Int32} {v5 : Int32}, kb20 w v1 v2 v3 v4 v5 = some (rz, wz) → Wk X w 20 [(0, .ref (g_ad X.1 105)), (1, .int v1), (2, .int v2), (3, .int v3), (4, .int v4), (5, .int v5)] []) (ho : Ro X (some (.int rz), wz)) {w : Wd} {v1 : Int32} {v2 : Int32} {v3 : Int32} {v4 : Int32} {v5 : Int32} {v6 : Int32} (h : b_X8_caughtParts_76 kb20 w v1 v2 v3 v4 v5 v6 = some (rz, wz)) : Wk X w 76 [(0, .ref (g_ad X.1 105)), (1, .int v1), (2, .int v2), (3, .int v3), (4, .int v4), (5, .int v5), (6, .int v6)] [] := by
  unfold b_X8_caughtParts_76 at h
  refine k_iconst O dX8_caughtParts_76 (v := 1) (by decide) ?_
  refine k_goto O 81 dX8_caughtParts_77 (by decide) ?_
  exact k_sub [0, 1, 2, 3, 4, 5, 6] rfl (w_X8_caughtParts_81 O hN hk20 ho h)
set_option maxHeartbeats 4000000 in
set_option maxRecDepth 100000 in
theorem w_X8_caughtParts_20 {X : Cx} {rz : Int32} {wz : Wd} (O : Ok X cX8_caughtParts RX8 ((some .int)) wsX8_caughtParts (3) (81) 9) (hN : 121 ≤ g_N X.1) (ho : Ro X (some (.int rz), wz)) (n : Nat) : ∀ {w : Wd} {v1 : Int32} {v2 : Int32} {v3 : Int32} {v4 : Int32} {v5 : Int32}, b_X8_caughtParts_20 n w v1 v2 v3 v4 v5 = some (rz, wz) → Wk X w 20 [(0, .ref (g_ad X.1 105)), (1, .int v1), (2, .int v2), (3, .int v3), (4, .int v4), (5, .int v5)] [] := by
  induction n with
  | zero => intro w v1 v2 v3 v4 v5 h; exact nomatch (show (none : Option (Int32 × Wd)) = some _ from h)
  | succ n ih =>
    intro w v1 v2 v3 v4 v5 h
    rw [b_X8_caughtParts_20] at h
    refine k_iload O dX8_caughtParts_20 5 rfl ?_
    refine k_if_lt O 278 dX8_caughtParts_22 (by decide) (fun c1 => ?_) (fun c1 => ?_)
    · have h := ite_t c1 h
      refine k_iload O dX8_caughtParts_278 4 rfl ?_
      exact k_iret O dX8_caughtParts_280 (rt_int h ho)
    · have h := ite_f c1 h
      refine k_aload_n O dX8_caughtParts_25 0 rfl ?_
      refine k_aload_n O dX8_caughtParts_26 0 rfl ?_
      refine k_get O (v := .ref (g_ad X.1 113)) (k := 105) (by omega) E_105 rfl 14 (by decide) (fun _ h9 => List.mem_cons_of_mem _ (List.mem_append_right _ h9)) (List.mem_of_getElem? (i := 3) rfl) rfl dX8_caughtParts_27 ?_
      refine k_bipush O dX8_caughtParts_30 (v := 12) (by decide) ?_
      refine k_iload O dX8_caughtParts_32 5 rfl ?_
      refine k_imul O dX8_caughtParts_34 ?_
      refine k_iconst O dX8_caughtParts_35 (v := 4) (by decide) ?_
      refine k_iadd O dX8_caughtParts_36 ?_
      refine k_iload_n O dX8_caughtParts_37 1 rfl ?_
      refine k_iadd O dX8_caughtParts_38 ?_
      obtain ⟨g2, h⟩ := gd_some h
      refine k_iald O (k := 113) (by omega) E_113 g2 dX8_caughtParts_39 ?_
      obtain ⟨r5, w4, hc3, h⟩ := bd_some h
      refine k_callVi O (As := [.int (w.1 113 (((((12 : Int32)) * v5) + ((4 : Int32))) + v1).toNatClampNeg)]) (rest := []) (k := 105) (c_X8_nearTo (x_l X) X.1 hN hc3) gX8_caughtParts_X8_nearTo rfl hd_X8_nearTo (by decide) (by omega) E_105 rfl rfl rfl rfl rfl (Nat.le_of_ble_eq_true rfl) dX8_caughtParts_40 ?_
      refine k_istore (lv' := [(6, .int r5), (0, .ref (g_ad X.1 105)), (1, .int v1), (2, .int v2), (3, .int v3), (4, .int v4), (5, .int v5)]) O dX8_caughtParts_43 (by decide) rfl ?_
      refine k_iload O dX8_caughtParts_45 6 rfl ?_
      refine k_iload_n O dX8_caughtParts_47 3 rfl ?_
      refine k_icmp_eq O 76 dX8_caughtParts_48 (by decide) (fun c6 => ?_) (fun c6 => ?_)
      · have h := ite_t c6 h
        exact k_sub [1, 2, 3, 4, 5, 6, 0] rfl (w_X8_caughtParts_76 O hN (fun {_} {_} {_} {_} {_} {_} h9 => ih h9) ho h)
      · have h := ite_f c6 h
        refine k_aload_n O dX8_caughtParts_51 1 rfl ?_
        refine k_get O (v := .ref (g_ad X.1 113)) (k := 105) (by omega) E_105 rfl 14 (by decide) (fun _ h9 => List.mem_cons_of_mem _ (List.mem_append_right _ h9)) (List.mem_of_getElem? (i := 3) rfl) rfl dX8_caughtParts_52 ?_
        refine k_bipush O dX8_caughtParts_55 (v := 12) (by decide) ?_
        refine k_iload O dX8_caughtParts_57 6 rfl ?_
        refine k_imul O dX8_caughtParts_59 ?_
        refine k_bipush O dX8_caughtParts_60 (v := 8) (by decide) ?_
        refine k_iadd O dX8_caughtParts_62 ?_
        refine k_iload_n O dX8_caughtParts_63 2 rfl ?_
        refine k_iadd O dX8_caughtParts_64 ?_
        obtain ⟨g7, h⟩ := gd_some h
        refine k_iald O (k := 113) (by omega) E_113 g7 dX8_caughtParts_65 ?_
        refine k_bipush O dX8_caughtParts_66 (v := -9) (by decide) ?_
        refine k_icmp_ne O 76 dX8_caughtParts_68 (by decide) (fun c8 => ?_) (fun c8 => ?_)
        · have h := ite_f c8 h
          exact k_sub [1, 2, 3, 4, 5, 6, 0] rfl (w_X8_caughtParts_76 O hN (fun {_} {_} {_} {_} {_} {_} h9 => ih h9) ho h)
        · have h := ite_t c8 h
          refine k_iload O dX8_caughtParts_71 0 rfl ?_
          refine k_if_ne O 80 dX8_caughtParts_73 (by decide) (fun c9 => ?_) (fun c9 => ?_)
          · have h := ite_f c9 h
            refine k_iconst O dX8_caughtParts_80 (v := 0) (by decide) ?_
            exact k_sub [1, 2, 3, 4, 5, 6, 0] rfl (w_X8_caughtParts_81 O hN (fun {_} {_} {_} {_} {_} {_} h9 => ih h9) ho h)
          · have h := ite_t c9 h
            exact k_sub [1, 2, 3, 4, 5, 6, 0] rfl (w_X8_caughtParts_76 O hN (fun {_} {_} {_} {_} {_} {_} h9 => ih h9) ho h)
set_option maxHeartbeats 4000000 in
set_option maxRecDepth 100000 in
theorem w_X8_caughtParts_0 {X : Cx} {rz : Int32} {wz : Wd} (O : Ok X cX8_caughtParts RX8 ((some .int)) wsX8_caughtParts (3) (81) 9) (hN : 121 ≤ g_N X.1) (ho : Ro X (some (.int rz), wz)) {w : Wd} {v1 : Int32} {v2 : Int32} {v3 : Int32} (h : b_X8_caughtParts_0 w v1 v2 v3 = some (rz, wz)) : Wk X w 0 [(0, .ref (g_ad X.1 105)), (1, .int v1), (2, .int v2), (3, .int v3)] [] := by
  unfold b_X8_caughtParts_0 at h
  refine k_iconst O dX8_caughtParts_0 (v := 0) (by decide) ?_
  refine k_istore (lv' := [(4, .int ((0 : Int32))), (0, .ref (g_ad X.1 105)), (1, .int v1), (2, .int v2), (3, .int v3)]) O dX8_caughtParts_1 (by decide) rfl ?_
  refine k_iconst O dX8_caughtParts_3 (v := 0) (by decide) ?_
  refine k_istore (lv' := [(5, .int ((0 : Int32))), (4, .int ((0 : Int32))), (0, .ref (g_ad X.1 105)), (1, .int v1), (2, .int v2), (3, .int v3)]) O dX8_caughtParts_4 (by decide) rfl ?_
  refine k_aload_n O dX8_caughtParts_6 2 rfl ?_
  refine k_get O (v := .ref (g_ad X.1 117)) (k := 105) (by omega) E_105 rfl 23 (by decide) (fun _ h9 => List.mem_cons_of_mem _ (List.mem_append_right _ h9)) (List.mem_of_getElem? (i := 1) rfl) rfl dX8_caughtParts_7 ?_
  refine k_iconst O dX8_caughtParts_10 (v := 0) (by decide) ?_
  refine k_iconst O dX8_caughtParts_11 (v := 0) (by decide) ?_
  refine k_iast O (k := 117) (by omega) E_117 (fun _ => E_117) (by decide) dX8_caughtParts_12 ?_
  refine k_nw (fun w1 ew1 => ?_)
  have h := nm_use h w1 ew1
  refine k_aload_n O dX8_caughtParts_13 2 rfl ?_
  refine k_get O (v := .ref (g_ad X.1 118)) (k := 105) (by omega) E_105 rfl 24 (by decide) (fun _ h9 => List.mem_cons_of_mem _ (List.mem_append_right _ h9)) (List.mem_of_getElem? (i := 2) rfl) rfl dX8_caughtParts_14 ?_
  refine k_iconst O dX8_caughtParts_17 (v := 0) (by decide) ?_
  refine k_iconst O dX8_caughtParts_18 (v := 1) (by decide) ?_
  refine k_iast O (k := 118) (by omega) E_118 (fun _ => E_118) (by decide) dX8_caughtParts_19 ?_
  refine k_nw (fun w2 ew2 => ?_)
  have h := nm_use h w2 ew2
  exact k_sub [2, 3, 4, 5, 1, 0] rfl (w_X8_caughtParts_20 O hN ho LF h)
theorem c_X8_caughtParts (l : Launch) (G : Gl) (hN : 121 ≤ g_N G) {w wz : Wd} {v1 : Int32} {v2 : Int32} {v3 : Int32} {rz : Int32} (h : f_X8_caughtParts w v1 v2 v3 = some (rz, wz)) : Ct l yX8_caughtParts wsX8_caughtParts (3) (81) G [.ref (g_ad G 105), .int v1, .int v2, .int v3] w (some (.int rz), wz) := by
  refine Ct.start (by decide) rfl rfl rfl (Nat.le_of_ble_eq_true rfl) (fun X hG ho hl O => ?_)
  subst hG
  subst hl
  exact k_sub [0, 1, 2, 3] rfl (w_X8_caughtParts_0 O hN ho h)
def b_X8_common_4 : Nat → Wd → Int32 → Int32 → Option (Int32 × Wd)
  | 0, _, _, _ => none
  | n + 1, w, v2, v3 => if v3 = 0 then (some (v2, w)) else (gd (nz v3) (nm (v2 - v2 / v3 * v3) (fun x3 => b_X8_common_4 n w v3 x3)))
def b_X8_common_0 (w : Wd) (v0 : Int32) (v1 : Int32) : Option (Int32 × Wd) := b_X8_common_4 LF w v0 v1
def f_X8_common (w : Wd) (v0 : Int32) (v1 : Int32) : Option (Int32 × Wd) := b_X8_common_0 w v0 v1
set_option maxHeartbeats 4000000 in
set_option maxRecDepth 100000 in
theorem w_X8_common_4 {X : Cx} {rz : Int32} {wz : Wd} (O : Ok X cX8_common RX8 ((some .int)) wsX8_common (0) (0) 5) (ho : Ro X (some (.int rz), wz)) (n : Nat) : ∀ {w : Wd} {v2 : Int32} {v3 : Int32}, b_X8_common_4 n w v2 v3 = some (rz, wz) → Wk X w 4 [(2, .int v2), (3, .int v3)] [] := by
  induction n with
  | zero => intro w v2 v3 h; exact nomatch (show (none : Option (Int32 × Wd)) = some _ from h)
  | succ n ih =>
    intro w v2 v3 h
    rw [b_X8_common_4] at h
    refine k_iload_n O dX8_common_4 1 rfl ?_
    refine k_if_eq O 21 dX8_common_5 (by decide) (fun c1 => ?_) (fun c1 => ?_)
    · have h := ite_t c1 h
      refine k_iload_n O dX8_common_21 0 rfl ?_
      exact k_iret O dX8_common_22 (rt_int h ho)
    · have h := ite_f c1 h
      refine k_iload_n O dX8_common_8 0 rfl ?_
      refine k_iload_n O dX8_common_9 1 rfl ?_
      obtain ⟨g2, h⟩ := gd_some h
      refine k_irem O dX8_common_10 (nz_ne g2) ?_
      refine k_topi (fun x3 ex3 => ?_)
      have h := nm_use h x3 ex3
      refine k_istore (lv' := [(4, .int x3), (2, .int v2), (3, .int v3)]) O dX8_common_11 (by decide) rfl ?_
      refine k_iload_n O dX8_common_13 2 rfl ?_
      refine k_istore_n (lv' := [(2, .int v3), (4, .int x3), (3, .int v3)]) O dX8_common_14 rfl (by decide) rfl ?_
      refine k_iload O dX8_common_15 1 rfl ?_
      refine k_istore_n (lv' := [(3, .int x3), (2, .int v3), (4, .int x3)]) O dX8_common_17 rfl (by decide) rfl ?_
      refine k_goto O 4 dX8_common_18 (by decide) ?_
      exact k_sub [1, 0] rfl (ih h)
set_option maxHeartbeats 4000000 in
set_option maxRecDepth 100000 in
theorem w_X8_common_0 {X : Cx} {rz : Int32} {wz : Wd} (O : Ok X cX8_common RX8 ((some .int)) wsX8_common (0) (0) 5) (ho : Ro X (some (.int rz), wz)) {w : Wd} {v0 : Int32} {v1 : Int32} (h : b_X8_common_0 w v0 v1 = some (rz, wz)) : Wk X w 0 [(0, .int v0), (1, .int v1)] [] := by
  unfold b_X8_common_0 at h
  refine k_iload_n O dX8_common_0 0 rfl ?_
  refine k_istore_n (lv' := [(2, .int v0), (0, .int v0), (1, .int v1)]) O dX8_common_1 rfl (by decide) rfl ?_
  refine k_iload_n O dX8_common_2 2 rfl ?_
  refine k_istore_n (lv' := [(3, .int v1), (2, .int v0), (0, .int v0), (1, .int v1)]) O dX8_common_3 rfl (by decide) rfl ?_
  exact k_sub [1, 0] rfl (w_X8_common_4 O ho LF h)
theorem c_X8_common (l : Launch) (G : Gl) {w wz : Wd} {v0 : Int32} {v1 : Int32} {rz : Int32} (h : f_X8_common w v0 v1 = some (rz, wz)) : Ct l yX8_common wsX8_common (0) (0) G [.int v0, .int v1] w (some (.int rz), wz) := by
  refine Ct.start (by decide) rfl rfl rfl (Nat.le_of_ble_eq_true rfl) (fun X hG ho hl O => ?_)
  subst hG
  subst hl
  exact k_sub [0, 1] rfl (w_X8_common_0 O ho h)
def b_X8_strays_0 (w : Wd) (v1 : Int32) (v2 : Int32) (v3 : Int32) : Option (Int32 × Wd) := bd (f_X8_isWalker w v1) (fun r3 w2 => if r3 = 0 then (some ((-1 : Int32), w2)) else (bd (f_X8_in w2 ((v2).toInt64) ((0 : Int64)) ((4 : Int64))) (fun r7 w6 => if r7 = 0 then (some ((-2 : Int32), w6)) else (gd (inb (((8 : Int32)) + v1) 72) (if (w6.1 113 (((8 : Int32)) + v1).toNatClampNeg) = ((-9 : Int32)) then (bd (f_X8_caughtParts w6 v1 v2 (w6.1 105 10)) (fun r13 w12 => bd (f_X8_twelveTo w12 v2) (fun r16 w15 => bd (f_X8_common w15 r13 r16) (fun r19 w18 => if v3 = 0 then (bd (f_X8_twelveTo w18 v2) (fun r23 w22 => gd (nz r19) (some (r23 / r19, w22)))) else (gd (nz r19) (some (r13 / r19, w18))))))) else (some ((-3 : Int32), w6)))))))
def f_X8_strays (w : Wd) (v1 : Int32) (v2 : Int32) (v3 : Int32) : Option (Int32 × Wd) := b_X8_strays_0 w v1 v2 v3
set_option maxHeartbeats 4000000 in
set_option maxRecDepth 100000 in
theorem w_X8_strays_0 {X : Cx} {rz : Int32} {wz : Wd} (O : Ok X cX8_strays RX8 ((some .int)) wsX8_strays (4) (109) 6) (hN : 121 ≤ g_N X.1) (ho : Ro X (some (.int rz), wz)) {w : Wd} {v1 : Int32} {v2 : Int32} {v3 : Int32} (h : b_X8_strays_0 w v1 v2 v3 = some (rz, wz)) : Wk X w 0 [(0, .ref (g_ad X.1 105)), (1, .int v1), (2, .int v2), (3, .int v3)] [] := by
  unfold b_X8_strays_0 at h
  refine k_aload_n O dX8_strays_0 0 rfl ?_
  refine k_iload_n O dX8_strays_1 1 rfl ?_
  obtain ⟨r3, w2, hc1, h⟩ := bd_some h
  refine k_callVi O (As := [.int v1]) (rest := []) (k := 105) (c_X8_isWalker (x_l X) X.1 hN hc1) gX8_strays_X8_isWalker rfl hd_X8_isWalker (by decide) (by omega) E_105 rfl rfl rfl rfl rfl (Nat.le_of_ble_eq_true rfl) dX8_strays_2 ?_
  refine k_if_ne O 10 dX8_strays_5 (by decide) (fun c4 => ?_) (fun c4 => ?_)
  · have h := ite_f c4 h
    refine k_iload_n O dX8_strays_10 2 rfl ?_
    refine k_i2l O dX8_strays_11 ?_
    refine k_lconst O dX8_strays_12 (v := 0) (by decide) ?_
    refine k_ldc2 O dX8_strays_13 (List.mem_of_getElem? (i := 1) rfl) ?_
    obtain ⟨r7, w6, hc5, h⟩ := bd_some h
    refine k_callSi O (As := [.long ((v2).toInt64), .long ((0 : Int64)), .long ((4 : Int64))]) (rest := []) (c_X8_in (x_l X) X.1 hc5) gX8_strays_X8_in rfl hd_X8_in (by decide) rfl rfl (Nat.le_of_ble_eq_true rfl) dX8_strays_16 ?_
    refine k_if_ne O 25 dX8_strays_19 (by decide) (fun c8 => ?_) (fun c8 => ?_)
    · have h := ite_f c8 h
      refine k_aload_n O dX8_strays_25 0 rfl ?_
      refine k_get O (v := .ref (g_ad X.1 113)) (k := 105) (by omega) E_105 rfl 14 (by decide) (fun _ h9 => List.mem_cons_of_mem _ (List.mem_append_right _ h9)) (List.mem_of_getElem? (i := 2) rfl) rfl dX8_strays_26 ?_
      refine k_bipush O dX8_strays_29 (v := 8) (by decide) ?_
      refine k_iload_n O dX8_strays_31 1 rfl ?_
      refine k_iadd O dX8_strays_32 ?_
      obtain ⟨g9, h⟩ := gd_some h
      refine k_iald O (k := 113) (by omega) E_113 g9 dX8_strays_33 ?_
      refine k_bipush O dX8_strays_34 (v := -9) (by decide) ?_
      refine k_icmp_eq O 42 dX8_strays_36 (by decide) (fun c10 => ?_) (fun c10 => ?_)
      · have h := ite_t c10 h
        refine k_aload_n O dX8_strays_42 0 rfl ?_
        refine k_iload_n O dX8_strays_43 1 rfl ?_
        refine k_iload_n O dX8_strays_44 2 rfl ?_
        refine k_aload_n O dX8_strays_45 0 rfl ?_
        refine k_get O (v := .int (w6.1 105 10)) (k := 105) (by omega) E_105 rfl 10 (by decide) (fun _ h9 => List.mem_cons_of_mem _ (List.mem_append_right _ h9)) (List.mem_of_getElem? (i := 3) rfl) rfl dX8_strays_46 ?_
        obtain ⟨r13, w12, hc11, h⟩ := bd_some h
        refine k_callVi O (As := [.int v1, .int v2, .int (w6.1 105 10)]) (rest := []) (k := 105) (c_X8_caughtParts (x_l X) X.1 hN hc11) gX8_strays_X8_caughtParts rfl hd_X8_caughtParts (by decide) (by omega) E_105 rfl rfl rfl rfl rfl (Nat.le_of_ble_eq_true rfl) dX8_strays_49 ?_
        refine k_istore (lv' := [(4, .int r13), (0, .ref (g_ad X.1 105)), (1, .int v1), (2, .int v2), (3, .int v3)]) O dX8_strays_52 (by decide) rfl ?_
        refine k_iload O dX8_strays_54 0 rfl ?_
        refine k_iload_n O dX8_strays_56 3 rfl ?_
        obtain ⟨r16, w15, hc14, h⟩ := bd_some h
        refine k_callSi O (As := [.int v2]) (rest := [.int r13]) (c_X8_twelveTo (x_l X) X.1 hc14) gX8_strays_X8_twelveTo rfl hd_X8_twelveTo (by decide) rfl rfl (Nat.le_of_ble_eq_true rfl) dX8_strays_57 ?_
        obtain ⟨r19, w18, hc17, h⟩ := bd_some h
        refine k_callSi O (As := [.int r13, .int r16]) (rest := []) (c_X8_common (x_l X) X.1 hc17) gX8_strays_X8_common rfl hd_X8_common (by decide) rfl rfl (Nat.le_of_ble_eq_true rfl) dX8_strays_60 ?_
        refine k_istore (lv' := [(5, .int r19), (4, .int r13), (0, .ref (g_ad X.1 105)), (1, .int v1), (2, .int v2), (3, .int v3)]) O dX8_strays_63 (by decide) rfl ?_
        refine k_iload_n O dX8_strays_65 5 rfl ?_
        refine k_if_eq O 77 dX8_strays_66 (by decide) (fun c20 => ?_) (fun c20 => ?_)
        · have h := ite_t c20 h
          refine k_iload_n O dX8_strays_77 4 rfl ?_
          obtain ⟨r23, w22, hc21, h⟩ := bd_some h
          refine k_callSi O (As := [.int v2]) (rest := []) (c_X8_twelveTo (x_l X) X.1 hc21) gX8_strays_X8_twelveTo rfl hd_X8_twelveTo (by decide) rfl rfl (Nat.le_of_ble_eq_true rfl) dX8_strays_78 ?_
          refine k_iload O dX8_strays_81 0 rfl ?_
          obtain ⟨g24, h⟩ := gd_some h
          refine k_idiv O dX8_strays_83 (nz_ne g24) ?_
          exact k_iret O dX8_strays_84 (rt_int h ho)
        · have h := ite_f c20 h
          refine k_iload O dX8_strays_69 1 rfl ?_
          refine k_iload O dX8_strays_71 0 rfl ?_
          obtain ⟨g25, h⟩ := gd_some h
          refine k_idiv O dX8_strays_73 (nz_ne g25) ?_
          refine k_goto O 84 dX8_strays_74 (by decide) ?_
          exact k_iret O dX8_strays_84 (rt_int h ho)
      · have h := ite_f c10 h
        refine k_bipush O dX8_strays_39 (v := -3) (by decide) ?_
        exact k_iret O dX8_strays_41 (rt_int h ho)
    · have h := ite_t c8 h
      refine k_bipush O dX8_strays_22 (v := -2) (by decide) ?_
      exact k_iret O dX8_strays_24 (rt_int h ho)
  · have h := ite_t c4 h
    refine k_iconst O dX8_strays_8 (v := -1) (by decide) ?_
    exact k_iret O dX8_strays_9 (rt_int h ho)
theorem c_X8_strays (l : Launch) (G : Gl) (hN : 121 ≤ g_N G) {w wz : Wd} {v1 : Int32} {v2 : Int32} {v3 : Int32} {rz : Int32} (h : f_X8_strays w v1 v2 v3 = some (rz, wz)) : Ct l yX8_strays wsX8_strays (4) (109) G [.ref (g_ad G 105), .int v1, .int v2, .int v3] w (some (.int rz), wz) := by
  refine Ct.start (by decide) rfl rfl rfl (Nat.le_of_ble_eq_true rfl) (fun X hG ho hl O => ?_)
  subst hG
  subst hl
  exact k_sub [0, 1, 2, 3] rfl (w_X8_strays_0 O hN ho h)
def b_X8_oneMore_204 (kb115 : Wd → Int32 → Int32 → Int32 → Int32 → Int32 → Int32 → Int32 → Option (Int32 × Wd)) (w : Wd) (v1 : Int32) (v2 : Int32) (v3 : Int32) (v4 : Int32) (v5 : Int32) (v6 : Int32) (v7 : Int32) : Option (Int32 × Wd) := nm (v7 + (1 : Int32)) (fun x1 => kb115 w v1 v2 v3 v4 v5 v6 x1)
def b_X8_oneMore_202 (kb115 : Wd → Int32 → Int32 → Int32 → Int32 → Int32 → Int32 → Int32 → Option (Int32 × Wd)) (w : Wd) (v1 : Int32) (v2 : Int32) (v3 : Int32) (v5 : Int32) (v6 : Int32) (v7 : Int32) (s0 : Int32) : Option (Int32 × Wd) := b_X8_oneMore_204 kb115 w v1 v2 v3 s0 v5 v6 v7
def b_X8_oneMore_187 (kb115 : Wd → Int32 → Int32 → Int32 → Int32 → Int32 → Int32 → Int32 → Option (Int32 × Wd)) (w : Wd) (v1 : Int32) (v2 : Int32) (v4 : Int32) (v5 : Int32) (v6 : Int32) (v7 : Int32) (v8 : Int32) (s0 : Int32) : Option (Int32 × Wd) := if v8 ≤ v4 then (b_X8_oneMore_202 kb115 w v1 v2 s0 v5 v6 v7 v4) else (b_X8_oneMore_202 kb115 w v1 v2 s0 v5 v6 v7 v8)
def b_X8_oneMore_115 : Nat → Wd → Int32 → Int32 → Int32 → Int32 → Int32 → Int32 → Int32 → Option (Int32 × Wd)
  | 0, _, _, _, _, _, _, _, _ => none
  | n + 1, w, v1, v2, v3, v4, v5, v6, v7 => if ((12 : Int32)) ≤ v7 then (nm (up w 113 ((0 : Int32)).toNatClampNeg v5) (fun w2 => nm (up w2 113 ((1 : Int32)).toNatClampNeg v6) (fun w3 => some (v3, w3)))) else (if (((w.1 105 12) >>> (v7 &&& 31)) &&& ((1 : Int32))) = 0 then (bd (f_X8_trapAt w v7 (w.1 105 10)) (fun r7 w6 => if r7 = ((-9 : Int32)) then (gd (inb (w6.1 105 10) 7) (nm (up w6 108 (w6.1 105 10).toNatClampNeg v7) (fun w10 => bd (f_X8_caughtParts w10 v1 v2 ((w10.1 105 10) + ((1 : Int32)))) (fun r13 w12 => if r13 ≤ v4 then (b_X8_oneMore_187 (b_X8_oneMore_115 n) w12 v1 v2 v4 v5 v6 v7 r13 v3) else (b_X8_oneMore_187 (b_X8_oneMore_115 n) w12 v1 v2 v4 v5 v6 v7 r13 v7))))) else (b_X8_oneMore_204 (b_X8_oneMore_115 n) w6 v1 v2 v3 v4 v5 v6 v7))) else (b_X8_oneMore_204 (b_X8_oneMore_115 n) w v1 v2 v3 v4 v5 v6 v7))
def b_X8_oneMore_0 (w : Wd) (v1 : Int32) (v2 : Int32) : Option (Int32 × Wd) := bd (f_X8_isWalker w v1) (fun r3 w2 => if r3 = 0 then (some ((-1 : Int32), w2)) else (bd (f_X8_in w2 ((v2).toInt64) ((1 : Int64)) ((3 : Int64))) (fun r7 w6 => if r7 = 0 then (some ((-2 : Int32), w6)) else (gd (inb (((8 : Int32)) + v1) 72) (if (w6.1 113 (((8 : Int32)) + v1).toNatClampNeg) = ((-9 : Int32)) then (if (w6.1 105 10) = ((6 : Int32)) then (some ((-4 : Int32), w6)) else (nm (w6.1 113 ((0 : Int32)).toNatClampNeg) (fun x12 => nm (w6.1 113 ((1 : Int32)).toNatClampNeg) (fun x13 => nm (up w6 113 ((0 : Int32)).toNatClampNeg ((w6.1 113 ((0 : Int32)).toNatClampNeg) ||| (((1 : Int32)) <<< ((w6.1 105 10) &&& 31)))) (fun w14 => gd (inb (w14.1 105 10) 7) (nm (up w14 110 (w14.1 105 10).toNatClampNeg ((4 : Int32))) (fun w16 => gd (inb (w16.1 105 10) 7) (nm (up w16 111 (w16.1 105 10).toNatClampNeg ((0 : Int32))) (fun w18 => b_X8_oneMore_115 LF w18 v1 v2 ((-9 : Int32)) ((-9 : Int32)) x12 x13 ((0 : Int32))))))))))) else (some ((-3 : Int32), w6)))))))
def f_X8_oneMore (w : Wd) (v1 : Int32) (v2 : Int32) : Option (Int32 × Wd) := b_X8_oneMore_0 w v1 v2
set_option maxHeartbeats 4000000 in
set_option maxRecDepth 100000 in
theorem w_X8_oneMore_204 {X : Cx} {rz : Int32} {wz : Wd} (O : Ok X cX8_oneMore RX8 ((some .int)) wsX8_oneMore (4) (109) 9) (hN : 121 ≤ g_N X.1) {kb115 : Wd → Int32 → Int32 → Int32 → Int32 → Int32 → Int32 → Int32 → Option (Int32 × Wd)} (hk115 : ∀ {w : Wd} {v1 : Int32} {v2 : Int32} {v3 : Int32} {v4 : Int32} {v5 : Int32} {v6 : Int32} {v7 : Int32}, kb115 w v1 v2 v3 v4 v5 v6 v7 = some (rz, wz) → Wk X w 115 [(0, .ref (g_ad X.1 105)), (1, .int v1), (2, .int v2), (3, .int v3), (4, .int v4), (5, .int v5), (6, .int v6), (7, .int v7)] []) (ho : Ro X (some (.int rz), wz)) {w : Wd} {v1 : Int32} {v2 : Int32} {v3 : Int32} {v4 : Int32} {v5 : Int32} {v6 : Int32} {v7 : Int32} (h : b_X8_oneMore_204 kb115 w v1 v2 v3 v4 v5 v6 v7 = some (rz, wz)) : Wk X w 204 [(0, .ref (g_ad X.1 105)), (1, .int v1), (2, .int v2), (3, .int v3), (4, .int v4), (5, .int v5), (6, .int v6), (7, .int v7)] [] := by
  unfold b_X8_oneMore_204 at h
  obtain ⟨x1, ex1⟩ : ∃ z : Int32, z = v7 + (1 : Int32) := ⟨_, rfl⟩
  have h := nm_use h x1 ex1
  refine k_iinc (lv' := [(7, .int x1), (0, .ref (g_ad X.1 105)), (1, .int v1), (2, .int v2), (3, .int v3), (4, .int v4), (5, .int v5), (6, .int v6)]) O dX8_oneMore_204 7 rfl (by rw [ex1]; rfl) (by decide) rfl ?_
  refine k_goto O 115 dX8_oneMore_207 (by decide) ?_
  exact k_sub [1, 2, 3, 4, 5, 6, 7, 0] rfl (hk115 h)
set_option maxHeartbeats 4000000 in
set_option maxRecDepth 100000 in
theorem w_X8_oneMore_202 {X : Cx} {rz : Int32} {wz : Wd} (O : Ok X cX8_oneMore RX8 ((some .int)) wsX8_oneMore (4) (109) 9) (hN : 121 ≤ g_N X.1) {kb115 : Wd → Int32 → Int32 → Int32 → Int32 → Int32 → Int32 → Int32 → Option (Int32 × Wd)} (hk115 : ∀ {w : Wd} {v1 : Int32} {v2 : Int32} {v3 : Int32} {v4 : Int32} {v5 : Int32} {v6 : Int32} {v7 : Int32}, kb115 w v1 v2 v3 v4 v5 v6 v7 = some (rz, wz) → Wk X w 115 [(0, .ref (g_ad X.1 105)), (1, .int v1), (2, .int v2), (3, .int v3), (4, .int v4), (5, .int v5), (6, .int v6), (7, .int v7)] []) (ho : Ro X (some (.int rz), wz)) {w : Wd} {v1 : Int32} {v2 : Int32} {v3 : Int32} {v5 : Int32} {v6 : Int32} {v7 : Int32} {s0 : Int32} (h : b_X8_oneMore_202 kb115 w v1 v2 v3 v5 v6 v7 s0 = some (rz, wz)) : Wk X w 202 [(0, .ref (g_ad X.1 105)), (1, .int v1), (2, .int v2), (3, .int v3), (5, .int v5), (6, .int v6), (7, .int v7)] [.int s0] := by
  unfold b_X8_oneMore_202 at h
  refine k_istore (lv' := [(4, .int s0), (0, .ref (g_ad X.1 105)), (1, .int v1), (2, .int v2), (3, .int v3), (5, .int v5), (6, .int v6), (7, .int v7)]) O dX8_oneMore_202 (by decide) rfl ?_
  exact k_sub [1, 2, 3, 4, 0, 5, 6, 7] rfl (w_X8_oneMore_204 O hN hk115 ho h)
set_option maxHeartbeats 4000000 in
set_option maxRecDepth 100000 in
theorem w_X8_oneMore_187 {X : Cx} {rz : Int32} {wz : Wd} (O : Ok X cX8_oneMore RX8 ((some .int)) wsX8_oneMore (4) (109) 9) (hN : 121 ≤ g_N X.1) {kb115 : Wd → Int32 → Int32 → Int32 → Int32 → Int32 → Int32 → Int32 → Option (Int32 × Wd)} (hk115 : ∀ {w : Wd} {v1 : Int32} {v2 : Int32} {v3 : Int32} {v4 : Int32} {v5 : Int32} {v6 : Int32} {v7 : Int32}, kb115 w v1 v2 v3 v4 v5 v6 v7 = some (rz, wz) → Wk X w 115 [(0, .ref (g_ad X.1 105)), (1, .int v1), (2, .int v2), (3, .int v3), (4, .int v4), (5, .int v5), (6, .int v6), (7, .int v7)] []) (ho : Ro X (some (.int rz), wz)) {w : Wd} {v1 : Int32} {v2 : Int32} {v4 : Int32} {v5 : Int32} {v6 : Int32} {v7 : Int32} {v8 : Int32} {s0 : Int32} (h : b_X8_oneMore_187 kb115 w v1 v2 v4 v5 v6 v7 v8 s0 = some (rz, wz)) : Wk X w 187 [(0, .ref (g_ad X.1 105)), (1, .int v1), (2, .int v2), (4, .int v4), (5, .int v5), (6, .int v6), (7, .int v7), (8, .int v8)] [.int s0] := by
  unfold b_X8_oneMore_187 at h
  refine k_istore_n (lv' := [(3, .int s0), (0, .ref (g_ad X.1 105)), (1, .int v1), (2, .int v2), (4, .int v4), (5, .int v5), (6, .int v6), (7, .int v7), (8, .int v8)]) O dX8_oneMore_187 rfl (by decide) rfl ?_
  refine k_iload O dX8_oneMore_188 8 rfl ?_
  refine k_iload O dX8_oneMore_190 4 rfl ?_
  refine k_icmp_le O 200 dX8_oneMore_192 (by decide) (fun c1 => ?_) (fun c1 => ?_)
  · have h := ite_t c1 h
    refine k_iload O dX8_oneMore_200 4 rfl ?_
    exact k_sub [1, 2, 3, 0, 5, 6, 7] rfl (w_X8_oneMore_202 O hN hk115 ho h)
  · have h := ite_f c1 h
    refine k_iload O dX8_oneMore_195 8 rfl ?_
    refine k_goto O 202 dX8_oneMore_197 (by decide) ?_
    exact k_sub [1, 2, 3, 0, 5, 6, 7] rfl (w_X8_oneMore_202 O hN hk115 ho h)
set_option maxHeartbeats 4000000 in
set_option maxRecDepth 100000 in
theorem w_X8_oneMore_115 {X : Cx} {rz : Int32} {wz : Wd} (O : Ok X cX8_oneMore RX8 ((some .int)) wsX8_oneMore (4) (109) 9) (hN : 121 ≤ g_N X.1) (ho : Ro X (some (.int rz), wz)) (n : Nat) : ∀ {w : Wd} {v1 : Int32} {v2 : Int32} {v3 : Int32} {v4 : Int32} {v5 : Int32} {v6 : Int32} {v7 : Int32}, b_X8_oneMore_115 n w v1 v2 v3 v4 v5 v6 v7 = some (rz, wz) → Wk X w 115 [(0, .ref (g_ad X.1 105)), (1, .int v1), (2, .int v2), (3, .int v3), (4, .int v4), (5, .int v5), (6, .int v6), (7, .int v7)] [] := by
  induction n with
  | zero => intro w v1 v2 v3 v4 v5 v6 v7 h; exact nomatch (show (none : Option (Int32 × Wd)) = some _ from h)
  | succ n ih =>
    intro w v1 v2 v3 v4 v5 v6 v7 h
    rw [b_X8_oneMore_115] at h
    refine k_iload O dX8_oneMore_115 7 rfl ?_
    refine k_bipush O dX8_oneMore_117 (v := 12) (by decide) ?_
    refine k_icmp_ge O 210 dX8_oneMore_119 (by decide) (fun c1 => ?_) (fun c1 => ?_)
    · have h := ite_t c1 h
      refine k_aload_n O dX8_oneMore_210 0 rfl ?_
      refine k_get O (v := .ref (g_ad X.1 113)) (k := 105) (by omega) E_105 rfl 14 (by decide) (fun _ h9 => List.mem_cons_of_mem _ (List.mem_append_right _ h9)) (List.mem_of_getElem? (i := 2) rfl) rfl dX8_oneMore_211 ?_
      refine k_iconst O dX8_oneMore_214 (v := 0) (by decide) ?_
      refine k_iload O dX8_oneMore_215 5 rfl ?_
      refine k_iast O (k := 113) (by omega) E_113 (fun _ => E_113) (by decide) dX8_oneMore_217 ?_
      refine k_nw (fun w2 ew2 => ?_)
      have h := nm_use h w2 ew2
      refine k_aload_n O dX8_oneMore_218 0 rfl ?_
      refine k_get O (v := .ref (g_ad X.1 113)) (k := 105) (by omega) E_105 rfl 14 (by decide) (fun _ h9 => List.mem_cons_of_mem _ (List.mem_append_right _ h9)) (List.mem_of_getElem? (i := 2) rfl) rfl dX8_oneMore_219 ?_
      refine k_iconst O dX8_oneMore_222 (v := 1) (by decide) ?_
      refine k_iload O dX8_oneMore_223 6 rfl ?_
      refine k_iast O (k := 113) (by omega) E_113 (fun _ => E_113) (by decide) dX8_oneMore_225 ?_
      refine k_nw (fun w3 ew3 => ?_)
      have h := nm_use h w3 ew3
      refine k_iload_n O dX8_oneMore_226 3 rfl ?_
      exact k_iret O dX8_oneMore_227 (rt_int h ho)
    · have h := ite_f c1 h
      refine k_aload_n O dX8_oneMore_122 0 rfl ?_
      refine k_get O (v := .int (w.1 105 12)) (k := 105) (by omega) E_105 rfl 12 (by decide) (fun _ h9 => List.mem_cons_of_mem _ (List.mem_append_right _ h9)) (List.mem_of_getElem? (i := 6) rfl) rfl dX8_oneMore_123 ?_
      refine k_iload O dX8_oneMore_126 7 rfl ?_
      refine k_ishr O dX8_oneMore_128 ?_
      refine k_iconst O dX8_oneMore_129 (v := 1) (by decide) ?_
      refine k_iand O dX8_oneMore_130 ?_
      refine k_if_ne O 204 dX8_oneMore_131 (by decide) (fun c4 => ?_) (fun c4 => ?_)
      · have h := ite_f c4 h
        exact k_sub [0, 1, 2, 3, 4, 5, 6, 7] rfl (w_X8_oneMore_204 O hN (fun {_} {_} {_} {_} {_} {_} {_} {_} h9 => ih h9) ho h)
      · have h := ite_t c4 h
        refine k_aload_n O dX8_oneMore_134 0 rfl ?_
        refine k_iload O dX8_oneMore_135 7 rfl ?_
        refine k_aload_n O dX8_oneMore_137 0 rfl ?_
        refine k_get O (v := .int (w.1 105 10)) (k := 105) (by omega) E_105 rfl 10 (by decide) (fun _ h9 => List.mem_cons_of_mem _ (List.mem_append_right _ h9)) (List.mem_of_getElem? (i := 3) rfl) rfl dX8_oneMore_138 ?_
        obtain ⟨r7, w6, hc5, h⟩ := bd_some h
        refine k_callVi O (As := [.int v7, .int (w.1 105 10)]) (rest := []) (k := 105) (c_X8_trapAt (x_l X) X.1 hN hc5) gX8_oneMore_X8_trapAt rfl hd_X8_trapAt (by decide) (by omega) E_105 rfl rfl rfl rfl rfl (Nat.le_of_ble_eq_true rfl) dX8_oneMore_141 ?_
        refine k_bipush O dX8_oneMore_144 (v := -9) (by decide) ?_
        refine k_icmp_ne O 204 dX8_oneMore_146 (by decide) (fun c8 => ?_) (fun c8 => ?_)
        · have h := ite_f c8 h
          exact k_sub [0, 1, 2, 3, 4, 5, 6, 7] rfl (w_X8_oneMore_204 O hN (fun {_} {_} {_} {_} {_} {_} {_} {_} h9 => ih h9) ho h)
        · have h := ite_t c8 h
          refine k_aload_n O dX8_oneMore_149 0 rfl ?_
          refine k_get O (v := .ref (g_ad X.1 108)) (k := 105) (by omega) E_105 rfl 5 (by decide) (fun _ h9 => List.mem_cons_of_mem _ (List.mem_append_right _ h9)) (List.mem_of_getElem? (i := 7) rfl) rfl dX8_oneMore_150 ?_
          refine k_aload_n O dX8_oneMore_153 0 rfl ?_
          refine k_get O (v := .int (w6.1 105 10)) (k := 105) (by omega) E_105 rfl 10 (by decide) (fun _ h9 => List.mem_cons_of_mem _ (List.mem_append_right _ h9)) (List.mem_of_getElem? (i := 3) rfl) rfl dX8_oneMore_154 ?_
          refine k_iload O dX8_oneMore_157 7 rfl ?_
          obtain ⟨g9, h⟩ := gd_some h
          refine k_iast O (k := 108) (by omega) E_108 (fun _ => E_108) g9 dX8_oneMore_159 ?_
          refine k_nw (fun w10 ew10 => ?_)
          have h := nm_use h w10 ew10
          refine k_aload_n O dX8_oneMore_160 0 rfl ?_
          refine k_iload_n O dX8_oneMore_161 1 rfl ?_
          refine k_iload_n O dX8_oneMore_162 2 rfl ?_
          refine k_aload_n O dX8_oneMore_163 0 rfl ?_
          refine k_get O (v := .int (w10.1 105 10)) (k := 105) (by omega) E_105 rfl 10 (by decide) (fun _ h9 => List.mem_cons_of_mem _ (List.mem_append_right _ h9)) (List.mem_of_getElem? (i := 3) rfl) rfl dX8_oneMore_164 ?_
          refine k_iconst O dX8_oneMore_167 (v := 1) (by decide) ?_
          refine k_iadd O dX8_oneMore_168 ?_
          obtain ⟨r13, w12, hc11, h⟩ := bd_some h
          refine k_callVi O (As := [.int v1, .int v2, .int ((w10.1 105 10) + ((1 : Int32)))]) (rest := []) (k := 105) (c_X8_caughtParts (x_l X) X.1 hN hc11) gX8_oneMore_X8_caughtParts rfl hd_X8_caughtParts (by decide) (by omega) E_105 rfl rfl rfl rfl rfl (Nat.le_of_ble_eq_true rfl) dX8_oneMore_169 ?_
          refine k_istore (lv' := [(8, .int r13), (0, .ref (g_ad X.1 105)), (1, .int v1), (2, .int v2), (3, .int v3), (4, .int v4), (5, .int v5), (6, .int v6), (7, .int v7)]) O dX8_oneMore_172 (by decide) rfl ?_
          refine k_iload O dX8_oneMore_174 0 rfl ?_
          refine k_iload O dX8_oneMore_176 5 rfl ?_
          refine k_icmp_le O 186 dX8_oneMore_178 (by decide) (fun c14 => ?_) (fun c14 => ?_)
          · have h := ite_t c14 h
            refine k_iload_n O dX8_oneMore_186 4 rfl ?_
            exact k_sub [1, 2, 3, 5, 6, 7, 8, 0] rfl (w_X8_oneMore_187 O hN (fun {_} {_} {_} {_} {_} {_} {_} {_} h9 => ih h9) ho h)
          · have h := ite_f c14 h
            refine k_iload O dX8_oneMore_181 8 rfl ?_
            refine k_goto O 187 dX8_oneMore_183 (by decide) ?_
            exact k_sub [1, 2, 3, 5, 6, 7, 8, 0] rfl (w_X8_oneMore_187 O hN (fun {_} {_} {_} {_} {_} {_} {_} {_} h9 => ih h9) ho h)
set_option maxHeartbeats 4000000 in
set_option maxRecDepth 100000 in
theorem w_X8_oneMore_0 {X : Cx} {rz : Int32} {wz : Wd} (O : Ok X cX8_oneMore RX8 ((some .int)) wsX8_oneMore (4) (109) 9) (hN : 121 ≤ g_N X.1) (ho : Ro X (some (.int rz), wz)) {w : Wd} {v1 : Int32} {v2 : Int32} (h : b_X8_oneMore_0 w v1 v2 = some (rz, wz)) : Wk X w 0 [(0, .ref (g_ad X.1 105)), (1, .int v1), (2, .int v2)] [] := by
  unfold b_X8_oneMore_0 at h
  refine k_aload_n O dX8_oneMore_0 0 rfl ?_
  refine k_iload_n O dX8_oneMore_1 1 rfl ?_
  obtain ⟨r3, w2, hc1, h⟩ := bd_some h
  refine k_callVi O (As := [.int v1]) (rest := []) (k := 105) (c_X8_isWalker (x_l X) X.1 hN hc1) gX8_oneMore_X8_isWalker rfl hd_X8_isWalker (by decide) (by omega) E_105 rfl rfl rfl rfl rfl (Nat.le_of_ble_eq_true rfl) dX8_oneMore_2 ?_
  refine k_if_ne O 10 dX8_oneMore_5 (by decide) (fun c4 => ?_) (fun c4 => ?_)
  · have h := ite_f c4 h
    refine k_iload_n O dX8_oneMore_10 2 rfl ?_
    refine k_i2l O dX8_oneMore_11 ?_
    refine k_lconst O dX8_oneMore_12 (v := 1) (by decide) ?_
    refine k_ldc2 O dX8_oneMore_13 (List.mem_of_getElem? (i := 1) rfl) ?_
    obtain ⟨r7, w6, hc5, h⟩ := bd_some h
    refine k_callSi O (As := [.long ((v2).toInt64), .long ((1 : Int64)), .long ((3 : Int64))]) (rest := []) (c_X8_in (x_l X) X.1 hc5) gX8_oneMore_X8_in rfl hd_X8_in (by decide) rfl rfl (Nat.le_of_ble_eq_true rfl) dX8_oneMore_16 ?_
    refine k_if_ne O 25 dX8_oneMore_19 (by decide) (fun c8 => ?_) (fun c8 => ?_)
    · have h := ite_f c8 h
      refine k_aload_n O dX8_oneMore_25 0 rfl ?_
      refine k_get O (v := .ref (g_ad X.1 113)) (k := 105) (by omega) E_105 rfl 14 (by decide) (fun _ h9 => List.mem_cons_of_mem _ (List.mem_append_right _ h9)) (List.mem_of_getElem? (i := 2) rfl) rfl dX8_oneMore_26 ?_
      refine k_bipush O dX8_oneMore_29 (v := 8) (by decide) ?_
      refine k_iload_n O dX8_oneMore_31 1 rfl ?_
      refine k_iadd O dX8_oneMore_32 ?_
      obtain ⟨g9, h⟩ := gd_some h
      refine k_iald O (k := 113) (by omega) E_113 g9 dX8_oneMore_33 ?_
      refine k_bipush O dX8_oneMore_34 (v := -9) (by decide) ?_
      refine k_icmp_eq O 42 dX8_oneMore_36 (by decide) (fun c10 => ?_) (fun c10 => ?_)
      · have h := ite_t c10 h
        refine k_aload_n O dX8_oneMore_42 0 rfl ?_
        refine k_get O (v := .int (w6.1 105 10)) (k := 105) (by omega) E_105 rfl 10 (by decide) (fun _ h9 => List.mem_cons_of_mem _ (List.mem_append_right _ h9)) (List.mem_of_getElem? (i := 3) rfl) rfl dX8_oneMore_43 ?_
        refine k_bipush O dX8_oneMore_46 (v := 6) (by decide) ?_
        refine k_icmp_ne O 54 dX8_oneMore_48 (by decide) (fun c11 => ?_) (fun c11 => ?_)
        · have h := ite_f c11 h
          refine k_bipush O dX8_oneMore_54 (v := -9) (by decide) ?_
          refine k_istore_n (lv' := [(3, .int ((-9 : Int32))), (0, .ref (g_ad X.1 105)), (1, .int v1), (2, .int v2)]) O dX8_oneMore_56 rfl (by decide) rfl ?_
          refine k_bipush O dX8_oneMore_57 (v := -9) (by decide) ?_
          refine k_istore (lv' := [(4, .int ((-9 : Int32))), (3, .int ((-9 : Int32))), (0, .ref (g_ad X.1 105)), (1, .int v1), (2, .int v2)]) O dX8_oneMore_59 (by decide) rfl ?_
          refine k_aload_n O dX8_oneMore_61 2 rfl ?_
          refine k_get O (v := .ref (g_ad X.1 113)) (k := 105) (by omega) E_105 rfl 14 (by decide) (fun _ h9 => List.mem_cons_of_mem _ (List.mem_append_right _ h9)) (List.mem_of_getElem? (i := 2) rfl) rfl dX8_oneMore_62 ?_
          refine k_iconst O dX8_oneMore_65 (v := 0) (by decide) ?_
          refine k_iald O (k := 113) (by omega) E_113 (by decide) dX8_oneMore_66 ?_
          refine k_topi (fun x12 ex12 => ?_)
          have h := nm_use h x12 ex12
          refine k_istore (lv' := [(5, .int x12), (4, .int ((-9 : Int32))), (3, .int ((-9 : Int32))), (0, .ref (g_ad X.1 105)), (1, .int v1), (2, .int v2)]) O dX8_oneMore_67 (by decide) rfl ?_
          refine k_aload_n O dX8_oneMore_69 3 rfl ?_
          refine k_get O (v := .ref (g_ad X.1 113)) (k := 105) (by omega) E_105 rfl 14 (by decide) (fun _ h9 => List.mem_cons_of_mem _ (List.mem_append_right _ h9)) (List.mem_of_getElem? (i := 2) rfl) rfl dX8_oneMore_70 ?_
          refine k_iconst O dX8_oneMore_73 (v := 1) (by decide) ?_
          refine k_iald O (k := 113) (by omega) E_113 (by decide) dX8_oneMore_74 ?_
          refine k_topi (fun x13 ex13 => ?_)
          have h := nm_use h x13 ex13
          refine k_istore (lv' := [(6, .int x13), (5, .int x12), (4, .int ((-9 : Int32))), (3, .int ((-9 : Int32))), (0, .ref (g_ad X.1 105)), (1, .int v1), (2, .int v2)]) O dX8_oneMore_75 (by decide) rfl ?_
          refine k_aload_n O dX8_oneMore_77 4 rfl ?_
          refine k_get O (v := .ref (g_ad X.1 113)) (k := 105) (by omega) E_105 rfl 14 (by decide) (fun _ h9 => List.mem_cons_of_mem _ (List.mem_append_right _ h9)) (List.mem_of_getElem? (i := 2) rfl) rfl dX8_oneMore_78 ?_
          refine k_iconst O dX8_oneMore_81 (v := 0) (by decide) ?_
          refine k_dup2 O dX8_oneMore_82 rfl rfl ?_
          refine k_iald O (k := 113) (by omega) E_113 (by decide) dX8_oneMore_83 ?_
          refine k_iconst O dX8_oneMore_84 (v := 1) (by decide) ?_
          refine k_aload_n O dX8_oneMore_85 4 rfl ?_
          refine k_get O (v := .int (w6.1 105 10)) (k := 105) (by omega) E_105 rfl 10 (by decide) (fun _ h9 => List.mem_cons_of_mem _ (List.mem_append_right _ h9)) (List.mem_of_getElem? (i := 3) rfl) rfl dX8_oneMore_86 ?_
          refine k_ishl O dX8_oneMore_89 ?_
          refine k_ior O dX8_oneMore_90 ?_
          refine k_iast O (k := 113) (by omega) E_113 (fun _ => E_113) (by decide) dX8_oneMore_91 ?_
          refine k_nw (fun w14 ew14 => ?_)
          have h := nm_use h w14 ew14
          refine k_aload_n O dX8_oneMore_92 4 rfl ?_
          refine k_get O (v := .ref (g_ad X.1 110)) (k := 105) (by omega) E_105 rfl 7 (by decide) (fun _ h9 => List.mem_cons_of_mem _ (List.mem_append_right _ h9)) (List.mem_of_getElem? (i := 4) rfl) rfl dX8_oneMore_93 ?_
          refine k_aload_n O dX8_oneMore_96 4 rfl ?_
          refine k_get O (v := .int (w14.1 105 10)) (k := 105) (by omega) E_105 rfl 10 (by decide) (fun _ h9 => List.mem_cons_of_mem _ (List.mem_append_right _ h9)) (List.mem_of_getElem? (i := 3) rfl) rfl dX8_oneMore_97 ?_
          refine k_iconst O dX8_oneMore_100 (v := 4) (by decide) ?_
          obtain ⟨g15, h⟩ := gd_some h
          refine k_iast O (k := 110) (by omega) E_110 (fun _ => E_110) g15 dX8_oneMore_101 ?_
          refine k_nw (fun w16 ew16 => ?_)
          have h := nm_use h w16 ew16
          refine k_aload_n O dX8_oneMore_102 4 rfl ?_
          refine k_get O (v := .ref (g_ad X.1 111)) (k := 105) (by omega) E_105 rfl 8 (by decide) (fun _ h9 => List.mem_cons_of_mem _ (List.mem_append_right _ h9)) (List.mem_of_getElem? (i := 5) rfl) rfl dX8_oneMore_103 ?_
          refine k_aload_n O dX8_oneMore_106 4 rfl ?_
          refine k_get O (v := .int (w16.1 105 10)) (k := 105) (by omega) E_105 rfl 10 (by decide) (fun _ h9 => List.mem_cons_of_mem _ (List.mem_append_right _ h9)) (List.mem_of_getElem? (i := 3) rfl) rfl dX8_oneMore_107 ?_
          refine k_iconst O dX8_oneMore_110 (v := 0) (by decide) ?_
          obtain ⟨g17, h⟩ := gd_some h
          refine k_iast O (k := 111) (by omega) E_111 (fun _ => E_111) g17 dX8_oneMore_111 ?_
          refine k_nw (fun w18 ew18 => ?_)
          have h := nm_use h w18 ew18
          refine k_iconst O dX8_oneMore_112 (v := 0) (by decide) ?_
          refine k_istore (lv' := [(7, .int ((0 : Int32))), (6, .int x13), (5, .int x12), (4, .int ((-9 : Int32))), (3, .int ((-9 : Int32))), (0, .ref (g_ad X.1 105)), (1, .int v1), (2, .int v2)]) O dX8_oneMore_113 (by decide) rfl ?_
          exact k_sub [5, 6, 7, 4, 3, 2, 1, 0] rfl (w_X8_oneMore_115 O hN ho LF h)
        · have h := ite_t c11 h
          refine k_bipush O dX8_oneMore_51 (v := -4) (by decide) ?_
          exact k_iret O dX8_oneMore_53 (rt_int h ho)
      · have h := ite_f c10 h
        refine k_bipush O dX8_oneMore_39 (v := -3) (by decide) ?_
        exact k_iret O dX8_oneMore_41 (rt_int h ho)
    · have h := ite_t c8 h
      refine k_bipush O dX8_oneMore_22 (v := -2) (by decide) ?_
      exact k_iret O dX8_oneMore_24 (rt_int h ho)
  · have h := ite_t c4 h
    refine k_iconst O dX8_oneMore_8 (v := -1) (by decide) ?_
    exact k_iret O dX8_oneMore_9 (rt_int h ho)
theorem c_X8_oneMore (l : Launch) (G : Gl) (hN : 121 ≤ g_N G) {w wz : Wd} {v1 : Int32} {v2 : Int32} {rz : Int32} (h : f_X8_oneMore w v1 v2 = some (rz, wz)) : Ct l yX8_oneMore wsX8_oneMore (4) (109) G [.ref (g_ad G 105), .int v1, .int v2] w (some (.int rz), wz) := by
  refine Ct.start (by decide) rfl rfl rfl (Nat.le_of_ble_eq_true rfl) (fun X hG ho hl O => ?_)
  subst hG
  subst hl
  exact k_sub [0, 1, 2] rfl (w_X8_oneMore_0 O hN ho h)
def b_X8_seed_0 (w : Wd) (v1 : Int64) : Option (Int64 × Wd) := nm (w.2 105) (fun x1 => nm (upl w 105 v1) (fun w2 => some (x1, w2)))
def f_X8_seed (w : Wd) (v1 : Int64) : Option (Int64 × Wd) := b_X8_seed_0 w v1
set_option maxHeartbeats 4000000 in
set_option maxRecDepth 100000 in
theorem w_X8_seed_0 {X : Cx} {rz : Int64} {wz : Wd} (O : Ok X cX8_seed RX8 ((some .long)) wsX8_seed (0) (0) 5) (hN : 121 ≤ g_N X.1) (ho : Ro X (some (.long rz), wz)) {w : Wd} {v1 : Int64} (h : b_X8_seed_0 w v1 = some (rz, wz)) : Wk X w 0 [(0, .ref (g_ad X.1 105)), (1, .long v1)] [] := by
  unfold b_X8_seed_0 at h
  refine k_aload_n O dX8_seed_0 0 rfl ?_
  refine k_get O (v := .long (w.2 105)) (k := 105) (by omega) E_105 rfl 25 (by decide) (fun _ h9 => List.mem_cons_of_mem _ (List.mem_append_right _ h9)) (List.mem_of_getElem? (i := 1) rfl) rfl dX8_seed_1 ?_
  refine k_topl (fun x1 ex1 => ?_)
  have h := nm_use h x1 ex1
  refine k_lstore_n (lv' := [(3, .long x1), (0, .ref (g_ad X.1 105)), (1, .long v1)]) O dX8_seed_4 rfl (by decide) rfl ?_
  refine k_aload_n O dX8_seed_5 1 rfl ?_
  refine k_lload_n O dX8_seed_6 2 rfl ?_
  refine k_putl O (k := 105) tyX8 tyX8_ok nmX8 (by omega) E_105 rfl 25 (by decide) (fun _ h9 => List.mem_cons_of_mem _ (List.mem_append_right _ h9)) (List.mem_of_getElem? (i := 1) rfl) rfl rfl rfl (Nat.le_of_ble_eq_true rfl) (E_105.trans rfl) dX8_seed_7 ?_
  refine k_nw (fun w2 ew2 => ?_)
  have h := nm_use h w2 ew2
  refine k_lload_n O dX8_seed_10 0 rfl ?_
  exact k_lret O dX8_seed_11 (rt_long h ho)
theorem c_X8_seed (l : Launch) (G : Gl) (hN : 121 ≤ g_N G) {w wz : Wd} {v1 : Int64} {rz : Int64} (h : f_X8_seed w v1 = some (rz, wz)) : Ct l yX8_seed wsX8_seed (0) (0) G [.ref (g_ad G 105), .long v1] w (some (.long rz), wz) := by
  refine Ct.start (by decide) rfl rfl rfl (Nat.le_of_ble_eq_true rfl) (fun X hG ho hl O => ?_)
  subst hG
  subst hl
  exact k_sub [0, 1] rfl (w_X8_seed_0 O hN ho h)
def b_X8_night_192 (kb162 : Wd → Int32 → Int32 → Option (Int32 × Wd)) (w : Wd) (v3 : Int32) (s0 : Int32) (s1 : Int32) : Option (Int32 × Wd) := nm (s1 ||| s0) (fun x1 => nm (v3 + (1 : Int32)) (fun x2 => kb162 w x1 x2))
def b_X8_night_162 : Nat → Wd → Int32 → Int32 → Option (Int32 × Wd)
  | 0, _, _, _ => none
  | n + 1, w, v2, v3 => if (w.1 105 11) ≤ v3 then (some (v2, w)) else (gd (inb (((20 : Int32)) + v3) 72) (if (w.1 113 (((20 : Int32)) + v3).toNatClampNeg) = ((-9 : Int32)) then (b_X8_night_192 (b_X8_night_162 n) w v3 ((0 : Int32)) v2) else (b_X8_night_192 (b_X8_night_162 n) w v3 (((1 : Int32)) <<< (v3 &&& 31)) v2)))
def b_X8_night_146 (kb46 : Wd → Int32 → Int32 → Option (Int32 × Wd)) (kb53 : Wd → Int32 → Int32 → Int32 → Option (Int32 × Wd)) (w : Wd) (v1 : Int32) (v2 : Int32) (v3 : Int32) : Option (Int32 × Wd) := nm (v3 + (1 : Int32)) (fun x1 => kb53 w v1 v2 x1)
def b_X8_night_92 (kb46 : Wd → Int32 → Int32 → Option (Int32 × Wd)) (kb53 : Wd → Int32 → Int32 → Int32 → Option (Int32 × Wd)) (w : Wd) (v1 : Int32) (v2 : Int32) (v3 : Int32) (s0 : Int32) : Option (Int32 × Wd) := if s0 = 0 then (b_X8_night_146 kb46 kb53 w v1 v2 v3) else (nm (upl w 105 (((w.2 105) * ((6364136223846793005 : Int64))) + ((1442695040888963407 : Int64)))) (fun w2 => bd (f_X8_ones w2 s0) (fun r5 w4 => gd (nzl ((r5).toInt64)) (bd (f_X8_ofCells w4 s0 (((((((w2.2 105)).toUInt64 >>> ((((33 : Int32))).toInt64.toUInt64 &&& Int64.toUInt64 63)).toInt64) - ((((w2.2 105)).toUInt64 >>> ((((33 : Int32))).toInt64.toUInt64 &&& Int64.toUInt64 63)).toInt64) / ((r5).toInt64) * ((r5).toInt64))).toInt32)) (fun r9 w8 => bd (f_X8_stepOn w8 ((1 : Int32)) v3 r9 (w8.1 105 10)) (fun r12 w11 => b_X8_night_146 kb46 kb53 w11 v1 v2 v3))))))
def b_X8_night_53 (kb46 : Wd → Int32 → Int32 → Option (Int32 × Wd)) : Nat → Wd → Int32 → Int32 → Int32 → Option (Int32 × Wd)
  | 0, _, _, _, _ => none
  | n + 1, w, v1, v2, v3 => if (w.1 105 11) ≤ v3 then (nm (v2 + (1 : Int32)) (fun x2 => kb46 w v1 x2)) else (gd (inb (((20 : Int32)) + v3) 72) (if (w.1 113 (((20 : Int32)) + v3).toNatClampNeg) = ((-9 : Int32)) then (gd (inb (((16 : Int32)) + v3) 72) (bd (f_X8_nearTo w (w.1 113 (((16 : Int32)) + v3).toNatClampNeg)) (fun r8 w7 => b_X8_night_92 kb46 (b_X8_night_53 kb46 n) w7 v1 v2 v3 r8))) else (b_X8_night_92 kb46 (b_X8_night_53 kb46 n) w v1 v2 v3 ((0 : Int32)))))
def b_X8_night_46 : Nat → Wd → Int32 → Int32 → Option (Int32 × Wd)
  | 0, _, _, _ => none
  | n + 1, w, v1, v2 => if v1 ≤ v2 then (b_X8_night_162 LF w ((0 : Int32)) ((0 : Int32))) else (b_X8_night_53 (b_X8_night_46 n) LF w v1 v2 ((0 : Int32)))
def b_X8_night_17 : Nat → Wd → Int32 → Int32 → Option (Int32 × Wd)
  | 0, _, _, _ => none
  | n + 1, w, v1, v2 => if ((12 : Int32)) ≤ v2 then (b_X8_night_46 LF w v1 ((0 : Int32))) else (gd (inb v2 72) (gd (inb (((12 : Int32)) + v2) 72) (nm (up w 113 (((12 : Int32)) + v2).toNatClampNeg (w.1 113 v2.toNatClampNeg)) (fun w4 => nm (v2 + (1 : Int32)) (fun x5 => b_X8_night_17 n w4 v1 x5)))))
def b_X8_night_0 (w : Wd) (v1 : Int32) : Option (Int32 × Wd) := bd (f_X8_in w ((v1).toInt64) ((1 : Int64)) ((40 : Int64))) (fun r3 w2 => if r3 = 0 then (some ((-2 : Int32), w2)) else (b_X8_night_17 LF w2 v1 ((0 : Int32))))
def f_X8_night (w : Wd) (v1 : Int32) : Option (Int32 × Wd) := b_X8_night_0 w v1
set_option maxHeartbeats 4000000 in
set_option maxRecDepth 100000 in
theorem w_X8_night_192 {X : Cx} {rz : Int32} {wz : Wd} (O : Ok X cX8_night RX8 ((some .int)) wsX8_night (3) (81) 5) (hN : 121 ≤ g_N X.1) {kb162 : Wd → Int32 → Int32 → Option (Int32 × Wd)} (hk162 : ∀ {w : Wd} {v2 : Int32} {v3 : Int32}, kb162 w v2 v3 = some (rz, wz) → Wk X w 162 [(0, .ref (g_ad X.1 105)), (2, .int v2), (3, .int v3)] []) (ho : Ro X (some (.int rz), wz)) {w : Wd} {v3 : Int32} {s0 : Int32} {s1 : Int32} (h : b_X8_night_192 kb162 w v3 s0 s1 = some (rz, wz)) : Wk X w 192 [(0, .ref (g_ad X.1 105)), (3, .int v3)] [.int s0, .int s1] := by
  unfold b_X8_night_192 at h
  refine k_ior O dX8_night_192 ?_
  refine k_topi (fun x1 ex1 => ?_)
  have h := nm_use h x1 ex1
  refine k_istore_n (lv' := [(2, .int x1), (0, .ref (g_ad X.1 105)), (3, .int v3)]) O dX8_night_193 rfl (by decide) rfl ?_
  obtain ⟨x2, ex2⟩ : ∃ z : Int32, z = v3 + (1 : Int32) := ⟨_, rfl⟩
  have h := nm_use h x2 ex2
  refine k_iinc (lv' := [(3, .int x2), (2, .int x1), (0, .ref (g_ad X.1 105))]) O dX8_night_194 2 rfl (by rw [ex2]; rfl) (by decide) rfl ?_
  refine k_goto O 162 dX8_night_197 (by decide) ?_
  exact k_sub [2, 1, 0] rfl (hk162 h)
set_option maxHeartbeats 4000000 in
set_option maxRecDepth 100000 in
theorem w_X8_night_162 {X : Cx} {rz : Int32} {wz : Wd} (O : Ok X cX8_night RX8 ((some .int)) wsX8_night (3) (81) 5) (hN : 121 ≤ g_N X.1) (ho : Ro X (some (.int rz), wz)) (n : Nat) : ∀ {w : Wd} {v2 : Int32} {v3 : Int32}, b_X8_night_162 n w v2 v3 = some (rz, wz) → Wk X w 162 [(0, .ref (g_ad X.1 105)), (2, .int v2), (3, .int v3)] [] := by
  induction n with
  | zero => intro w v2 v3 h; exact nomatch (show (none : Option (Int32 × Wd)) = some _ from h)
  | succ n ih =>
    intro w v2 v3 h
    rw [b_X8_night_162] at h
    refine k_iload_n O dX8_night_162 2 rfl ?_
    refine k_aload_n O dX8_night_163 0 rfl ?_
    refine k_get O (v := .int (w.1 105 11)) (k := 105) (by omega) E_105 rfl 11 (by decide) (fun _ h9 => List.mem_cons_of_mem _ (List.mem_append_right _ h9)) (List.mem_of_getElem? (i := 3) rfl) rfl dX8_night_164 ?_
    refine k_icmp_ge O 200 dX8_night_167 (by decide) (fun c1 => ?_) (fun c1 => ?_)
    · have h := ite_t c1 h
      refine k_iload_n O dX8_night_200 1 rfl ?_
      exact k_iret O dX8_night_201 (rt_int h ho)
    · have h := ite_f c1 h
      refine k_iload_n O dX8_night_170 1 rfl ?_
      refine k_aload_n O dX8_night_171 0 rfl ?_
      refine k_get O (v := .ref (g_ad X.1 113)) (k := 105) (by omega) E_105 rfl 14 (by decide) (fun _ h9 => List.mem_cons_of_mem _ (List.mem_append_right _ h9)) (List.mem_of_getElem? (i := 2) rfl) rfl dX8_night_172 ?_
      refine k_bipush O dX8_night_175 (v := 20) (by decide) ?_
      refine k_iload_n O dX8_night_177 2 rfl ?_
      refine k_iadd O dX8_night_178 ?_
      obtain ⟨g2, h⟩ := gd_some h
      refine k_iald O (k := 113) (by omega) E_113 g2 dX8_night_179 ?_
      refine k_bipush O dX8_night_180 (v := -9) (by decide) ?_
      refine k_icmp_eq O 191 dX8_night_182 (by decide) (fun c3 => ?_) (fun c3 => ?_)
      · have h := ite_t c3 h
        refine k_iconst O dX8_night_191 (v := 0) (by decide) ?_
        exact k_sub [0, 2] rfl (w_X8_night_192 O hN (fun {_} {_} {_} h9 => ih h9) ho h)
      · have h := ite_f c3 h
        refine k_iconst O dX8_night_185 (v := 1) (by decide) ?_
        refine k_iload_n O dX8_night_186 2 rfl ?_
        refine k_ishl O dX8_night_187 ?_
        refine k_goto O 192 dX8_night_188 (by decide) ?_
        exact k_sub [0, 2] rfl (w_X8_night_192 O hN (fun {_} {_} {_} h9 => ih h9) ho h)
set_option maxHeartbeats 4000000 in
set_option maxRecDepth 100000 in
theorem w_X8_night_146 {X : Cx} {rz : Int32} {wz : Wd} (O : Ok X cX8_night RX8 ((some .int)) wsX8_night (3) (81) 5) (hN : 121 ≤ g_N X.1) {kb46 : Wd → Int32 → Int32 → Option (Int32 × Wd)} (hk46 : ∀ {w : Wd} {v1 : Int32} {v2 : Int32}, kb46 w v1 v2 = some (rz, wz) → Wk X w 46 [(0, .ref (g_ad X.1 105)), (1, .int v1), (2, .int v2)] []) {kb53 : Wd → Int32 → Int32 → Int32 → Option (Int32 × Wd)} (hk53 : ∀ {w : Wd} {v1 : Int32} {v2 : Int32} {v3 : Int32}, kb53 w v1 v2 v3 = some (rz, wz) → Wk X w 53 [(0, .ref (g_ad X.1 105)), (1, .int v1), (2, .int v2), (3, .int v3)] []) (ho : Ro X (some (.int rz), wz)) {w : Wd} {v1 : Int32} {v2 : Int32} {v3 : Int32} (h : b_X8_night_146 kb46 kb53 w v1 v2 v3 = some (rz, wz)) : Wk X w 146 [(0, .ref (g_ad X.1 105)), (1, .int v1), (2, .int v2), (3, .int v3)] [] := by
  unfold b_X8_night_146 at h
  obtain ⟨x1, ex1⟩ : ∃ z : Int32, z = v3 + (1 : Int32) := ⟨_, rfl⟩
  have h := nm_use h x1 ex1
  refine k_iinc (lv' := [(3, .int x1), (0, .ref (g_ad X.1 105)), (1, .int v1), (2, .int v2)]) O dX8_night_146 3 rfl (by rw [ex1]; rfl) (by decide) rfl ?_
  refine k_goto O 53 dX8_night_149 (by decide) ?_
  exact k_sub [1, 2, 3, 0] rfl (hk53 h)
set_option maxHeartbeats 4000000 in
set_option maxRecDepth 100000 in
theorem w_X8_night_92 {X : Cx} {rz : Int32} {wz : Wd} (O : Ok X cX8_night RX8 ((some .int)) wsX8_night (3) (81) 5) (hN : 121 ≤ g_N X.1) {kb46 : Wd → Int32 → Int32 → Option (Int32 × Wd)} (hk46 : ∀ {w : Wd} {v1 : Int32} {v2 : Int32}, kb46 w v1 v2 = some (rz, wz) → Wk X w 46 [(0, .ref (g_ad X.1 105)), (1, .int v1), (2, .int v2)] []) {kb53 : Wd → Int32 → Int32 → Int32 → Option (Int32 × Wd)} (hk53 : ∀ {w : Wd} {v1 : Int32} {v2 : Int32} {v3 : Int32}, kb53 w v1 v2 v3 = some (rz, wz) → Wk X w 53 [(0, .ref (g_ad X.1 105)), (1, .int v1), (2, .int v2), (3, .int v3)] []) (ho : Ro X (some (.int rz), wz)) {w : Wd} {v1 : Int32} {v2 : Int32} {v3 : Int32} {s0 : Int32} (h : b_X8_night_92 kb46 kb53 w v1 v2 v3 s0 = some (rz, wz)) : Wk X w 92 [(0, .ref (g_ad X.1 105)), (1, .int v1), (2, .int v2), (3, .int v3)] [.int s0] := by
  unfold b_X8_night_92 at h
  refine k_istore (lv' := [(4, .int s0), (0, .ref (g_ad X.1 105)), (1, .int v1), (2, .int v2), (3, .int v3)]) O dX8_night_92 (by decide) rfl ?_
  refine k_iload O dX8_night_94 0 rfl ?_
  refine k_if_eq O 146 dX8_night_96 (by decide) (fun c1 => ?_) (fun c1 => ?_)
  · have h := ite_t c1 h
    exact k_sub [1, 2, 3, 4] rfl (w_X8_night_146 O hN hk46 hk53 ho h)
  · have h := ite_f c1 h
    refine k_aload_n O dX8_night_99 1 rfl ?_
    refine k_aload_n O dX8_night_100 1 rfl ?_
    refine k_get O (v := .long (w.2 105)) (k := 105) (by omega) E_105 rfl 25 (by decide) (fun _ h9 => List.mem_cons_of_mem _ (List.mem_append_right _ h9)) (List.mem_of_getElem? (i := 4) rfl) rfl dX8_night_101 ?_
    refine k_ldc2 O dX8_night_104 (List.mem_of_getElem? (i := 5) rfl) ?_
    refine k_lmul O dX8_night_107 ?_
    refine k_ldc2 O dX8_night_108 (List.mem_of_getElem? (i := 6) rfl) ?_
    refine k_ladd O dX8_night_111 ?_
    refine k_putl O (k := 105) tyX8 tyX8_ok nmX8 (by omega) E_105 rfl 25 (by decide) (fun _ h9 => List.mem_cons_of_mem _ (List.mem_append_right _ h9)) (List.mem_of_getElem? (i := 4) rfl) rfl rfl rfl (Nat.le_of_ble_eq_true rfl) (E_105.trans rfl) dX8_night_112 ?_
    refine k_nw (fun w2 ew2 => ?_)
    have h := nm_use h w2 ew2
    refine k_aload_n O dX8_night_115 1 rfl ?_
    refine k_iconst O dX8_night_116 (v := 1) (by decide) ?_
    refine k_iload_n O dX8_night_117 4 rfl ?_
    refine k_iload O dX8_night_118 0 rfl ?_
    refine k_aload_n O dX8_night_120 1 rfl ?_
    refine k_get O (v := .long (w2.2 105)) (k := 105) (by omega) E_105 rfl 25 (by decide) (fun _ h9 => List.mem_cons_of_mem _ (List.mem_append_right _ h9)) (List.mem_of_getElem? (i := 4) rfl) rfl dX8_night_121 ?_
    refine k_bipush O dX8_night_124 (v := 33) (by decide) ?_
    refine k_lushr O dX8_night_126 ?_
    refine k_iload O dX8_night_127 0 rfl ?_
    obtain ⟨r5, w4, hc3, h⟩ := bd_some h
    refine k_callSi O (As := [.int s0]) (rest := [.long ((((w2.2 105)).toUInt64 >>> ((((33 : Int32))).toInt64.toUInt64 &&& Int64.toUInt64 63)).toInt64), .int s0, .int v3, .int ((1 : Int32)), .ref (g_ad X.1 105)]) (c_X8_ones (x_l X) X.1 hc3) gX8_night_X8_ones rfl hd_X8_ones (by decide) rfl rfl (Nat.le_of_ble_eq_true rfl) dX8_night_129 ?_
    refine k_i2l O dX8_night_132 ?_
    obtain ⟨g6, h⟩ := gd_some h
    refine k_lrem O dX8_night_133 (nzl_ne g6) ?_
    refine k_l2i O dX8_night_134 ?_
    obtain ⟨r9, w8, hc7, h⟩ := bd_some h
    refine k_callSi O (As := [.int s0, .int (((((((w2.2 105)).toUInt64 >>> ((((33 : Int32))).toInt64.toUInt64 &&& Int64.toUInt64 63)).toInt64) - ((((w2.2 105)).toUInt64 >>> ((((33 : Int32))).toInt64.toUInt64 &&& Int64.toUInt64 63)).toInt64) / ((r5).toInt64) * ((r5).toInt64))).toInt32)]) (rest := [.int v3, .int ((1 : Int32)), .ref (g_ad X.1 105)]) (c_X8_ofCells (x_l X) X.1 hc7) gX8_night_X8_ofCells rfl hd_X8_ofCells (by decide) rfl rfl (Nat.le_of_ble_eq_true rfl) dX8_night_135 ?_
    refine k_aload_n O dX8_night_138 1 rfl ?_
    refine k_get O (v := .int (w8.1 105 10)) (k := 105) (by omega) E_105 rfl 10 (by decide) (fun _ h9 => List.mem_cons_of_mem _ (List.mem_append_right _ h9)) (List.mem_of_getElem? (i := 7) rfl) rfl dX8_night_139 ?_
    obtain ⟨r12, w11, hc10, h⟩ := bd_some h
    refine k_callVi O (As := [.int ((1 : Int32)), .int v3, .int r9, .int (w8.1 105 10)]) (rest := []) (k := 105) (c_X8_stepOn (x_l X) X.1 hN hc10) gX8_night_X8_stepOn rfl hd_X8_stepOn (by decide) (by omega) E_105 rfl rfl rfl rfl rfl (Nat.le_of_ble_eq_true rfl) dX8_night_142 ?_
    refine k_pop O dX8_night_145 rfl ?_
    exact k_sub [1, 2, 3, 4] rfl (w_X8_night_146 O hN hk46 hk53 ho h)
set_option maxHeartbeats 4000000 in
set_option maxRecDepth 100000 in
theorem w_X8_night_53 {X : Cx} {rz : Int32} {wz : Wd} (O : Ok X cX8_night RX8 ((some .int)) wsX8_night (3) (81) 5) (hN : 121 ≤ g_N X.1) {kb46 : Wd → Int32 → Int32 → Option (Int32 × Wd)} (hk46 : ∀ {w : Wd} {v1 : Int32} {v2 : Int32}, kb46 w v1 v2 = some (rz, wz) → Wk X w 46 [(0, .ref (g_ad X.1 105)), (1, .int v1), (2, .int v2)] []) (ho : Ro X (some (.int rz), wz)) (n : Nat) : ∀ {w : Wd} {v1 : Int32} {v2 : Int32} {v3 : Int32}, b_X8_night_53 kb46 n w v1 v2 v3 = some (rz, wz) → Wk X w 53 [(0, .ref (g_ad X.1 105)), (1, .int v1), (2, .int v2), (3, .int v3)] [] := by
  induction n with
  | zero => intro w v1 v2 v3 h; exact nomatch (show (none : Option (Int32 × Wd)) = some _ from h)
  | succ n ih =>
    intro w v1 v2 v3 h
    rw [b_X8_night_53] at h
    refine k_iload_n O dX8_night_53 3 rfl ?_
    refine k_aload_n O dX8_night_54 0 rfl ?_
    refine k_get O (v := .int (w.1 105 11)) (k := 105) (by omega) E_105 rfl 11 (by decide) (fun _ h9 => List.mem_cons_of_mem _ (List.mem_append_right _ h9)) (List.mem_of_getElem? (i := 3) rfl) rfl dX8_night_55 ?_
    refine k_icmp_ge O 152 dX8_night_58 (by decide) (fun c1 => ?_) (fun c1 => ?_)
    · have h := ite_t c1 h
      obtain ⟨x2, ex2⟩ : ∃ z : Int32, z = v2 + (1 : Int32) := ⟨_, rfl⟩
      have h := nm_use h x2 ex2
      refine k_iinc (lv' := [(2, .int x2), (0, .ref (g_ad X.1 105)), (1, .int v1), (3, .int v3)]) O dX8_night_152 2 rfl (by rw [ex2]; rfl) (by decide) rfl ?_
      refine k_goto O 46 dX8_night_155 (by decide) ?_
      exact k_sub [1, 2, 0] rfl (hk46 h)
    · have h := ite_f c1 h
      refine k_aload_n O dX8_night_61 0 rfl ?_
      refine k_get O (v := .ref (g_ad X.1 113)) (k := 105) (by omega) E_105 rfl 14 (by decide) (fun _ h9 => List.mem_cons_of_mem _ (List.mem_append_right _ h9)) (List.mem_of_getElem? (i := 2) rfl) rfl dX8_night_62 ?_
      refine k_bipush O dX8_night_65 (v := 20) (by decide) ?_
      refine k_iload_n O dX8_night_67 3 rfl ?_
      refine k_iadd O dX8_night_68 ?_
      obtain ⟨g3, h⟩ := gd_some h
      refine k_iald O (k := 113) (by omega) E_113 g3 dX8_night_69 ?_
      refine k_bipush O dX8_night_70 (v := -9) (by decide) ?_
      refine k_icmp_ne O 91 dX8_night_72 (by decide) (fun c4 => ?_) (fun c4 => ?_)
      · have h := ite_f c4 h
        refine k_iconst O dX8_night_91 (v := 0) (by decide) ?_
        exact k_sub [0, 1, 2, 3] rfl (w_X8_night_92 O hN hk46 (fun {_} {_} {_} {_} h9 => ih h9) ho h)
      · have h := ite_t c4 h
        refine k_aload_n O dX8_night_75 0 rfl ?_
        refine k_aload_n O dX8_night_76 0 rfl ?_
        refine k_get O (v := .ref (g_ad X.1 113)) (k := 105) (by omega) E_105 rfl 14 (by decide) (fun _ h9 => List.mem_cons_of_mem _ (List.mem_append_right _ h9)) (List.mem_of_getElem? (i := 2) rfl) rfl dX8_night_77 ?_
        refine k_bipush O dX8_night_80 (v := 16) (by decide) ?_
        refine k_iload_n O dX8_night_82 3 rfl ?_
        refine k_iadd O dX8_night_83 ?_
        obtain ⟨g5, h⟩ := gd_some h
        refine k_iald O (k := 113) (by omega) E_113 g5 dX8_night_84 ?_
        obtain ⟨r8, w7, hc6, h⟩ := bd_some h
        refine k_callVi O (As := [.int (w.1 113 (((16 : Int32)) + v3).toNatClampNeg)]) (rest := []) (k := 105) (c_X8_nearTo (x_l X) X.1 hN hc6) gX8_night_X8_nearTo rfl hd_X8_nearTo (by decide) (by omega) E_105 rfl rfl rfl rfl rfl (Nat.le_of_ble_eq_true rfl) dX8_night_85 ?_
        refine k_goto O 92 dX8_night_88 (by decide) ?_
        exact k_sub [0, 1, 2, 3] rfl (w_X8_night_92 O hN hk46 (fun {_} {_} {_} {_} h9 => ih h9) ho h)
set_option maxHeartbeats 4000000 in
set_option maxRecDepth 100000 in
theorem w_X8_night_46 {X : Cx} {rz : Int32} {wz : Wd} (O : Ok X cX8_night RX8 ((some .int)) wsX8_night (3) (81) 5) (hN : 121 ≤ g_N X.1) (ho : Ro X (some (.int rz), wz)) (n : Nat) : ∀ {w : Wd} {v1 : Int32} {v2 : Int32}, b_X8_night_46 n w v1 v2 = some (rz, wz) → Wk X w 46 [(0, .ref (g_ad X.1 105)), (1, .int v1), (2, .int v2)] [] := by
  induction n with
  | zero => intro w v1 v2 h; exact nomatch (show (none : Option (Int32 × Wd)) = some _ from h)
  | succ n ih =>
    intro w v1 v2 h
    rw [b_X8_night_46] at h
    refine k_iload_n O dX8_night_46 2 rfl ?_
    refine k_iload_n O dX8_night_47 1 rfl ?_
    refine k_icmp_ge O 158 dX8_night_48 (by decide) (fun c1 => ?_) (fun c1 => ?_)
    · have h := ite_t c1 h
      refine k_iconst O dX8_night_158 (v := 0) (by decide) ?_
      refine k_istore_n (lv' := [(2, .int ((0 : Int32))), (0, .ref (g_ad X.1 105)), (1, .int v1)]) O dX8_night_159 rfl (by decide) rfl ?_
      refine k_iconst O dX8_night_160 (v := 0) (by decide) ?_
      refine k_istore_n (lv' := [(3, .int ((0 : Int32))), (2, .int ((0 : Int32))), (0, .ref (g_ad X.1 105)), (1, .int v1)]) O dX8_night_161 rfl (by decide) rfl ?_
      exact k_sub [2, 1, 0] rfl (w_X8_night_162 O hN ho LF h)
    · have h := ite_f c1 h
      refine k_iconst O dX8_night_51 (v := 0) (by decide) ?_
      refine k_istore_n (lv' := [(3, .int ((0 : Int32))), (0, .ref (g_ad X.1 105)), (1, .int v1), (2, .int v2)]) O dX8_night_52 rfl (by decide) rfl ?_
      exact k_sub [1, 2, 3, 0] rfl (w_X8_night_53 O hN (fun {_} {_} {_} h9 => ih h9) ho LF h)
set_option maxHeartbeats 4000000 in
set_option maxRecDepth 100000 in
theorem w_X8_night_17 {X : Cx} {rz : Int32} {wz : Wd} (O : Ok X cX8_night RX8 ((some .int)) wsX8_night (3) (81) 5) (hN : 121 ≤ g_N X.1) (ho : Ro X (some (.int rz), wz)) (n : Nat) : ∀ {w : Wd} {v1 : Int32} {v2 : Int32}, b_X8_night_17 n w v1 v2 = some (rz, wz) → Wk X w 17 [(0, .ref (g_ad X.1 105)), (1, .int v1), (2, .int v2)] [] := by
  induction n with
  | zero => intro w v1 v2 h; exact nomatch (show (none : Option (Int32 × Wd)) = some _ from h)
  | succ n ih =>
    intro w v1 v2 h
    rw [b_X8_night_17] at h
    refine k_iload_n O dX8_night_17 2 rfl ?_
    refine k_bipush O dX8_night_18 (v := 12) (by decide) ?_
    refine k_icmp_ge O 44 dX8_night_20 (by decide) (fun c1 => ?_) (fun c1 => ?_)
    · have h := ite_t c1 h
      refine k_iconst O dX8_night_44 (v := 0) (by decide) ?_
      refine k_istore_n (lv' := [(2, .int ((0 : Int32))), (0, .ref (g_ad X.1 105)), (1, .int v1)]) O dX8_night_45 rfl (by decide) rfl ?_
      exact k_sub [1, 2, 0] rfl (w_X8_night_46 O hN ho LF h)
    · have h := ite_f c1 h
      refine k_aload_n O dX8_night_23 0 rfl ?_
      refine k_get O (v := .ref (g_ad X.1 113)) (k := 105) (by omega) E_105 rfl 14 (by decide) (fun _ h9 => List.mem_cons_of_mem _ (List.mem_append_right _ h9)) (List.mem_of_getElem? (i := 2) rfl) rfl dX8_night_24 ?_
      refine k_bipush O dX8_night_27 (v := 12) (by decide) ?_
      refine k_iload_n O dX8_night_29 2 rfl ?_
      refine k_iadd O dX8_night_30 ?_
      refine k_aload_n O dX8_night_31 0 rfl ?_
      refine k_get O (v := .ref (g_ad X.1 113)) (k := 105) (by omega) E_105 rfl 14 (by decide) (fun _ h9 => List.mem_cons_of_mem _ (List.mem_append_right _ h9)) (List.mem_of_getElem? (i := 2) rfl) rfl dX8_night_32 ?_
      refine k_iload_n O dX8_night_35 2 rfl ?_
      obtain ⟨g2, h⟩ := gd_some h
      refine k_iald O (k := 113) (by omega) E_113 g2 dX8_night_36 ?_
      obtain ⟨g3, h⟩ := gd_some h
      refine k_iast O (k := 113) (by omega) E_113 (fun _ => E_113) g3 dX8_night_37 ?_
      refine k_nw (fun w4 ew4 => ?_)
      have h := nm_use h w4 ew4
      obtain ⟨x5, ex5⟩ : ∃ z : Int32, z = v2 + (1 : Int32) := ⟨_, rfl⟩
      have h := nm_use h x5 ex5
      refine k_iinc (lv' := [(2, .int x5), (0, .ref (g_ad X.1 105)), (1, .int v1)]) O dX8_night_38 2 rfl (by rw [ex5]; rfl) (by decide) rfl ?_
      refine k_goto O 17 dX8_night_41 (by decide) ?_
      exact k_sub [1, 2, 0] rfl (ih h)
set_option maxHeartbeats 4000000 in
set_option maxRecDepth 100000 in
theorem w_X8_night_0 {X : Cx} {rz : Int32} {wz : Wd} (O : Ok X cX8_night RX8 ((some .int)) wsX8_night (3) (81) 5) (hN : 121 ≤ g_N X.1) (ho : Ro X (some (.int rz), wz)) {w : Wd} {v1 : Int32} (h : b_X8_night_0 w v1 = some (rz, wz)) : Wk X w 0 [(0, .ref (g_ad X.1 105)), (1, .int v1)] [] := by
  unfold b_X8_night_0 at h
  refine k_iload_n O dX8_night_0 1 rfl ?_
  refine k_i2l O dX8_night_1 ?_
  refine k_lconst O dX8_night_2 (v := 1) (by decide) ?_
  refine k_ldc2 O dX8_night_3 (List.mem_of_getElem? (i := 1) rfl) ?_
  obtain ⟨r3, w2, hc1, h⟩ := bd_some h
  refine k_callSi O (As := [.long ((v1).toInt64), .long ((1 : Int64)), .long ((40 : Int64))]) (rest := []) (c_X8_in (x_l X) X.1 hc1) gX8_night_X8_in rfl hd_X8_in (by decide) rfl rfl (Nat.le_of_ble_eq_true rfl) dX8_night_6 ?_
  refine k_if_ne O 15 dX8_night_9 (by decide) (fun c4 => ?_) (fun c4 => ?_)
  · have h := ite_f c4 h
    refine k_iconst O dX8_night_15 (v := 0) (by decide) ?_
    refine k_istore_n (lv' := [(2, .int ((0 : Int32))), (0, .ref (g_ad X.1 105)), (1, .int v1)]) O dX8_night_16 rfl (by decide) rfl ?_
    exact k_sub [1, 2, 0] rfl (w_X8_night_17 O hN ho LF h)
  · have h := ite_t c4 h
    refine k_bipush O dX8_night_12 (v := -2) (by decide) ?_
    exact k_iret O dX8_night_14 (rt_int h ho)
theorem c_X8_night (l : Launch) (G : Gl) (hN : 121 ≤ g_N G) {w wz : Wd} {v1 : Int32} {rz : Int32} (h : f_X8_night w v1 = some (rz, wz)) : Ct l yX8_night wsX8_night (3) (81) G [.ref (g_ad G 105), .int v1] w (some (.int rz), wz) := by
  refine Ct.start (by decide) rfl rfl rfl (Nat.le_of_ble_eq_true rfl) (fun X hG ho hl O => ?_)
  subst hG
  subst hl
  exact k_sub [0, 1] rfl (w_X8_night_0 O hN ho h)
def b_X8_freeMany_32 (kb4 : Wd → Int32 → Int32 → Option (Int32 × Wd)) (w : Wd) (v2 : Int32) (s0 : Int32) (s1 : Int32) : Option (Int32 × Wd) := nm (s1 + s0) (fun x1 => nm (v2 + (1 : Int32)) (fun x2 => kb4 w x1 x2))
def b_X8_freeMany_4 : Nat → Wd → Int32 → Int32 → Option (Int32 × Wd)
  | 0, _, _, _ => none
  | n + 1, w, v1, v2 => if (w.1 105 11) ≤ v2 then (some (v1, w)) else (gd (inb (((8 : Int32)) + v2) 72) (if (w.1 113 (((8 : Int32)) + v2).toNatClampNeg) = ((-9 : Int32)) then (b_X8_freeMany_32 (b_X8_freeMany_4 n) w v2 ((1 : Int32)) v1) else (b_X8_freeMany_32 (b_X8_freeMany_4 n) w v2 ((0 : Int32)) v1)))
def b_X8_freeMany_0 (w : Wd) : Option (Int32 × Wd) := b_X8_freeMany_4 LF w ((0 : Int32)) ((0 : Int32))
def f_X8_freeMany (w : Wd) : Option (Int32 × Wd) := b_X8_freeMany_0 w 
set_option maxHeartbeats 4000000 in
set_option maxRecDepth 100000 in
theorem w_X8_freeMany_32 {X : Cx} {rz : Int32} {wz : Wd} (O : Ok X cX8_freeMany RX8 ((some .int)) wsX8_freeMany (0) (0) 3) (hN : 121 ≤ g_N X.1) {kb4 : Wd → Int32 → Int32 → Option (Int32 × Wd)} (hk4 : ∀ {w : Wd} {v1 : Int32} {v2 : Int32}, kb4 w v1 v2 = some (rz, wz) → Wk X w 4 [(0, .ref (g_ad X.1 105)), (1, .int v1), (2, .int v2)] []) (ho : Ro X (some (.int rz), wz)) {w : Wd} {v2 : Int32} {s0 : Int32} {s1 : Int32} (h : b_X8_freeMany_32 kb4 w v2 s0 s1 = some (rz, wz)) : Wk X w 32 [(0, .ref (g_ad X.1 105)), (2, .int v2)] [.int s0, .int s1] := by
  unfold b_X8_freeMany_32 at h
  refine k_iadd O dX8_freeMany_32 ?_
  refine k_topi (fun x1 ex1 => ?_)
  have h := nm_use h x1 ex1
  refine k_istore_n (lv' := [(1, .int x1), (0, .ref (g_ad X.1 105)), (2, .int v2)]) O dX8_freeMany_33 rfl (by decide) rfl ?_
  obtain ⟨x2, ex2⟩ : ∃ z : Int32, z = v2 + (1 : Int32) := ⟨_, rfl⟩
  have h := nm_use h x2 ex2
  refine k_iinc (lv' := [(2, .int x2), (1, .int x1), (0, .ref (g_ad X.1 105))]) O dX8_freeMany_34 2 rfl (by rw [ex2]; rfl) (by decide) rfl ?_
  refine k_goto O 4 dX8_freeMany_37 (by decide) ?_
  exact k_sub [2, 1, 0] rfl (hk4 h)
set_option maxHeartbeats 4000000 in
set_option maxRecDepth 100000 in
theorem w_X8_freeMany_4 {X : Cx} {rz : Int32} {wz : Wd} (O : Ok X cX8_freeMany RX8 ((some .int)) wsX8_freeMany (0) (0) 3) (hN : 121 ≤ g_N X.1) (ho : Ro X (some (.int rz), wz)) (n : Nat) : ∀ {w : Wd} {v1 : Int32} {v2 : Int32}, b_X8_freeMany_4 n w v1 v2 = some (rz, wz) → Wk X w 4 [(0, .ref (g_ad X.1 105)), (1, .int v1), (2, .int v2)] [] := by
  induction n with
  | zero => intro w v1 v2 h; exact nomatch (show (none : Option (Int32 × Wd)) = some _ from h)
  | succ n ih =>
    intro w v1 v2 h
    rw [b_X8_freeMany_4] at h
    refine k_iload_n O dX8_freeMany_4 2 rfl ?_
    refine k_aload_n O dX8_freeMany_5 0 rfl ?_
    refine k_get O (v := .int (w.1 105 11)) (k := 105) (by omega) E_105 rfl 11 (by decide) (fun _ h9 => List.mem_cons_of_mem _ (List.mem_append_right _ h9)) (List.mem_of_getElem? (i := 1) rfl) rfl dX8_freeMany_6 ?_
    refine k_icmp_ge O 40 dX8_freeMany_9 (by decide) (fun c1 => ?_) (fun c1 => ?_)
    · have h := ite_t c1 h
      refine k_iload_n O dX8_freeMany_40 1 rfl ?_
      exact k_iret O dX8_freeMany_41 (rt_int h ho)
    · have h := ite_f c1 h
      refine k_iload_n O dX8_freeMany_12 1 rfl ?_
      refine k_aload_n O dX8_freeMany_13 0 rfl ?_
      refine k_get O (v := .ref (g_ad X.1 113)) (k := 105) (by omega) E_105 rfl 14 (by decide) (fun _ h9 => List.mem_cons_of_mem _ (List.mem_append_right _ h9)) (List.mem_of_getElem? (i := 2) rfl) rfl dX8_freeMany_14 ?_
      refine k_bipush O dX8_freeMany_17 (v := 8) (by decide) ?_
      refine k_iload_n O dX8_freeMany_19 2 rfl ?_
      refine k_iadd O dX8_freeMany_20 ?_
      obtain ⟨g2, h⟩ := gd_some h
      refine k_iald O (k := 113) (by omega) E_113 g2 dX8_freeMany_21 ?_
      refine k_bipush O dX8_freeMany_22 (v := -9) (by decide) ?_
      refine k_icmp_ne O 31 dX8_freeMany_24 (by decide) (fun c3 => ?_) (fun c3 => ?_)
      · have h := ite_f c3 h
        refine k_iconst O dX8_freeMany_31 (v := 0) (by decide) ?_
        exact k_sub [0, 2] rfl (w_X8_freeMany_32 O hN (fun {_} {_} {_} h9 => ih h9) ho h)
      · have h := ite_t c3 h
        refine k_iconst O dX8_freeMany_27 (v := 1) (by decide) ?_
        refine k_goto O 32 dX8_freeMany_28 (by decide) ?_
        exact k_sub [0, 2] rfl (w_X8_freeMany_32 O hN (fun {_} {_} {_} h9 => ih h9) ho h)
set_option maxHeartbeats 4000000 in
set_option maxRecDepth 100000 in
theorem w_X8_freeMany_0 {X : Cx} {rz : Int32} {wz : Wd} (O : Ok X cX8_freeMany RX8 ((some .int)) wsX8_freeMany (0) (0) 3) (hN : 121 ≤ g_N X.1) (ho : Ro X (some (.int rz), wz)) {w : Wd} (h : b_X8_freeMany_0 w  = some (rz, wz)) : Wk X w 0 [(0, .ref (g_ad X.1 105))] [] := by
  unfold b_X8_freeMany_0 at h
  refine k_iconst O dX8_freeMany_0 (v := 0) (by decide) ?_
  refine k_istore_n (lv' := [(1, .int ((0 : Int32))), (0, .ref (g_ad X.1 105))]) O dX8_freeMany_1 rfl (by decide) rfl ?_
  refine k_iconst O dX8_freeMany_2 (v := 0) (by decide) ?_
  refine k_istore_n (lv' := [(2, .int ((0 : Int32))), (1, .int ((0 : Int32))), (0, .ref (g_ad X.1 105))]) O dX8_freeMany_3 rfl (by decide) rfl ?_
  exact k_sub [2, 1, 0] rfl (w_X8_freeMany_4 O hN ho LF h)
theorem c_X8_freeMany (l : Launch) (G : Gl) (hN : 121 ≤ g_N G) {w wz : Wd} {rz : Int32} (h : f_X8_freeMany w  = some (rz, wz)) : Ct l yX8_freeMany wsX8_freeMany (0) (0) G [.ref (g_ad G 105)] w (some (.int rz), wz) := by
  refine Ct.start (by decide) rfl rfl rfl (Nat.le_of_ble_eq_true rfl) (fun X hG ho hl O => ?_)
  subst hG
  subst hl
  exact k_sub [0] rfl (w_X8_freeMany_0 O hN ho h)
def b_X8_keep_73 (w : Wd) (s0 : Int32) (s1 : Int32) : Option (Int32 × Wd) := gd (inb s1 26) (nm (up w 120 s1.toNatClampNeg s0) (fun w2 => bd (f_X8_freeMany w2) (fun r5 w4 => some (r5, w4))))
def b_X8_keep_21 : Nat → Wd → Int32 → Int32 → Option (Int32 × Wd)
  | 0, _, _, _ => none
  | n + 1, w, v1, v2 => if ((12 : Int32)) ≤ v2 then (if (w.1 105 13) = 0 then (b_X8_keep_73 w ((0 : Int32)) ((((13 : Int32)) * v1) + ((12 : Int32)))) else (b_X8_keep_73 w ((1 : Int32)) ((((13 : Int32)) * v1) + ((12 : Int32))))) else (gd (inb v2 72) (gd (inb ((((13 : Int32)) * v1) + v2) 26) (nm (up w 120 ((((13 : Int32)) * v1) + v2).toNatClampNeg (w.1 113 v2.toNatClampNeg)) (fun w5 => nm (v2 + (1 : Int32)) (fun x6 => b_X8_keep_21 n w5 v1 x6)))))
def b_X8_keep_0 (w : Wd) (v1 : Int32) : Option (Int32 × Wd) := bd (f_X8_in w ((v1).toInt64) ((0 : Int64)) ((1 : Int64))) (fun r3 w2 => if r3 = 0 then (some ((-1 : Int32), w2)) else (gd (inb v1 2) (nm (up w2 119 v1.toNatClampNeg ((1 : Int32))) (fun w6 => b_X8_keep_21 LF w6 v1 ((0 : Int32))))))
def f_X8_keep (w : Wd) (v1 : Int32) : Option (Int32 × Wd) := b_X8_keep_0 w v1
set_option maxHeartbeats 4000000 in
set_option maxRecDepth 100000 in
theorem w_X8_keep_73 {X : Cx} {rz : Int32} {wz : Wd} (O : Ok X cX8_keep RX8 ((some .int)) wsX8_keep (1) (25) 3) (hN : 121 ≤ g_N X.1) (ho : Ro X (some (.int rz), wz)) {w : Wd} {s0 : Int32} {s1 : Int32} (h : b_X8_keep_73 w s0 s1 = some (rz, wz)) : Wk X w 73 [(0, .ref (g_ad X.1 105))] [.int s0, .int s1, .ref (g_ad X.1 120)] := by
  unfold b_X8_keep_73 at h
  obtain ⟨g1, h⟩ := gd_some h
  refine k_iast O (k := 120) (by omega) E_120 (fun _ => E_120) g1 dX8_keep_73 ?_
  refine k_nw (fun w2 ew2 => ?_)
  have h := nm_use h w2 ew2
  refine k_aload_n O dX8_keep_74 0 rfl ?_
  obtain ⟨r5, w4, hc3, h⟩ := bd_some h
  refine k_callVi O (As := []) (rest := []) (k := 105) (c_X8_freeMany (x_l X) X.1 hN hc3) gX8_keep_X8_freeMany rfl hd_X8_freeMany (by decide) (by omega) E_105 rfl rfl rfl rfl rfl (Nat.le_of_ble_eq_true rfl) dX8_keep_75 ?_
  exact k_iret O dX8_keep_78 (rt_int h ho)
set_option maxHeartbeats 4000000 in
set_option maxRecDepth 100000 in
theorem w_X8_keep_21 {X : Cx} {rz : Int32} {wz : Wd} (O : Ok X cX8_keep RX8 ((some .int)) wsX8_keep (1) (25) 3) (hN : 121 ≤ g_N X.1) (ho : Ro X (some (.int rz), wz)) (n : Nat) : ∀ {w : Wd} {v1 : Int32} {v2 : Int32}, b_X8_keep_21 n w v1 v2 = some (rz, wz) → Wk X w 21 [(0, .ref (g_ad X.1 105)), (1, .int v1), (2, .int v2)] [] := by
  induction n with
  | zero => intro w v1 v2 h; exact nomatch (show (none : Option (Int32 × Wd)) = some _ from h)
  | succ n ih =>
    intro w v1 v2 h
    rw [b_X8_keep_21] at h
    refine k_iload_n O dX8_keep_21 2 rfl ?_
    refine k_bipush O dX8_keep_22 (v := 12) (by decide) ?_
    refine k_icmp_ge O 50 dX8_keep_24 (by decide) (fun c1 => ?_) (fun c1 => ?_)
    · have h := ite_t c1 h
      refine k_aload_n O dX8_keep_50 0 rfl ?_
      refine k_get O (v := .ref (g_ad X.1 120)) (k := 105) (by omega) E_105 rfl 27 (by decide) (fun _ h9 => List.mem_cons_of_mem _ (List.mem_append_right _ h9)) (List.mem_of_getElem? (i := 2) rfl) rfl dX8_keep_51 ?_
      refine k_bipush O dX8_keep_54 (v := 13) (by decide) ?_
      refine k_iload_n O dX8_keep_56 1 rfl ?_
      refine k_imul O dX8_keep_57 ?_
      refine k_bipush O dX8_keep_58 (v := 12) (by decide) ?_
      refine k_iadd O dX8_keep_60 ?_
      refine k_aload_n O dX8_keep_61 0 rfl ?_
      refine k_get O (v := .int (w.1 105 13)) (k := 105) (by omega) E_105 rfl 13 (by decide) (fun _ h9 => List.mem_cons_of_mem _ (List.mem_append_right _ h9)) (List.mem_of_getElem? (i := 4) rfl) rfl dX8_keep_62 ?_
      refine k_if_eq O 72 dX8_keep_65 (by decide) (fun c2 => ?_) (fun c2 => ?_)
      · have h := ite_t c2 h
        refine k_iconst O dX8_keep_72 (v := 0) (by decide) ?_
        exact k_sub [0] rfl (w_X8_keep_73 O hN ho h)
      · have h := ite_f c2 h
        refine k_iconst O dX8_keep_68 (v := 1) (by decide) ?_
        refine k_goto O 73 dX8_keep_69 (by decide) ?_
        exact k_sub [0] rfl (w_X8_keep_73 O hN ho h)
    · have h := ite_f c1 h
      refine k_aload_n O dX8_keep_27 0 rfl ?_
      refine k_get O (v := .ref (g_ad X.1 120)) (k := 105) (by omega) E_105 rfl 27 (by decide) (fun _ h9 => List.mem_cons_of_mem _ (List.mem_append_right _ h9)) (List.mem_of_getElem? (i := 2) rfl) rfl dX8_keep_28 ?_
      refine k_bipush O dX8_keep_31 (v := 13) (by decide) ?_
      refine k_iload_n O dX8_keep_33 1 rfl ?_
      refine k_imul O dX8_keep_34 ?_
      refine k_iload_n O dX8_keep_35 2 rfl ?_
      refine k_iadd O dX8_keep_36 ?_
      refine k_aload_n O dX8_keep_37 0 rfl ?_
      refine k_get O (v := .ref (g_ad X.1 113)) (k := 105) (by omega) E_105 rfl 14 (by decide) (fun _ h9 => List.mem_cons_of_mem _ (List.mem_append_right _ h9)) (List.mem_of_getElem? (i := 3) rfl) rfl dX8_keep_38 ?_
      refine k_iload_n O dX8_keep_41 2 rfl ?_
      obtain ⟨g3, h⟩ := gd_some h
      refine k_iald O (k := 113) (by omega) E_113 g3 dX8_keep_42 ?_
      obtain ⟨g4, h⟩ := gd_some h
      refine k_iast O (k := 120) (by omega) E_120 (fun _ => E_120) g4 dX8_keep_43 ?_
      refine k_nw (fun w5 ew5 => ?_)
      have h := nm_use h w5 ew5
      obtain ⟨x6, ex6⟩ : ∃ z : Int32, z = v2 + (1 : Int32) := ⟨_, rfl⟩
      have h := nm_use h x6 ex6
      refine k_iinc (lv' := [(2, .int x6), (0, .ref (g_ad X.1 105)), (1, .int v1)]) O dX8_keep_44 2 rfl (by rw [ex6]; rfl) (by decide) rfl ?_
      refine k_goto O 21 dX8_keep_47 (by decide) ?_
      exact k_sub [1, 2, 0] rfl (ih h)
set_option maxHeartbeats 4000000 in
set_option maxRecDepth 100000 in
theorem w_X8_keep_0 {X : Cx} {rz : Int32} {wz : Wd} (O : Ok X cX8_keep RX8 ((some .int)) wsX8_keep (1) (25) 3) (hN : 121 ≤ g_N X.1) (ho : Ro X (some (.int rz), wz)) {w : Wd} {v1 : Int32} (h : b_X8_keep_0 w v1 = some (rz, wz)) : Wk X w 0 [(0, .ref (g_ad X.1 105)), (1, .int v1)] [] := by
  unfold b_X8_keep_0 at h
  refine k_iload_n O dX8_keep_0 1 rfl ?_
  refine k_i2l O dX8_keep_1 ?_
  refine k_lconst O dX8_keep_2 (v := 0) (by decide) ?_
  refine k_lconst O dX8_keep_3 (v := 1) (by decide) ?_
  obtain ⟨r3, w2, hc1, h⟩ := bd_some h
  refine k_callSi O (As := [.long ((v1).toInt64), .long ((0 : Int64)), .long ((1 : Int64))]) (rest := []) (c_X8_in (x_l X) X.1 hc1) gX8_keep_X8_in rfl hd_X8_in (by decide) rfl rfl (Nat.le_of_ble_eq_true rfl) dX8_keep_4 ?_
  refine k_if_ne O 12 dX8_keep_7 (by decide) (fun c4 => ?_) (fun c4 => ?_)
  · have h := ite_f c4 h
    refine k_aload_n O dX8_keep_12 0 rfl ?_
    refine k_get O (v := .ref (g_ad X.1 119)) (k := 105) (by omega) E_105 rfl 26 (by decide) (fun _ h9 => List.mem_cons_of_mem _ (List.mem_append_right _ h9)) (List.mem_of_getElem? (i := 1) rfl) rfl dX8_keep_13 ?_
    refine k_iload_n O dX8_keep_16 1 rfl ?_
    refine k_iconst O dX8_keep_17 (v := 1) (by decide) ?_
    obtain ⟨g5, h⟩ := gd_some h
    refine k_zast O (k := 119) (by omega) E_119 (fun _ => E_119) g5 (by decide) dX8_keep_18 ?_
    refine k_nw (fun w6 ew6 => ?_)
    have h := nm_use h w6 ew6
    refine k_iconst O dX8_keep_19 (v := 0) (by decide) ?_
    refine k_istore_n (lv' := [(2, .int ((0 : Int32))), (0, .ref (g_ad X.1 105)), (1, .int v1)]) O dX8_keep_20 rfl (by decide) rfl ?_
    exact k_sub [1, 2, 0] rfl (w_X8_keep_21 O hN ho LF h)
  · have h := ite_t c4 h
    refine k_iconst O dX8_keep_10 (v := -1) (by decide) ?_
    exact k_iret O dX8_keep_11 (rt_int h ho)
theorem c_X8_keep (l : Launch) (G : Gl) (hN : 121 ≤ g_N G) {w wz : Wd} {v1 : Int32} {rz : Int32} (h : f_X8_keep w v1 = some (rz, wz)) : Ct l yX8_keep wsX8_keep (1) (25) G [.ref (g_ad G 105), .int v1] w (some (.int rz), wz) := by
  refine Ct.start (by decide) rfl rfl rfl (Nat.le_of_ble_eq_true rfl) (fun X hG ho hl O => ?_)
  subst hG
  subst hl
  exact k_sub [0, 1] rfl (w_X8_keep_0 O hN ho h)
def b_X8_again_77 (w : Wd) (s0 : Int32) : Option (Int32 × Wd) := gd (bb s0) (nm (up w 105 13 s0) (fun w2 => nm (up w2 105 19 ((0 : Int32))) (fun w3 => bd (f_X8_freeMany w3) (fun r6 w5 => some (r6, w5)))))
def b_X8_again_26 : Nat → Wd → Int32 → Int32 → Option (Int32 × Wd)
  | 0, _, _, _ => none
  | n + 1, w, v1, v2 => if ((12 : Int32)) ≤ v2 then (gd (inb ((((13 : Int32)) * v1) + ((12 : Int32))) 26) (if (w.1 120 ((((13 : Int32)) * v1) + ((12 : Int32))).toNatClampNeg) = ((1 : Int32)) then (b_X8_again_77 w ((1 : Int32))) else (b_X8_again_77 w ((0 : Int32))))) else (gd (inb ((((13 : Int32)) * v1) + v2) 26) (gd (inb v2 72) (nm (up w 113 v2.toNatClampNeg (w.1 120 ((((13 : Int32)) * v1) + v2).toNatClampNeg)) (fun w6 => nm (v2 + (1 : Int32)) (fun x7 => b_X8_again_26 n w6 v1 x7)))))
def b_X8_again_0 (w : Wd) (v1 : Int32) : Option (Int32 × Wd) := bd (f_X8_in w ((v1).toInt64) ((0 : Int64)) ((1 : Int64))) (fun r3 w2 => if r3 = 0 then (some ((-1 : Int32), w2)) else (gd (inb v1 2) (if (w2.1 119 v1.toNatClampNeg) = 0 then (some ((-3 : Int32), w2)) else (b_X8_again_26 LF w2 v1 ((0 : Int32))))))
def f_X8_again (w : Wd) (v1 : Int32) : Option (Int32 × Wd) := b_X8_again_0 w v1
set_option maxHeartbeats 4000000 in
set_option maxRecDepth 100000 in
theorem w_X8_again_77 {X : Cx} {rz : Int32} {wz : Wd} (O : Ok X cX8_again RX8 ((some .int)) wsX8_again (1) (25) 3) (hN : 121 ≤ g_N X.1) (ho : Ro X (some (.int rz), wz)) {w : Wd} {s0 : Int32} (h : b_X8_again_77 w s0 = some (rz, wz)) : Wk X w 77 [(0, .ref (g_ad X.1 105))] [.int s0, .ref (g_ad X.1 105)] := by
  unfold b_X8_again_77 at h
  obtain ⟨g1, h⟩ := gd_some h
  refine k_puti O (k := 105) tyX8 tyX8_ok nmX8 (by omega) E_105 rfl 13 (by decide) (fun _ h9 => List.mem_cons_of_mem _ (List.mem_append_right _ h9)) (List.mem_of_getElem? (i := 4) rfl) rfl (bb_nar g1) (bb_fit g1) (Nat.le_of_ble_eq_true rfl) (E_105.trans rfl) dX8_again_77 ?_
  refine k_nw (fun w2 ew2 => ?_)
  have h := nm_use h w2 ew2
  refine k_aload_n O dX8_again_80 0 rfl ?_
  refine k_iconst O dX8_again_81 (v := 0) (by decide) ?_
  refine k_puti O (k := 105) tyX8 tyX8_ok nmX8 (by omega) E_105 rfl 19 (by decide) (fun _ h9 => List.mem_cons_of_mem _ (List.mem_append_right _ h9)) (List.mem_of_getElem? (i := 5) rfl) rfl rfl rfl (Nat.le_of_ble_eq_true rfl) (E_105.trans rfl) dX8_again_82 ?_
  refine k_nw (fun w3 ew3 => ?_)
  have h := nm_use h w3 ew3
  refine k_aload_n O dX8_again_85 0 rfl ?_
  obtain ⟨r6, w5, hc4, h⟩ := bd_some h
  refine k_callVi O (As := []) (rest := []) (k := 105) (c_X8_freeMany (x_l X) X.1 hN hc4) gX8_again_X8_freeMany rfl hd_X8_freeMany (by decide) (by omega) E_105 rfl rfl rfl rfl rfl (Nat.le_of_ble_eq_true rfl) dX8_again_86 ?_
  exact k_iret O dX8_again_89 (rt_int h ho)
set_option maxHeartbeats 4000000 in
set_option maxRecDepth 100000 in
theorem w_X8_again_26 {X : Cx} {rz : Int32} {wz : Wd} (O : Ok X cX8_again RX8 ((some .int)) wsX8_again (1) (25) 3) (hN : 121 ≤ g_N X.1) (ho : Ro X (some (.int rz), wz)) (n : Nat) : ∀ {w : Wd} {v1 : Int32} {v2 : Int32}, b_X8_again_26 n w v1 v2 = some (rz, wz) → Wk X w 26 [(0, .ref (g_ad X.1 105)), (1, .int v1), (2, .int v2)] [] := by
  induction n with
  | zero => intro w v1 v2 h; exact nomatch (show (none : Option (Int32 × Wd)) = some _ from h)
  | succ n ih =>
    intro w v1 v2 h
    rw [b_X8_again_26] at h
    refine k_iload_n O dX8_again_26 2 rfl ?_
    refine k_bipush O dX8_again_27 (v := 12) (by decide) ?_
    refine k_icmp_ge O 55 dX8_again_29 (by decide) (fun c1 => ?_) (fun c1 => ?_)
    · have h := ite_t c1 h
      refine k_aload_n O dX8_again_55 0 rfl ?_
      refine k_aload_n O dX8_again_56 0 rfl ?_
      refine k_get O (v := .ref (g_ad X.1 120)) (k := 105) (by omega) E_105 rfl 27 (by decide) (fun _ h9 => List.mem_cons_of_mem _ (List.mem_append_right _ h9)) (List.mem_of_getElem? (i := 3) rfl) rfl dX8_again_57 ?_
      refine k_bipush O dX8_again_60 (v := 13) (by decide) ?_
      refine k_iload_n O dX8_again_62 1 rfl ?_
      refine k_imul O dX8_again_63 ?_
      refine k_bipush O dX8_again_64 (v := 12) (by decide) ?_
      refine k_iadd O dX8_again_66 ?_
      obtain ⟨g2, h⟩ := gd_some h
      refine k_iald O (k := 120) (by omega) E_120 g2 dX8_again_67 ?_
      refine k_iconst O dX8_again_68 (v := 1) (by decide) ?_
      refine k_icmp_ne O 76 dX8_again_69 (by decide) (fun c3 => ?_) (fun c3 => ?_)
      · have h := ite_f c3 h
        refine k_iconst O dX8_again_76 (v := 0) (by decide) ?_
        exact k_sub [0] rfl (w_X8_again_77 O hN ho h)
      · have h := ite_t c3 h
        refine k_iconst O dX8_again_72 (v := 1) (by decide) ?_
        refine k_goto O 77 dX8_again_73 (by decide) ?_
        exact k_sub [0] rfl (w_X8_again_77 O hN ho h)
    · have h := ite_f c1 h
      refine k_aload_n O dX8_again_32 0 rfl ?_
      refine k_get O (v := .ref (g_ad X.1 113)) (k := 105) (by omega) E_105 rfl 14 (by decide) (fun _ h9 => List.mem_cons_of_mem _ (List.mem_append_right _ h9)) (List.mem_of_getElem? (i := 2) rfl) rfl dX8_again_33 ?_
      refine k_iload_n O dX8_again_36 2 rfl ?_
      refine k_aload_n O dX8_again_37 0 rfl ?_
      refine k_get O (v := .ref (g_ad X.1 120)) (k := 105) (by omega) E_105 rfl 27 (by decide) (fun _ h9 => List.mem_cons_of_mem _ (List.mem_append_right _ h9)) (List.mem_of_getElem? (i := 3) rfl) rfl dX8_again_38 ?_
      refine k_bipush O dX8_again_41 (v := 13) (by decide) ?_
      refine k_iload_n O dX8_again_43 1 rfl ?_
      refine k_imul O dX8_again_44 ?_
      refine k_iload_n O dX8_again_45 2 rfl ?_
      refine k_iadd O dX8_again_46 ?_
      obtain ⟨g4, h⟩ := gd_some h
      refine k_iald O (k := 120) (by omega) E_120 g4 dX8_again_47 ?_
      obtain ⟨g5, h⟩ := gd_some h
      refine k_iast O (k := 113) (by omega) E_113 (fun _ => E_113) g5 dX8_again_48 ?_
      refine k_nw (fun w6 ew6 => ?_)
      have h := nm_use h w6 ew6
      obtain ⟨x7, ex7⟩ : ∃ z : Int32, z = v2 + (1 : Int32) := ⟨_, rfl⟩
      have h := nm_use h x7 ex7
      refine k_iinc (lv' := [(2, .int x7), (0, .ref (g_ad X.1 105)), (1, .int v1)]) O dX8_again_49 2 rfl (by rw [ex7]; rfl) (by decide) rfl ?_
      refine k_goto O 26 dX8_again_52 (by decide) ?_
      exact k_sub [1, 2, 0] rfl (ih h)
set_option maxHeartbeats 4000000 in
set_option maxRecDepth 100000 in
theorem w_X8_again_0 {X : Cx} {rz : Int32} {wz : Wd} (O : Ok X cX8_again RX8 ((some .int)) wsX8_again (1) (25) 3) (hN : 121 ≤ g_N X.1) (ho : Ro X (some (.int rz), wz)) {w : Wd} {v1 : Int32} (h : b_X8_again_0 w v1 = some (rz, wz)) : Wk X w 0 [(0, .ref (g_ad X.1 105)), (1, .int v1)] [] := by
  unfold b_X8_again_0 at h
  refine k_iload_n O dX8_again_0 1 rfl ?_
  refine k_i2l O dX8_again_1 ?_
  refine k_lconst O dX8_again_2 (v := 0) (by decide) ?_
  refine k_lconst O dX8_again_3 (v := 1) (by decide) ?_
  obtain ⟨r3, w2, hc1, h⟩ := bd_some h
  refine k_callSi O (As := [.long ((v1).toInt64), .long ((0 : Int64)), .long ((1 : Int64))]) (rest := []) (c_X8_in (x_l X) X.1 hc1) gX8_again_X8_in rfl hd_X8_in (by decide) rfl rfl (Nat.le_of_ble_eq_true rfl) dX8_again_4 ?_
  refine k_if_ne O 12 dX8_again_7 (by decide) (fun c4 => ?_) (fun c4 => ?_)
  · have h := ite_f c4 h
    refine k_aload_n O dX8_again_12 0 rfl ?_
    refine k_get O (v := .ref (g_ad X.1 119)) (k := 105) (by omega) E_105 rfl 26 (by decide) (fun _ h9 => List.mem_cons_of_mem _ (List.mem_append_right _ h9)) (List.mem_of_getElem? (i := 1) rfl) rfl dX8_again_13 ?_
    refine k_iload_n O dX8_again_16 1 rfl ?_
    obtain ⟨g5, h⟩ := gd_some h
    refine k_zald O (k := 119) (by omega) E_119 g5 dX8_again_17 ?_
    refine k_if_ne O 24 dX8_again_18 (by decide) (fun c6 => ?_) (fun c6 => ?_)
    · have h := ite_f c6 h
      refine k_iconst O dX8_again_24 (v := 0) (by decide) ?_
      refine k_istore_n (lv' := [(2, .int ((0 : Int32))), (0, .ref (g_ad X.1 105)), (1, .int v1)]) O dX8_again_25 rfl (by decide) rfl ?_
      exact k_sub [1, 2, 0] rfl (w_X8_again_26 O hN ho LF h)
    · have h := ite_t c6 h
      refine k_bipush O dX8_again_21 (v := -3) (by decide) ?_
      exact k_iret O dX8_again_23 (rt_int h ho)
  · have h := ite_t c4 h
    refine k_iconst O dX8_again_10 (v := -1) (by decide) ?_
    exact k_iret O dX8_again_11 (rt_int h ho)
theorem c_X8_again (l : Launch) (G : Gl) (hN : 121 ≤ g_N G) {w wz : Wd} {v1 : Int32} {rz : Int32} (h : f_X8_again w v1 = some (rz, wz)) : Ct l yX8_again wsX8_again (1) (25) G [.ref (g_ad G 105), .int v1] w (some (.int rz), wz) := by
  refine Ct.start (by decide) rfl rfl rfl (Nat.le_of_ble_eq_true rfl) (fun X hG ho hl O => ?_)
  subst hG
  subst hl
  exact k_sub [0, 1] rfl (w_X8_again_0 O hN ho h)
def b_X8_count_34 (kb4 : Wd → Int32 → Int32 → Int32 → Option (Int32 × Wd)) (w : Wd) (v1 : Int32) (v3 : Int32) (s0 : Int32) (s1 : Int32) : Option (Int32 × Wd) := nm (s1 ||| s0) (fun x1 => nm (v3 + (1 : Int32)) (fun x2 => kb4 w v1 x1 x2))
def b_X8_count_4 : Nat → Wd → Int32 → Int32 → Int32 → Option (Int32 × Wd)
  | 0, _, _, _, _ => none
  | n + 1, w, v1, v2, v3 => if (w.1 105 11) ≤ v3 then (if v1 = (0 : Int32) then (some (w.1 105 16, w)) else (if v1 = (1 : Int32) then (some (w.1 105 10, w)) else (if v1 = (2 : Int32) then (some (w.1 105 11, w)) else (if v1 = (3 : Int32) then (some (w.1 113 ((0 : Int32)).toNatClampNeg, w)) else (if v1 = (4 : Int32) then (some (v2, w)) else (if v1 = (5 : Int32) then (some (w.1 113 ((2 : Int32)).toNatClampNeg, w)) else (if v1 = (6 : Int32) then (some (w.1 113 ((3 : Int32)).toNatClampNeg, w)) else (if v1 = (7 : Int32) then (some (w.1 105 12, w)) else (if v1 = (8 : Int32) then (some (w.1 105 19, w)) else (if v1 = (9 : Int32) then (if (w.1 105 13) = 0 then (some ((0 : Int32), w)) else (some ((1 : Int32), w))) else (some ((-2 : Int32), w)))))))))))) else (gd (inb (((8 : Int32)) + v3) 72) (if (w.1 113 (((8 : Int32)) + v3).toNatClampNeg) = ((-9 : Int32)) then (b_X8_count_34 (b_X8_count_4 n) w v1 v3 ((0 : Int32)) v2) else (b_X8_count_34 (b_X8_count_4 n) w v1 v3 (((1 : Int32)) <<< (v3 &&& 31)) v2)))
def b_X8_count_0 (w : Wd) (v1 : Int32) : Option (Int32 × Wd) := b_X8_count_4 LF w v1 ((0 : Int32)) ((0 : Int32))
def f_X8_count (w : Wd) (v1 : Int32) : Option (Int32 × Wd) := b_X8_count_0 w v1
set_option maxHeartbeats 4000000 in
set_option maxRecDepth 100000 in
theorem w_X8_count_34 {X : Cx} {rz : Int32} {wz : Wd} (O : Ok X cX8_count RX8 ((some .int)) wsX8_count (0) (0) 4) (hN : 121 ≤ g_N X.1) {kb4 : Wd → Int32 → Int32 → Int32 → Option (Int32 × Wd)} (hk4 : ∀ {w : Wd} {v1 : Int32} {v2 : Int32} {v3 : Int32}, kb4 w v1 v2 v3 = some (rz, wz) → Wk X w 4 [(0, .ref (g_ad X.1 105)), (1, .int v1), (2, .int v2), (3, .int v3)] []) (ho : Ro X (some (.int rz), wz)) {w : Wd} {v1 : Int32} {v3 : Int32} {s0 : Int32} {s1 : Int32} (h : b_X8_count_34 kb4 w v1 v3 s0 s1 = some (rz, wz)) : Wk X w 34 [(0, .ref (g_ad X.1 105)), (1, .int v1), (3, .int v3)] [.int s0, .int s1] := by
  unfold b_X8_count_34 at h
  refine k_ior O dX8_count_34 ?_
  refine k_topi (fun x1 ex1 => ?_)
  have h := nm_use h x1 ex1
  refine k_istore_n (lv' := [(2, .int x1), (0, .ref (g_ad X.1 105)), (1, .int v1), (3, .int v3)]) O dX8_count_35 rfl (by decide) rfl ?_
  obtain ⟨x2, ex2⟩ : ∃ z : Int32, z = v3 + (1 : Int32) := ⟨_, rfl⟩
  have h := nm_use h x2 ex2
  refine k_iinc (lv' := [(3, .int x2), (2, .int x1), (0, .ref (g_ad X.1 105)), (1, .int v1)]) O dX8_count_36 3 rfl (by rw [ex2]; rfl) (by decide) rfl ?_
  refine k_goto O 4 dX8_count_39 (by decide) ?_
  exact k_sub [2, 3, 1, 0] rfl (hk4 h)
set_option maxHeartbeats 4000000 in
set_option maxRecDepth 100000 in
theorem w_X8_count_4 {X : Cx} {rz : Int32} {wz : Wd} (O : Ok X cX8_count RX8 ((some .int)) wsX8_count (0) (0) 4) (hN : 121 ≤ g_N X.1) (ho : Ro X (some (.int rz), wz)) (n : Nat) : ∀ {w : Wd} {v1 : Int32} {v2 : Int32} {v3 : Int32}, b_X8_count_4 n w v1 v2 v3 = some (rz, wz) → Wk X w 4 [(0, .ref (g_ad X.1 105)), (1, .int v1), (2, .int v2), (3, .int v3)] [] := by
  induction n with
  | zero => intro w v1 v2 v3 h; exact nomatch (show (none : Option (Int32 × Wd)) = some _ from h)
  | succ n ih =>
    intro w v1 v2 v3 h
    rw [b_X8_count_4] at h
    refine k_iload_n O dX8_count_4 3 rfl ?_
    refine k_aload_n O dX8_count_5 0 rfl ?_
    refine k_get O (v := .int (w.1 105 11)) (k := 105) (by omega) E_105 rfl 11 (by decide) (fun _ h9 => List.mem_cons_of_mem _ (List.mem_append_right _ h9)) (List.mem_of_getElem? (i := 1) rfl) rfl dX8_count_6 ?_
    refine k_icmp_ge O 42 dX8_count_9 (by decide) (fun c1 => ?_) (fun c1 => ?_)
    · have h := ite_t c1 h
      refine k_iload_n O dX8_count_42 1 rfl ?_
      refine (Decidable.em (v1 = (0 : Int32))).elim (fun c2 => ?_) (fun c2 => ?_)
      · have h := ite_t c2 h
        refine k_tabIn O 96 dX8_count_43 (by rw [c2]; decide) (by rw [c2]; decide) (off := 53) (by rw [c2]; try rfl) (by decide) ?_
        refine k_aload_n O dX8_count_96 0 rfl ?_
        refine k_get O (v := .int (w.1 105 16)) (k := 105) (by omega) E_105 rfl 16 (by decide) (fun _ h9 => List.mem_cons_of_mem _ (List.mem_append_right _ h9)) (List.mem_of_getElem? (i := 3) rfl) rfl dX8_count_97 ?_
        exact k_iret O dX8_count_100 (rt_int h ho)
      · have h := ite_f c2 h
        refine (Decidable.em (v1 = (1 : Int32))).elim (fun c3 => ?_) (fun c3 => ?_)
        · have h := ite_t c3 h
          refine k_tabIn O 101 dX8_count_43 (by rw [c3]; decide) (by rw [c3]; decide) (off := 58) (by rw [c3]; try rfl) (by decide) ?_
          refine k_aload_n O dX8_count_101 0 rfl ?_
          refine k_get O (v := .int (w.1 105 10)) (k := 105) (by omega) E_105 rfl 10 (by decide) (fun _ h9 => List.mem_cons_of_mem _ (List.mem_append_right _ h9)) (List.mem_of_getElem? (i := 4) rfl) rfl dX8_count_102 ?_
          exact k_iret O dX8_count_105 (rt_int h ho)
        · have h := ite_f c3 h
          refine (Decidable.em (v1 = (2 : Int32))).elim (fun c4 => ?_) (fun c4 => ?_)
          · have h := ite_t c4 h
            refine k_tabIn O 106 dX8_count_43 (by rw [c4]; decide) (by rw [c4]; decide) (off := 63) (by rw [c4]; try rfl) (by decide) ?_
            refine k_aload_n O dX8_count_106 0 rfl ?_
            refine k_get O (v := .int (w.1 105 11)) (k := 105) (by omega) E_105 rfl 11 (by decide) (fun _ h9 => List.mem_cons_of_mem _ (List.mem_append_right _ h9)) (List.mem_of_getElem? (i := 1) rfl) rfl dX8_count_107 ?_
            exact k_iret O dX8_count_110 (rt_int h ho)
          · have h := ite_f c4 h
            refine (Decidable.em (v1 = (3 : Int32))).elim (fun c5 => ?_) (fun c5 => ?_)
            · have h := ite_t c5 h
              refine k_tabIn O 111 dX8_count_43 (by rw [c5]; decide) (by rw [c5]; decide) (off := 68) (by rw [c5]; try rfl) (by decide) ?_
              refine k_aload_n O dX8_count_111 0 rfl ?_
              refine k_get O (v := .ref (g_ad X.1 113)) (k := 105) (by omega) E_105 rfl 14 (by decide) (fun _ h9 => List.mem_cons_of_mem _ (List.mem_append_right _ h9)) (List.mem_of_getElem? (i := 2) rfl) rfl dX8_count_112 ?_
              refine k_iconst O dX8_count_115 (v := 0) (by decide) ?_
              refine k_iald O (k := 113) (by omega) E_113 (by decide) dX8_count_116 ?_
              exact k_iret O dX8_count_117 (rt_int h ho)
            · have h := ite_f c5 h
              refine (Decidable.em (v1 = (4 : Int32))).elim (fun c6 => ?_) (fun c6 => ?_)
              · have h := ite_t c6 h
                refine k_tabIn O 118 dX8_count_43 (by rw [c6]; decide) (by rw [c6]; decide) (off := 75) (by rw [c6]; try rfl) (by decide) ?_
                refine k_iload_n O dX8_count_118 2 rfl ?_
                exact k_iret O dX8_count_119 (rt_int h ho)
              · have h := ite_f c6 h
                refine (Decidable.em (v1 = (5 : Int32))).elim (fun c7 => ?_) (fun c7 => ?_)
                · have h := ite_t c7 h
                  refine k_tabIn O 120 dX8_count_43 (by rw [c7]; decide) (by rw [c7]; decide) (off := 77) (by rw [c7]; try rfl) (by decide) ?_
                  refine k_aload_n O dX8_count_120 0 rfl ?_
                  refine k_get O (v := .ref (g_ad X.1 113)) (k := 105) (by omega) E_105 rfl 14 (by decide) (fun _ h9 => List.mem_cons_of_mem _ (List.mem_append_right _ h9)) (List.mem_of_getElem? (i := 2) rfl) rfl dX8_count_121 ?_
                  refine k_iconst O dX8_count_124 (v := 2) (by decide) ?_
                  refine k_iald O (k := 113) (by omega) E_113 (by decide) dX8_count_125 ?_
                  exact k_iret O dX8_count_126 (rt_int h ho)
                · have h := ite_f c7 h
                  refine (Decidable.em (v1 = (6 : Int32))).elim (fun c8 => ?_) (fun c8 => ?_)
                  · have h := ite_t c8 h
                    refine k_tabIn O 127 dX8_count_43 (by rw [c8]; decide) (by rw [c8]; decide) (off := 84) (by rw [c8]; try rfl) (by decide) ?_
                    refine k_aload_n O dX8_count_127 0 rfl ?_
                    refine k_get O (v := .ref (g_ad X.1 113)) (k := 105) (by omega) E_105 rfl 14 (by decide) (fun _ h9 => List.mem_cons_of_mem _ (List.mem_append_right _ h9)) (List.mem_of_getElem? (i := 2) rfl) rfl dX8_count_128 ?_
                    refine k_iconst O dX8_count_131 (v := 3) (by decide) ?_
                    refine k_iald O (k := 113) (by omega) E_113 (by decide) dX8_count_132 ?_
                    exact k_iret O dX8_count_133 (rt_int h ho)
                  · have h := ite_f c8 h
                    refine (Decidable.em (v1 = (7 : Int32))).elim (fun c9 => ?_) (fun c9 => ?_)
                    · have h := ite_t c9 h
                      refine k_tabIn O 134 dX8_count_43 (by rw [c9]; decide) (by rw [c9]; decide) (off := 91) (by rw [c9]; try rfl) (by decide) ?_
                      refine k_aload_n O dX8_count_134 0 rfl ?_
                      refine k_get O (v := .int (w.1 105 12)) (k := 105) (by omega) E_105 rfl 12 (by decide) (fun _ h9 => List.mem_cons_of_mem _ (List.mem_append_right _ h9)) (List.mem_of_getElem? (i := 5) rfl) rfl dX8_count_135 ?_
                      exact k_iret O dX8_count_138 (rt_int h ho)
                    · have h := ite_f c9 h
                      refine (Decidable.em (v1 = (8 : Int32))).elim (fun c10 => ?_) (fun c10 => ?_)
                      · have h := ite_t c10 h
                        refine k_tabIn O 139 dX8_count_43 (by rw [c10]; decide) (by rw [c10]; decide) (off := 96) (by rw [c10]; try rfl) (by decide) ?_
                        refine k_aload_n O dX8_count_139 0 rfl ?_
                        refine k_get O (v := .int (w.1 105 19)) (k := 105) (by omega) E_105 rfl 19 (by decide) (fun _ h9 => List.mem_cons_of_mem _ (List.mem_append_right _ h9)) (List.mem_of_getElem? (i := 6) rfl) rfl dX8_count_140 ?_
                        exact k_iret O dX8_count_143 (rt_int h ho)
                      · have h := ite_f c10 h
                        refine (Decidable.em (v1 = (9 : Int32))).elim (fun c11 => ?_) (fun c11 => ?_)
                        · have h := ite_t c11 h
                          refine k_tabIn O 144 dX8_count_43 (by rw [c11]; decide) (by rw [c11]; decide) (off := 101) (by rw [c11]; try rfl) (by decide) ?_
                          refine k_aload_n O dX8_count_144 0 rfl ?_
                          refine k_get O (v := .int (w.1 105 13)) (k := 105) (by omega) E_105 rfl 13 (by decide) (fun _ h9 => List.mem_cons_of_mem _ (List.mem_append_right _ h9)) (List.mem_of_getElem? (i := 7) rfl) rfl dX8_count_145 ?_
                          refine k_if_eq O 155 dX8_count_148 (by decide) (fun c12 => ?_) (fun c12 => ?_)
                          · have h := ite_t c12 h
                            refine k_iconst O dX8_count_155 (v := 0) (by decide) ?_
                            exact k_iret O dX8_count_156 (rt_int h ho)
                          · have h := ite_f c12 h
                            refine k_iconst O dX8_count_151 (v := 1) (by decide) ?_
                            refine k_goto O 156 dX8_count_152 (by decide) ?_
                            exact k_iret O dX8_count_156 (rt_int h ho)
                        · have h := ite_f c11 h
                          refine k_tabOut O 157 dX8_count_43 (by have nc2 := lv_neT c2 (a := 0) (by decide); have nc3 := lv_neT c3 (a := 1) (by decide); have nc4 := lv_neT c4 (a := 2) (by decide); have nc5 := lv_neT c5 (a := 3) (by decide); have nc6 := lv_neT c6 (a := 4) (by decide); have nc7 := lv_neT c7 (a := 5) (by decide); have nc8 := lv_neT c8 (a := 6) (by decide); have nc9 := lv_neT c9 (a := 7) (by decide); have nc10 := lv_neT c10 (a := 8) (by decide); have nc11 := lv_neT c11 (a := 9) (by decide); omega) (by decide) ?_
                          refine k_bipush O dX8_count_157 (v := -2) (by decide) ?_
                          exact k_iret O dX8_count_159 (rt_int h ho)
    · have h := ite_f c1 h
      refine k_iload_n O dX8_count_12 2 rfl ?_
      refine k_aload_n O dX8_count_13 0 rfl ?_
      refine k_get O (v := .ref (g_ad X.1 113)) (k := 105) (by omega) E_105 rfl 14 (by decide) (fun _ h9 => List.mem_cons_of_mem _ (List.mem_append_right _ h9)) (List.mem_of_getElem? (i := 2) rfl) rfl dX8_count_14 ?_
      refine k_bipush O dX8_count_17 (v := 8) (by decide) ?_
      refine k_iload_n O dX8_count_19 3 rfl ?_
      refine k_iadd O dX8_count_20 ?_
      obtain ⟨g13, h⟩ := gd_some h
      refine k_iald O (k := 113) (by omega) E_113 g13 dX8_count_21 ?_
      refine k_bipush O dX8_count_22 (v := -9) (by decide) ?_
      refine k_icmp_eq O 33 dX8_count_24 (by decide) (fun c14 => ?_) (fun c14 => ?_)
      · have h := ite_t c14 h
        refine k_iconst O dX8_count_33 (v := 0) (by decide) ?_
        exact k_sub [0, 1, 3] rfl (w_X8_count_34 O hN (fun {_} {_} {_} {_} h9 => ih h9) ho h)
      · have h := ite_f c14 h
        refine k_iconst O dX8_count_27 (v := 1) (by decide) ?_
        refine k_iload_n O dX8_count_28 3 rfl ?_
        refine k_ishl O dX8_count_29 ?_
        refine k_goto O 34 dX8_count_30 (by decide) ?_
        exact k_sub [0, 1, 3] rfl (w_X8_count_34 O hN (fun {_} {_} {_} {_} h9 => ih h9) ho h)
set_option maxHeartbeats 4000000 in
set_option maxRecDepth 100000 in
theorem w_X8_count_0 {X : Cx} {rz : Int32} {wz : Wd} (O : Ok X cX8_count RX8 ((some .int)) wsX8_count (0) (0) 4) (hN : 121 ≤ g_N X.1) (ho : Ro X (some (.int rz), wz)) {w : Wd} {v1 : Int32} (h : b_X8_count_0 w v1 = some (rz, wz)) : Wk X w 0 [(0, .ref (g_ad X.1 105)), (1, .int v1)] [] := by
  unfold b_X8_count_0 at h
  refine k_iconst O dX8_count_0 (v := 0) (by decide) ?_
  refine k_istore_n (lv' := [(2, .int ((0 : Int32))), (0, .ref (g_ad X.1 105)), (1, .int v1)]) O dX8_count_1 rfl (by decide) rfl ?_
  refine k_iconst O dX8_count_2 (v := 0) (by decide) ?_
  refine k_istore_n (lv' := [(3, .int ((0 : Int32))), (2, .int ((0 : Int32))), (0, .ref (g_ad X.1 105)), (1, .int v1)]) O dX8_count_3 rfl (by decide) rfl ?_
  exact k_sub [2, 3, 1, 0] rfl (w_X8_count_4 O hN ho LF h)
theorem c_X8_count (l : Launch) (G : Gl) (hN : 121 ≤ g_N G) {w wz : Wd} {v1 : Int32} {rz : Int32} (h : f_X8_count w v1 = some (rz, wz)) : Ct l yX8_count wsX8_count (0) (0) G [.ref (g_ad G 105), .int v1] w (some (.int rz), wz) := by
  refine Ct.start (by decide) rfl rfl rfl (Nat.le_of_ble_eq_true rfl) (fun X hG ho hl O => ?_)
  subst hG
  subst hl
  exact k_sub [0, 1] rfl (w_X8_count_0 O hN ho h)
