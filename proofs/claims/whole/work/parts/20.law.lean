def b_L_law_920 (kb18 : Wd → Int32 → Option (Wd)) (xs : Nat → Int32) (L : Nat) (w : Wd) (v3 : Int32) : Option Wd := nm (v3 + (4 : Int32)) (fun x1 => kb18 w x1)
def b_L_law_733 (kb18 : Wd → Int32 → Option (Wd)) (xs : Nat → Int32) (L : Nat) (w : Wd) (v3 : Int32) (s0 : Int32) (s1 : Int32) (s2 : Int32) (s4 : Int32) : Option Wd := bd (f_X8_strays w s2 s1 s0) (fun r3 w2 => if s4 = r3 then (b_L_law_920 kb18 xs L w2 v3) else (none))
def b_L_law_706 (kb18 : Wd → Int32 → Option (Wd)) (xs : Nat → Int32) (L : Nat) (w : Wd) (v3 : Int32) (s0 : Int32) (s1 : Int32) (s2 : Int32) : Option Wd := bd (f_X7_strays w s2 s1 s0) (fun r3 w2 => gd (inb (v3 + ((1 : Int32))) L) (gd (inb (v3 + ((2 : Int32))) L) (gd (inb (v3 + ((3 : Int32))) L) (if (xs (v3 + ((3 : Int32))).toNatClampNeg) = 0 then (b_L_law_733 kb18 xs L w2 v3 ((0 : Int32)) (xs (v3 + ((2 : Int32))).toNatClampNeg) (xs (v3 + ((1 : Int32))).toNatClampNeg) r3) else (b_L_law_733 kb18 xs L w2 v3 ((1 : Int32)) (xs (v3 + ((2 : Int32))).toNatClampNeg) (xs (v3 + ((1 : Int32))).toNatClampNeg) r3)))))
def b_L_law_378 (kb18 : Wd → Int32 → Option (Wd)) (xs : Nat → Int32) (L : Nat) (w : Wd) (v3 : Int32) (s0 : Int32) (s2 : Int32) : Option Wd := bd (f_X8_frost w s0) (fun r3 w2 => if s2 = r3 then (b_L_law_920 kb18 xs L w2 v3) else (none))
def b_L_law_361 (kb18 : Wd → Int32 → Option (Wd)) (xs : Nat → Int32) (L : Nat) (w : Wd) (v3 : Int32) (s0 : Int32) : Option Wd := bd (f_X7_frost w s0) (fun r3 w2 => gd (inb (v3 + ((1 : Int32))) L) (if (xs (v3 + ((1 : Int32))).toNatClampNeg) = 0 then (b_L_law_378 kb18 xs L w2 v3 ((0 : Int32)) r3) else (b_L_law_378 kb18 xs L w2 v3 ((1 : Int32)) r3)))
def b_L_law_18 (xs : Nat → Int32) (L : Nat) : Nat → Wd → Int32 → Option Wd
  | 0, _, _ => none
  | n + 1, w, v3 => if ((Int32.ofNat L) - ((4 : Int32))) < v3 then (some w) else (gd (inb v3 L) (if ((xs v3.toNatClampNeg) &&& ((31 : Int32))) = (0 : Int32) then (gd (inb (v3 + ((1 : Int32))) L) (gd (inb (v3 + ((2 : Int32))) L) (gd (inb (v3 + ((3 : Int32))) L) (bd (f_X7_write w (xs (v3 + ((1 : Int32))).toNatClampNeg) (((((xs (v3 + ((2 : Int32))).toNatClampNeg)).toInt64) <<< ((((32 : Int32))).toInt64 &&& 63)) ||| ((((xs (v3 + ((3 : Int32))).toNatClampNeg)).toInt64) &&& ((4294967295 : Int64))))) (fun r9 w8 => gd (inb (v3 + ((1 : Int32))) L) (gd (inb (v3 + ((2 : Int32))) L) (gd (inb (v3 + ((3 : Int32))) L) (bd (f_X8_write w8 (xs (v3 + ((1 : Int32))).toNatClampNeg) (((((xs (v3 + ((2 : Int32))).toNatClampNeg)).toInt64) <<< ((((32 : Int32))).toInt64 &&& 63)) ||| ((((xs (v3 + ((3 : Int32))).toNatClampNeg)).toInt64) &&& ((4294967295 : Int64))))) (fun r15 w14 => if r9 = r15 then (b_L_law_920 (b_L_law_18 xs L n) xs L w14 v3) else (none)))))))))) else (if ((xs v3.toNatClampNeg) &&& ((31 : Int32))) = (1 : Int32) then (bd (f_X7_wipe w) (fun r20 w19 => bd (f_X8_wipe w19) (fun r23 w22 => if r20 = r23 then (b_L_law_920 (b_L_law_18 xs L n) xs L w22 v3) else (none)))) else (if ((xs v3.toNatClampNeg) &&& ((31 : Int32))) = (2 : Int32) then (bd (f_X7_fault w) (fun r28 w27 => bd (f_X8_fault w27) (fun r31 w30 => if r28 = r31 then (b_L_law_920 (b_L_law_18 xs L n) xs L w30 v3) else (none)))) else (if ((xs v3.toNatClampNeg) &&& ((31 : Int32))) = (3 : Int32) then (bd (f_X7_wood w) (fun r36 w35 => bd (f_X8_wood w35) (fun r39 w38 => if r36 = r39 then (b_L_law_920 (b_L_law_18 xs L n) xs L w38 v3) else (none)))) else (if ((xs v3.toNatClampNeg) &&& ((31 : Int32))) = (4 : Int32) then (gd (inb (v3 + ((1 : Int32))) L) (gd (inb (v3 + ((2 : Int32))) L) (bd (f_X7_trap w (xs (v3 + ((1 : Int32))).toNatClampNeg) (xs (v3 + ((2 : Int32))).toNatClampNeg)) (fun r46 w45 => gd (inb (v3 + ((1 : Int32))) L) (gd (inb (v3 + ((2 : Int32))) L) (bd (f_X8_trap w45 (xs (v3 + ((1 : Int32))).toNatClampNeg) (xs (v3 + ((2 : Int32))).toNatClampNeg)) (fun r51 w50 => if r46 = r51 then (b_L_law_920 (b_L_law_18 xs L n) xs L w50 v3) else (none)))))))) else (if ((xs v3.toNatClampNeg) &&& ((31 : Int32))) = (5 : Int32) then (gd (inb (v3 + ((1 : Int32))) L) (gd (inb (v3 + ((2 : Int32))) L) (bd (f_X7_walker w (xs (v3 + ((1 : Int32))).toNatClampNeg) (xs (v3 + ((2 : Int32))).toNatClampNeg)) (fun r58 w57 => gd (inb (v3 + ((1 : Int32))) L) (gd (inb (v3 + ((2 : Int32))) L) (bd (f_X8_walker w57 (xs (v3 + ((1 : Int32))).toNatClampNeg) (xs (v3 + ((2 : Int32))).toNatClampNeg)) (fun r63 w62 => if r58 = r63 then (b_L_law_920 (b_L_law_18 xs L n) xs L w62 v3) else (none)))))))) else (if ((xs v3.toNatClampNeg) &&& ((31 : Int32))) = (6 : Int32) then (gd (inb (v3 + ((1 : Int32))) L) (bd (f_X7_near w (xs (v3 + ((1 : Int32))).toNatClampNeg)) (fun r69 w68 => gd (inb (v3 + ((1 : Int32))) L) (bd (f_X8_near w68 (xs (v3 + ((1 : Int32))).toNatClampNeg)) (fun r73 w72 => if r69 = r73 then (b_L_law_920 (b_L_law_18 xs L n) xs L w72 v3) else (none)))))) else (if ((xs v3.toNatClampNeg) &&& ((31 : Int32))) = (7 : Int32) then (gd (inb (v3 + ((1 : Int32))) L) (if (xs (v3 + ((1 : Int32))).toNatClampNeg) = 0 then (b_L_law_361 (b_L_law_18 xs L n) xs L w v3 ((0 : Int32))) else (b_L_law_361 (b_L_law_18 xs L n) xs L w v3 ((1 : Int32))))) else (if ((xs v3.toNatClampNeg) &&& ((31 : Int32))) = (8 : Int32) then (gd (inb (v3 + ((1 : Int32))) L) (gd (inb (v3 + ((2 : Int32))) L) (bd (f_X7_step w (xs (v3 + ((1 : Int32))).toNatClampNeg) (xs (v3 + ((2 : Int32))).toNatClampNeg)) (fun r83 w82 => gd (inb (v3 + ((1 : Int32))) L) (gd (inb (v3 + ((2 : Int32))) L) (bd (f_X8_step w82 (xs (v3 + ((1 : Int32))).toNatClampNeg) (xs (v3 + ((2 : Int32))).toNatClampNeg)) (fun r88 w87 => if r83 = r88 then (b_L_law_920 (b_L_law_18 xs L n) xs L w87 v3) else (none)))))))) else (if ((xs v3.toNatClampNeg) &&& ((31 : Int32))) = (9 : Int32) then (gd (inb (v3 + ((1 : Int32))) L) (bd (f_X7_arm w (xs (v3 + ((1 : Int32))).toNatClampNeg)) (fun r94 w93 => gd (inb (v3 + ((1 : Int32))) L) (bd (f_X8_arm w93 (xs (v3 + ((1 : Int32))).toNatClampNeg)) (fun r98 w97 => if r94 = r98 then (b_L_law_920 (b_L_law_18 xs L n) xs L w97 v3) else (none)))))) else (if ((xs v3.toNatClampNeg) &&& ((31 : Int32))) = (10 : Int32) then (gd (inb (v3 + ((1 : Int32))) L) (gd (inb (v3 + ((2 : Int32))) L) (bd (f_X7_look w (xs (v3 + ((1 : Int32))).toNatClampNeg) (xs (v3 + ((2 : Int32))).toNatClampNeg)) (fun r105 w104 => gd (inb (v3 + ((1 : Int32))) L) (gd (inb (v3 + ((2 : Int32))) L) (bd (f_X8_look w104 (xs (v3 + ((1 : Int32))).toNatClampNeg) (xs (v3 + ((2 : Int32))).toNatClampNeg)) (fun r110 w109 => if r105 = r110 then (b_L_law_920 (b_L_law_18 xs L n) xs L w109 v3) else (none)))))))) else (if ((xs v3.toNatClampNeg) &&& ((31 : Int32))) = (11 : Int32) then (gd (inb (v3 + ((1 : Int32))) L) (bd (f_X7_free w (xs (v3 + ((1 : Int32))).toNatClampNeg)) (fun r116 w115 => gd (inb (v3 + ((1 : Int32))) L) (bd (f_X8_free w115 (xs (v3 + ((1 : Int32))).toNatClampNeg)) (fun r120 w119 => if r116 = r120 then (b_L_law_920 (b_L_law_18 xs L n) xs L w119 v3) else (none)))))) else (if ((xs v3.toNatClampNeg) &&& ((31 : Int32))) = (12 : Int32) then (bd (f_X7_undo w) (fun r125 w124 => bd (f_X8_undo w124) (fun r128 w127 => if r125 = r128 then (b_L_law_920 (b_L_law_18 xs L n) xs L w127 v3) else (none)))) else (if ((xs v3.toNatClampNeg) &&& ((31 : Int32))) = (13 : Int32) then (gd (inb (v3 + ((1 : Int32))) L) (bd (f_X7_sprung w (xs (v3 + ((1 : Int32))).toNatClampNeg)) (fun r134 w133 => gd (inb (v3 + ((1 : Int32))) L) (bd (f_X8_sprung w133 (xs (v3 + ((1 : Int32))).toNatClampNeg)) (fun r138 w137 => if r134 = r138 then (b_L_law_920 (b_L_law_18 xs L n) xs L w137 v3) else (none)))))) else (if ((xs v3.toNatClampNeg) &&& ((31 : Int32))) = (14 : Int32) then (bd (f_X7_rings w) (fun r143 w142 => bd (f_X8_rings w142) (fun r146 w145 => if r143 = r146 then (b_L_law_920 (b_L_law_18 xs L n) xs L w145 v3) else (none)))) else (if ((xs v3.toNatClampNeg) &&& ((31 : Int32))) = (15 : Int32) then (bd (f_X7_all w) (fun r151 w150 => bd (f_X8_all w150) (fun r154 w153 => if r151 = r154 then (b_L_law_920 (b_L_law_18 xs L n) xs L w153 v3) else (none)))) else (if ((xs v3.toNatClampNeg) &&& ((31 : Int32))) = (16 : Int32) then (gd (inb (v3 + ((1 : Int32))) L) (bd (f_X7_first w (xs (v3 + ((1 : Int32))).toNatClampNeg)) (fun r160 w159 => gd (inb (v3 + ((1 : Int32))) L) (bd (f_X8_first w159 (xs (v3 + ((1 : Int32))).toNatClampNeg)) (fun r164 w163 => if r160 = r164 then (b_L_law_920 (b_L_law_18 xs L n) xs L w163 v3) else (none)))))) else (if ((xs v3.toNatClampNeg) &&& ((31 : Int32))) = (17 : Int32) then (gd (inb (v3 + ((1 : Int32))) L) (gd (inb (v3 + ((2 : Int32))) L) (bd (f_X7_safe w (xs (v3 + ((1 : Int32))).toNatClampNeg) (xs (v3 + ((2 : Int32))).toNatClampNeg)) (fun r171 w170 => gd (inb (v3 + ((1 : Int32))) L) (gd (inb (v3 + ((2 : Int32))) L) (bd (f_X8_safe w170 (xs (v3 + ((1 : Int32))).toNatClampNeg) (xs (v3 + ((2 : Int32))).toNatClampNeg)) (fun r176 w175 => if r171 = r176 then (b_L_law_920 (b_L_law_18 xs L n) xs L w175 v3) else (none)))))))) else (if ((xs v3.toNatClampNeg) &&& ((31 : Int32))) = (18 : Int32) then (gd (inb (v3 + ((1 : Int32))) L) (gd (inb (v3 + ((2 : Int32))) L) (gd (inb (v3 + ((3 : Int32))) L) (bd (f_X7_safeAt w (xs (v3 + ((1 : Int32))).toNatClampNeg) (xs (v3 + ((2 : Int32))).toNatClampNeg) (xs (v3 + ((3 : Int32))).toNatClampNeg)) (fun r184 w183 => gd (inb (v3 + ((1 : Int32))) L) (gd (inb (v3 + ((2 : Int32))) L) (gd (inb (v3 + ((3 : Int32))) L) (bd (f_X8_safeAt w183 (xs (v3 + ((1 : Int32))).toNatClampNeg) (xs (v3 + ((2 : Int32))).toNatClampNeg) (xs (v3 + ((3 : Int32))).toNatClampNeg)) (fun r190 w189 => if r184 = r190 then (b_L_law_920 (b_L_law_18 xs L n) xs L w189 v3) else (none)))))))))) else (if ((xs v3.toNatClampNeg) &&& ((31 : Int32))) = (19 : Int32) then (gd (inb (v3 + ((1 : Int32))) L) (bd (f_X7_toLook w (xs (v3 + ((1 : Int32))).toNatClampNeg)) (fun r196 w195 => gd (inb (v3 + ((1 : Int32))) L) (bd (f_X8_toLook w195 (xs (v3 + ((1 : Int32))).toNatClampNeg)) (fun r200 w199 => if r196 = r200 then (b_L_law_920 (b_L_law_18 xs L n) xs L w199 v3) else (none)))))) else (if ((xs v3.toNatClampNeg) &&& ((31 : Int32))) = (20 : Int32) then (gd (inb (v3 + ((1 : Int32))) L) (gd (inb (v3 + ((2 : Int32))) L) (gd (inb (v3 + ((3 : Int32))) L) (if (xs (v3 + ((3 : Int32))).toNatClampNeg) = 0 then (b_L_law_706 (b_L_law_18 xs L n) xs L w v3 ((0 : Int32)) (xs (v3 + ((2 : Int32))).toNatClampNeg) (xs (v3 + ((1 : Int32))).toNatClampNeg)) else (b_L_law_706 (b_L_law_18 xs L n) xs L w v3 ((1 : Int32)) (xs (v3 + ((2 : Int32))).toNatClampNeg) (xs (v3 + ((1 : Int32))).toNatClampNeg)))))) else (if ((xs v3.toNatClampNeg) &&& ((31 : Int32))) = (21 : Int32) then (gd (inb (v3 + ((1 : Int32))) L) (gd (inb (v3 + ((2 : Int32))) L) (bd (f_X7_oneMore w (xs (v3 + ((1 : Int32))).toNatClampNeg) (xs (v3 + ((2 : Int32))).toNatClampNeg)) (fun r212 w211 => gd (inb (v3 + ((1 : Int32))) L) (gd (inb (v3 + ((2 : Int32))) L) (bd (f_X8_oneMore w211 (xs (v3 + ((1 : Int32))).toNatClampNeg) (xs (v3 + ((2 : Int32))).toNatClampNeg)) (fun r217 w216 => if r212 = r217 then (b_L_law_920 (b_L_law_18 xs L n) xs L w216 v3) else (none)))))))) else (if ((xs v3.toNatClampNeg) &&& ((31 : Int32))) = (22 : Int32) then (gd (inb (v3 + ((1 : Int32))) L) (gd (inb (v3 + ((2 : Int32))) L) (bd (f_X7_seed w (((((xs (v3 + ((1 : Int32))).toNatClampNeg)).toInt64) <<< ((((32 : Int32))).toInt64 &&& 63)) ||| ((((xs (v3 + ((2 : Int32))).toNatClampNeg)).toInt64) &&& ((4294967295 : Int64))))) (fun r224 w223 => gd (inb (v3 + ((1 : Int32))) L) (gd (inb (v3 + ((2 : Int32))) L) (bd (f_X8_seed w223 (((((xs (v3 + ((1 : Int32))).toNatClampNeg)).toInt64) <<< ((((32 : Int32))).toInt64 &&& 63)) ||| ((((xs (v3 + ((2 : Int32))).toNatClampNeg)).toInt64) &&& ((4294967295 : Int64))))) (fun r229 w228 => if (lg_cmp r224 r229) = 0 then (b_L_law_920 (b_L_law_18 xs L n) xs L w228 v3) else (none)))))))) else (if ((xs v3.toNatClampNeg) &&& ((31 : Int32))) = (23 : Int32) then (gd (inb (v3 + ((1 : Int32))) L) (bd (f_X7_night w (xs (v3 + ((1 : Int32))).toNatClampNeg)) (fun r235 w234 => gd (inb (v3 + ((1 : Int32))) L) (bd (f_X8_night w234 (xs (v3 + ((1 : Int32))).toNatClampNeg)) (fun r239 w238 => if r235 = r239 then (b_L_law_920 (b_L_law_18 xs L n) xs L w238 v3) else (none)))))) else (if ((xs v3.toNatClampNeg) &&& ((31 : Int32))) = (24 : Int32) then (gd (inb (v3 + ((1 : Int32))) L) (bd (f_X7_keep w (xs (v3 + ((1 : Int32))).toNatClampNeg)) (fun r245 w244 => gd (inb (v3 + ((1 : Int32))) L) (bd (f_X8_keep w244 (xs (v3 + ((1 : Int32))).toNatClampNeg)) (fun r249 w248 => if r245 = r249 then (b_L_law_920 (b_L_law_18 xs L n) xs L w248 v3) else (none)))))) else (if ((xs v3.toNatClampNeg) &&& ((31 : Int32))) = (25 : Int32) then (gd (inb (v3 + ((1 : Int32))) L) (bd (f_X7_again w (xs (v3 + ((1 : Int32))).toNatClampNeg)) (fun r255 w254 => gd (inb (v3 + ((1 : Int32))) L) (bd (f_X8_again w254 (xs (v3 + ((1 : Int32))).toNatClampNeg)) (fun r259 w258 => if r255 = r259 then (b_L_law_920 (b_L_law_18 xs L n) xs L w258 v3) else (none)))))) else (if ((xs v3.toNatClampNeg) &&& ((31 : Int32))) = (26 : Int32) then (gd (inb (v3 + ((1 : Int32))) L) (bd (f_X7_count w (xs (v3 + ((1 : Int32))).toNatClampNeg)) (fun r265 w264 => gd (inb (v3 + ((1 : Int32))) L) (bd (f_X8_count w264 (xs (v3 + ((1 : Int32))).toNatClampNeg)) (fun r269 w268 => if r265 = r269 then (b_L_law_920 (b_L_law_18 xs L n) xs L w268 v3) else (none)))))) else (b_L_law_920 (b_L_law_18 xs L n) xs L w v3)))))))))))))))))))))))))))))
set_option maxHeartbeats 4000000 in
set_option maxRecDepth 100000 in
theorem w_L_law_920 {X : Cx} {wz : Wd} (O : Ok X cL_law RL ret wsL_law 1000 20000 4) {bs L : Nat} {xs : Nat → Int32} (hLx : Lx X bs L xs) (hLr : Lr X bs) (hN : 121 ≤ g_N X.1) (hz : g_mz X.1 = none) {kb18 : Wd → Int32 → Option (Wd)} (hk18 : ∀ {w : Wd} {v3 : Int32}, kb18 w v3 = some wz → Wk X w 18 [(0, .ref bs), (1, .ref (g_ad X.1 0)), (2, .ref (g_ad X.1 105)), (3, .int v3)] []) (ho : True) {w : Wd} {v3 : Int32} (h : b_L_law_920 kb18 xs L w v3 = some wz) : Wk X w 920 [(0, .ref bs), (1, .ref (g_ad X.1 0)), (2, .ref (g_ad X.1 105)), (3, .int v3)] [] := by
  unfold b_L_law_920 at h
  obtain ⟨x1, ex1⟩ : ∃ z : Int32, z = v3 + (4 : Int32) := ⟨_, rfl⟩
  have h := nm_use h x1 ex1
  refine k_iinc (lv' := [(3, .int x1), (0, .ref bs), (1, .ref (g_ad X.1 0)), (2, .ref (g_ad X.1 105))]) O dL_law_920 3 rfl (by rw [ex1]; rfl) (by decide) rfl ?_
  refine k_goto O 18 dL_law_923 (by decide) ?_
  exact k_sub [1, 2, 3, 0] rfl (hk18 h)
set_option maxHeartbeats 4000000 in
set_option maxRecDepth 100000 in
theorem w_L_law_733 {X : Cx} {wz : Wd} (O : Ok X cL_law RL ret wsL_law 1000 20000 4) {bs L : Nat} {xs : Nat → Int32} (hLx : Lx X bs L xs) (hLr : Lr X bs) (hN : 121 ≤ g_N X.1) (hz : g_mz X.1 = none) {kb18 : Wd → Int32 → Option (Wd)} (hk18 : ∀ {w : Wd} {v3 : Int32}, kb18 w v3 = some wz → Wk X w 18 [(0, .ref bs), (1, .ref (g_ad X.1 0)), (2, .ref (g_ad X.1 105)), (3, .int v3)] []) (ho : True) {w : Wd} {v3 : Int32} {s0 : Int32} {s1 : Int32} {s2 : Int32} {s4 : Int32} (h : b_L_law_733 kb18 xs L w v3 s0 s1 s2 s4 = some wz) : Wk X w 733 [(0, .ref bs), (1, .ref (g_ad X.1 0)), (2, .ref (g_ad X.1 105)), (3, .int v3)] [.int s0, .int s1, .int s2, .ref (g_ad X.1 105), .int s4] := by
  unfold b_L_law_733 at h
  obtain ⟨r3, w2, hc1, h⟩ := bd_some h
  refine k_callVi O (As := [.int s2, .int s1, .int s0]) (rest := [.int s4]) (k := 105) (c_X8_strays (x_l X) X.1 hN hc1) gL_law_X8_strays rfl hd_X8_strays (by decide) (by omega) E_105 rfl rfl rfl rfl rfl (Nat.le_of_ble_eq_true rfl) dL_law_733 ?_
  refine k_icmp_eq O 920 dL_law_736 (by decide) (fun c4 => ?_) (fun c4 => ?_)
  · have h := ite_t c4 h
    exact k_sub [0, 1, 2, 3] rfl (w_L_law_920 O hLx hLr hN hz hk18 ho h)
  · have h := ite_f c4 h
    refine k_iconst O dL_law_739 (v := 0) (by decide) ?_
    exact nomatch h
set_option maxHeartbeats 4000000 in
set_option maxRecDepth 100000 in
theorem w_L_law_706 {X : Cx} {wz : Wd} (O : Ok X cL_law RL ret wsL_law 1000 20000 4) {bs L : Nat} {xs : Nat → Int32} (hLx : Lx X bs L xs) (hLr : Lr X bs) (hN : 121 ≤ g_N X.1) (hz : g_mz X.1 = none) {kb18 : Wd → Int32 → Option (Wd)} (hk18 : ∀ {w : Wd} {v3 : Int32}, kb18 w v3 = some wz → Wk X w 18 [(0, .ref bs), (1, .ref (g_ad X.1 0)), (2, .ref (g_ad X.1 105)), (3, .int v3)] []) (ho : True) {w : Wd} {v3 : Int32} {s0 : Int32} {s1 : Int32} {s2 : Int32} (h : b_L_law_706 kb18 xs L w v3 s0 s1 s2 = some wz) : Wk X w 706 [(0, .ref bs), (1, .ref (g_ad X.1 0)), (2, .ref (g_ad X.1 105)), (3, .int v3)] [.int s0, .int s1, .int s2, .ref (g_ad X.1 0)] := by
  unfold b_L_law_706 at h
  obtain ⟨r3, w2, hc1, h⟩ := bd_some h
  refine k_callVi O (As := [.int s2, .int s1, .int s0]) (rest := []) (k := 0) (c_X7_strays (x_l X) X.1 (by omega) hz hc1) gL_law_X7_strays rfl hd_X7_strays (by decide) (by omega) (E_0 hz) rfl rfl rfl rfl rfl (Nat.le_of_ble_eq_true rfl) dL_law_706 ?_
  refine k_aload_n O dL_law_709 2 rfl ?_
  refine k_aload_n O dL_law_710 0 rfl ?_
  refine k_iload_n O dL_law_711 3 rfl ?_
  refine k_iconst O dL_law_712 (v := 1) (by decide) ?_
  refine k_iadd O dL_law_713 ?_
  obtain ⟨g4, h⟩ := gd_some h
  refine k_sld O hLx g4 dL_law_714 ?_
  refine k_aload_n O dL_law_715 0 rfl ?_
  refine k_iload_n O dL_law_716 3 rfl ?_
  refine k_iconst O dL_law_717 (v := 2) (by decide) ?_
  refine k_iadd O dL_law_718 ?_
  obtain ⟨g5, h⟩ := gd_some h
  refine k_sld O hLx g5 dL_law_719 ?_
  refine k_aload_n O dL_law_720 0 rfl ?_
  refine k_iload_n O dL_law_721 3 rfl ?_
  refine k_iconst O dL_law_722 (v := 3) (by decide) ?_
  refine k_iadd O dL_law_723 ?_
  obtain ⟨g6, h⟩ := gd_some h
  refine k_sld O hLx g6 dL_law_724 ?_
  refine k_if_eq O 732 dL_law_725 (by decide) (fun c7 => ?_) (fun c7 => ?_)
  · have h := ite_t c7 h
    refine k_iconst O dL_law_732 (v := 0) (by decide) ?_
    exact k_sub [0, 1, 2, 3] rfl (w_L_law_733 O hLx hLr hN hz hk18 ho h)
  · have h := ite_f c7 h
    refine k_iconst O dL_law_728 (v := 1) (by decide) ?_
    refine k_goto O 733 dL_law_729 (by decide) ?_
    exact k_sub [0, 1, 2, 3] rfl (w_L_law_733 O hLx hLr hN hz hk18 ho h)
set_option maxHeartbeats 4000000 in
set_option maxRecDepth 100000 in
theorem w_L_law_378 {X : Cx} {wz : Wd} (O : Ok X cL_law RL ret wsL_law 1000 20000 4) {bs L : Nat} {xs : Nat → Int32} (hLx : Lx X bs L xs) (hLr : Lr X bs) (hN : 121 ≤ g_N X.1) (hz : g_mz X.1 = none) {kb18 : Wd → Int32 → Option (Wd)} (hk18 : ∀ {w : Wd} {v3 : Int32}, kb18 w v3 = some wz → Wk X w 18 [(0, .ref bs), (1, .ref (g_ad X.1 0)), (2, .ref (g_ad X.1 105)), (3, .int v3)] []) (ho : True) {w : Wd} {v3 : Int32} {s0 : Int32} {s2 : Int32} (h : b_L_law_378 kb18 xs L w v3 s0 s2 = some wz) : Wk X w 378 [(0, .ref bs), (1, .ref (g_ad X.1 0)), (2, .ref (g_ad X.1 105)), (3, .int v3)] [.int s0, .ref (g_ad X.1 105), .int s2] := by
  unfold b_L_law_378 at h
  obtain ⟨r3, w2, hc1, h⟩ := bd_some h
  refine k_callVi O (As := [.int s0]) (rest := [.int s2]) (k := 105) (c_X8_frost (x_l X) X.1 hN hc1) gL_law_X8_frost rfl hd_X8_frost (by decide) (by omega) E_105 rfl rfl rfl rfl rfl (Nat.le_of_ble_eq_true rfl) dL_law_378 ?_
  refine k_icmp_eq O 920 dL_law_381 (by decide) (fun c4 => ?_) (fun c4 => ?_)
  · have h := ite_t c4 h
    exact k_sub [0, 1, 2, 3] rfl (w_L_law_920 O hLx hLr hN hz hk18 ho h)
  · have h := ite_f c4 h
    refine k_iconst O dL_law_384 (v := 0) (by decide) ?_
    exact nomatch h
set_option maxHeartbeats 4000000 in
set_option maxRecDepth 100000 in
theorem w_L_law_361 {X : Cx} {wz : Wd} (O : Ok X cL_law RL ret wsL_law 1000 20000 4) {bs L : Nat} {xs : Nat → Int32} (hLx : Lx X bs L xs) (hLr : Lr X bs) (hN : 121 ≤ g_N X.1) (hz : g_mz X.1 = none) {kb18 : Wd → Int32 → Option (Wd)} (hk18 : ∀ {w : Wd} {v3 : Int32}, kb18 w v3 = some wz → Wk X w 18 [(0, .ref bs), (1, .ref (g_ad X.1 0)), (2, .ref (g_ad X.1 105)), (3, .int v3)] []) (ho : True) {w : Wd} {v3 : Int32} {s0 : Int32} (h : b_L_law_361 kb18 xs L w v3 s0 = some wz) : Wk X w 361 [(0, .ref bs), (1, .ref (g_ad X.1 0)), (2, .ref (g_ad X.1 105)), (3, .int v3)] [.int s0, .ref (g_ad X.1 0)] := by
  unfold b_L_law_361 at h
  obtain ⟨r3, w2, hc1, h⟩ := bd_some h
  refine k_callVi O (As := [.int s0]) (rest := []) (k := 0) (c_X7_frost (x_l X) X.1 (by omega) hz hc1) gL_law_X7_frost rfl hd_X7_frost (by decide) (by omega) (E_0 hz) rfl rfl rfl rfl rfl (Nat.le_of_ble_eq_true rfl) dL_law_361 ?_
  refine k_aload_n O dL_law_364 2 rfl ?_
  refine k_aload_n O dL_law_365 0 rfl ?_
  refine k_iload_n O dL_law_366 3 rfl ?_
  refine k_iconst O dL_law_367 (v := 1) (by decide) ?_
  refine k_iadd O dL_law_368 ?_
  obtain ⟨g4, h⟩ := gd_some h
  refine k_sld O hLx g4 dL_law_369 ?_
  refine k_if_eq O 377 dL_law_370 (by decide) (fun c5 => ?_) (fun c5 => ?_)
  · have h := ite_t c5 h
    refine k_iconst O dL_law_377 (v := 0) (by decide) ?_
    exact k_sub [0, 1, 2, 3] rfl (w_L_law_378 O hLx hLr hN hz hk18 ho h)
  · have h := ite_f c5 h
    refine k_iconst O dL_law_373 (v := 1) (by decide) ?_
    refine k_goto O 378 dL_law_374 (by decide) ?_
    exact k_sub [0, 1, 2, 3] rfl (w_L_law_378 O hLx hLr hN hz hk18 ho h)
set_option maxHeartbeats 4000000 in
set_option maxRecDepth 100000 in
theorem w_L_law_18 {X : Cx} {wz : Wd} (O : Ok X cL_law RL ret wsL_law 1000 20000 4) {bs L : Nat} {xs : Nat → Int32} (hLx : Lx X bs L xs) (hLr : Lr X bs) (hN : 121 ≤ g_N X.1) (hz : g_mz X.1 = none) (ho : True) (n : Nat) : ∀ {w : Wd} {v3 : Int32}, b_L_law_18 xs L n w v3 = some wz → Wk X w 18 [(0, .ref bs), (1, .ref (g_ad X.1 0)), (2, .ref (g_ad X.1 105)), (3, .int v3)] [] := by
  induction n with
  | zero => intro w v3 h; exact nomatch (show (none : Option Wd) = some _ from h)
  | succ n ih =>
    intro w v3 h
    rw [b_L_law_18] at h
    refine k_iload_n O dL_law_18 3 rfl ?_
    refine k_aload_n O dL_law_19 0 rfl ?_
    refine k_slen O hLx dL_law_20 ?_
    refine k_iconst O dL_law_21 (v := 4) (by decide) ?_
    refine k_isub O dL_law_22 ?_
    refine k_icmp_gt O 926 dL_law_23 (by decide) (fun c1 => ?_) (fun c1 => ?_)
    · have h := ite_t c1 h
      refine k_iconst O dL_law_926 (v := 1) (by decide) ?_
      exact k_lawret O hLr dL_law_927
    · have h := ite_f c1 h
      refine k_aload_n O dL_law_26 0 rfl ?_
      refine k_iload_n O dL_law_27 3 rfl ?_
      obtain ⟨g2, h⟩ := gd_some h
      refine k_sld O hLx g2 dL_law_28 ?_
      refine k_bipush O dL_law_29 (v := 31) (by decide) ?_
      refine k_iand O dL_law_31 ?_
      refine (Decidable.em (((xs v3.toNatClampNeg) &&& ((31 : Int32))) = (0 : Int32))).elim (fun c3 => ?_) (fun c3 => ?_)
      · have h := ite_t c3 h
        refine k_tabIn O 156 dL_law_32 (by rw [c3]; decide) (by rw [c3]; decide) (off := 124) (by rw [c3]; try rfl) (by decide) ?_
        refine k_aload_n O dL_law_156 1 rfl ?_
        refine k_aload_n O dL_law_157 0 rfl ?_
        refine k_iload_n O dL_law_158 3 rfl ?_
        refine k_iconst O dL_law_159 (v := 1) (by decide) ?_
        refine k_iadd O dL_law_160 ?_
        obtain ⟨g4, h⟩ := gd_some h
        refine k_sld O hLx g4 dL_law_161 ?_
        refine k_aload_n O dL_law_162 0 rfl ?_
        refine k_iload_n O dL_law_163 3 rfl ?_
        refine k_iconst O dL_law_164 (v := 2) (by decide) ?_
        refine k_iadd O dL_law_165 ?_
        obtain ⟨g5, h⟩ := gd_some h
        refine k_sld O hLx g5 dL_law_166 ?_
        refine k_i2l O dL_law_167 ?_
        refine k_bipush O dL_law_168 (v := 32) (by decide) ?_
        refine k_lshl O dL_law_170 ?_
        refine k_aload_n O dL_law_171 0 rfl ?_
        refine k_iload_n O dL_law_172 3 rfl ?_
        refine k_iconst O dL_law_173 (v := 3) (by decide) ?_
        refine k_iadd O dL_law_174 ?_
        obtain ⟨g6, h⟩ := gd_some h
        refine k_sld O hLx g6 dL_law_175 ?_
        refine k_i2l O dL_law_176 ?_
        refine k_ldc2 O dL_law_177 (List.mem_of_getElem? (i := 6) rfl) ?_
        refine k_land O dL_law_180 ?_
        refine k_lor O dL_law_181 ?_
        obtain ⟨r9, w8, hc7, h⟩ := bd_some h
        refine k_callVi O (As := [.int (xs (v3 + ((1 : Int32))).toNatClampNeg), .long (((((xs (v3 + ((2 : Int32))).toNatClampNeg)).toInt64) <<< ((((32 : Int32))).toInt64 &&& 63)) ||| ((((xs (v3 + ((3 : Int32))).toNatClampNeg)).toInt64) &&& ((4294967295 : Int64))))]) (rest := []) (k := 0) (c_X7_write (x_l X) X.1 (by omega) hz hc7) gL_law_X7_write rfl hd_X7_write (by decide) (by omega) (E_0 hz) rfl rfl rfl rfl rfl (Nat.le_of_ble_eq_true rfl) dL_law_182 ?_
        refine k_aload_n O dL_law_185 2 rfl ?_
        refine k_aload_n O dL_law_186 0 rfl ?_
        refine k_iload_n O dL_law_187 3 rfl ?_
        refine k_iconst O dL_law_188 (v := 1) (by decide) ?_
        refine k_iadd O dL_law_189 ?_
        obtain ⟨g10, h⟩ := gd_some h
        refine k_sld O hLx g10 dL_law_190 ?_
        refine k_aload_n O dL_law_191 0 rfl ?_
        refine k_iload_n O dL_law_192 3 rfl ?_
        refine k_iconst O dL_law_193 (v := 2) (by decide) ?_
        refine k_iadd O dL_law_194 ?_
        obtain ⟨g11, h⟩ := gd_some h
        refine k_sld O hLx g11 dL_law_195 ?_
        refine k_i2l O dL_law_196 ?_
        refine k_bipush O dL_law_197 (v := 32) (by decide) ?_
        refine k_lshl O dL_law_199 ?_
        refine k_aload_n O dL_law_200 0 rfl ?_
        refine k_iload_n O dL_law_201 3 rfl ?_
        refine k_iconst O dL_law_202 (v := 3) (by decide) ?_
        refine k_iadd O dL_law_203 ?_
        obtain ⟨g12, h⟩ := gd_some h
        refine k_sld O hLx g12 dL_law_204 ?_
        refine k_i2l O dL_law_205 ?_
        refine k_ldc2 O dL_law_206 (List.mem_of_getElem? (i := 6) rfl) ?_
        refine k_land O dL_law_209 ?_
        refine k_lor O dL_law_210 ?_
        obtain ⟨r15, w14, hc13, h⟩ := bd_some h
        refine k_callVi O (As := [.int (xs (v3 + ((1 : Int32))).toNatClampNeg), .long (((((xs (v3 + ((2 : Int32))).toNatClampNeg)).toInt64) <<< ((((32 : Int32))).toInt64 &&& 63)) ||| ((((xs (v3 + ((3 : Int32))).toNatClampNeg)).toInt64) &&& ((4294967295 : Int64))))]) (rest := [.int r9]) (k := 105) (c_X8_write (x_l X) X.1 hN hc13) gL_law_X8_write rfl hd_X8_write (by decide) (by omega) E_105 rfl rfl rfl rfl rfl (Nat.le_of_ble_eq_true rfl) dL_law_211 ?_
        refine k_icmp_eq O 920 dL_law_214 (by decide) (fun c16 => ?_) (fun c16 => ?_)
        · have h := ite_t c16 h
          exact k_sub [0, 1, 2, 3] rfl (w_L_law_920 O hLx hLr hN hz (fun {_} {_} h9 => ih h9) ho h)
        · have h := ite_f c16 h
          refine k_iconst O dL_law_217 (v := 0) (by decide) ?_
          exact nomatch h
      · have h := ite_f c3 h
        refine (Decidable.em (((xs v3.toNatClampNeg) &&& ((31 : Int32))) = (1 : Int32))).elim (fun c17 => ?_) (fun c17 => ?_)
        · have h := ite_t c17 h
          refine k_tabIn O 219 dL_law_32 (by rw [c17]; decide) (by rw [c17]; decide) (off := 187) (by rw [c17]; try rfl) (by decide) ?_
          refine k_aload_n O dL_law_219 1 rfl ?_
          obtain ⟨r20, w19, hc18, h⟩ := bd_some h
          refine k_callVi O (As := []) (rest := []) (k := 0) (c_X7_wipe (x_l X) X.1 (by omega) hz hc18) gL_law_X7_wipe rfl hd_X7_wipe (by decide) (by omega) (E_0 hz) rfl rfl rfl rfl rfl (Nat.le_of_ble_eq_true rfl) dL_law_220 ?_
          refine k_aload_n O dL_law_223 2 rfl ?_
          obtain ⟨r23, w22, hc21, h⟩ := bd_some h
          refine k_callVi O (As := []) (rest := [.int r20]) (k := 105) (c_X8_wipe (x_l X) X.1 hN hc21) gL_law_X8_wipe rfl hd_X8_wipe (by decide) (by omega) E_105 rfl rfl rfl rfl rfl (Nat.le_of_ble_eq_true rfl) dL_law_224 ?_
          refine k_icmp_eq O 920 dL_law_227 (by decide) (fun c24 => ?_) (fun c24 => ?_)
          · have h := ite_t c24 h
            exact k_sub [0, 1, 2, 3] rfl (w_L_law_920 O hLx hLr hN hz (fun {_} {_} h9 => ih h9) ho h)
          · have h := ite_f c24 h
            refine k_iconst O dL_law_230 (v := 0) (by decide) ?_
            exact nomatch h
        · have h := ite_f c17 h
          refine (Decidable.em (((xs v3.toNatClampNeg) &&& ((31 : Int32))) = (2 : Int32))).elim (fun c25 => ?_) (fun c25 => ?_)
          · have h := ite_t c25 h
            refine k_tabIn O 232 dL_law_32 (by rw [c25]; decide) (by rw [c25]; decide) (off := 200) (by rw [c25]; try rfl) (by decide) ?_
            refine k_aload_n O dL_law_232 1 rfl ?_
            obtain ⟨r28, w27, hc26, h⟩ := bd_some h
            refine k_callVi O (As := []) (rest := []) (k := 0) (c_X7_fault (x_l X) X.1 (by omega) hz hc26) gL_law_X7_fault rfl hd_X7_fault (by decide) (by omega) (E_0 hz) rfl rfl rfl rfl rfl (Nat.le_of_ble_eq_true rfl) dL_law_233 ?_
            refine k_aload_n O dL_law_236 2 rfl ?_
            obtain ⟨r31, w30, hc29, h⟩ := bd_some h
            refine k_callVi O (As := []) (rest := [.int r28]) (k := 105) (c_X8_fault (x_l X) X.1 hN hc29) gL_law_X8_fault rfl hd_X8_fault (by decide) (by omega) E_105 rfl rfl rfl rfl rfl (Nat.le_of_ble_eq_true rfl) dL_law_237 ?_
            refine k_icmp_eq O 920 dL_law_240 (by decide) (fun c32 => ?_) (fun c32 => ?_)
            · have h := ite_t c32 h
              exact k_sub [0, 1, 2, 3] rfl (w_L_law_920 O hLx hLr hN hz (fun {_} {_} h9 => ih h9) ho h)
            · have h := ite_f c32 h
              refine k_iconst O dL_law_243 (v := 0) (by decide) ?_
              exact nomatch h
          · have h := ite_f c25 h
            refine (Decidable.em (((xs v3.toNatClampNeg) &&& ((31 : Int32))) = (3 : Int32))).elim (fun c33 => ?_) (fun c33 => ?_)
            · have h := ite_t c33 h
              refine k_tabIn O 245 dL_law_32 (by rw [c33]; decide) (by rw [c33]; decide) (off := 213) (by rw [c33]; try rfl) (by decide) ?_
              refine k_aload_n O dL_law_245 1 rfl ?_
              obtain ⟨r36, w35, hc34, h⟩ := bd_some h
              refine k_callVi O (As := []) (rest := []) (k := 0) (c_X7_wood (x_l X) X.1 (by omega) hz hc34) gL_law_X7_wood rfl hd_X7_wood (by decide) (by omega) (E_0 hz) rfl rfl rfl rfl rfl (Nat.le_of_ble_eq_true rfl) dL_law_246 ?_
              refine k_aload_n O dL_law_249 2 rfl ?_
              obtain ⟨r39, w38, hc37, h⟩ := bd_some h
              refine k_callVi O (As := []) (rest := [.int r36]) (k := 105) (c_X8_wood (x_l X) X.1 hN hc37) gL_law_X8_wood rfl hd_X8_wood (by decide) (by omega) E_105 rfl rfl rfl rfl rfl (Nat.le_of_ble_eq_true rfl) dL_law_250 ?_
              refine k_icmp_eq O 920 dL_law_253 (by decide) (fun c40 => ?_) (fun c40 => ?_)
              · have h := ite_t c40 h
                exact k_sub [0, 1, 2, 3] rfl (w_L_law_920 O hLx hLr hN hz (fun {_} {_} h9 => ih h9) ho h)
              · have h := ite_f c40 h
                refine k_iconst O dL_law_256 (v := 0) (by decide) ?_
                exact nomatch h
            · have h := ite_f c33 h
              refine (Decidable.em (((xs v3.toNatClampNeg) &&& ((31 : Int32))) = (4 : Int32))).elim (fun c41 => ?_) (fun c41 => ?_)
              · have h := ite_t c41 h
                refine k_tabIn O 258 dL_law_32 (by rw [c41]; decide) (by rw [c41]; decide) (off := 226) (by rw [c41]; try rfl) (by decide) ?_
                refine k_aload_n O dL_law_258 1 rfl ?_
                refine k_aload_n O dL_law_259 0 rfl ?_
                refine k_iload_n O dL_law_260 3 rfl ?_
                refine k_iconst O dL_law_261 (v := 1) (by decide) ?_
                refine k_iadd O dL_law_262 ?_
                obtain ⟨g42, h⟩ := gd_some h
                refine k_sld O hLx g42 dL_law_263 ?_
                refine k_aload_n O dL_law_264 0 rfl ?_
                refine k_iload_n O dL_law_265 3 rfl ?_
                refine k_iconst O dL_law_266 (v := 2) (by decide) ?_
                refine k_iadd O dL_law_267 ?_
                obtain ⟨g43, h⟩ := gd_some h
                refine k_sld O hLx g43 dL_law_268 ?_
                obtain ⟨r46, w45, hc44, h⟩ := bd_some h
                refine k_callVi O (As := [.int (xs (v3 + ((1 : Int32))).toNatClampNeg), .int (xs (v3 + ((2 : Int32))).toNatClampNeg)]) (rest := []) (k := 0) (c_X7_trap (x_l X) X.1 (by omega) hz hc44) gL_law_X7_trap rfl hd_X7_trap (by decide) (by omega) (E_0 hz) rfl rfl rfl rfl rfl (Nat.le_of_ble_eq_true rfl) dL_law_269 ?_
                refine k_aload_n O dL_law_272 2 rfl ?_
                refine k_aload_n O dL_law_273 0 rfl ?_
                refine k_iload_n O dL_law_274 3 rfl ?_
                refine k_iconst O dL_law_275 (v := 1) (by decide) ?_
                refine k_iadd O dL_law_276 ?_
                obtain ⟨g47, h⟩ := gd_some h
                refine k_sld O hLx g47 dL_law_277 ?_
                refine k_aload_n O dL_law_278 0 rfl ?_
                refine k_iload_n O dL_law_279 3 rfl ?_
                refine k_iconst O dL_law_280 (v := 2) (by decide) ?_
                refine k_iadd O dL_law_281 ?_
                obtain ⟨g48, h⟩ := gd_some h
                refine k_sld O hLx g48 dL_law_282 ?_
                obtain ⟨r51, w50, hc49, h⟩ := bd_some h
                refine k_callVi O (As := [.int (xs (v3 + ((1 : Int32))).toNatClampNeg), .int (xs (v3 + ((2 : Int32))).toNatClampNeg)]) (rest := [.int r46]) (k := 105) (c_X8_trap (x_l X) X.1 hN hc49) gL_law_X8_trap rfl hd_X8_trap (by decide) (by omega) E_105 rfl rfl rfl rfl rfl (Nat.le_of_ble_eq_true rfl) dL_law_283 ?_
                refine k_icmp_eq O 920 dL_law_286 (by decide) (fun c52 => ?_) (fun c52 => ?_)
                · have h := ite_t c52 h
                  exact k_sub [0, 1, 2, 3] rfl (w_L_law_920 O hLx hLr hN hz (fun {_} {_} h9 => ih h9) ho h)
                · have h := ite_f c52 h
                  refine k_iconst O dL_law_289 (v := 0) (by decide) ?_
                  exact nomatch h
              · have h := ite_f c41 h
                refine (Decidable.em (((xs v3.toNatClampNeg) &&& ((31 : Int32))) = (5 : Int32))).elim (fun c53 => ?_) (fun c53 => ?_)
                · have h := ite_t c53 h
                  refine k_tabIn O 291 dL_law_32 (by rw [c53]; decide) (by rw [c53]; decide) (off := 259) (by rw [c53]; try rfl) (by decide) ?_
                  refine k_aload_n O dL_law_291 1 rfl ?_
                  refine k_aload_n O dL_law_292 0 rfl ?_
                  refine k_iload_n O dL_law_293 3 rfl ?_
                  refine k_iconst O dL_law_294 (v := 1) (by decide) ?_
                  refine k_iadd O dL_law_295 ?_
                  obtain ⟨g54, h⟩ := gd_some h
                  refine k_sld O hLx g54 dL_law_296 ?_
                  refine k_aload_n O dL_law_297 0 rfl ?_
                  refine k_iload_n O dL_law_298 3 rfl ?_
                  refine k_iconst O dL_law_299 (v := 2) (by decide) ?_
                  refine k_iadd O dL_law_300 ?_
                  obtain ⟨g55, h⟩ := gd_some h
                  refine k_sld O hLx g55 dL_law_301 ?_
                  obtain ⟨r58, w57, hc56, h⟩ := bd_some h
                  refine k_callVi O (As := [.int (xs (v3 + ((1 : Int32))).toNatClampNeg), .int (xs (v3 + ((2 : Int32))).toNatClampNeg)]) (rest := []) (k := 0) (c_X7_walker (x_l X) X.1 (by omega) hz hc56) gL_law_X7_walker rfl hd_X7_walker (by decide) (by omega) (E_0 hz) rfl rfl rfl rfl rfl (Nat.le_of_ble_eq_true rfl) dL_law_302 ?_
                  refine k_aload_n O dL_law_305 2 rfl ?_
                  refine k_aload_n O dL_law_306 0 rfl ?_
                  refine k_iload_n O dL_law_307 3 rfl ?_
                  refine k_iconst O dL_law_308 (v := 1) (by decide) ?_
                  refine k_iadd O dL_law_309 ?_
                  obtain ⟨g59, h⟩ := gd_some h
                  refine k_sld O hLx g59 dL_law_310 ?_
                  refine k_aload_n O dL_law_311 0 rfl ?_
                  refine k_iload_n O dL_law_312 3 rfl ?_
                  refine k_iconst O dL_law_313 (v := 2) (by decide) ?_
                  refine k_iadd O dL_law_314 ?_
                  obtain ⟨g60, h⟩ := gd_some h
                  refine k_sld O hLx g60 dL_law_315 ?_
                  obtain ⟨r63, w62, hc61, h⟩ := bd_some h
                  refine k_callVi O (As := [.int (xs (v3 + ((1 : Int32))).toNatClampNeg), .int (xs (v3 + ((2 : Int32))).toNatClampNeg)]) (rest := [.int r58]) (k := 105) (c_X8_walker (x_l X) X.1 hN hc61) gL_law_X8_walker rfl hd_X8_walker (by decide) (by omega) E_105 rfl rfl rfl rfl rfl (Nat.le_of_ble_eq_true rfl) dL_law_316 ?_
                  refine k_icmp_eq O 920 dL_law_319 (by decide) (fun c64 => ?_) (fun c64 => ?_)
                  · have h := ite_t c64 h
                    exact k_sub [0, 1, 2, 3] rfl (w_L_law_920 O hLx hLr hN hz (fun {_} {_} h9 => ih h9) ho h)
                  · have h := ite_f c64 h
                    refine k_iconst O dL_law_322 (v := 0) (by decide) ?_
                    exact nomatch h
                · have h := ite_f c53 h
                  refine (Decidable.em (((xs v3.toNatClampNeg) &&& ((31 : Int32))) = (6 : Int32))).elim (fun c65 => ?_) (fun c65 => ?_)
                  · have h := ite_t c65 h
                    refine k_tabIn O 324 dL_law_32 (by rw [c65]; decide) (by rw [c65]; decide) (off := 292) (by rw [c65]; try rfl) (by decide) ?_
                    refine k_aload_n O dL_law_324 1 rfl ?_
                    refine k_aload_n O dL_law_325 0 rfl ?_
                    refine k_iload_n O dL_law_326 3 rfl ?_
                    refine k_iconst O dL_law_327 (v := 1) (by decide) ?_
                    refine k_iadd O dL_law_328 ?_
                    obtain ⟨g66, h⟩ := gd_some h
                    refine k_sld O hLx g66 dL_law_329 ?_
                    obtain ⟨r69, w68, hc67, h⟩ := bd_some h
                    refine k_callVi O (As := [.int (xs (v3 + ((1 : Int32))).toNatClampNeg)]) (rest := []) (k := 0) (c_X7_near (x_l X) X.1 (by omega) hz hc67) gL_law_X7_near rfl hd_X7_near (by decide) (by omega) (E_0 hz) rfl rfl rfl rfl rfl (Nat.le_of_ble_eq_true rfl) dL_law_330 ?_
                    refine k_aload_n O dL_law_333 2 rfl ?_
                    refine k_aload_n O dL_law_334 0 rfl ?_
                    refine k_iload_n O dL_law_335 3 rfl ?_
                    refine k_iconst O dL_law_336 (v := 1) (by decide) ?_
                    refine k_iadd O dL_law_337 ?_
                    obtain ⟨g70, h⟩ := gd_some h
                    refine k_sld O hLx g70 dL_law_338 ?_
                    obtain ⟨r73, w72, hc71, h⟩ := bd_some h
                    refine k_callVi O (As := [.int (xs (v3 + ((1 : Int32))).toNatClampNeg)]) (rest := [.int r69]) (k := 105) (c_X8_near (x_l X) X.1 hN hc71) gL_law_X8_near rfl hd_X8_near (by decide) (by omega) E_105 rfl rfl rfl rfl rfl (Nat.le_of_ble_eq_true rfl) dL_law_339 ?_
                    refine k_icmp_eq O 920 dL_law_342 (by decide) (fun c74 => ?_) (fun c74 => ?_)
                    · have h := ite_t c74 h
                      exact k_sub [0, 1, 2, 3] rfl (w_L_law_920 O hLx hLr hN hz (fun {_} {_} h9 => ih h9) ho h)
                    · have h := ite_f c74 h
                      refine k_iconst O dL_law_345 (v := 0) (by decide) ?_
                      exact nomatch h
                  · have h := ite_f c65 h
                    refine (Decidable.em (((xs v3.toNatClampNeg) &&& ((31 : Int32))) = (7 : Int32))).elim (fun c75 => ?_) (fun c75 => ?_)
                    · have h := ite_t c75 h
                      refine k_tabIn O 347 dL_law_32 (by rw [c75]; decide) (by rw [c75]; decide) (off := 315) (by rw [c75]; try rfl) (by decide) ?_
                      refine k_aload_n O dL_law_347 1 rfl ?_
                      refine k_aload_n O dL_law_348 0 rfl ?_
                      refine k_iload_n O dL_law_349 3 rfl ?_
                      refine k_iconst O dL_law_350 (v := 1) (by decide) ?_
                      refine k_iadd O dL_law_351 ?_
                      obtain ⟨g76, h⟩ := gd_some h
                      refine k_sld O hLx g76 dL_law_352 ?_
                      refine k_if_eq O 360 dL_law_353 (by decide) (fun c77 => ?_) (fun c77 => ?_)
                      · have h := ite_t c77 h
                        refine k_iconst O dL_law_360 (v := 0) (by decide) ?_
                        exact k_sub [0, 1, 2, 3] rfl (w_L_law_361 O hLx hLr hN hz (fun {_} {_} h9 => ih h9) ho h)
                      · have h := ite_f c77 h
                        refine k_iconst O dL_law_356 (v := 1) (by decide) ?_
                        refine k_goto O 361 dL_law_357 (by decide) ?_
                        exact k_sub [0, 1, 2, 3] rfl (w_L_law_361 O hLx hLr hN hz (fun {_} {_} h9 => ih h9) ho h)
                    · have h := ite_f c75 h
                      refine (Decidable.em (((xs v3.toNatClampNeg) &&& ((31 : Int32))) = (8 : Int32))).elim (fun c78 => ?_) (fun c78 => ?_)
                      · have h := ite_t c78 h
                        refine k_tabIn O 386 dL_law_32 (by rw [c78]; decide) (by rw [c78]; decide) (off := 354) (by rw [c78]; try rfl) (by decide) ?_
                        refine k_aload_n O dL_law_386 1 rfl ?_
                        refine k_aload_n O dL_law_387 0 rfl ?_
                        refine k_iload_n O dL_law_388 3 rfl ?_
                        refine k_iconst O dL_law_389 (v := 1) (by decide) ?_
                        refine k_iadd O dL_law_390 ?_
                        obtain ⟨g79, h⟩ := gd_some h
                        refine k_sld O hLx g79 dL_law_391 ?_
                        refine k_aload_n O dL_law_392 0 rfl ?_
                        refine k_iload_n O dL_law_393 3 rfl ?_
                        refine k_iconst O dL_law_394 (v := 2) (by decide) ?_
                        refine k_iadd O dL_law_395 ?_
                        obtain ⟨g80, h⟩ := gd_some h
                        refine k_sld O hLx g80 dL_law_396 ?_
                        obtain ⟨r83, w82, hc81, h⟩ := bd_some h
                        refine k_callVi O (As := [.int (xs (v3 + ((1 : Int32))).toNatClampNeg), .int (xs (v3 + ((2 : Int32))).toNatClampNeg)]) (rest := []) (k := 0) (c_X7_step (x_l X) X.1 (by omega) hz hc81) gL_law_X7_step rfl hd_X7_step (by decide) (by omega) (E_0 hz) rfl rfl rfl rfl rfl (Nat.le_of_ble_eq_true rfl) dL_law_397 ?_
                        refine k_aload_n O dL_law_400 2 rfl ?_
                        refine k_aload_n O dL_law_401 0 rfl ?_
                        refine k_iload_n O dL_law_402 3 rfl ?_
                        refine k_iconst O dL_law_403 (v := 1) (by decide) ?_
                        refine k_iadd O dL_law_404 ?_
                        obtain ⟨g84, h⟩ := gd_some h
                        refine k_sld O hLx g84 dL_law_405 ?_
                        refine k_aload_n O dL_law_406 0 rfl ?_
                        refine k_iload_n O dL_law_407 3 rfl ?_
                        refine k_iconst O dL_law_408 (v := 2) (by decide) ?_
                        refine k_iadd O dL_law_409 ?_
                        obtain ⟨g85, h⟩ := gd_some h
                        refine k_sld O hLx g85 dL_law_410 ?_
                        obtain ⟨r88, w87, hc86, h⟩ := bd_some h
                        refine k_callVi O (As := [.int (xs (v3 + ((1 : Int32))).toNatClampNeg), .int (xs (v3 + ((2 : Int32))).toNatClampNeg)]) (rest := [.int r83]) (k := 105) (c_X8_step (x_l X) X.1 hN hc86) gL_law_X8_step rfl hd_X8_step (by decide) (by omega) E_105 rfl rfl rfl rfl rfl (Nat.le_of_ble_eq_true rfl) dL_law_411 ?_
                        refine k_icmp_eq O 920 dL_law_414 (by decide) (fun c89 => ?_) (fun c89 => ?_)
                        · have h := ite_t c89 h
                          exact k_sub [0, 1, 2, 3] rfl (w_L_law_920 O hLx hLr hN hz (fun {_} {_} h9 => ih h9) ho h)
                        · have h := ite_f c89 h
                          refine k_iconst O dL_law_417 (v := 0) (by decide) ?_
                          exact nomatch h
                      · have h := ite_f c78 h
                        refine (Decidable.em (((xs v3.toNatClampNeg) &&& ((31 : Int32))) = (9 : Int32))).elim (fun c90 => ?_) (fun c90 => ?_)
                        · have h := ite_t c90 h
                          refine k_tabIn O 419 dL_law_32 (by rw [c90]; decide) (by rw [c90]; decide) (off := 387) (by rw [c90]; try rfl) (by decide) ?_
                          refine k_aload_n O dL_law_419 1 rfl ?_
                          refine k_aload_n O dL_law_420 0 rfl ?_
                          refine k_iload_n O dL_law_421 3 rfl ?_
                          refine k_iconst O dL_law_422 (v := 1) (by decide) ?_
                          refine k_iadd O dL_law_423 ?_
                          obtain ⟨g91, h⟩ := gd_some h
                          refine k_sld O hLx g91 dL_law_424 ?_
                          obtain ⟨r94, w93, hc92, h⟩ := bd_some h
                          refine k_callVi O (As := [.int (xs (v3 + ((1 : Int32))).toNatClampNeg)]) (rest := []) (k := 0) (c_X7_arm (x_l X) X.1 (by omega) hz hc92) gL_law_X7_arm rfl hd_X7_arm (by decide) (by omega) (E_0 hz) rfl rfl rfl rfl rfl (Nat.le_of_ble_eq_true rfl) dL_law_425 ?_
                          refine k_aload_n O dL_law_428 2 rfl ?_
                          refine k_aload_n O dL_law_429 0 rfl ?_
                          refine k_iload_n O dL_law_430 3 rfl ?_
                          refine k_iconst O dL_law_431 (v := 1) (by decide) ?_
                          refine k_iadd O dL_law_432 ?_
                          obtain ⟨g95, h⟩ := gd_some h
                          refine k_sld O hLx g95 dL_law_433 ?_
                          obtain ⟨r98, w97, hc96, h⟩ := bd_some h
                          refine k_callVi O (As := [.int (xs (v3 + ((1 : Int32))).toNatClampNeg)]) (rest := [.int r94]) (k := 105) (c_X8_arm (x_l X) X.1 hN hc96) gL_law_X8_arm rfl hd_X8_arm (by decide) (by omega) E_105 rfl rfl rfl rfl rfl (Nat.le_of_ble_eq_true rfl) dL_law_434 ?_
                          refine k_icmp_eq O 920 dL_law_437 (by decide) (fun c99 => ?_) (fun c99 => ?_)
                          · have h := ite_t c99 h
                            exact k_sub [0, 1, 2, 3] rfl (w_L_law_920 O hLx hLr hN hz (fun {_} {_} h9 => ih h9) ho h)
                          · have h := ite_f c99 h
                            refine k_iconst O dL_law_440 (v := 0) (by decide) ?_
                            exact nomatch h
                        · have h := ite_f c90 h
                          refine (Decidable.em (((xs v3.toNatClampNeg) &&& ((31 : Int32))) = (10 : Int32))).elim (fun c100 => ?_) (fun c100 => ?_)
                          · have h := ite_t c100 h
                            refine k_tabIn O 442 dL_law_32 (by rw [c100]; decide) (by rw [c100]; decide) (off := 410) (by rw [c100]; try rfl) (by decide) ?_
                            refine k_aload_n O dL_law_442 1 rfl ?_
                            refine k_aload_n O dL_law_443 0 rfl ?_
                            refine k_iload_n O dL_law_444 3 rfl ?_
                            refine k_iconst O dL_law_445 (v := 1) (by decide) ?_
                            refine k_iadd O dL_law_446 ?_
                            obtain ⟨g101, h⟩ := gd_some h
                            refine k_sld O hLx g101 dL_law_447 ?_
                            refine k_aload_n O dL_law_448 0 rfl ?_
                            refine k_iload_n O dL_law_449 3 rfl ?_
                            refine k_iconst O dL_law_450 (v := 2) (by decide) ?_
                            refine k_iadd O dL_law_451 ?_
                            obtain ⟨g102, h⟩ := gd_some h
                            refine k_sld O hLx g102 dL_law_452 ?_
                            obtain ⟨r105, w104, hc103, h⟩ := bd_some h
                            refine k_callVi O (As := [.int (xs (v3 + ((1 : Int32))).toNatClampNeg), .int (xs (v3 + ((2 : Int32))).toNatClampNeg)]) (rest := []) (k := 0) (c_X7_look (x_l X) X.1 (by omega) hz hc103) gL_law_X7_look rfl hd_X7_look (by decide) (by omega) (E_0 hz) rfl rfl rfl rfl rfl (Nat.le_of_ble_eq_true rfl) dL_law_453 ?_
                            refine k_aload_n O dL_law_456 2 rfl ?_
                            refine k_aload_n O dL_law_457 0 rfl ?_
                            refine k_iload_n O dL_law_458 3 rfl ?_
                            refine k_iconst O dL_law_459 (v := 1) (by decide) ?_
                            refine k_iadd O dL_law_460 ?_
                            obtain ⟨g106, h⟩ := gd_some h
                            refine k_sld O hLx g106 dL_law_461 ?_
                            refine k_aload_n O dL_law_462 0 rfl ?_
                            refine k_iload_n O dL_law_463 3 rfl ?_
                            refine k_iconst O dL_law_464 (v := 2) (by decide) ?_
                            refine k_iadd O dL_law_465 ?_
                            obtain ⟨g107, h⟩ := gd_some h
                            refine k_sld O hLx g107 dL_law_466 ?_
                            obtain ⟨r110, w109, hc108, h⟩ := bd_some h
                            refine k_callVi O (As := [.int (xs (v3 + ((1 : Int32))).toNatClampNeg), .int (xs (v3 + ((2 : Int32))).toNatClampNeg)]) (rest := [.int r105]) (k := 105) (c_X8_look (x_l X) X.1 hN hc108) gL_law_X8_look rfl hd_X8_look (by decide) (by omega) E_105 rfl rfl rfl rfl rfl (Nat.le_of_ble_eq_true rfl) dL_law_467 ?_
                            refine k_icmp_eq O 920 dL_law_470 (by decide) (fun c111 => ?_) (fun c111 => ?_)
                            · have h := ite_t c111 h
                              exact k_sub [0, 1, 2, 3] rfl (w_L_law_920 O hLx hLr hN hz (fun {_} {_} h9 => ih h9) ho h)
                            · have h := ite_f c111 h
                              refine k_iconst O dL_law_473 (v := 0) (by decide) ?_
                              exact nomatch h
                          · have h := ite_f c100 h
                            refine (Decidable.em (((xs v3.toNatClampNeg) &&& ((31 : Int32))) = (11 : Int32))).elim (fun c112 => ?_) (fun c112 => ?_)
                            · have h := ite_t c112 h
                              refine k_tabIn O 475 dL_law_32 (by rw [c112]; decide) (by rw [c112]; decide) (off := 443) (by rw [c112]; try rfl) (by decide) ?_
                              refine k_aload_n O dL_law_475 1 rfl ?_
                              refine k_aload_n O dL_law_476 0 rfl ?_
                              refine k_iload_n O dL_law_477 3 rfl ?_
                              refine k_iconst O dL_law_478 (v := 1) (by decide) ?_
                              refine k_iadd O dL_law_479 ?_
                              obtain ⟨g113, h⟩ := gd_some h
                              refine k_sld O hLx g113 dL_law_480 ?_
                              obtain ⟨r116, w115, hc114, h⟩ := bd_some h
                              refine k_callVi O (As := [.int (xs (v3 + ((1 : Int32))).toNatClampNeg)]) (rest := []) (k := 0) (c_X7_free (x_l X) X.1 (by omega) hz hc114) gL_law_X7_free rfl hd_X7_free (by decide) (by omega) (E_0 hz) rfl rfl rfl rfl rfl (Nat.le_of_ble_eq_true rfl) dL_law_481 ?_
                              refine k_aload_n O dL_law_484 2 rfl ?_
                              refine k_aload_n O dL_law_485 0 rfl ?_
                              refine k_iload_n O dL_law_486 3 rfl ?_
                              refine k_iconst O dL_law_487 (v := 1) (by decide) ?_
                              refine k_iadd O dL_law_488 ?_
                              obtain ⟨g117, h⟩ := gd_some h
                              refine k_sld O hLx g117 dL_law_489 ?_
                              obtain ⟨r120, w119, hc118, h⟩ := bd_some h
                              refine k_callVi O (As := [.int (xs (v3 + ((1 : Int32))).toNatClampNeg)]) (rest := [.int r116]) (k := 105) (c_X8_free (x_l X) X.1 hN hc118) gL_law_X8_free rfl hd_X8_free (by decide) (by omega) E_105 rfl rfl rfl rfl rfl (Nat.le_of_ble_eq_true rfl) dL_law_490 ?_
                              refine k_icmp_eq O 920 dL_law_493 (by decide) (fun c121 => ?_) (fun c121 => ?_)
                              · have h := ite_t c121 h
                                exact k_sub [0, 1, 2, 3] rfl (w_L_law_920 O hLx hLr hN hz (fun {_} {_} h9 => ih h9) ho h)
                              · have h := ite_f c121 h
                                refine k_iconst O dL_law_496 (v := 0) (by decide) ?_
                                exact nomatch h
                            · have h := ite_f c112 h
                              refine (Decidable.em (((xs v3.toNatClampNeg) &&& ((31 : Int32))) = (12 : Int32))).elim (fun c122 => ?_) (fun c122 => ?_)
                              · have h := ite_t c122 h
                                refine k_tabIn O 498 dL_law_32 (by rw [c122]; decide) (by rw [c122]; decide) (off := 466) (by rw [c122]; try rfl) (by decide) ?_
                                refine k_aload_n O dL_law_498 1 rfl ?_
                                obtain ⟨r125, w124, hc123, h⟩ := bd_some h
                                refine k_callVi O (As := []) (rest := []) (k := 0) (c_X7_undo (x_l X) X.1 (by omega) hz hc123) gL_law_X7_undo rfl hd_X7_undo (by decide) (by omega) (E_0 hz) rfl rfl rfl rfl rfl (Nat.le_of_ble_eq_true rfl) dL_law_499 ?_
                                refine k_aload_n O dL_law_502 2 rfl ?_
                                obtain ⟨r128, w127, hc126, h⟩ := bd_some h
                                refine k_callVi O (As := []) (rest := [.int r125]) (k := 105) (c_X8_undo (x_l X) X.1 hN hc126) gL_law_X8_undo rfl hd_X8_undo (by decide) (by omega) E_105 rfl rfl rfl rfl rfl (Nat.le_of_ble_eq_true rfl) dL_law_503 ?_
                                refine k_icmp_eq O 920 dL_law_506 (by decide) (fun c129 => ?_) (fun c129 => ?_)
                                · have h := ite_t c129 h
                                  exact k_sub [0, 1, 2, 3] rfl (w_L_law_920 O hLx hLr hN hz (fun {_} {_} h9 => ih h9) ho h)
                                · have h := ite_f c129 h
                                  refine k_iconst O dL_law_509 (v := 0) (by decide) ?_
                                  exact nomatch h
                              · have h := ite_f c122 h
                                refine (Decidable.em (((xs v3.toNatClampNeg) &&& ((31 : Int32))) = (13 : Int32))).elim (fun c130 => ?_) (fun c130 => ?_)
                                · have h := ite_t c130 h
                                  refine k_tabIn O 511 dL_law_32 (by rw [c130]; decide) (by rw [c130]; decide) (off := 479) (by rw [c130]; try rfl) (by decide) ?_
                                  refine k_aload_n O dL_law_511 1 rfl ?_
                                  refine k_aload_n O dL_law_512 0 rfl ?_
                                  refine k_iload_n O dL_law_513 3 rfl ?_
                                  refine k_iconst O dL_law_514 (v := 1) (by decide) ?_
                                  refine k_iadd O dL_law_515 ?_
                                  obtain ⟨g131, h⟩ := gd_some h
                                  refine k_sld O hLx g131 dL_law_516 ?_
                                  obtain ⟨r134, w133, hc132, h⟩ := bd_some h
                                  refine k_callVi O (As := [.int (xs (v3 + ((1 : Int32))).toNatClampNeg)]) (rest := []) (k := 0) (c_X7_sprung (x_l X) X.1 (by omega) hz hc132) gL_law_X7_sprung rfl hd_X7_sprung (by decide) (by omega) (E_0 hz) rfl rfl rfl rfl rfl (Nat.le_of_ble_eq_true rfl) dL_law_517 ?_
                                  refine k_aload_n O dL_law_520 2 rfl ?_
                                  refine k_aload_n O dL_law_521 0 rfl ?_
                                  refine k_iload_n O dL_law_522 3 rfl ?_
                                  refine k_iconst O dL_law_523 (v := 1) (by decide) ?_
                                  refine k_iadd O dL_law_524 ?_
                                  obtain ⟨g135, h⟩ := gd_some h
                                  refine k_sld O hLx g135 dL_law_525 ?_
                                  obtain ⟨r138, w137, hc136, h⟩ := bd_some h
                                  refine k_callVi O (As := [.int (xs (v3 + ((1 : Int32))).toNatClampNeg)]) (rest := [.int r134]) (k := 105) (c_X8_sprung (x_l X) X.1 hN hc136) gL_law_X8_sprung rfl hd_X8_sprung (by decide) (by omega) E_105 rfl rfl rfl rfl rfl (Nat.le_of_ble_eq_true rfl) dL_law_526 ?_
                                  refine k_icmp_eq O 920 dL_law_529 (by decide) (fun c139 => ?_) (fun c139 => ?_)
                                  · have h := ite_t c139 h
                                    exact k_sub [0, 1, 2, 3] rfl (w_L_law_920 O hLx hLr hN hz (fun {_} {_} h9 => ih h9) ho h)
                                  · have h := ite_f c139 h
                                    refine k_iconst O dL_law_532 (v := 0) (by decide) ?_
                                    exact nomatch h
                                · have h := ite_f c130 h
                                  refine (Decidable.em (((xs v3.toNatClampNeg) &&& ((31 : Int32))) = (14 : Int32))).elim (fun c140 => ?_) (fun c140 => ?_)
                                  · have h := ite_t c140 h
                                    refine k_tabIn O 534 dL_law_32 (by rw [c140]; decide) (by rw [c140]; decide) (off := 502) (by rw [c140]; try rfl) (by decide) ?_
                                    refine k_aload_n O dL_law_534 1 rfl ?_
                                    obtain ⟨r143, w142, hc141, h⟩ := bd_some h
                                    refine k_callVi O (As := []) (rest := []) (k := 0) (c_X7_rings (x_l X) X.1 (by omega) hz hc141) gL_law_X7_rings rfl hd_X7_rings (by decide) (by omega) (E_0 hz) rfl rfl rfl rfl rfl (Nat.le_of_ble_eq_true rfl) dL_law_535 ?_
                                    refine k_aload_n O dL_law_538 2 rfl ?_
                                    obtain ⟨r146, w145, hc144, h⟩ := bd_some h
                                    refine k_callVi O (As := []) (rest := [.int r143]) (k := 105) (c_X8_rings (x_l X) X.1 hN hc144) gL_law_X8_rings rfl hd_X8_rings (by decide) (by omega) E_105 rfl rfl rfl rfl rfl (Nat.le_of_ble_eq_true rfl) dL_law_539 ?_
                                    refine k_icmp_eq O 920 dL_law_542 (by decide) (fun c147 => ?_) (fun c147 => ?_)
                                    · have h := ite_t c147 h
                                      exact k_sub [0, 1, 2, 3] rfl (w_L_law_920 O hLx hLr hN hz (fun {_} {_} h9 => ih h9) ho h)
                                    · have h := ite_f c147 h
                                      refine k_iconst O dL_law_545 (v := 0) (by decide) ?_
                                      exact nomatch h
                                  · have h := ite_f c140 h
                                    refine (Decidable.em (((xs v3.toNatClampNeg) &&& ((31 : Int32))) = (15 : Int32))).elim (fun c148 => ?_) (fun c148 => ?_)
                                    · have h := ite_t c148 h
                                      refine k_tabIn O 547 dL_law_32 (by rw [c148]; decide) (by rw [c148]; decide) (off := 515) (by rw [c148]; try rfl) (by decide) ?_
                                      refine k_aload_n O dL_law_547 1 rfl ?_
                                      obtain ⟨r151, w150, hc149, h⟩ := bd_some h
                                      refine k_callVi O (As := []) (rest := []) (k := 0) (c_X7_all (x_l X) X.1 (by omega) hz hc149) gL_law_X7_all rfl hd_X7_all (by decide) (by omega) (E_0 hz) rfl rfl rfl rfl rfl (Nat.le_of_ble_eq_true rfl) dL_law_548 ?_
                                      refine k_aload_n O dL_law_551 2 rfl ?_
                                      obtain ⟨r154, w153, hc152, h⟩ := bd_some h
                                      refine k_callVi O (As := []) (rest := [.int r151]) (k := 105) (c_X8_all (x_l X) X.1 hN hc152) gL_law_X8_all rfl hd_X8_all (by decide) (by omega) E_105 rfl rfl rfl rfl rfl (Nat.le_of_ble_eq_true rfl) dL_law_552 ?_
                                      refine k_icmp_eq O 920 dL_law_555 (by decide) (fun c155 => ?_) (fun c155 => ?_)
                                      · have h := ite_t c155 h
                                        exact k_sub [0, 1, 2, 3] rfl (w_L_law_920 O hLx hLr hN hz (fun {_} {_} h9 => ih h9) ho h)
                                      · have h := ite_f c155 h
                                        refine k_iconst O dL_law_558 (v := 0) (by decide) ?_
                                        exact nomatch h
                                    · have h := ite_f c148 h
                                      refine (Decidable.em (((xs v3.toNatClampNeg) &&& ((31 : Int32))) = (16 : Int32))).elim (fun c156 => ?_) (fun c156 => ?_)
                                      · have h := ite_t c156 h
                                        refine k_tabIn O 560 dL_law_32 (by rw [c156]; decide) (by rw [c156]; decide) (off := 528) (by rw [c156]; try rfl) (by decide) ?_
                                        refine k_aload_n O dL_law_560 1 rfl ?_
                                        refine k_aload_n O dL_law_561 0 rfl ?_
                                        refine k_iload_n O dL_law_562 3 rfl ?_
                                        refine k_iconst O dL_law_563 (v := 1) (by decide) ?_
                                        refine k_iadd O dL_law_564 ?_
                                        obtain ⟨g157, h⟩ := gd_some h
                                        refine k_sld O hLx g157 dL_law_565 ?_
                                        obtain ⟨r160, w159, hc158, h⟩ := bd_some h
                                        refine k_callVi O (As := [.int (xs (v3 + ((1 : Int32))).toNatClampNeg)]) (rest := []) (k := 0) (c_X7_first (x_l X) X.1 (by omega) hz hc158) gL_law_X7_first rfl hd_X7_first (by decide) (by omega) (E_0 hz) rfl rfl rfl rfl rfl (Nat.le_of_ble_eq_true rfl) dL_law_566 ?_
                                        refine k_aload_n O dL_law_569 2 rfl ?_
                                        refine k_aload_n O dL_law_570 0 rfl ?_
                                        refine k_iload_n O dL_law_571 3 rfl ?_
                                        refine k_iconst O dL_law_572 (v := 1) (by decide) ?_
                                        refine k_iadd O dL_law_573 ?_
                                        obtain ⟨g161, h⟩ := gd_some h
                                        refine k_sld O hLx g161 dL_law_574 ?_
                                        obtain ⟨r164, w163, hc162, h⟩ := bd_some h
                                        refine k_callVi O (As := [.int (xs (v3 + ((1 : Int32))).toNatClampNeg)]) (rest := [.int r160]) (k := 105) (c_X8_first (x_l X) X.1 hN hc162) gL_law_X8_first rfl hd_X8_first (by decide) (by omega) E_105 rfl rfl rfl rfl rfl (Nat.le_of_ble_eq_true rfl) dL_law_575 ?_
                                        refine k_icmp_eq O 920 dL_law_578 (by decide) (fun c165 => ?_) (fun c165 => ?_)
                                        · have h := ite_t c165 h
                                          exact k_sub [0, 1, 2, 3] rfl (w_L_law_920 O hLx hLr hN hz (fun {_} {_} h9 => ih h9) ho h)
                                        · have h := ite_f c165 h
                                          refine k_iconst O dL_law_581 (v := 0) (by decide) ?_
                                          exact nomatch h
                                      · have h := ite_f c156 h
                                        refine (Decidable.em (((xs v3.toNatClampNeg) &&& ((31 : Int32))) = (17 : Int32))).elim (fun c166 => ?_) (fun c166 => ?_)
                                        · have h := ite_t c166 h
                                          refine k_tabIn O 583 dL_law_32 (by rw [c166]; decide) (by rw [c166]; decide) (off := 551) (by rw [c166]; try rfl) (by decide) ?_
                                          refine k_aload_n O dL_law_583 1 rfl ?_
                                          refine k_aload_n O dL_law_584 0 rfl ?_
                                          refine k_iload_n O dL_law_585 3 rfl ?_
                                          refine k_iconst O dL_law_586 (v := 1) (by decide) ?_
                                          refine k_iadd O dL_law_587 ?_
                                          obtain ⟨g167, h⟩ := gd_some h
                                          refine k_sld O hLx g167 dL_law_588 ?_
                                          refine k_aload_n O dL_law_589 0 rfl ?_
                                          refine k_iload_n O dL_law_590 3 rfl ?_
                                          refine k_iconst O dL_law_591 (v := 2) (by decide) ?_
                                          refine k_iadd O dL_law_592 ?_
                                          obtain ⟨g168, h⟩ := gd_some h
                                          refine k_sld O hLx g168 dL_law_593 ?_
                                          obtain ⟨r171, w170, hc169, h⟩ := bd_some h
                                          refine k_callVi O (As := [.int (xs (v3 + ((1 : Int32))).toNatClampNeg), .int (xs (v3 + ((2 : Int32))).toNatClampNeg)]) (rest := []) (k := 0) (c_X7_safe (x_l X) X.1 (by omega) hz hc169) gL_law_X7_safe rfl hd_X7_safe (by decide) (by omega) (E_0 hz) rfl rfl rfl rfl rfl (Nat.le_of_ble_eq_true rfl) dL_law_594 ?_
                                          refine k_aload_n O dL_law_597 2 rfl ?_
                                          refine k_aload_n O dL_law_598 0 rfl ?_
                                          refine k_iload_n O dL_law_599 3 rfl ?_
                                          refine k_iconst O dL_law_600 (v := 1) (by decide) ?_
                                          refine k_iadd O dL_law_601 ?_
                                          obtain ⟨g172, h⟩ := gd_some h
                                          refine k_sld O hLx g172 dL_law_602 ?_
                                          refine k_aload_n O dL_law_603 0 rfl ?_
                                          refine k_iload_n O dL_law_604 3 rfl ?_
                                          refine k_iconst O dL_law_605 (v := 2) (by decide) ?_
                                          refine k_iadd O dL_law_606 ?_
                                          obtain ⟨g173, h⟩ := gd_some h
                                          refine k_sld O hLx g173 dL_law_607 ?_
                                          obtain ⟨r176, w175, hc174, h⟩ := bd_some h
                                          refine k_callVi O (As := [.int (xs (v3 + ((1 : Int32))).toNatClampNeg), .int (xs (v3 + ((2 : Int32))).toNatClampNeg)]) (rest := [.int r171]) (k := 105) (c_X8_safe (x_l X) X.1 hN hc174) gL_law_X8_safe rfl hd_X8_safe (by decide) (by omega) E_105 rfl rfl rfl rfl rfl (Nat.le_of_ble_eq_true rfl) dL_law_608 ?_
                                          refine k_icmp_eq O 920 dL_law_611 (by decide) (fun c177 => ?_) (fun c177 => ?_)
                                          · have h := ite_t c177 h
                                            exact k_sub [0, 1, 2, 3] rfl (w_L_law_920 O hLx hLr hN hz (fun {_} {_} h9 => ih h9) ho h)
                                          · have h := ite_f c177 h
                                            refine k_iconst O dL_law_614 (v := 0) (by decide) ?_
                                            exact nomatch h
                                        · have h := ite_f c166 h
                                          refine (Decidable.em (((xs v3.toNatClampNeg) &&& ((31 : Int32))) = (18 : Int32))).elim (fun c178 => ?_) (fun c178 => ?_)
                                          · have h := ite_t c178 h
                                            refine k_tabIn O 616 dL_law_32 (by rw [c178]; decide) (by rw [c178]; decide) (off := 584) (by rw [c178]; try rfl) (by decide) ?_
                                            refine k_aload_n O dL_law_616 1 rfl ?_
                                            refine k_aload_n O dL_law_617 0 rfl ?_
                                            refine k_iload_n O dL_law_618 3 rfl ?_
                                            refine k_iconst O dL_law_619 (v := 1) (by decide) ?_
                                            refine k_iadd O dL_law_620 ?_
                                            obtain ⟨g179, h⟩ := gd_some h
                                            refine k_sld O hLx g179 dL_law_621 ?_
                                            refine k_aload_n O dL_law_622 0 rfl ?_
                                            refine k_iload_n O dL_law_623 3 rfl ?_
                                            refine k_iconst O dL_law_624 (v := 2) (by decide) ?_
                                            refine k_iadd O dL_law_625 ?_
                                            obtain ⟨g180, h⟩ := gd_some h
                                            refine k_sld O hLx g180 dL_law_626 ?_
                                            refine k_aload_n O dL_law_627 0 rfl ?_
                                            refine k_iload_n O dL_law_628 3 rfl ?_
                                            refine k_iconst O dL_law_629 (v := 3) (by decide) ?_
                                            refine k_iadd O dL_law_630 ?_
                                            obtain ⟨g181, h⟩ := gd_some h
                                            refine k_sld O hLx g181 dL_law_631 ?_
                                            obtain ⟨r184, w183, hc182, h⟩ := bd_some h
                                            refine k_callVi O (As := [.int (xs (v3 + ((1 : Int32))).toNatClampNeg), .int (xs (v3 + ((2 : Int32))).toNatClampNeg), .int (xs (v3 + ((3 : Int32))).toNatClampNeg)]) (rest := []) (k := 0) (c_X7_safeAt (x_l X) X.1 (by omega) hz hc182) gL_law_X7_safeAt rfl hd_X7_safeAt (by decide) (by omega) (E_0 hz) rfl rfl rfl rfl rfl (Nat.le_of_ble_eq_true rfl) dL_law_632 ?_
                                            refine k_aload_n O dL_law_635 2 rfl ?_
                                            refine k_aload_n O dL_law_636 0 rfl ?_
                                            refine k_iload_n O dL_law_637 3 rfl ?_
                                            refine k_iconst O dL_law_638 (v := 1) (by decide) ?_
                                            refine k_iadd O dL_law_639 ?_
                                            obtain ⟨g185, h⟩ := gd_some h
                                            refine k_sld O hLx g185 dL_law_640 ?_
                                            refine k_aload_n O dL_law_641 0 rfl ?_
                                            refine k_iload_n O dL_law_642 3 rfl ?_
                                            refine k_iconst O dL_law_643 (v := 2) (by decide) ?_
                                            refine k_iadd O dL_law_644 ?_
                                            obtain ⟨g186, h⟩ := gd_some h
                                            refine k_sld O hLx g186 dL_law_645 ?_
                                            refine k_aload_n O dL_law_646 0 rfl ?_
                                            refine k_iload_n O dL_law_647 3 rfl ?_
                                            refine k_iconst O dL_law_648 (v := 3) (by decide) ?_
                                            refine k_iadd O dL_law_649 ?_
                                            obtain ⟨g187, h⟩ := gd_some h
                                            refine k_sld O hLx g187 dL_law_650 ?_
                                            obtain ⟨r190, w189, hc188, h⟩ := bd_some h
                                            refine k_callVi O (As := [.int (xs (v3 + ((1 : Int32))).toNatClampNeg), .int (xs (v3 + ((2 : Int32))).toNatClampNeg), .int (xs (v3 + ((3 : Int32))).toNatClampNeg)]) (rest := [.int r184]) (k := 105) (c_X8_safeAt (x_l X) X.1 hN hc188) gL_law_X8_safeAt rfl hd_X8_safeAt (by decide) (by omega) E_105 rfl rfl rfl rfl rfl (Nat.le_of_ble_eq_true rfl) dL_law_651 ?_
                                            refine k_icmp_eq O 920 dL_law_654 (by decide) (fun c191 => ?_) (fun c191 => ?_)
                                            · have h := ite_t c191 h
                                              exact k_sub [0, 1, 2, 3] rfl (w_L_law_920 O hLx hLr hN hz (fun {_} {_} h9 => ih h9) ho h)
                                            · have h := ite_f c191 h
                                              refine k_iconst O dL_law_657 (v := 0) (by decide) ?_
                                              exact nomatch h
                                          · have h := ite_f c178 h
                                            refine (Decidable.em (((xs v3.toNatClampNeg) &&& ((31 : Int32))) = (19 : Int32))).elim (fun c192 => ?_) (fun c192 => ?_)
                                            · have h := ite_t c192 h
                                              refine k_tabIn O 659 dL_law_32 (by rw [c192]; decide) (by rw [c192]; decide) (off := 627) (by rw [c192]; try rfl) (by decide) ?_
                                              refine k_aload_n O dL_law_659 1 rfl ?_
                                              refine k_aload_n O dL_law_660 0 rfl ?_
                                              refine k_iload_n O dL_law_661 3 rfl ?_
                                              refine k_iconst O dL_law_662 (v := 1) (by decide) ?_
                                              refine k_iadd O dL_law_663 ?_
                                              obtain ⟨g193, h⟩ := gd_some h
                                              refine k_sld O hLx g193 dL_law_664 ?_
                                              obtain ⟨r196, w195, hc194, h⟩ := bd_some h
                                              refine k_callVi O (As := [.int (xs (v3 + ((1 : Int32))).toNatClampNeg)]) (rest := []) (k := 0) (c_X7_toLook (x_l X) X.1 (by omega) hz hc194) gL_law_X7_toLook rfl hd_X7_toLook (by decide) (by omega) (E_0 hz) rfl rfl rfl rfl rfl (Nat.le_of_ble_eq_true rfl) dL_law_665 ?_
                                              refine k_aload_n O dL_law_668 2 rfl ?_
                                              refine k_aload_n O dL_law_669 0 rfl ?_
                                              refine k_iload_n O dL_law_670 3 rfl ?_
                                              refine k_iconst O dL_law_671 (v := 1) (by decide) ?_
                                              refine k_iadd O dL_law_672 ?_
                                              obtain ⟨g197, h⟩ := gd_some h
                                              refine k_sld O hLx g197 dL_law_673 ?_
                                              obtain ⟨r200, w199, hc198, h⟩ := bd_some h
                                              refine k_callVi O (As := [.int (xs (v3 + ((1 : Int32))).toNatClampNeg)]) (rest := [.int r196]) (k := 105) (c_X8_toLook (x_l X) X.1 hN hc198) gL_law_X8_toLook rfl hd_X8_toLook (by decide) (by omega) E_105 rfl rfl rfl rfl rfl (Nat.le_of_ble_eq_true rfl) dL_law_674 ?_
                                              refine k_icmp_eq O 920 dL_law_677 (by decide) (fun c201 => ?_) (fun c201 => ?_)
                                              · have h := ite_t c201 h
                                                exact k_sub [0, 1, 2, 3] rfl (w_L_law_920 O hLx hLr hN hz (fun {_} {_} h9 => ih h9) ho h)
                                              · have h := ite_f c201 h
                                                refine k_iconst O dL_law_680 (v := 0) (by decide) ?_
                                                exact nomatch h
                                            · have h := ite_f c192 h
                                              refine (Decidable.em (((xs v3.toNatClampNeg) &&& ((31 : Int32))) = (20 : Int32))).elim (fun c202 => ?_) (fun c202 => ?_)
                                              · have h := ite_t c202 h
                                                refine k_tabIn O 682 dL_law_32 (by rw [c202]; decide) (by rw [c202]; decide) (off := 650) (by rw [c202]; try rfl) (by decide) ?_
                                                refine k_aload_n O dL_law_682 1 rfl ?_
                                                refine k_aload_n O dL_law_683 0 rfl ?_
                                                refine k_iload_n O dL_law_684 3 rfl ?_
                                                refine k_iconst O dL_law_685 (v := 1) (by decide) ?_
                                                refine k_iadd O dL_law_686 ?_
                                                obtain ⟨g203, h⟩ := gd_some h
                                                refine k_sld O hLx g203 dL_law_687 ?_
                                                refine k_aload_n O dL_law_688 0 rfl ?_
                                                refine k_iload_n O dL_law_689 3 rfl ?_
                                                refine k_iconst O dL_law_690 (v := 2) (by decide) ?_
                                                refine k_iadd O dL_law_691 ?_
                                                obtain ⟨g204, h⟩ := gd_some h
                                                refine k_sld O hLx g204 dL_law_692 ?_
                                                refine k_aload_n O dL_law_693 0 rfl ?_
                                                refine k_iload_n O dL_law_694 3 rfl ?_
                                                refine k_iconst O dL_law_695 (v := 3) (by decide) ?_
                                                refine k_iadd O dL_law_696 ?_
                                                obtain ⟨g205, h⟩ := gd_some h
                                                refine k_sld O hLx g205 dL_law_697 ?_
                                                refine k_if_eq O 705 dL_law_698 (by decide) (fun c206 => ?_) (fun c206 => ?_)
                                                · have h := ite_t c206 h
                                                  refine k_iconst O dL_law_705 (v := 0) (by decide) ?_
                                                  exact k_sub [0, 1, 2, 3] rfl (w_L_law_706 O hLx hLr hN hz (fun {_} {_} h9 => ih h9) ho h)
                                                · have h := ite_f c206 h
                                                  refine k_iconst O dL_law_701 (v := 1) (by decide) ?_
                                                  refine k_goto O 706 dL_law_702 (by decide) ?_
                                                  exact k_sub [0, 1, 2, 3] rfl (w_L_law_706 O hLx hLr hN hz (fun {_} {_} h9 => ih h9) ho h)
                                              · have h := ite_f c202 h
                                                refine (Decidable.em (((xs v3.toNatClampNeg) &&& ((31 : Int32))) = (21 : Int32))).elim (fun c207 => ?_) (fun c207 => ?_)
                                                · have h := ite_t c207 h
                                                  refine k_tabIn O 741 dL_law_32 (by rw [c207]; decide) (by rw [c207]; decide) (off := 709) (by rw [c207]; try rfl) (by decide) ?_
                                                  refine k_aload_n O dL_law_741 1 rfl ?_
                                                  refine k_aload_n O dL_law_742 0 rfl ?_
                                                  refine k_iload_n O dL_law_743 3 rfl ?_
                                                  refine k_iconst O dL_law_744 (v := 1) (by decide) ?_
                                                  refine k_iadd O dL_law_745 ?_
                                                  obtain ⟨g208, h⟩ := gd_some h
                                                  refine k_sld O hLx g208 dL_law_746 ?_
                                                  refine k_aload_n O dL_law_747 0 rfl ?_
                                                  refine k_iload_n O dL_law_748 3 rfl ?_
                                                  refine k_iconst O dL_law_749 (v := 2) (by decide) ?_
                                                  refine k_iadd O dL_law_750 ?_
                                                  obtain ⟨g209, h⟩ := gd_some h
                                                  refine k_sld O hLx g209 dL_law_751 ?_
                                                  obtain ⟨r212, w211, hc210, h⟩ := bd_some h
                                                  refine k_callVi O (As := [.int (xs (v3 + ((1 : Int32))).toNatClampNeg), .int (xs (v3 + ((2 : Int32))).toNatClampNeg)]) (rest := []) (k := 0) (c_X7_oneMore (x_l X) X.1 (by omega) hz hc210) gL_law_X7_oneMore rfl hd_X7_oneMore (by decide) (by omega) (E_0 hz) rfl rfl rfl rfl rfl (Nat.le_of_ble_eq_true rfl) dL_law_752 ?_
                                                  refine k_aload_n O dL_law_755 2 rfl ?_
                                                  refine k_aload_n O dL_law_756 0 rfl ?_
                                                  refine k_iload_n O dL_law_757 3 rfl ?_
                                                  refine k_iconst O dL_law_758 (v := 1) (by decide) ?_
                                                  refine k_iadd O dL_law_759 ?_
                                                  obtain ⟨g213, h⟩ := gd_some h
                                                  refine k_sld O hLx g213 dL_law_760 ?_
                                                  refine k_aload_n O dL_law_761 0 rfl ?_
                                                  refine k_iload_n O dL_law_762 3 rfl ?_
                                                  refine k_iconst O dL_law_763 (v := 2) (by decide) ?_
                                                  refine k_iadd O dL_law_764 ?_
                                                  obtain ⟨g214, h⟩ := gd_some h
                                                  refine k_sld O hLx g214 dL_law_765 ?_
                                                  obtain ⟨r217, w216, hc215, h⟩ := bd_some h
                                                  refine k_callVi O (As := [.int (xs (v3 + ((1 : Int32))).toNatClampNeg), .int (xs (v3 + ((2 : Int32))).toNatClampNeg)]) (rest := [.int r212]) (k := 105) (c_X8_oneMore (x_l X) X.1 hN hc215) gL_law_X8_oneMore rfl hd_X8_oneMore (by decide) (by omega) E_105 rfl rfl rfl rfl rfl (Nat.le_of_ble_eq_true rfl) dL_law_766 ?_
                                                  refine k_icmp_eq O 920 dL_law_769 (by decide) (fun c218 => ?_) (fun c218 => ?_)
                                                  · have h := ite_t c218 h
                                                    exact k_sub [0, 1, 2, 3] rfl (w_L_law_920 O hLx hLr hN hz (fun {_} {_} h9 => ih h9) ho h)
                                                  · have h := ite_f c218 h
                                                    refine k_iconst O dL_law_772 (v := 0) (by decide) ?_
                                                    exact nomatch h
                                                · have h := ite_f c207 h
                                                  refine (Decidable.em (((xs v3.toNatClampNeg) &&& ((31 : Int32))) = (22 : Int32))).elim (fun c219 => ?_) (fun c219 => ?_)
                                                  · have h := ite_t c219 h
                                                    refine k_tabIn O 774 dL_law_32 (by rw [c219]; decide) (by rw [c219]; decide) (off := 742) (by rw [c219]; try rfl) (by decide) ?_
                                                    refine k_aload_n O dL_law_774 1 rfl ?_
                                                    refine k_aload_n O dL_law_775 0 rfl ?_
                                                    refine k_iload_n O dL_law_776 3 rfl ?_
                                                    refine k_iconst O dL_law_777 (v := 1) (by decide) ?_
                                                    refine k_iadd O dL_law_778 ?_
                                                    obtain ⟨g220, h⟩ := gd_some h
                                                    refine k_sld O hLx g220 dL_law_779 ?_
                                                    refine k_i2l O dL_law_780 ?_
                                                    refine k_bipush O dL_law_781 (v := 32) (by decide) ?_
                                                    refine k_lshl O dL_law_783 ?_
                                                    refine k_aload_n O dL_law_784 0 rfl ?_
                                                    refine k_iload_n O dL_law_785 3 rfl ?_
                                                    refine k_iconst O dL_law_786 (v := 2) (by decide) ?_
                                                    refine k_iadd O dL_law_787 ?_
                                                    obtain ⟨g221, h⟩ := gd_some h
                                                    refine k_sld O hLx g221 dL_law_788 ?_
                                                    refine k_i2l O dL_law_789 ?_
                                                    refine k_ldc2 O dL_law_790 (List.mem_of_getElem? (i := 6) rfl) ?_
                                                    refine k_land O dL_law_793 ?_
                                                    refine k_lor O dL_law_794 ?_
                                                    obtain ⟨r224, w223, hc222, h⟩ := bd_some h
                                                    refine k_callVl O (As := [.long (((((xs (v3 + ((1 : Int32))).toNatClampNeg)).toInt64) <<< ((((32 : Int32))).toInt64 &&& 63)) ||| ((((xs (v3 + ((2 : Int32))).toNatClampNeg)).toInt64) &&& ((4294967295 : Int64))))]) (rest := []) (k := 0) (c_X7_seed (x_l X) X.1 (by omega) hz hc222) gL_law_X7_seed rfl hd_X7_seed (by decide) (by omega) (E_0 hz) rfl rfl rfl rfl rfl (Nat.le_of_ble_eq_true rfl) dL_law_795 ?_
                                                    refine k_aload_n O dL_law_798 2 rfl ?_
                                                    refine k_aload_n O dL_law_799 0 rfl ?_
                                                    refine k_iload_n O dL_law_800 3 rfl ?_
                                                    refine k_iconst O dL_law_801 (v := 1) (by decide) ?_
                                                    refine k_iadd O dL_law_802 ?_
                                                    obtain ⟨g225, h⟩ := gd_some h
                                                    refine k_sld O hLx g225 dL_law_803 ?_
                                                    refine k_i2l O dL_law_804 ?_
                                                    refine k_bipush O dL_law_805 (v := 32) (by decide) ?_
                                                    refine k_lshl O dL_law_807 ?_
                                                    refine k_aload_n O dL_law_808 0 rfl ?_
                                                    refine k_iload_n O dL_law_809 3 rfl ?_
                                                    refine k_iconst O dL_law_810 (v := 2) (by decide) ?_
                                                    refine k_iadd O dL_law_811 ?_
                                                    obtain ⟨g226, h⟩ := gd_some h
                                                    refine k_sld O hLx g226 dL_law_812 ?_
                                                    refine k_i2l O dL_law_813 ?_
                                                    refine k_ldc2 O dL_law_814 (List.mem_of_getElem? (i := 6) rfl) ?_
                                                    refine k_land O dL_law_817 ?_
                                                    refine k_lor O dL_law_818 ?_
                                                    obtain ⟨r229, w228, hc227, h⟩ := bd_some h
                                                    refine k_callVl O (As := [.long (((((xs (v3 + ((1 : Int32))).toNatClampNeg)).toInt64) <<< ((((32 : Int32))).toInt64 &&& 63)) ||| ((((xs (v3 + ((2 : Int32))).toNatClampNeg)).toInt64) &&& ((4294967295 : Int64))))]) (rest := [.long r224]) (k := 105) (c_X8_seed (x_l X) X.1 hN hc227) gL_law_X8_seed rfl hd_X8_seed (by decide) (by omega) E_105 rfl rfl rfl rfl rfl (Nat.le_of_ble_eq_true rfl) dL_law_819 ?_
                                                    refine k_lcmp O dL_law_822 ?_
                                                    refine k_if_eq O 920 dL_law_823 (by decide) (fun c230 => ?_) (fun c230 => ?_)
                                                    · have h := ite_t c230 h
                                                      exact k_sub [0, 1, 2, 3] rfl (w_L_law_920 O hLx hLr hN hz (fun {_} {_} h9 => ih h9) ho h)
                                                    · have h := ite_f c230 h
                                                      refine k_iconst O dL_law_826 (v := 0) (by decide) ?_
                                                      exact nomatch h
                                                  · have h := ite_f c219 h
                                                    refine (Decidable.em (((xs v3.toNatClampNeg) &&& ((31 : Int32))) = (23 : Int32))).elim (fun c231 => ?_) (fun c231 => ?_)
                                                    · have h := ite_t c231 h
                                                      refine k_tabIn O 828 dL_law_32 (by rw [c231]; decide) (by rw [c231]; decide) (off := 796) (by rw [c231]; try rfl) (by decide) ?_
                                                      refine k_aload_n O dL_law_828 1 rfl ?_
                                                      refine k_aload_n O dL_law_829 0 rfl ?_
                                                      refine k_iload_n O dL_law_830 3 rfl ?_
                                                      refine k_iconst O dL_law_831 (v := 1) (by decide) ?_
                                                      refine k_iadd O dL_law_832 ?_
                                                      obtain ⟨g232, h⟩ := gd_some h
                                                      refine k_sld O hLx g232 dL_law_833 ?_
                                                      obtain ⟨r235, w234, hc233, h⟩ := bd_some h
                                                      refine k_callVi O (As := [.int (xs (v3 + ((1 : Int32))).toNatClampNeg)]) (rest := []) (k := 0) (c_X7_night (x_l X) X.1 (by omega) hz hc233) gL_law_X7_night rfl hd_X7_night (by decide) (by omega) (E_0 hz) rfl rfl rfl rfl rfl (Nat.le_of_ble_eq_true rfl) dL_law_834 ?_
                                                      refine k_aload_n O dL_law_837 2 rfl ?_
                                                      refine k_aload_n O dL_law_838 0 rfl ?_
                                                      refine k_iload_n O dL_law_839 3 rfl ?_
                                                      refine k_iconst O dL_law_840 (v := 1) (by decide) ?_
                                                      refine k_iadd O dL_law_841 ?_
                                                      obtain ⟨g236, h⟩ := gd_some h
                                                      refine k_sld O hLx g236 dL_law_842 ?_
                                                      obtain ⟨r239, w238, hc237, h⟩ := bd_some h
                                                      refine k_callVi O (As := [.int (xs (v3 + ((1 : Int32))).toNatClampNeg)]) (rest := [.int r235]) (k := 105) (c_X8_night (x_l X) X.1 hN hc237) gL_law_X8_night rfl hd_X8_night (by decide) (by omega) E_105 rfl rfl rfl rfl rfl (Nat.le_of_ble_eq_true rfl) dL_law_843 ?_
                                                      refine k_icmp_eq O 920 dL_law_846 (by decide) (fun c240 => ?_) (fun c240 => ?_)
                                                      · have h := ite_t c240 h
                                                        exact k_sub [0, 1, 2, 3] rfl (w_L_law_920 O hLx hLr hN hz (fun {_} {_} h9 => ih h9) ho h)
                                                      · have h := ite_f c240 h
                                                        refine k_iconst O dL_law_849 (v := 0) (by decide) ?_
                                                        exact nomatch h
                                                    · have h := ite_f c231 h
                                                      refine (Decidable.em (((xs v3.toNatClampNeg) &&& ((31 : Int32))) = (24 : Int32))).elim (fun c241 => ?_) (fun c241 => ?_)
                                                      · have h := ite_t c241 h
                                                        refine k_tabIn O 851 dL_law_32 (by rw [c241]; decide) (by rw [c241]; decide) (off := 819) (by rw [c241]; try rfl) (by decide) ?_
                                                        refine k_aload_n O dL_law_851 1 rfl ?_
                                                        refine k_aload_n O dL_law_852 0 rfl ?_
                                                        refine k_iload_n O dL_law_853 3 rfl ?_
                                                        refine k_iconst O dL_law_854 (v := 1) (by decide) ?_
                                                        refine k_iadd O dL_law_855 ?_
                                                        obtain ⟨g242, h⟩ := gd_some h
                                                        refine k_sld O hLx g242 dL_law_856 ?_
                                                        obtain ⟨r245, w244, hc243, h⟩ := bd_some h
                                                        refine k_callVi O (As := [.int (xs (v3 + ((1 : Int32))).toNatClampNeg)]) (rest := []) (k := 0) (c_X7_keep (x_l X) X.1 (by omega) hz hc243) gL_law_X7_keep rfl hd_X7_keep (by decide) (by omega) (E_0 hz) rfl rfl rfl rfl rfl (Nat.le_of_ble_eq_true rfl) dL_law_857 ?_
                                                        refine k_aload_n O dL_law_860 2 rfl ?_
                                                        refine k_aload_n O dL_law_861 0 rfl ?_
                                                        refine k_iload_n O dL_law_862 3 rfl ?_
                                                        refine k_iconst O dL_law_863 (v := 1) (by decide) ?_
                                                        refine k_iadd O dL_law_864 ?_
                                                        obtain ⟨g246, h⟩ := gd_some h
                                                        refine k_sld O hLx g246 dL_law_865 ?_
                                                        obtain ⟨r249, w248, hc247, h⟩ := bd_some h
                                                        refine k_callVi O (As := [.int (xs (v3 + ((1 : Int32))).toNatClampNeg)]) (rest := [.int r245]) (k := 105) (c_X8_keep (x_l X) X.1 hN hc247) gL_law_X8_keep rfl hd_X8_keep (by decide) (by omega) E_105 rfl rfl rfl rfl rfl (Nat.le_of_ble_eq_true rfl) dL_law_866 ?_
                                                        refine k_icmp_eq O 920 dL_law_869 (by decide) (fun c250 => ?_) (fun c250 => ?_)
                                                        · have h := ite_t c250 h
                                                          exact k_sub [0, 1, 2, 3] rfl (w_L_law_920 O hLx hLr hN hz (fun {_} {_} h9 => ih h9) ho h)
                                                        · have h := ite_f c250 h
                                                          refine k_iconst O dL_law_872 (v := 0) (by decide) ?_
                                                          exact nomatch h
                                                      · have h := ite_f c241 h
                                                        refine (Decidable.em (((xs v3.toNatClampNeg) &&& ((31 : Int32))) = (25 : Int32))).elim (fun c251 => ?_) (fun c251 => ?_)
                                                        · have h := ite_t c251 h
                                                          refine k_tabIn O 874 dL_law_32 (by rw [c251]; decide) (by rw [c251]; decide) (off := 842) (by rw [c251]; try rfl) (by decide) ?_
                                                          refine k_aload_n O dL_law_874 1 rfl ?_
                                                          refine k_aload_n O dL_law_875 0 rfl ?_
                                                          refine k_iload_n O dL_law_876 3 rfl ?_
                                                          refine k_iconst O dL_law_877 (v := 1) (by decide) ?_
                                                          refine k_iadd O dL_law_878 ?_
                                                          obtain ⟨g252, h⟩ := gd_some h
                                                          refine k_sld O hLx g252 dL_law_879 ?_
                                                          obtain ⟨r255, w254, hc253, h⟩ := bd_some h
                                                          refine k_callVi O (As := [.int (xs (v3 + ((1 : Int32))).toNatClampNeg)]) (rest := []) (k := 0) (c_X7_again (x_l X) X.1 (by omega) hz hc253) gL_law_X7_again rfl hd_X7_again (by decide) (by omega) (E_0 hz) rfl rfl rfl rfl rfl (Nat.le_of_ble_eq_true rfl) dL_law_880 ?_
                                                          refine k_aload_n O dL_law_883 2 rfl ?_
                                                          refine k_aload_n O dL_law_884 0 rfl ?_
                                                          refine k_iload_n O dL_law_885 3 rfl ?_
                                                          refine k_iconst O dL_law_886 (v := 1) (by decide) ?_
                                                          refine k_iadd O dL_law_887 ?_
                                                          obtain ⟨g256, h⟩ := gd_some h
                                                          refine k_sld O hLx g256 dL_law_888 ?_
                                                          obtain ⟨r259, w258, hc257, h⟩ := bd_some h
                                                          refine k_callVi O (As := [.int (xs (v3 + ((1 : Int32))).toNatClampNeg)]) (rest := [.int r255]) (k := 105) (c_X8_again (x_l X) X.1 hN hc257) gL_law_X8_again rfl hd_X8_again (by decide) (by omega) E_105 rfl rfl rfl rfl rfl (Nat.le_of_ble_eq_true rfl) dL_law_889 ?_
                                                          refine k_icmp_eq O 920 dL_law_892 (by decide) (fun c260 => ?_) (fun c260 => ?_)
                                                          · have h := ite_t c260 h
                                                            exact k_sub [0, 1, 2, 3] rfl (w_L_law_920 O hLx hLr hN hz (fun {_} {_} h9 => ih h9) ho h)
                                                          · have h := ite_f c260 h
                                                            refine k_iconst O dL_law_895 (v := 0) (by decide) ?_
                                                            exact nomatch h
                                                        · have h := ite_f c251 h
                                                          refine (Decidable.em (((xs v3.toNatClampNeg) &&& ((31 : Int32))) = (26 : Int32))).elim (fun c261 => ?_) (fun c261 => ?_)
                                                          · have h := ite_t c261 h
                                                            refine k_tabIn O 897 dL_law_32 (by rw [c261]; decide) (by rw [c261]; decide) (off := 865) (by rw [c261]; try rfl) (by decide) ?_
                                                            refine k_aload_n O dL_law_897 1 rfl ?_
                                                            refine k_aload_n O dL_law_898 0 rfl ?_
                                                            refine k_iload_n O dL_law_899 3 rfl ?_
                                                            refine k_iconst O dL_law_900 (v := 1) (by decide) ?_
                                                            refine k_iadd O dL_law_901 ?_
                                                            obtain ⟨g262, h⟩ := gd_some h
                                                            refine k_sld O hLx g262 dL_law_902 ?_
                                                            obtain ⟨r265, w264, hc263, h⟩ := bd_some h
                                                            refine k_callVi O (As := [.int (xs (v3 + ((1 : Int32))).toNatClampNeg)]) (rest := []) (k := 0) (c_X7_count (x_l X) X.1 (by omega) hz hc263) gL_law_X7_count rfl hd_X7_count (by decide) (by omega) (E_0 hz) rfl rfl rfl rfl rfl (Nat.le_of_ble_eq_true rfl) dL_law_903 ?_
                                                            refine k_aload_n O dL_law_906 2 rfl ?_
                                                            refine k_aload_n O dL_law_907 0 rfl ?_
                                                            refine k_iload_n O dL_law_908 3 rfl ?_
                                                            refine k_iconst O dL_law_909 (v := 1) (by decide) ?_
                                                            refine k_iadd O dL_law_910 ?_
                                                            obtain ⟨g266, h⟩ := gd_some h
                                                            refine k_sld O hLx g266 dL_law_911 ?_
                                                            obtain ⟨r269, w268, hc267, h⟩ := bd_some h
                                                            refine k_callVi O (As := [.int (xs (v3 + ((1 : Int32))).toNatClampNeg)]) (rest := [.int r265]) (k := 105) (c_X8_count (x_l X) X.1 hN hc267) gL_law_X8_count rfl hd_X8_count (by decide) (by omega) E_105 rfl rfl rfl rfl rfl (Nat.le_of_ble_eq_true rfl) dL_law_912 ?_
                                                            refine k_icmp_eq O 920 dL_law_915 (by decide) (fun c270 => ?_) (fun c270 => ?_)
                                                            · have h := ite_t c270 h
                                                              exact k_sub [0, 1, 2, 3] rfl (w_L_law_920 O hLx hLr hN hz (fun {_} {_} h9 => ih h9) ho h)
                                                            · have h := ite_f c270 h
                                                              refine k_iconst O dL_law_918 (v := 0) (by decide) ?_
                                                              exact nomatch h
                                                          · have h := ite_f c261 h
                                                            refine k_tabOut O 920 dL_law_32 (by have nc3 := lv_neT c3 (a := 0) (by decide); have nc17 := lv_neT c17 (a := 1) (by decide); have nc25 := lv_neT c25 (a := 2) (by decide); have nc33 := lv_neT c33 (a := 3) (by decide); have nc41 := lv_neT c41 (a := 4) (by decide); have nc53 := lv_neT c53 (a := 5) (by decide); have nc65 := lv_neT c65 (a := 6) (by decide); have nc75 := lv_neT c75 (a := 7) (by decide); have nc78 := lv_neT c78 (a := 8) (by decide); have nc90 := lv_neT c90 (a := 9) (by decide); have nc100 := lv_neT c100 (a := 10) (by decide); have nc112 := lv_neT c112 (a := 11) (by decide); have nc122 := lv_neT c122 (a := 12) (by decide); have nc130 := lv_neT c130 (a := 13) (by decide); have nc140 := lv_neT c140 (a := 14) (by decide); have nc148 := lv_neT c148 (a := 15) (by decide); have nc156 := lv_neT c156 (a := 16) (by decide); have nc166 := lv_neT c166 (a := 17) (by decide); have nc178 := lv_neT c178 (a := 18) (by decide); have nc192 := lv_neT c192 (a := 19) (by decide); have nc202 := lv_neT c202 (a := 20) (by decide); have nc207 := lv_neT c207 (a := 21) (by decide); have nc219 := lv_neT c219 (a := 22) (by decide); have nc231 := lv_neT c231 (a := 23) (by decide); have nc241 := lv_neT c241 (a := 24) (by decide); have nc251 := lv_neT c251 (a := 25) (by decide); have nc261 := lv_neT c261 (a := 26) (by decide); omega) (by decide) ?_
                                                            exact k_sub [0, 1, 2, 3] rfl (w_L_law_920 O hLx hLr hN hz (fun {_} {_} h9 => ih h9) ho h)
