section LWC
variable {p : Program} {l : Launch} {e : Env} {s : State} {m : MethodId} {args : Array Value} {below : List Frame} {meth : Method} {c : Code} {H : Heap} {locs : List Loc} {Q : State → Prop} {ls : Array Slot} {D : va_G} {T : Cy} {A : Nat → Prop} {Z : Ad} {ρ ρ2 : Nat → Nat} {S S2 S' S2' : St} {b L i g : Nat} {xs : Nat → Int32}
set_option maxRecDepth 100000 in
set_option maxHeartbeats 4000000 in
theorem lc_feed (C : CallFix p m c cL_law 4 s args tb RL) (hcn : Kn Z A s s.heap) (hcw : Kw Z s) (hX : va_X b L xs s s.heap) (hbl : b < s.heap.size) (hbA : ¬ A b) (hL : L ≤ 3072) (w : Wg D T (wl Yc T ρ S ++ wl Ym T ρ2 S2) A s H locs) (hl : lv_has ls 4 [(3, .int (nI i)), (0, .ref b), (1, .ref (ρ 0)), (2, .ref (ρ2 0))]) (hi : i + 6 ≤ L) {r : Int32} (h1 : m_TL_feed g S (xs (i + 1)) (xs (i + 2)) (xs (i + 3)) (xs (i + 4)) (xs (i + 5)) = some (S', r)) (h2 : m_feed g S2 (xs (i + 1)) (xs (i + 2)) (xs (i + 3)) (xs (i + 4)) (xs (i + 5)) = some (S2', r)) (hk0 : kap SC0 ≤ kap S) (hk1 : kap S ≤ kap S') (hk2 : kap S' ≤ 100000) (kk : ∀ (ρ1 : Nat → Nat) (H : Heap) (locs : List Loc), ρ1 0 = ρ 0 → Wg D T (wl Yc T ρ1 S' ++ wl Ym T ρ2 S2') A s H locs → W p l e room_1 s m args below meth c H locs (122 + (kap S' - kap SC0)) (69341 + 2 * (kap S' - kap SC0)) Q (F0 m 721 ls [])) : W p l e room_1 s m args below meth c H locs (122 + (kap S - kap SC0)) (69341 + 2 * (kap S - kap SC0)) Q (F0 m 140 ls []) := by
  refine lv_aload_n C.1 C.2.1 dL_law_140 rfl (lv_at hl 2 rfl) ?_
  refine g_ld (k := 1) C hX hbl hbA w.2.2.2.1 hl (by omega) hL (by decide +kernel) dL_law_141 dL_law_142 dL_law_143 dL_law_144 dL_law_145 ?_
  refine g_ld (k := 2) C hX hbl hbA w.2.2.2.1 hl (by omega) hL (by decide +kernel) dL_law_146 dL_law_147 dL_law_148 dL_law_149 dL_law_150 ?_
  refine g_ld (k := 3) C hX hbl hbA w.2.2.2.1 hl (by omega) hL (by decide +kernel) dL_law_151 dL_law_152 dL_law_153 dL_law_154 dL_law_155 ?_
  refine g_ld (k := 4) C hX hbl hbA w.2.2.2.1 hl (by omega) hL (by decide +kernel) dL_law_156 dL_law_157 dL_law_158 dL_law_159 dL_law_160 ?_
  refine g_ld (k := 5) C hX hbl hbA w.2.2.2.1 hl (by omega) hL (by decide +kernel) dL_law_161 dL_law_162 dL_law_163 dL_law_164 dL_law_165 ?_
  have hw := w
  refine g_M (As := [.int (xs (i + 1)), .int (xs (i + 2)), .int (xs (i + 3)), .int (xs (i + 4)), .int (xs (i + 5))]) (rest := []) C w (k_TL_feed l D T ρ g H.size S h1) vL_13 ⟨by decide, by decide⟩ rfl rfl hl.1 (Nat.le_of_ble_eq_true rfl) ⟨show _ ≤ 600000 by omega, show _ ≤ 7302250 by omega⟩ dL_law_166 (fun ρ1 H locs hr0 w => ?_)
  refine W.widen (k := (122 + (kap S' - kap SC0))) (n := (69341 + 2 * (kap S' - kap SC0))) (by omega) (by omega) ?_
  refine lv_aload_n C.1 C.2.1 dL_law_169 rfl (lv_at hl 3 rfl) ?_
  refine g_ld (k := 1) C hX hbl hbA w.2.2.2.1 hl (by omega) hL (by decide +kernel) dL_law_170 dL_law_171 dL_law_172 dL_law_173 dL_law_174 ?_
  refine g_ld (k := 2) C hX hbl hbA w.2.2.2.1 hl (by omega) hL (by decide +kernel) dL_law_175 dL_law_176 dL_law_177 dL_law_178 dL_law_179 ?_
  refine g_ld (k := 3) C hX hbl hbA w.2.2.2.1 hl (by omega) hL (by decide +kernel) dL_law_180 dL_law_181 dL_law_182 dL_law_183 dL_law_184 ?_
  refine g_ld (k := 4) C hX hbl hbA w.2.2.2.1 hl (by omega) hL (by decide +kernel) dL_law_185 dL_law_186 dL_law_187 dL_law_188 dL_law_189 ?_
  refine g_ld (k := 5) C hX hbl hbA w.2.2.2.1 hl (by omega) hL (by decide +kernel) dL_law_190 dL_law_191 dL_law_192 dL_law_193 dL_law_194 ?_
  refine g_i (q := (RX13, TX13, 68)) (ci := 10) (As := [.int (xs (i + 1)), .int (xs (i + 2)), .int (xs (i + 3)), .int (xs (i + 4)), .int (xs (i + 5))]) (rest := [.int r]) C (g_swap w) ⟨by decide, rfl⟩ (by decide) rfl (k_feed l D T ρ2 g H.size S2 h2) vL_17 ⟨by decide, by decide⟩ rfl rfl hl.1 (Nat.le_of_ble_eq_true rfl) ⟨show _ ≤ 600000 by omega, show _ ≤ 7302250 by omega⟩ dL_law_195 (fun H locs w => ?_)
  replace w := g_swap w
  refine lv_icmp_eq (tgt := 721) C.1 C.2.1 dL_law_198 (by decide) (fun hc => ?_) (fun hc => absurd rfl hc)
  exact kk ρ1 H locs hr0 w
set_option maxRecDepth 100000 in
set_option maxHeartbeats 4000000 in
theorem lc_cut (C : CallFix p m c cL_law 4 s args tb RL) (hcn : Kn Z A s s.heap) (hcw : Kw Z s) (hX : va_X b L xs s s.heap) (hbl : b < s.heap.size) (hbA : ¬ A b) (hL : L ≤ 3072) (w : Wg D T (wl Yc T ρ S ++ wl Ym T ρ2 S2) A s H locs) (hl : lv_has ls 4 [(3, .int (nI i)), (0, .ref b), (1, .ref (ρ 0)), (2, .ref (ρ2 0))]) (hi : i + 6 ≤ L) {r : Int32} (h1 : m_TL_cut g S (xs (i + 1)) = some (S', r)) (h2 : m_cut g S2 (xs (i + 1)) = some (S2', r)) (hk0 : kap SC0 ≤ kap S) (hk1 : kap S ≤ kap S') (hk2 : kap S' ≤ 100000) (kk : ∀ (ρ1 : Nat → Nat) (H : Heap) (locs : List Loc), ρ1 0 = ρ 0 → Wg D T (wl Yc T ρ1 S' ++ wl Ym T ρ2 S2') A s H locs → W p l e room_1 s m args below meth c H locs (122 + (kap S' - kap SC0)) (69341 + 2 * (kap S' - kap SC0)) Q (F0 m 721 ls [])) : W p l e room_1 s m args below meth c H locs (122 + (kap S - kap SC0)) (69341 + 2 * (kap S - kap SC0)) Q (F0 m 203 ls []) := by
  refine lv_aload_n C.1 C.2.1 dL_law_203 rfl (lv_at hl 2 rfl) ?_
  refine g_ld (k := 1) C hX hbl hbA w.2.2.2.1 hl (by omega) hL (by decide +kernel) dL_law_204 dL_law_205 dL_law_206 dL_law_207 dL_law_208 ?_
  have hw := w
  refine g_i (q := (RX12, TX12, 7)) (As := [.int (xs (i + 1))]) (rest := []) C w obC0 (by decide) rfl (k_TL_cut l D T ρ g H.size S h1) vL_18 ⟨by decide, by decide⟩ rfl rfl hl.1 (Nat.le_of_ble_eq_true rfl) ⟨show _ ≤ 600000 by omega, show _ ≤ 7302250 by omega⟩ dL_law_209 (fun H locs w => ?_)
  refine W.widen (k := (122 + (kap S' - kap SC0))) (n := (69341 + 2 * (kap S' - kap SC0))) (by omega) (by omega) ?_
  refine lv_aload_n C.1 C.2.1 dL_law_212 rfl (lv_at hl 3 rfl) ?_
  refine g_ld (k := 1) C hX hbl hbA w.2.2.2.1 hl (by omega) hL (by decide +kernel) dL_law_213 dL_law_214 dL_law_215 dL_law_216 dL_law_217 ?_
  refine g_i (q := (RX13, TX13, 68)) (ci := 10) (As := [.int (xs (i + 1))]) (rest := [.int r]) C (g_swap w) ⟨by decide, rfl⟩ (by decide) rfl (k_cut l D T ρ2 g H.size S2 h2) vL_22 ⟨by decide, by decide⟩ rfl rfl hl.1 (Nat.le_of_ble_eq_true rfl) ⟨show _ ≤ 600000 by omega, show _ ≤ 7302250 by omega⟩ dL_law_218 (fun H locs w => ?_)
  replace w := g_swap w
  refine lv_icmp_eq (tgt := 721) C.1 C.2.1 dL_law_221 (by decide) (fun hc => ?_) (fun hc => absurd rfl hc)
  exact kk ρ H locs rfl w
set_option maxRecDepth 100000 in
set_option maxHeartbeats 4000000 in
theorem lc_compile (C : CallFix p m c cL_law 4 s args tb RL) (hcn : Kn Z A s s.heap) (hcw : Kw Z s) (hX : va_X b L xs s s.heap) (hbl : b < s.heap.size) (hbA : ¬ A b) (hL : L ≤ 3072) (w : Wg D T (wl Yc T ρ S ++ wl Ym T ρ2 S2) A s H locs) (hl : lv_has ls 4 [(3, .int (nI i)), (0, .ref b), (1, .ref (ρ 0)), (2, .ref (ρ2 0))]) (hi : i + 6 ≤ L) {r : Int32} (h1 : m_TL_compile g S = some (S', r)) (h2 : m_compile g S2 = some (S2', r)) (hk0 : kap SC0 ≤ kap S) (hk1 : kap S ≤ kap S') (hk2 : kap S' ≤ 100000) (kk : ∀ (ρ1 : Nat → Nat) (H : Heap) (locs : List Loc), ρ1 0 = ρ 0 → Wg D T (wl Yc T ρ1 S' ++ wl Ym T ρ2 S2') A s H locs → W p l e room_1 s m args below meth c H locs (122 + (kap S' - kap SC0)) (69341 + 2 * (kap S' - kap SC0)) Q (F0 m 721 ls [])) : W p l e room_1 s m args below meth c H locs (122 + (kap S - kap SC0)) (69341 + 2 * (kap S - kap SC0)) Q (F0 m 226 ls []) := by
  refine lv_aload_n C.1 C.2.1 dL_law_226 rfl (lv_at hl 2 rfl) ?_
  have hw := w
  refine g_C (As := []) (rest := []) C w hcn hcw (k_TL_compile l Z D T ρ g H.size S h1) vL_23 ⟨by decide, by decide⟩ rfl rfl hl.1 (Nat.le_of_ble_eq_true rfl) ⟨show _ ≤ 600000 by omega, show _ ≤ 7302250 by omega⟩ dL_law_227 (fun ρ1 H locs hr0 w => ?_)
  refine W.widen (k := (122 + (kap S' - kap SC0))) (n := (69341 + 2 * (kap S' - kap SC0))) (by omega) (by omega) ?_
  refine lv_aload_n C.1 C.2.1 dL_law_230 rfl (lv_at hl 3 rfl) ?_
  refine g_i (q := (RX13, TX13, 68)) (ci := 10) (As := []) (rest := [.int r]) C (g_swap w) ⟨by decide, rfl⟩ (by decide) rfl (k_compile l D T ρ2 g H.size S2 h2) vL_27 ⟨by decide, by decide⟩ rfl rfl hl.1 (Nat.le_of_ble_eq_true rfl) ⟨show _ ≤ 600000 by omega, show _ ≤ 7302250 by omega⟩ dL_law_231 (fun H locs w => ?_)
  replace w := g_swap w
  refine lv_icmp_eq (tgt := 721) C.1 C.2.1 dL_law_234 (by decide) (fun hc => ?_) (fun hc => absurd rfl hc)
  exact kk ρ1 H locs hr0 w
set_option maxRecDepth 100000 in
set_option maxHeartbeats 4000000 in
theorem lc_run (C : CallFix p m c cL_law 4 s args tb RL) (hcn : Kn Z A s s.heap) (hcw : Kw Z s) (hX : va_X b L xs s s.heap) (hbl : b < s.heap.size) (hbA : ¬ A b) (hL : L ≤ 3072) (w : Wg D T (wl Yc T ρ S ++ wl Ym T ρ2 S2) A s H locs) (hl : lv_has ls 4 [(3, .int (nI i)), (0, .ref b), (1, .ref (ρ 0)), (2, .ref (ρ2 0))]) (hi : i + 6 ≤ L) {r : Int32} (h1 : m_TL_run g S = some (S', r)) (h2 : m_run g S2 = some (S2', r)) (hk0 : kap SC0 ≤ kap S) (hk1 : kap S ≤ kap S') (hk2 : kap S' ≤ 100000) (kk : ∀ (ρ1 : Nat → Nat) (H : Heap) (locs : List Loc), ρ1 0 = ρ 0 → Wg D T (wl Yc T ρ1 S' ++ wl Ym T ρ2 S2') A s H locs → W p l e room_1 s m args below meth c H locs (122 + (kap S' - kap SC0)) (69341 + 2 * (kap S' - kap SC0)) Q (F0 m 721 ls [])) : W p l e room_1 s m args below meth c H locs (122 + (kap S - kap SC0)) (69341 + 2 * (kap S - kap SC0)) Q (F0 m 239 ls []) := by
  refine lv_aload_n C.1 C.2.1 dL_law_239 rfl (lv_at hl 2 rfl) ?_
  have hw := w
  refine g_C (As := []) (rest := []) C w hcn hcw (k_TL_run l Z D T ρ g H.size S h1) vL_28 ⟨by decide, by decide⟩ rfl rfl hl.1 (Nat.le_of_ble_eq_true rfl) ⟨show _ ≤ 600000 by omega, show _ ≤ 7302250 by omega⟩ dL_law_240 (fun ρ1 H locs hr0 w => ?_)
  refine W.widen (k := (122 + (kap S' - kap SC0))) (n := (69341 + 2 * (kap S' - kap SC0))) (by omega) (by omega) ?_
  refine lv_aload_n C.1 C.2.1 dL_law_243 rfl (lv_at hl 3 rfl) ?_
  refine g_i (q := (RX13, TX13, 68)) (ci := 10) (As := []) (rest := [.int r]) C (g_swap w) ⟨by decide, rfl⟩ (by decide) rfl (k_run l D T ρ2 g H.size S2 h2) vL_31 ⟨by decide, by decide⟩ rfl rfl hl.1 (Nat.le_of_ble_eq_true rfl) ⟨show _ ≤ 600000 by omega, show _ ≤ 7302250 by omega⟩ dL_law_244 (fun H locs w => ?_)
  replace w := g_swap w
  refine lv_icmp_eq (tgt := 721) C.1 C.2.1 dL_law_247 (by decide) (fun hc => ?_) (fun hc => absurd rfl hc)
  exact kk ρ1 H locs hr0 w
set_option maxRecDepth 100000 in
set_option maxHeartbeats 4000000 in
theorem lc_ended (C : CallFix p m c cL_law 4 s args tb RL) (hcn : Kn Z A s s.heap) (hcw : Kw Z s) (hX : va_X b L xs s s.heap) (hbl : b < s.heap.size) (hbA : ¬ A b) (hL : L ≤ 3072) (w : Wg D T (wl Yc T ρ S ++ wl Ym T ρ2 S2) A s H locs) (hl : lv_has ls 4 [(3, .int (nI i)), (0, .ref b), (1, .ref (ρ 0)), (2, .ref (ρ2 0))]) (hi : i + 6 ≤ L) {r : Int32} (h1 : m_TL_ended g S (xs (i + 1)) = some r) (h2 : m_ended g S2 (xs (i + 1)) = some r) (hk0 : kap SC0 ≤ kap S) (hk2 : kap S ≤ 100000) (kk : ∀ (ρ1 : Nat → Nat) (H : Heap) (locs : List Loc), ρ1 0 = ρ 0 → Wg D T (wl Yc T ρ1 S ++ wl Ym T ρ2 S2) A s H locs → W p l e room_1 s m args below meth c H locs (122 + (kap S - kap SC0)) (69341 + 2 * (kap S - kap SC0)) Q (F0 m 721 ls [])) : W p l e room_1 s m args below meth c H locs (122 + (kap S - kap SC0)) (69341 + 2 * (kap S - kap SC0)) Q (F0 m 252 ls []) := by
  refine lv_aload_n C.1 C.2.1 dL_law_252 rfl (lv_at hl 2 rfl) ?_
  refine g_ld (k := 1) C hX hbl hbA w.2.2.2.1 hl (by omega) hL (by decide +kernel) dL_law_253 dL_law_254 dL_law_255 dL_law_256 dL_law_257 ?_
  have hw := w
  refine g_i (q := (RX12, TX12, 7)) (As := [.int (xs (i + 1))]) (rest := []) C w obC0 (by decide) rfl (k_TL_ended l D T ρ g H.size S h1) vL_32 ⟨by decide, by decide⟩ rfl rfl hl.1 (Nat.le_of_ble_eq_true rfl) ⟨show _ ≤ 600000 by omega, show _ ≤ 7302250 by omega⟩ dL_law_258 (fun H locs w => ?_)
  refine W.widen (k := (122 + (kap S - kap SC0))) (n := (69341 + 2 * (kap S - kap SC0))) (by omega) (by omega) ?_
  refine lv_aload_n C.1 C.2.1 dL_law_261 rfl (lv_at hl 3 rfl) ?_
  refine g_ld (k := 1) C hX hbl hbA w.2.2.2.1 hl (by omega) hL (by decide +kernel) dL_law_262 dL_law_263 dL_law_264 dL_law_265 dL_law_266 ?_
  refine g_i (q := (RX13, TX13, 68)) (ci := 10) (As := [.int (xs (i + 1))]) (rest := [.int r]) C (g_swap w) ⟨by decide, rfl⟩ (by decide) rfl (k_ended l D T ρ2 g H.size S2 h2) vL_35 ⟨by decide, by decide⟩ rfl rfl hl.1 (Nat.le_of_ble_eq_true rfl) ⟨show _ ≤ 600000 by omega, show _ ≤ 7302250 by omega⟩ dL_law_267 (fun H locs w => ?_)
  replace w := g_swap w
  refine lv_icmp_eq (tgt := 721) C.1 C.2.1 dL_law_270 (by decide) (fun hc => ?_) (fun hc => absurd rfl hc)
  exact kk ρ H locs rfl w
set_option maxRecDepth 100000 in
set_option maxHeartbeats 4000000 in
theorem lc_done (C : CallFix p m c cL_law 4 s args tb RL) (hcn : Kn Z A s s.heap) (hcw : Kw Z s) (hX : va_X b L xs s s.heap) (hbl : b < s.heap.size) (hbA : ¬ A b) (hL : L ≤ 3072) (w : Wg D T (wl Yc T ρ S ++ wl Ym T ρ2 S2) A s H locs) (hl : lv_has ls 4 [(3, .int (nI i)), (0, .ref b), (1, .ref (ρ 0)), (2, .ref (ρ2 0))]) (hi : i + 6 ≤ L) {r : Int32} (h1 : m_TL_done g S (xs (i + 1)) = some r) (h2 : m_done g S2 (xs (i + 1)) = some r) (hk0 : kap SC0 ≤ kap S) (hk2 : kap S ≤ 100000) (kk : ∀ (ρ1 : Nat → Nat) (H : Heap) (locs : List Loc), ρ1 0 = ρ 0 → Wg D T (wl Yc T ρ1 S ++ wl Ym T ρ2 S2) A s H locs → W p l e room_1 s m args below meth c H locs (122 + (kap S - kap SC0)) (69341 + 2 * (kap S - kap SC0)) Q (F0 m 721 ls [])) : W p l e room_1 s m args below meth c H locs (122 + (kap S - kap SC0)) (69341 + 2 * (kap S - kap SC0)) Q (F0 m 275 ls []) := by
  refine lv_aload_n C.1 C.2.1 dL_law_275 rfl (lv_at hl 2 rfl) ?_
  refine g_ld (k := 1) C hX hbl hbA w.2.2.2.1 hl (by omega) hL (by decide +kernel) dL_law_276 dL_law_277 dL_law_278 dL_law_279 dL_law_280 ?_
  have hw := w
  refine g_i (q := (RX12, TX12, 7)) (As := [.int (xs (i + 1))]) (rest := []) C w obC0 (by decide) rfl (k_TL_done l D T ρ g H.size S h1) vL_36 ⟨by decide, by decide⟩ rfl rfl hl.1 (Nat.le_of_ble_eq_true rfl) ⟨show _ ≤ 600000 by omega, show _ ≤ 7302250 by omega⟩ dL_law_281 (fun H locs w => ?_)
  refine W.widen (k := (122 + (kap S - kap SC0))) (n := (69341 + 2 * (kap S - kap SC0))) (by omega) (by omega) ?_
  refine lv_aload_n C.1 C.2.1 dL_law_284 rfl (lv_at hl 3 rfl) ?_
  refine g_ld (k := 1) C hX hbl hbA w.2.2.2.1 hl (by omega) hL (by decide +kernel) dL_law_285 dL_law_286 dL_law_287 dL_law_288 dL_law_289 ?_
  refine g_i (q := (RX13, TX13, 68)) (ci := 10) (As := [.int (xs (i + 1))]) (rest := [.int r]) C (g_swap w) ⟨by decide, rfl⟩ (by decide) rfl (k_done l D T ρ2 g H.size S2 h2) vL_39 ⟨by decide, by decide⟩ rfl rfl hl.1 (Nat.le_of_ble_eq_true rfl) ⟨show _ ≤ 600000 by omega, show _ ≤ 7302250 by omega⟩ dL_law_290 (fun H locs w => ?_)
  replace w := g_swap w
  refine lv_icmp_eq (tgt := 721) C.1 C.2.1 dL_law_293 (by decide) (fun hc => ?_) (fun hc => absurd rfl hc)
  exact kk ρ H locs rfl w
set_option maxRecDepth 100000 in
set_option maxHeartbeats 4000000 in
theorem lc_step (C : CallFix p m c cL_law 4 s args tb RL) (hcn : Kn Z A s s.heap) (hcw : Kw Z s) (hX : va_X b L xs s s.heap) (hbl : b < s.heap.size) (hbA : ¬ A b) (hL : L ≤ 3072) (w : Wg D T (wl Yc T ρ S ++ wl Ym T ρ2 S2) A s H locs) (hl : lv_has ls 4 [(3, .int (nI i)), (0, .ref b), (1, .ref (ρ 0)), (2, .ref (ρ2 0))]) (hi : i + 6 ≤ L) {r : Int32} (h1 : m_TL_step g S (xs (i + 1)) (xs (i + 2)) = some r) (h2 : m_step g S2 (xs (i + 1)) (xs (i + 2)) = some r) (hk0 : kap SC0 ≤ kap S) (hk2 : kap S ≤ 100000) (kk : ∀ (ρ1 : Nat → Nat) (H : Heap) (locs : List Loc), ρ1 0 = ρ 0 → Wg D T (wl Yc T ρ1 S ++ wl Ym T ρ2 S2) A s H locs → W p l e room_1 s m args below meth c H locs (122 + (kap S - kap SC0)) (69341 + 2 * (kap S - kap SC0)) Q (F0 m 721 ls [])) : W p l e room_1 s m args below meth c H locs (122 + (kap S - kap SC0)) (69341 + 2 * (kap S - kap SC0)) Q (F0 m 298 ls []) := by
  refine lv_aload_n C.1 C.2.1 dL_law_298 rfl (lv_at hl 2 rfl) ?_
  refine g_ld (k := 1) C hX hbl hbA w.2.2.2.1 hl (by omega) hL (by decide +kernel) dL_law_299 dL_law_300 dL_law_301 dL_law_302 dL_law_303 ?_
  refine g_ld (k := 2) C hX hbl hbA w.2.2.2.1 hl (by omega) hL (by decide +kernel) dL_law_304 dL_law_305 dL_law_306 dL_law_307 dL_law_308 ?_
  have hw := w
  refine g_i (q := (RX12, TX12, 7)) (As := [.int (xs (i + 1)), .int (xs (i + 2))]) (rest := []) C w obC0 (by decide) rfl (k_TL_step l D T ρ g H.size S h1) vL_40 ⟨by decide, by decide⟩ rfl rfl hl.1 (Nat.le_of_ble_eq_true rfl) ⟨show _ ≤ 600000 by omega, show _ ≤ 7302250 by omega⟩ dL_law_309 (fun H locs w => ?_)
  refine W.widen (k := (122 + (kap S - kap SC0))) (n := (69341 + 2 * (kap S - kap SC0))) (by omega) (by omega) ?_
  refine lv_aload_n C.1 C.2.1 dL_law_312 rfl (lv_at hl 3 rfl) ?_
  refine g_ld (k := 1) C hX hbl hbA w.2.2.2.1 hl (by omega) hL (by decide +kernel) dL_law_313 dL_law_314 dL_law_315 dL_law_316 dL_law_317 ?_
  refine g_ld (k := 2) C hX hbl hbA w.2.2.2.1 hl (by omega) hL (by decide +kernel) dL_law_318 dL_law_319 dL_law_320 dL_law_321 dL_law_322 ?_
  refine g_i (q := (RX13, TX13, 68)) (ci := 10) (As := [.int (xs (i + 1)), .int (xs (i + 2))]) (rest := [.int r]) C (g_swap w) ⟨by decide, rfl⟩ (by decide) rfl (k_step l D T ρ2 g H.size S2 h2) vL_44 ⟨by decide, by decide⟩ rfl rfl hl.1 (Nat.le_of_ble_eq_true rfl) ⟨show _ ≤ 600000 by omega, show _ ≤ 7302250 by omega⟩ dL_law_323 (fun H locs w => ?_)
  replace w := g_swap w
  refine lv_icmp_eq (tgt := 721) C.1 C.2.1 dL_law_326 (by decide) (fun hc => ?_) (fun hc => absurd rfl hc)
  exact kk ρ H locs rfl w
set_option maxRecDepth 100000 in
set_option maxHeartbeats 4000000 in
theorem lc_spelled (C : CallFix p m c cL_law 4 s args tb RL) (hcn : Kn Z A s s.heap) (hcw : Kw Z s) (hX : va_X b L xs s s.heap) (hbl : b < s.heap.size) (hbA : ¬ A b) (hL : L ≤ 3072) (w : Wg D T (wl Yc T ρ S ++ wl Ym T ρ2 S2) A s H locs) (hl : lv_has ls 4 [(3, .int (nI i)), (0, .ref b), (1, .ref (ρ 0)), (2, .ref (ρ2 0))]) (hi : i + 6 ≤ L) {r : Int32} (h1 : m_TL_spelled g S (xs (i + 1)) (xs (i + 2)) = some (S', r)) (h2 : m_spelled g S2 (xs (i + 1)) (xs (i + 2)) = some (S2', r)) (hk0 : kap SC0 ≤ kap S) (hk1 : kap S ≤ kap S') (hk2 : kap S' ≤ 100000) (kk : ∀ (ρ1 : Nat → Nat) (H : Heap) (locs : List Loc), ρ1 0 = ρ 0 → Wg D T (wl Yc T ρ1 S' ++ wl Ym T ρ2 S2') A s H locs → W p l e room_1 s m args below meth c H locs (122 + (kap S' - kap SC0)) (69341 + 2 * (kap S' - kap SC0)) Q (F0 m 721 ls [])) : W p l e room_1 s m args below meth c H locs (122 + (kap S - kap SC0)) (69341 + 2 * (kap S - kap SC0)) Q (F0 m 331 ls []) := by
  refine lv_aload_n C.1 C.2.1 dL_law_331 rfl (lv_at hl 2 rfl) ?_
  refine g_ld (k := 1) C hX hbl hbA w.2.2.2.1 hl (by omega) hL (by decide +kernel) dL_law_332 dL_law_333 dL_law_334 dL_law_335 dL_law_336 ?_
  refine g_ld (k := 2) C hX hbl hbA w.2.2.2.1 hl (by omega) hL (by decide +kernel) dL_law_337 dL_law_338 dL_law_339 dL_law_340 dL_law_341 ?_
  have hw := w
  refine g_C (As := [.int (xs (i + 1)), .int (xs (i + 2))]) (rest := []) C w hcn hcw (k_TL_spelled l Z D T ρ g H.size S h1) vL_45 ⟨by decide, by decide⟩ rfl rfl hl.1 (Nat.le_of_ble_eq_true rfl) ⟨show _ ≤ 600000 by omega, show _ ≤ 7302250 by omega⟩ dL_law_342 (fun ρ1 H locs hr0 w => ?_)
  refine W.widen (k := (122 + (kap S' - kap SC0))) (n := (69341 + 2 * (kap S' - kap SC0))) (by omega) (by omega) ?_
  refine lv_aload_n C.1 C.2.1 dL_law_345 rfl (lv_at hl 3 rfl) ?_
  refine g_ld (k := 1) C hX hbl hbA w.2.2.2.1 hl (by omega) hL (by decide +kernel) dL_law_346 dL_law_347 dL_law_348 dL_law_349 dL_law_350 ?_
  refine g_ld (k := 2) C hX hbl hbA w.2.2.2.1 hl (by omega) hL (by decide +kernel) dL_law_351 dL_law_352 dL_law_353 dL_law_354 dL_law_355 ?_
  refine g_i (q := (RX13, TX13, 68)) (ci := 10) (As := [.int (xs (i + 1)), .int (xs (i + 2))]) (rest := [.int r]) C (g_swap w) ⟨by decide, rfl⟩ (by decide) rfl (k_spelled l D T ρ2 g H.size S2 h2) vL_48 ⟨by decide, by decide⟩ rfl rfl hl.1 (Nat.le_of_ble_eq_true rfl) ⟨show _ ≤ 600000 by omega, show _ ≤ 7302250 by omega⟩ dL_law_356 (fun H locs w => ?_)
  replace w := g_swap w
  refine lv_icmp_eq (tgt := 721) C.1 C.2.1 dL_law_359 (by decide) (fun hc => ?_) (fun hc => absurd rfl hc)
  exact kk ρ1 H locs hr0 w
set_option maxRecDepth 100000 in
set_option maxHeartbeats 4000000 in
theorem lc_shrink (C : CallFix p m c cL_law 4 s args tb RL) (hcn : Kn Z A s s.heap) (hcw : Kw Z s) (hX : va_X b L xs s s.heap) (hbl : b < s.heap.size) (hbA : ¬ A b) (hL : L ≤ 3072) (w : Wg D T (wl Yc T ρ S ++ wl Ym T ρ2 S2) A s H locs) (hl : lv_has ls 4 [(3, .int (nI i)), (0, .ref b), (1, .ref (ρ 0)), (2, .ref (ρ2 0))]) (hi : i + 6 ≤ L) {r : Int32} (h1 : m_TL_shrink g S = some (S', r)) (h2 : m_shrink g S2 = some (S2', r)) (hk0 : kap SC0 ≤ kap S) (hk1 : kap S ≤ kap S') (hk2 : kap S' ≤ 100000) (kk : ∀ (ρ1 : Nat → Nat) (H : Heap) (locs : List Loc), ρ1 0 = ρ 0 → Wg D T (wl Yc T ρ1 S' ++ wl Ym T ρ2 S2') A s H locs → W p l e room_1 s m args below meth c H locs (122 + (kap S' - kap SC0)) (69341 + 2 * (kap S' - kap SC0)) Q (F0 m 721 ls [])) : W p l e room_1 s m args below meth c H locs (122 + (kap S - kap SC0)) (69341 + 2 * (kap S - kap SC0)) Q (F0 m 364 ls []) := by
  refine lv_aload_n C.1 C.2.1 dL_law_364 rfl (lv_at hl 2 rfl) ?_
  have hw := w
  refine g_C (As := []) (rest := []) C w hcn hcw (k_TL_shrink l Z D T ρ g H.size S h1) vL_49 ⟨by decide, by decide⟩ rfl rfl hl.1 (Nat.le_of_ble_eq_true rfl) ⟨show _ ≤ 600000 by omega, show _ ≤ 7302250 by omega⟩ dL_law_365 (fun ρ1 H locs hr0 w => ?_)
  refine W.widen (k := (122 + (kap S' - kap SC0))) (n := (69341 + 2 * (kap S' - kap SC0))) (by omega) (by omega) ?_
  refine lv_aload_n C.1 C.2.1 dL_law_368 rfl (lv_at hl 3 rfl) ?_
  refine g_i (q := (RX13, TX13, 68)) (ci := 10) (As := []) (rest := [.int r]) C (g_swap w) ⟨by decide, rfl⟩ (by decide) rfl (k_shrink l D T ρ2 g H.size S2 h2) vL_52 ⟨by decide, by decide⟩ rfl rfl hl.1 (Nat.le_of_ble_eq_true rfl) ⟨show _ ≤ 600000 by omega, show _ ≤ 7302250 by omega⟩ dL_law_369 (fun H locs w => ?_)
  replace w := g_swap w
  refine lv_icmp_eq (tgt := 721) C.1 C.2.1 dL_law_372 (by decide) (fun hc => ?_) (fun hc => absurd rfl hc)
  exact kk ρ1 H locs hr0 w
set_option maxRecDepth 100000 in
set_option maxHeartbeats 4000000 in
theorem lc_length (C : CallFix p m c cL_law 4 s args tb RL) (hcn : Kn Z A s s.heap) (hcw : Kw Z s) (hX : va_X b L xs s s.heap) (hbl : b < s.heap.size) (hbA : ¬ A b) (hL : L ≤ 3072) (w : Wg D T (wl Yc T ρ S ++ wl Ym T ρ2 S2) A s H locs) (hl : lv_has ls 4 [(3, .int (nI i)), (0, .ref b), (1, .ref (ρ 0)), (2, .ref (ρ2 0))]) (hi : i + 6 ≤ L) {r : Int32} (h1 : m_TL_length g S (xs (i + 1)) = some r) (h2 : m_length g S2 (xs (i + 1)) = some r) (hk0 : kap SC0 ≤ kap S) (hk2 : kap S ≤ 100000) (kk : ∀ (ρ1 : Nat → Nat) (H : Heap) (locs : List Loc), ρ1 0 = ρ 0 → Wg D T (wl Yc T ρ1 S ++ wl Ym T ρ2 S2) A s H locs → W p l e room_1 s m args below meth c H locs (122 + (kap S - kap SC0)) (69341 + 2 * (kap S - kap SC0)) Q (F0 m 721 ls [])) : W p l e room_1 s m args below meth c H locs (122 + (kap S - kap SC0)) (69341 + 2 * (kap S - kap SC0)) Q (F0 m 377 ls []) := by
  refine lv_aload_n C.1 C.2.1 dL_law_377 rfl (lv_at hl 2 rfl) ?_
  refine g_ld (k := 1) C hX hbl hbA w.2.2.2.1 hl (by omega) hL (by decide +kernel) dL_law_378 dL_law_379 dL_law_380 dL_law_381 dL_law_382 ?_
  have hw := w
  refine g_i (q := (RX12, TX12, 7)) (As := [.int (xs (i + 1))]) (rest := []) C w obC0 (by decide) rfl (k_TL_length l D T ρ g H.size S h1) vL_53 ⟨by decide, by decide⟩ rfl rfl hl.1 (Nat.le_of_ble_eq_true rfl) ⟨show _ ≤ 600000 by omega, show _ ≤ 7302250 by omega⟩ dL_law_383 (fun H locs w => ?_)
  refine W.widen (k := (122 + (kap S - kap SC0))) (n := (69341 + 2 * (kap S - kap SC0))) (by omega) (by omega) ?_
  refine lv_aload_n C.1 C.2.1 dL_law_386 rfl (lv_at hl 3 rfl) ?_
  refine g_ld (k := 1) C hX hbl hbA w.2.2.2.1 hl (by omega) hL (by decide +kernel) dL_law_387 dL_law_388 dL_law_389 dL_law_390 dL_law_391 ?_
  refine g_i (q := (RX13, TX13, 68)) (ci := 10) (As := [.int (xs (i + 1))]) (rest := [.int r]) C (g_swap w) ⟨by decide, rfl⟩ (by decide) rfl (k_length l D T ρ2 g H.size S2 h2) vL_56 ⟨by decide, by decide⟩ rfl rfl hl.1 (Nat.le_of_ble_eq_true rfl) ⟨show _ ≤ 600000 by omega, show _ ≤ 7302250 by omega⟩ dL_law_392 (fun H locs w => ?_)
  replace w := g_swap w
  refine lv_icmp_eq (tgt := 721) C.1 C.2.1 dL_law_395 (by decide) (fun hc => ?_) (fun hc => absurd rfl hc)
  exact kk ρ H locs rfl w
set_option maxRecDepth 100000 in
set_option maxHeartbeats 4000000 in
theorem lc_unit (C : CallFix p m c cL_law 4 s args tb RL) (hcn : Kn Z A s s.heap) (hcw : Kw Z s) (hX : va_X b L xs s s.heap) (hbl : b < s.heap.size) (hbA : ¬ A b) (hL : L ≤ 3072) (w : Wg D T (wl Yc T ρ S ++ wl Ym T ρ2 S2) A s H locs) (hl : lv_has ls 4 [(3, .int (nI i)), (0, .ref b), (1, .ref (ρ 0)), (2, .ref (ρ2 0))]) (hi : i + 6 ≤ L) {r : Int32} (h1 : m_TL_unit g S (xs (i + 1)) (xs (i + 2)) = some r) (h2 : m_unit g S2 (xs (i + 1)) (xs (i + 2)) = some r) (hk0 : kap SC0 ≤ kap S) (hk2 : kap S ≤ 100000) (kk : ∀ (ρ1 : Nat → Nat) (H : Heap) (locs : List Loc), ρ1 0 = ρ 0 → Wg D T (wl Yc T ρ1 S ++ wl Ym T ρ2 S2) A s H locs → W p l e room_1 s m args below meth c H locs (122 + (kap S - kap SC0)) (69341 + 2 * (kap S - kap SC0)) Q (F0 m 721 ls [])) : W p l e room_1 s m args below meth c H locs (122 + (kap S - kap SC0)) (69341 + 2 * (kap S - kap SC0)) Q (F0 m 400 ls []) := by
  refine lv_aload_n C.1 C.2.1 dL_law_400 rfl (lv_at hl 2 rfl) ?_
  refine g_ld (k := 1) C hX hbl hbA w.2.2.2.1 hl (by omega) hL (by decide +kernel) dL_law_401 dL_law_402 dL_law_403 dL_law_404 dL_law_405 ?_
  refine g_ld (k := 2) C hX hbl hbA w.2.2.2.1 hl (by omega) hL (by decide +kernel) dL_law_406 dL_law_407 dL_law_408 dL_law_409 dL_law_410 ?_
  have hw := w
  refine g_i (q := (RX12, TX12, 7)) (As := [.int (xs (i + 1)), .int (xs (i + 2))]) (rest := []) C w obC0 (by decide) rfl (k_TL_unit l D T ρ g H.size S h1) vL_57 ⟨by decide, by decide⟩ rfl rfl hl.1 (Nat.le_of_ble_eq_true rfl) ⟨show _ ≤ 600000 by omega, show _ ≤ 7302250 by omega⟩ dL_law_411 (fun H locs w => ?_)
  refine W.widen (k := (122 + (kap S - kap SC0))) (n := (69341 + 2 * (kap S - kap SC0))) (by omega) (by omega) ?_
  refine lv_aload_n C.1 C.2.1 dL_law_414 rfl (lv_at hl 3 rfl) ?_
  refine g_ld (k := 1) C hX hbl hbA w.2.2.2.1 hl (by omega) hL (by decide +kernel) dL_law_415 dL_law_416 dL_law_417 dL_law_418 dL_law_419 ?_
  refine g_ld (k := 2) C hX hbl hbA w.2.2.2.1 hl (by omega) hL (by decide +kernel) dL_law_420 dL_law_421 dL_law_422 dL_law_423 dL_law_424 ?_
  refine g_i (q := (RX13, TX13, 68)) (ci := 10) (As := [.int (xs (i + 1)), .int (xs (i + 2))]) (rest := [.int r]) C (g_swap w) ⟨by decide, rfl⟩ (by decide) rfl (k_unit l D T ρ2 g H.size S2 h2) vL_60 ⟨by decide, by decide⟩ rfl rfl hl.1 (Nat.le_of_ble_eq_true rfl) ⟨show _ ≤ 600000 by omega, show _ ≤ 7302250 by omega⟩ dL_law_425 (fun H locs w => ?_)
  replace w := g_swap w
  refine lv_icmp_eq (tgt := 721) C.1 C.2.1 dL_law_428 (by decide) (fun hc => ?_) (fun hc => absurd rfl hc)
  exact kk ρ H locs rfl w
set_option maxRecDepth 100000 in
set_option maxHeartbeats 4000000 in
theorem lc_hash (C : CallFix p m c cL_law 4 s args tb RL) (hcn : Kn Z A s s.heap) (hcw : Kw Z s) (hX : va_X b L xs s s.heap) (hbl : b < s.heap.size) (hbA : ¬ A b) (hL : L ≤ 3072) (w : Wg D T (wl Yc T ρ S ++ wl Ym T ρ2 S2) A s H locs) (hl : lv_has ls 4 [(3, .int (nI i)), (0, .ref b), (1, .ref (ρ 0)), (2, .ref (ρ2 0))]) (hi : i + 6 ≤ L) {r : Int32} (h1 : m_TL_hash g S (xs (i + 1)) = some r) (h2 : m_hash g S2 (xs (i + 1)) = some r) (hk0 : kap SC0 ≤ kap S) (hk2 : kap S ≤ 100000) (kk : ∀ (ρ1 : Nat → Nat) (H : Heap) (locs : List Loc), ρ1 0 = ρ 0 → Wg D T (wl Yc T ρ1 S ++ wl Ym T ρ2 S2) A s H locs → W p l e room_1 s m args below meth c H locs (122 + (kap S - kap SC0)) (69341 + 2 * (kap S - kap SC0)) Q (F0 m 721 ls [])) : W p l e room_1 s m args below meth c H locs (122 + (kap S - kap SC0)) (69341 + 2 * (kap S - kap SC0)) Q (F0 m 433 ls []) := by
  refine lv_aload_n C.1 C.2.1 dL_law_433 rfl (lv_at hl 2 rfl) ?_
  refine g_ld (k := 1) C hX hbl hbA w.2.2.2.1 hl (by omega) hL (by decide +kernel) dL_law_434 dL_law_435 dL_law_436 dL_law_437 dL_law_438 ?_
  have hw := w
  refine g_i (q := (RX12, TX12, 7)) (As := [.int (xs (i + 1))]) (rest := []) C w obC0 (by decide) rfl (k_TL_hash l D T ρ g H.size S h1) vL_61 ⟨by decide, by decide⟩ rfl rfl hl.1 (Nat.le_of_ble_eq_true rfl) ⟨show _ ≤ 600000 by omega, show _ ≤ 7302250 by omega⟩ dL_law_439 (fun H locs w => ?_)
  refine W.widen (k := (122 + (kap S - kap SC0))) (n := (69341 + 2 * (kap S - kap SC0))) (by omega) (by omega) ?_
  refine lv_aload_n C.1 C.2.1 dL_law_442 rfl (lv_at hl 3 rfl) ?_
  refine g_ld (k := 1) C hX hbl hbA w.2.2.2.1 hl (by omega) hL (by decide +kernel) dL_law_443 dL_law_444 dL_law_445 dL_law_446 dL_law_447 ?_
  refine g_i (q := (RX13, TX13, 68)) (ci := 10) (As := [.int (xs (i + 1))]) (rest := [.int r]) C (g_swap w) ⟨by decide, rfl⟩ (by decide) rfl (k_hash l D T ρ2 g H.size S2 h2) vL_64 ⟨by decide, by decide⟩ rfl rfl hl.1 (Nat.le_of_ble_eq_true rfl) ⟨show _ ≤ 600000 by omega, show _ ≤ 7302250 by omega⟩ dL_law_448 (fun H locs w => ?_)
  replace w := g_swap w
  refine lv_icmp_eq (tgt := 721) C.1 C.2.1 dL_law_451 (by decide) (fun hc => ?_) (fun hc => absurd rfl hc)
  exact kk ρ H locs rfl w
set_option maxRecDepth 100000 in
set_option maxHeartbeats 4000000 in
theorem lc_same (C : CallFix p m c cL_law 4 s args tb RL) (hcn : Kn Z A s s.heap) (hcw : Kw Z s) (hX : va_X b L xs s s.heap) (hbl : b < s.heap.size) (hbA : ¬ A b) (hL : L ≤ 3072) (w : Wg D T (wl Yc T ρ S ++ wl Ym T ρ2 S2) A s H locs) (hl : lv_has ls 4 [(3, .int (nI i)), (0, .ref b), (1, .ref (ρ 0)), (2, .ref (ρ2 0))]) (hi : i + 6 ≤ L) {r : Int32} (h1 : m_TL_same g S (xs (i + 1)) (xs (i + 2)) = some r) (h2 : m_same g S2 (xs (i + 1)) (xs (i + 2)) = some r) (hk0 : kap SC0 ≤ kap S) (hk2 : kap S ≤ 100000) (kk : ∀ (ρ1 : Nat → Nat) (H : Heap) (locs : List Loc), ρ1 0 = ρ 0 → Wg D T (wl Yc T ρ1 S ++ wl Ym T ρ2 S2) A s H locs → W p l e room_1 s m args below meth c H locs (122 + (kap S - kap SC0)) (69341 + 2 * (kap S - kap SC0)) Q (F0 m 721 ls [])) : W p l e room_1 s m args below meth c H locs (122 + (kap S - kap SC0)) (69341 + 2 * (kap S - kap SC0)) Q (F0 m 456 ls []) := by
  refine lv_aload_n C.1 C.2.1 dL_law_456 rfl (lv_at hl 2 rfl) ?_
  refine g_ld (k := 1) C hX hbl hbA w.2.2.2.1 hl (by omega) hL (by decide +kernel) dL_law_457 dL_law_458 dL_law_459 dL_law_460 dL_law_461 ?_
  refine g_ld (k := 2) C hX hbl hbA w.2.2.2.1 hl (by omega) hL (by decide +kernel) dL_law_462 dL_law_463 dL_law_464 dL_law_465 dL_law_466 ?_
  have hw := w
  refine g_i (q := (RX12, TX12, 7)) (As := [.int (xs (i + 1)), .int (xs (i + 2))]) (rest := []) C w obC0 (by decide) rfl (k_TL_same l D T ρ g H.size S h1) vL_65 ⟨by decide, by decide⟩ rfl rfl hl.1 (Nat.le_of_ble_eq_true rfl) ⟨show _ ≤ 600000 by omega, show _ ≤ 7302250 by omega⟩ dL_law_467 (fun H locs w => ?_)
  refine W.widen (k := (122 + (kap S - kap SC0))) (n := (69341 + 2 * (kap S - kap SC0))) (by omega) (by omega) ?_
  refine lv_aload_n C.1 C.2.1 dL_law_470 rfl (lv_at hl 3 rfl) ?_
  refine g_ld (k := 1) C hX hbl hbA w.2.2.2.1 hl (by omega) hL (by decide +kernel) dL_law_471 dL_law_472 dL_law_473 dL_law_474 dL_law_475 ?_
  refine g_ld (k := 2) C hX hbl hbA w.2.2.2.1 hl (by omega) hL (by decide +kernel) dL_law_476 dL_law_477 dL_law_478 dL_law_479 dL_law_480 ?_
  refine g_i (q := (RX13, TX13, 68)) (ci := 10) (As := [.int (xs (i + 1)), .int (xs (i + 2))]) (rest := [.int r]) C (g_swap w) ⟨by decide, rfl⟩ (by decide) rfl (k_same l D T ρ2 g H.size S2 h2) vL_68 ⟨by decide, by decide⟩ rfl rfl hl.1 (Nat.le_of_ble_eq_true rfl) ⟨show _ ≤ 600000 by omega, show _ ≤ 7302250 by omega⟩ dL_law_481 (fun H locs w => ?_)
  replace w := g_swap w
  refine lv_icmp_eq (tgt := 721) C.1 C.2.1 dL_law_484 (by decide) (fun hc => ?_) (fun hc => absurd rfl hc)
  exact kk ρ H locs rfl w
set_option maxRecDepth 100000 in
set_option maxHeartbeats 4000000 in
theorem lc_pooled (C : CallFix p m c cL_law 4 s args tb RL) (hcn : Kn Z A s s.heap) (hcw : Kw Z s) (hX : va_X b L xs s s.heap) (hbl : b < s.heap.size) (hbA : ¬ A b) (hL : L ≤ 3072) (w : Wg D T (wl Yc T ρ S ++ wl Ym T ρ2 S2) A s H locs) (hl : lv_has ls 4 [(3, .int (nI i)), (0, .ref b), (1, .ref (ρ 0)), (2, .ref (ρ2 0))]) (hi : i + 6 ≤ L) {r : Int32} (h1 : m_TL_pooled g S (xs (i + 1)) = some r) (h2 : m_pooled g S2 (xs (i + 1)) = some r) (hk0 : kap SC0 ≤ kap S) (hk2 : kap S ≤ 100000) (kk : ∀ (ρ1 : Nat → Nat) (H : Heap) (locs : List Loc), ρ1 0 = ρ 0 → Wg D T (wl Yc T ρ1 S ++ wl Ym T ρ2 S2) A s H locs → W p l e room_1 s m args below meth c H locs (122 + (kap S - kap SC0)) (69341 + 2 * (kap S - kap SC0)) Q (F0 m 721 ls [])) : W p l e room_1 s m args below meth c H locs (122 + (kap S - kap SC0)) (69341 + 2 * (kap S - kap SC0)) Q (F0 m 489 ls []) := by
  refine lv_aload_n C.1 C.2.1 dL_law_489 rfl (lv_at hl 2 rfl) ?_
  refine g_ld (k := 1) C hX hbl hbA w.2.2.2.1 hl (by omega) hL (by decide +kernel) dL_law_490 dL_law_491 dL_law_492 dL_law_493 dL_law_494 ?_
  have hw := w
  refine g_i (q := (RX12, TX12, 7)) (As := [.int (xs (i + 1))]) (rest := []) C w obC0 (by decide) rfl (k_TL_pooled l D T ρ g H.size S h1) vL_69 ⟨by decide, by decide⟩ rfl rfl hl.1 (Nat.le_of_ble_eq_true rfl) ⟨show _ ≤ 600000 by omega, show _ ≤ 7302250 by omega⟩ dL_law_495 (fun H locs w => ?_)
  refine W.widen (k := (122 + (kap S - kap SC0))) (n := (69341 + 2 * (kap S - kap SC0))) (by omega) (by omega) ?_
  refine lv_aload_n C.1 C.2.1 dL_law_498 rfl (lv_at hl 3 rfl) ?_
  refine g_ld (k := 1) C hX hbl hbA w.2.2.2.1 hl (by omega) hL (by decide +kernel) dL_law_499 dL_law_500 dL_law_501 dL_law_502 dL_law_503 ?_
  refine g_i (q := (RX13, TX13, 68)) (ci := 10) (As := [.int (xs (i + 1))]) (rest := [.int r]) C (g_swap w) ⟨by decide, rfl⟩ (by decide) rfl (k_pooled l D T ρ2 g H.size S2 h2) vL_72 ⟨by decide, by decide⟩ rfl rfl hl.1 (Nat.le_of_ble_eq_true rfl) ⟨show _ ≤ 600000 by omega, show _ ≤ 7302250 by omega⟩ dL_law_504 (fun H locs w => ?_)
  replace w := g_swap w
  refine lv_icmp_eq (tgt := 721) C.1 C.2.1 dL_law_507 (by decide) (fun hc => ?_) (fun hc => absurd rfl hc)
  exact kk ρ H locs rfl w
set_option maxRecDepth 100000 in
set_option maxHeartbeats 4000000 in
theorem lc_pool (C : CallFix p m c cL_law 4 s args tb RL) (hcn : Kn Z A s s.heap) (hcw : Kw Z s) (hX : va_X b L xs s s.heap) (hbl : b < s.heap.size) (hbA : ¬ A b) (hL : L ≤ 3072) (w : Wg D T (wl Yc T ρ S ++ wl Ym T ρ2 S2) A s H locs) (hl : lv_has ls 4 [(3, .int (nI i)), (0, .ref b), (1, .ref (ρ 0)), (2, .ref (ρ2 0))]) (hi : i + 6 ≤ L) {r : Int32} (h1 : m_TL_pool g S = some r) (h2 : m_pool g S2 = some r) (hk0 : kap SC0 ≤ kap S) (hk2 : kap S ≤ 100000) (kk : ∀ (ρ1 : Nat → Nat) (H : Heap) (locs : List Loc), ρ1 0 = ρ 0 → Wg D T (wl Yc T ρ1 S ++ wl Ym T ρ2 S2) A s H locs → W p l e room_1 s m args below meth c H locs (122 + (kap S - kap SC0)) (69341 + 2 * (kap S - kap SC0)) Q (F0 m 721 ls [])) : W p l e room_1 s m args below meth c H locs (122 + (kap S - kap SC0)) (69341 + 2 * (kap S - kap SC0)) Q (F0 m 512 ls []) := by
  refine lv_aload_n C.1 C.2.1 dL_law_512 rfl (lv_at hl 2 rfl) ?_
  have hw := w
  refine g_i (q := (RX12, TX12, 7)) (As := []) (rest := []) C w obC0 (by decide) rfl (k_TL_pool l D T ρ g H.size S h1) vL_73 ⟨by decide, by decide⟩ rfl rfl hl.1 (Nat.le_of_ble_eq_true rfl) ⟨show _ ≤ 600000 by omega, show _ ≤ 7302250 by omega⟩ dL_law_513 (fun H locs w => ?_)
  refine W.widen (k := (122 + (kap S - kap SC0))) (n := (69341 + 2 * (kap S - kap SC0))) (by omega) (by omega) ?_
  refine lv_aload_n C.1 C.2.1 dL_law_516 rfl (lv_at hl 3 rfl) ?_
  refine g_i (q := (RX13, TX13, 68)) (ci := 10) (As := []) (rest := [.int r]) C (g_swap w) ⟨by decide, rfl⟩ (by decide) rfl (k_pool l D T ρ2 g H.size S2 h2) vL_76 ⟨by decide, by decide⟩ rfl rfl hl.1 (Nat.le_of_ble_eq_true rfl) ⟨show _ ≤ 600000 by omega, show _ ≤ 7302250 by omega⟩ dL_law_517 (fun H locs w => ?_)
  replace w := g_swap w
  refine lv_icmp_eq (tgt := 721) C.1 C.2.1 dL_law_520 (by decide) (fun hc => ?_) (fun hc => absurd rfl hc)
  exact kk ρ H locs rfl w
set_option maxRecDepth 100000 in
set_option maxHeartbeats 4000000 in
theorem lc_whole (C : CallFix p m c cL_law 4 s args tb RL) (hcn : Kn Z A s s.heap) (hcw : Kw Z s) (hX : va_X b L xs s s.heap) (hbl : b < s.heap.size) (hbA : ¬ A b) (hL : L ≤ 3072) (w : Wg D T (wl Yc T ρ S ++ wl Ym T ρ2 S2) A s H locs) (hl : lv_has ls 4 [(3, .int (nI i)), (0, .ref b), (1, .ref (ρ 0)), (2, .ref (ρ2 0))]) (hi : i + 6 ≤ L) {r : Int64} (h1 : m_TL_whole g S (xs (i + 1)) = some r) (h2 : m_whole g S2 (xs (i + 1)) = some r) (hk0 : kap SC0 ≤ kap S) (hk2 : kap S ≤ 100000) (kk : ∀ (ρ1 : Nat → Nat) (H : Heap) (locs : List Loc), ρ1 0 = ρ 0 → Wg D T (wl Yc T ρ1 S ++ wl Ym T ρ2 S2) A s H locs → W p l e room_1 s m args below meth c H locs (122 + (kap S - kap SC0)) (69341 + 2 * (kap S - kap SC0)) Q (F0 m 721 ls [])) : W p l e room_1 s m args below meth c H locs (122 + (kap S - kap SC0)) (69341 + 2 * (kap S - kap SC0)) Q (F0 m 525 ls []) := by
  refine lv_aload_n C.1 C.2.1 dL_law_525 rfl (lv_at hl 2 rfl) ?_
  refine g_ld (k := 1) C hX hbl hbA w.2.2.2.1 hl (by omega) hL (by decide +kernel) dL_law_526 dL_law_527 dL_law_528 dL_law_529 dL_law_530 ?_
  have hw := w
  refine g_j (q := (RX12, TX12, 7)) (As := [.int (xs (i + 1))]) (rest := []) C w obC0 (by decide) rfl (k_TL_whole l D T ρ g H.size S h1) vL_77 ⟨by decide, by decide⟩ rfl rfl hl.1 (Nat.le_of_ble_eq_true rfl) ⟨show _ ≤ 600000 by omega, show _ ≤ 7302250 by omega⟩ dL_law_531 (fun H locs w => ?_)
  refine W.widen (k := (122 + (kap S - kap SC0))) (n := (69341 + 2 * (kap S - kap SC0))) (by omega) (by omega) ?_
  refine lv_aload_n C.1 C.2.1 dL_law_534 rfl (lv_at hl 3 rfl) ?_
  refine g_ld (k := 1) C hX hbl hbA w.2.2.2.1 hl (by omega) hL (by decide +kernel) dL_law_535 dL_law_536 dL_law_537 dL_law_538 dL_law_539 ?_
  refine g_j (q := (RX13, TX13, 68)) (ci := 10) (As := [.int (xs (i + 1))]) (rest := [.long r]) C (g_swap w) ⟨by decide, rfl⟩ (by decide) rfl (k_whole l D T ρ2 g H.size S2 h2) vL_81 ⟨by decide, by decide⟩ rfl rfl hl.1 (Nat.le_of_ble_eq_true rfl) ⟨show _ ≤ 600000 by omega, show _ ≤ 7302250 by omega⟩ dL_law_540 (fun H locs w => ?_)
  replace w := g_swap w
  refine x_l_eq (tgt := 721) C dL_law_543 dL_law_544 (by decide) (fun hc => ?_) (fun hc => absurd rfl hc)
  exact kk ρ H locs rfl w
set_option maxRecDepth 100000 in
set_option maxHeartbeats 4000000 in
theorem lc_builder (C : CallFix p m c cL_law 4 s args tb RL) (hcn : Kn Z A s s.heap) (hcw : Kw Z s) (hX : va_X b L xs s s.heap) (hbl : b < s.heap.size) (hbA : ¬ A b) (hL : L ≤ 3072) (w : Wg D T (wl Yc T ρ S ++ wl Ym T ρ2 S2) A s H locs) (hl : lv_has ls 4 [(3, .int (nI i)), (0, .ref b), (1, .ref (ρ 0)), (2, .ref (ρ2 0))]) (hi : i + 6 ≤ L) {r : Int32} (h1 : m_TL_builder g S (xs (i + 1)) (xs (i + 2)) = some r) (h2 : m_builder g S2 (xs (i + 1)) (xs (i + 2)) = some r) (hk0 : kap SC0 ≤ kap S) (hk2 : kap S ≤ 100000) (kk : ∀ (ρ1 : Nat → Nat) (H : Heap) (locs : List Loc), ρ1 0 = ρ 0 → Wg D T (wl Yc T ρ1 S ++ wl Ym T ρ2 S2) A s H locs → W p l e room_1 s m args below meth c H locs (122 + (kap S - kap SC0)) (69341 + 2 * (kap S - kap SC0)) Q (F0 m 721 ls [])) : W p l e room_1 s m args below meth c H locs (122 + (kap S - kap SC0)) (69341 + 2 * (kap S - kap SC0)) Q (F0 m 549 ls []) := by
  refine lv_aload_n C.1 C.2.1 dL_law_549 rfl (lv_at hl 2 rfl) ?_
  refine g_ld (k := 1) C hX hbl hbA w.2.2.2.1 hl (by omega) hL (by decide +kernel) dL_law_550 dL_law_551 dL_law_552 dL_law_553 dL_law_554 ?_
  refine g_ld (k := 2) C hX hbl hbA w.2.2.2.1 hl (by omega) hL (by decide +kernel) dL_law_555 dL_law_556 dL_law_557 dL_law_558 dL_law_559 ?_
  have hw := w
  refine g_i (q := (RX12, TX12, 7)) (As := [.int (xs (i + 1)), .int (xs (i + 2))]) (rest := []) C w obC0 (by decide) rfl (k_TL_builder l D T ρ g H.size S h1) vL_82 ⟨by decide, by decide⟩ rfl rfl hl.1 (Nat.le_of_ble_eq_true rfl) ⟨show _ ≤ 600000 by omega, show _ ≤ 7302250 by omega⟩ dL_law_560 (fun H locs w => ?_)
  refine W.widen (k := (122 + (kap S - kap SC0))) (n := (69341 + 2 * (kap S - kap SC0))) (by omega) (by omega) ?_
  refine lv_aload_n C.1 C.2.1 dL_law_563 rfl (lv_at hl 3 rfl) ?_
  refine g_ld (k := 1) C hX hbl hbA w.2.2.2.1 hl (by omega) hL (by decide +kernel) dL_law_564 dL_law_565 dL_law_566 dL_law_567 dL_law_568 ?_
  refine g_ld (k := 2) C hX hbl hbA w.2.2.2.1 hl (by omega) hL (by decide +kernel) dL_law_569 dL_law_570 dL_law_571 dL_law_572 dL_law_573 ?_
  refine g_i (q := (RX13, TX13, 68)) (ci := 10) (As := [.int (xs (i + 1)), .int (xs (i + 2))]) (rest := [.int r]) C (g_swap w) ⟨by decide, rfl⟩ (by decide) rfl (k_builder l D T ρ2 g H.size S2 h2) vL_85 ⟨by decide, by decide⟩ rfl rfl hl.1 (Nat.le_of_ble_eq_true rfl) ⟨show _ ≤ 600000 by omega, show _ ≤ 7302250 by omega⟩ dL_law_574 (fun H locs w => ?_)
  replace w := g_swap w
  refine lv_icmp_eq (tgt := 721) C.1 C.2.1 dL_law_577 (by decide) (fun hc => ?_) (fun hc => absurd rfl hc)
  exact kk ρ H locs rfl w
set_option maxRecDepth 100000 in
set_option maxHeartbeats 4000000 in
theorem lc_builderUnit (C : CallFix p m c cL_law 4 s args tb RL) (hcn : Kn Z A s s.heap) (hcw : Kw Z s) (hX : va_X b L xs s s.heap) (hbl : b < s.heap.size) (hbA : ¬ A b) (hL : L ≤ 3072) (w : Wg D T (wl Yc T ρ S ++ wl Ym T ρ2 S2) A s H locs) (hl : lv_has ls 4 [(3, .int (nI i)), (0, .ref b), (1, .ref (ρ 0)), (2, .ref (ρ2 0))]) (hi : i + 6 ≤ L) {r : Int32} (h1 : m_TL_builderUnit g S (xs (i + 1)) (xs (i + 2)) = some r) (h2 : m_builderUnit g S2 (xs (i + 1)) (xs (i + 2)) = some r) (hk0 : kap SC0 ≤ kap S) (hk2 : kap S ≤ 100000) (kk : ∀ (ρ1 : Nat → Nat) (H : Heap) (locs : List Loc), ρ1 0 = ρ 0 → Wg D T (wl Yc T ρ1 S ++ wl Ym T ρ2 S2) A s H locs → W p l e room_1 s m args below meth c H locs (122 + (kap S - kap SC0)) (69341 + 2 * (kap S - kap SC0)) Q (F0 m 721 ls [])) : W p l e room_1 s m args below meth c H locs (122 + (kap S - kap SC0)) (69341 + 2 * (kap S - kap SC0)) Q (F0 m 582 ls []) := by
  refine lv_aload_n C.1 C.2.1 dL_law_582 rfl (lv_at hl 2 rfl) ?_
  refine g_ld (k := 1) C hX hbl hbA w.2.2.2.1 hl (by omega) hL (by decide +kernel) dL_law_583 dL_law_584 dL_law_585 dL_law_586 dL_law_587 ?_
  refine g_ld (k := 2) C hX hbl hbA w.2.2.2.1 hl (by omega) hL (by decide +kernel) dL_law_588 dL_law_589 dL_law_590 dL_law_591 dL_law_592 ?_
  have hw := w
  refine g_i (q := (RX12, TX12, 7)) (As := [.int (xs (i + 1)), .int (xs (i + 2))]) (rest := []) C w obC0 (by decide) rfl (k_TL_builderUnit l D T ρ g H.size S h1) vL_86 ⟨by decide, by decide⟩ rfl rfl hl.1 (Nat.le_of_ble_eq_true rfl) ⟨show _ ≤ 600000 by omega, show _ ≤ 7302250 by omega⟩ dL_law_593 (fun H locs w => ?_)
  refine W.widen (k := (122 + (kap S - kap SC0))) (n := (69341 + 2 * (kap S - kap SC0))) (by omega) (by omega) ?_
  refine lv_aload_n C.1 C.2.1 dL_law_596 rfl (lv_at hl 3 rfl) ?_
  refine g_ld (k := 1) C hX hbl hbA w.2.2.2.1 hl (by omega) hL (by decide +kernel) dL_law_597 dL_law_598 dL_law_599 dL_law_600 dL_law_601 ?_
  refine g_ld (k := 2) C hX hbl hbA w.2.2.2.1 hl (by omega) hL (by decide +kernel) dL_law_602 dL_law_603 dL_law_604 dL_law_605 dL_law_606 ?_
  refine g_i (q := (RX13, TX13, 68)) (ci := 10) (As := [.int (xs (i + 1)), .int (xs (i + 2))]) (rest := [.int r]) C (g_swap w) ⟨by decide, rfl⟩ (by decide) rfl (k_builderUnit l D T ρ2 g H.size S2 h2) vL_89 ⟨by decide, by decide⟩ rfl rfl hl.1 (Nat.le_of_ble_eq_true rfl) ⟨show _ ≤ 600000 by omega, show _ ≤ 7302250 by omega⟩ dL_law_607 (fun H locs w => ?_)
  replace w := g_swap w
  refine lv_icmp_eq (tgt := 721) C.1 C.2.1 dL_law_610 (by decide) (fun hc => ?_) (fun hc => absurd rfl hc)
  exact kk ρ H locs rfl w
set_option maxRecDepth 100000 in
set_option maxHeartbeats 4000000 in
theorem lc_parts (C : CallFix p m c cL_law 4 s args tb RL) (hcn : Kn Z A s s.heap) (hcw : Kw Z s) (hX : va_X b L xs s s.heap) (hbl : b < s.heap.size) (hbA : ¬ A b) (hL : L ≤ 3072) (w : Wg D T (wl Yc T ρ S ++ wl Ym T ρ2 S2) A s H locs) (hl : lv_has ls 4 [(3, .int (nI i)), (0, .ref b), (1, .ref (ρ 0)), (2, .ref (ρ2 0))]) (hi : i + 6 ≤ L) {r : Int32} (h1 : m_TL_parts g S = some r) (h2 : m_parts g S2 = some r) (hk0 : kap SC0 ≤ kap S) (hk2 : kap S ≤ 100000) (kk : ∀ (ρ1 : Nat → Nat) (H : Heap) (locs : List Loc), ρ1 0 = ρ 0 → Wg D T (wl Yc T ρ1 S ++ wl Ym T ρ2 S2) A s H locs → W p l e room_1 s m args below meth c H locs (122 + (kap S - kap SC0)) (69341 + 2 * (kap S - kap SC0)) Q (F0 m 721 ls [])) : W p l e room_1 s m args below meth c H locs (122 + (kap S - kap SC0)) (69341 + 2 * (kap S - kap SC0)) Q (F0 m 615 ls []) := by
  refine lv_aload_n C.1 C.2.1 dL_law_615 rfl (lv_at hl 2 rfl) ?_
  have hw := w
  refine g_i (q := (RX12, TX12, 7)) (As := []) (rest := []) C w obC0 (by decide) rfl (k_TL_parts l D T ρ g H.size S h1) vL_90 ⟨by decide, by decide⟩ rfl rfl hl.1 (Nat.le_of_ble_eq_true rfl) ⟨show _ ≤ 600000 by omega, show _ ≤ 7302250 by omega⟩ dL_law_616 (fun H locs w => ?_)
  refine W.widen (k := (122 + (kap S - kap SC0))) (n := (69341 + 2 * (kap S - kap SC0))) (by omega) (by omega) ?_
  refine lv_aload_n C.1 C.2.1 dL_law_619 rfl (lv_at hl 3 rfl) ?_
  refine g_i (q := (RX13, TX13, 68)) (ci := 10) (As := []) (rest := [.int r]) C (g_swap w) ⟨by decide, rfl⟩ (by decide) rfl (k_parts l D T ρ2 g H.size S2 h2) vL_93 ⟨by decide, by decide⟩ rfl rfl hl.1 (Nat.le_of_ble_eq_true rfl) ⟨show _ ≤ 600000 by omega, show _ ≤ 7302250 by omega⟩ dL_law_620 (fun H locs w => ?_)
  replace w := g_swap w
  refine lv_icmp_eq (tgt := 721) C.1 C.2.1 dL_law_623 (by decide) (fun hc => ?_) (fun hc => absurd rfl hc)
  exact kk ρ H locs rfl w
set_option maxRecDepth 100000 in
set_option maxHeartbeats 4000000 in
theorem lc_partUnit (C : CallFix p m c cL_law 4 s args tb RL) (hcn : Kn Z A s s.heap) (hcw : Kw Z s) (hX : va_X b L xs s s.heap) (hbl : b < s.heap.size) (hbA : ¬ A b) (hL : L ≤ 3072) (w : Wg D T (wl Yc T ρ S ++ wl Ym T ρ2 S2) A s H locs) (hl : lv_has ls 4 [(3, .int (nI i)), (0, .ref b), (1, .ref (ρ 0)), (2, .ref (ρ2 0))]) (hi : i + 6 ≤ L) {r : Int32} (h1 : m_TL_partUnit g S (xs (i + 1)) (xs (i + 2)) = some r) (h2 : m_partUnit g S2 (xs (i + 1)) (xs (i + 2)) = some r) (hk0 : kap SC0 ≤ kap S) (hk2 : kap S ≤ 100000) (kk : ∀ (ρ1 : Nat → Nat) (H : Heap) (locs : List Loc), ρ1 0 = ρ 0 → Wg D T (wl Yc T ρ1 S ++ wl Ym T ρ2 S2) A s H locs → W p l e room_1 s m args below meth c H locs (122 + (kap S - kap SC0)) (69341 + 2 * (kap S - kap SC0)) Q (F0 m 721 ls [])) : W p l e room_1 s m args below meth c H locs (122 + (kap S - kap SC0)) (69341 + 2 * (kap S - kap SC0)) Q (F0 m 628 ls []) := by
  refine lv_aload_n C.1 C.2.1 dL_law_628 rfl (lv_at hl 2 rfl) ?_
  refine g_ld (k := 1) C hX hbl hbA w.2.2.2.1 hl (by omega) hL (by decide +kernel) dL_law_629 dL_law_630 dL_law_631 dL_law_632 dL_law_633 ?_
  refine g_ld (k := 2) C hX hbl hbA w.2.2.2.1 hl (by omega) hL (by decide +kernel) dL_law_634 dL_law_635 dL_law_636 dL_law_637 dL_law_638 ?_
  have hw := w
  refine g_i (q := (RX12, TX12, 7)) (As := [.int (xs (i + 1)), .int (xs (i + 2))]) (rest := []) C w obC0 (by decide) rfl (k_TL_partUnit l D T ρ g H.size S h1) vL_94 ⟨by decide, by decide⟩ rfl rfl hl.1 (Nat.le_of_ble_eq_true rfl) ⟨show _ ≤ 600000 by omega, show _ ≤ 7302250 by omega⟩ dL_law_639 (fun H locs w => ?_)
  refine W.widen (k := (122 + (kap S - kap SC0))) (n := (69341 + 2 * (kap S - kap SC0))) (by omega) (by omega) ?_
  refine lv_aload_n C.1 C.2.1 dL_law_642 rfl (lv_at hl 3 rfl) ?_
  refine g_ld (k := 1) C hX hbl hbA w.2.2.2.1 hl (by omega) hL (by decide +kernel) dL_law_643 dL_law_644 dL_law_645 dL_law_646 dL_law_647 ?_
  refine g_ld (k := 2) C hX hbl hbA w.2.2.2.1 hl (by omega) hL (by decide +kernel) dL_law_648 dL_law_649 dL_law_650 dL_law_651 dL_law_652 ?_
  refine g_i (q := (RX13, TX13, 68)) (ci := 10) (As := [.int (xs (i + 1)), .int (xs (i + 2))]) (rest := [.int r]) C (g_swap w) ⟨by decide, rfl⟩ (by decide) rfl (k_partUnit l D T ρ2 g H.size S2 h2) vL_97 ⟨by decide, by decide⟩ rfl rfl hl.1 (Nat.le_of_ble_eq_true rfl) ⟨show _ ≤ 600000 by omega, show _ ≤ 7302250 by omega⟩ dL_law_653 (fun H locs w => ?_)
  replace w := g_swap w
  refine lv_icmp_eq (tgt := 721) C.1 C.2.1 dL_law_656 (by decide) (fun hc => ?_) (fun hc => absurd rfl hc)
  exact kk ρ H locs rfl w
set_option maxRecDepth 100000 in
set_option maxHeartbeats 4000000 in
theorem lc_partOf (C : CallFix p m c cL_law 4 s args tb RL) (hcn : Kn Z A s s.heap) (hcw : Kw Z s) (hX : va_X b L xs s s.heap) (hbl : b < s.heap.size) (hbA : ¬ A b) (hL : L ≤ 3072) (w : Wg D T (wl Yc T ρ S ++ wl Ym T ρ2 S2) A s H locs) (hl : lv_has ls 4 [(3, .int (nI i)), (0, .ref b), (1, .ref (ρ 0)), (2, .ref (ρ2 0))]) (hi : i + 6 ≤ L) {r : Int32} (h1 : m_TL_partOf g S (xs (i + 1)) = some r) (h2 : m_partOf g S2 (xs (i + 1)) = some r) (hk0 : kap SC0 ≤ kap S) (hk2 : kap S ≤ 100000) (kk : ∀ (ρ1 : Nat → Nat) (H : Heap) (locs : List Loc), ρ1 0 = ρ 0 → Wg D T (wl Yc T ρ1 S ++ wl Ym T ρ2 S2) A s H locs → W p l e room_1 s m args below meth c H locs (122 + (kap S - kap SC0)) (69341 + 2 * (kap S - kap SC0)) Q (F0 m 721 ls [])) : W p l e room_1 s m args below meth c H locs (122 + (kap S - kap SC0)) (69341 + 2 * (kap S - kap SC0)) Q (F0 m 661 ls []) := by
  refine lv_aload_n C.1 C.2.1 dL_law_661 rfl (lv_at hl 2 rfl) ?_
  refine g_ld (k := 1) C hX hbl hbA w.2.2.2.1 hl (by omega) hL (by decide +kernel) dL_law_662 dL_law_663 dL_law_664 dL_law_665 dL_law_666 ?_
  have hw := w
  refine g_i (q := (RX12, TX12, 7)) (As := [.int (xs (i + 1))]) (rest := []) C w obC0 (by decide) rfl (k_TL_partOf l D T ρ g H.size S h1) vL_98 ⟨by decide, by decide⟩ rfl rfl hl.1 (Nat.le_of_ble_eq_true rfl) ⟨show _ ≤ 600000 by omega, show _ ≤ 7302250 by omega⟩ dL_law_667 (fun H locs w => ?_)
  refine W.widen (k := (122 + (kap S - kap SC0))) (n := (69341 + 2 * (kap S - kap SC0))) (by omega) (by omega) ?_
  refine lv_aload_n C.1 C.2.1 dL_law_670 rfl (lv_at hl 3 rfl) ?_
  refine g_ld (k := 1) C hX hbl hbA w.2.2.2.1 hl (by omega) hL (by decide +kernel) dL_law_671 dL_law_672 dL_law_673 dL_law_674 dL_law_675 ?_
  refine g_i (q := (RX13, TX13, 68)) (ci := 10) (As := [.int (xs (i + 1))]) (rest := [.int r]) C (g_swap w) ⟨by decide, rfl⟩ (by decide) rfl (k_partOf l D T ρ2 g H.size S2 h2) vL_101 ⟨by decide, by decide⟩ rfl rfl hl.1 (Nat.le_of_ble_eq_true rfl) ⟨show _ ≤ 600000 by omega, show _ ≤ 7302250 by omega⟩ dL_law_676 (fun H locs w => ?_)
  replace w := g_swap w
  refine lv_icmp_eq (tgt := 721) C.1 C.2.1 dL_law_679 (by decide) (fun hc => ?_) (fun hc => absurd rfl hc)
  exact kk ρ H locs rfl w
set_option maxRecDepth 100000 in
set_option maxHeartbeats 4000000 in
theorem lc_marks (C : CallFix p m c cL_law 4 s args tb RL) (hcn : Kn Z A s s.heap) (hcw : Kw Z s) (hX : va_X b L xs s s.heap) (hbl : b < s.heap.size) (hbA : ¬ A b) (hL : L ≤ 3072) (w : Wg D T (wl Yc T ρ S ++ wl Ym T ρ2 S2) A s H locs) (hl : lv_has ls 4 [(3, .int (nI i)), (0, .ref b), (1, .ref (ρ 0)), (2, .ref (ρ2 0))]) (hi : i + 6 ≤ L) {r : Int32} (h1 : m_TL_marks g S = some r) (h2 : m_marks g S2 = some r) (hk0 : kap SC0 ≤ kap S) (hk2 : kap S ≤ 100000) (kk : ∀ (ρ1 : Nat → Nat) (H : Heap) (locs : List Loc), ρ1 0 = ρ 0 → Wg D T (wl Yc T ρ1 S ++ wl Ym T ρ2 S2) A s H locs → W p l e room_1 s m args below meth c H locs (122 + (kap S - kap SC0)) (69341 + 2 * (kap S - kap SC0)) Q (F0 m 721 ls [])) : W p l e room_1 s m args below meth c H locs (122 + (kap S - kap SC0)) (69341 + 2 * (kap S - kap SC0)) Q (F0 m 684 ls []) := by
  refine lv_aload_n C.1 C.2.1 dL_law_684 rfl (lv_at hl 2 rfl) ?_
  have hw := w
  refine g_i (q := (RX12, TX12, 7)) (As := []) (rest := []) C w obC0 (by decide) rfl (k_TL_marks l D T ρ g H.size S h1) vL_102 ⟨by decide, by decide⟩ rfl rfl hl.1 (Nat.le_of_ble_eq_true rfl) ⟨show _ ≤ 600000 by omega, show _ ≤ 7302250 by omega⟩ dL_law_685 (fun H locs w => ?_)
  refine W.widen (k := (122 + (kap S - kap SC0))) (n := (69341 + 2 * (kap S - kap SC0))) (by omega) (by omega) ?_
  refine lv_aload_n C.1 C.2.1 dL_law_688 rfl (lv_at hl 3 rfl) ?_
  refine g_i (q := (RX13, TX13, 68)) (ci := 10) (As := []) (rest := [.int r]) C (g_swap w) ⟨by decide, rfl⟩ (by decide) rfl (k_marks l D T ρ2 g H.size S2 h2) vL_105 ⟨by decide, by decide⟩ rfl rfl hl.1 (Nat.le_of_ble_eq_true rfl) ⟨show _ ≤ 600000 by omega, show _ ≤ 7302250 by omega⟩ dL_law_689 (fun H locs w => ?_)
  replace w := g_swap w
  refine lv_icmp_eq (tgt := 721) C.1 C.2.1 dL_law_692 (by decide) (fun hc => ?_) (fun hc => absurd rfl hc)
  exact kk ρ H locs rfl w
set_option maxRecDepth 100000 in
set_option maxHeartbeats 4000000 in
theorem lc_mark (C : CallFix p m c cL_law 4 s args tb RL) (hcn : Kn Z A s s.heap) (hcw : Kw Z s) (hX : va_X b L xs s s.heap) (hbl : b < s.heap.size) (hbA : ¬ A b) (hL : L ≤ 3072) (w : Wg D T (wl Yc T ρ S ++ wl Ym T ρ2 S2) A s H locs) (hl : lv_has ls 4 [(3, .int (nI i)), (0, .ref b), (1, .ref (ρ 0)), (2, .ref (ρ2 0))]) (hi : i + 6 ≤ L) {r : Int64} (h1 : m_TL_mark g S (xs (i + 1)) = some r) (h2 : m_mark g S2 (xs (i + 1)) = some r) (hk0 : kap SC0 ≤ kap S) (hk2 : kap S ≤ 100000) (kk : ∀ (ρ1 : Nat → Nat) (H : Heap) (locs : List Loc), ρ1 0 = ρ 0 → Wg D T (wl Yc T ρ1 S ++ wl Ym T ρ2 S2) A s H locs → W p l e room_1 s m args below meth c H locs (122 + (kap S - kap SC0)) (69341 + 2 * (kap S - kap SC0)) Q (F0 m 721 ls [])) : W p l e room_1 s m args below meth c H locs (122 + (kap S - kap SC0)) (69341 + 2 * (kap S - kap SC0)) Q (F0 m 697 ls []) := by
  refine lv_aload_n C.1 C.2.1 dL_law_697 rfl (lv_at hl 2 rfl) ?_
  refine g_ld (k := 1) C hX hbl hbA w.2.2.2.1 hl (by omega) hL (by decide +kernel) dL_law_698 dL_law_699 dL_law_700 dL_law_701 dL_law_702 ?_
  have hw := w
  refine g_j (q := (RX12, TX12, 7)) (As := [.int (xs (i + 1))]) (rest := []) C w obC0 (by decide) rfl (k_TL_mark l D T ρ g H.size S h1) vL_106 ⟨by decide, by decide⟩ rfl rfl hl.1 (Nat.le_of_ble_eq_true rfl) ⟨show _ ≤ 600000 by omega, show _ ≤ 7302250 by omega⟩ dL_law_703 (fun H locs w => ?_)
  refine W.widen (k := (122 + (kap S - kap SC0))) (n := (69341 + 2 * (kap S - kap SC0))) (by omega) (by omega) ?_
  refine lv_aload_n C.1 C.2.1 dL_law_706 rfl (lv_at hl 3 rfl) ?_
  refine g_ld (k := 1) C hX hbl hbA w.2.2.2.1 hl (by omega) hL (by decide +kernel) dL_law_707 dL_law_708 dL_law_709 dL_law_710 dL_law_711 ?_
  refine g_j (q := (RX13, TX13, 68)) (ci := 10) (As := [.int (xs (i + 1))]) (rest := [.long r]) C (g_swap w) ⟨by decide, rfl⟩ (by decide) rfl (k_mark l D T ρ2 g H.size S2 h2) vL_109 ⟨by decide, by decide⟩ rfl rfl hl.1 (Nat.le_of_ble_eq_true rfl) ⟨show _ ≤ 600000 by omega, show _ ≤ 7302250 by omega⟩ dL_law_712 (fun H locs w => ?_)
  replace w := g_swap w
  refine x_l_eq (tgt := 721) C dL_law_715 dL_law_716 (by decide) (fun hc => ?_) (fun hc => absurd rfl hc)
  exact kk ρ H locs rfl w
end LWC
