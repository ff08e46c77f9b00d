theorem dJ0_length_8abf5_0 : decode cJ0_length_8abf5 0 = .ok (.aload_n 0, 1) := by decide +kernel
theorem dJ0_length_8abf5_1 : decode cJ0_length_8abf5 1 = .ok (.getfield 9, 3) := by decide +kernel
theorem dJ0_length_8abf5_4 : decode cJ0_length_8abf5 4 = .ok (.arraylength, 1) := by decide +kernel
theorem dJ0_length_8abf5_5 : decode cJ0_length_8abf5 5 = .ok (.aload_n 0, 1) := by decide +kernel
theorem dJ0_length_8abf5_6 : decode cJ0_length_8abf5 6 = .ok (.invokevirtual 335, 3) := by decide +kernel
theorem dJ0_length_8abf5_9 : decode cJ0_length_8abf5 9 = .ok (.ishr, 1) := by decide +kernel
theorem dJ0_length_8abf5_10 : decode cJ0_length_8abf5 10 = .ok (.ireturn, 1) := by decide +kernel
theorem dJ0_coder_7d493_0 : decode cJ0_coder_7d493 0 = .ok (.getstatic 38, 3) := by decide +kernel
theorem dJ0_coder_7d493_3 : decode cJ0_coder_7d493 3 = .ok (.ifCond .eq 10, 3) := by decide +kernel
theorem dJ0_coder_7d493_6 : decode cJ0_coder_7d493 6 = .ok (.aload_n 0, 1) := by decide +kernel
theorem dJ0_coder_7d493_7 : decode cJ0_coder_7d493 7 = .ok (.getfield 15, 3) := by decide +kernel
theorem dJ0_coder_7d493_10 : decode cJ0_coder_7d493 10 = .ok (.goto 4, 3) := by decide +kernel
theorem dJ0_coder_7d493_13 : decode cJ0_coder_7d493 13 = .ok (.iconst 1, 1) := by decide +kernel
theorem dJ0_coder_7d493_14 : decode cJ0_coder_7d493 14 = .ok (.ireturn, 1) := by decide +kernel
theorem dJ0_isLatin1_aae02_0 : decode cJ0_isLatin1_aae02 0 = .ok (.getstatic 38, 3) := by decide +kernel
theorem dJ0_isLatin1_aae02_3 : decode cJ0_isLatin1_aae02 3 = .ok (.ifCond .eq 14, 3) := by decide +kernel
theorem dJ0_isLatin1_aae02_6 : decode cJ0_isLatin1_aae02 6 = .ok (.aload_n 0, 1) := by decide +kernel
theorem dJ0_isLatin1_aae02_7 : decode cJ0_isLatin1_aae02 7 = .ok (.getfield 15, 3) := by decide +kernel
theorem dJ0_isLatin1_aae02_10 : decode cJ0_isLatin1_aae02 10 = .ok (.ifCond .ne 7, 3) := by decide +kernel
theorem dJ0_isLatin1_aae02_13 : decode cJ0_isLatin1_aae02 13 = .ok (.iconst 1, 1) := by decide +kernel
theorem dJ0_isLatin1_aae02_14 : decode cJ0_isLatin1_aae02 14 = .ok (.goto 4, 3) := by decide +kernel
theorem dJ0_isLatin1_aae02_17 : decode cJ0_isLatin1_aae02 17 = .ok (.iconst 0, 1) := by decide +kernel
theorem dJ0_isLatin1_aae02_18 : decode cJ0_isLatin1_aae02 18 = .ok (.ireturn, 1) := by decide +kernel
/-! Strings that are constants: coder, isLatin1, length -/
theorem fs_38 : Cond.fieldLink RJ0 38 "java/lang/String" "COMPACT_STRINGS" "Z" ∈ tb := tb2 210 rfl rfl
theorem fs_15 : Cond.fieldLink RJ0 15 "java/lang/String" "coder" "B" ∈ tb := tb9 232 rfl rfl
theorem fs_9 : Cond.fieldLink RJ0 9 "java/lang/String" "value" "[B" ∈ tb := tb9 231 rfl rfl
section XST
variable {p : Program} {l : Launch} {e : Env} {R : Room} {s : State} {m : MethodId} {args : Array Value} {below : List Frame} {meth : Method} {c : Code} {H : Heap} {locs : List Loc} {Q : State → Prop}
variable {cc : ByteArray} {pc nL : Nat} {ls : Array Slot} {rest st0 : List Value} {D : va_G} {T : Cy} {ρ ρ0 : Nat → Nat} {S : St} {A : Nat → Prop} {own : String} {Z : Ad}
variable {y : MethodName} {bytes : ByteArray} {maxL n idx o ci fr lo cells slots mc ms : Nat} {ret : Option FieldType} {As : List Value} {S1 : St}
/-- an int of a small type is answered -/
theorem x_tretM (C : CallFix p m c cc nL s args tb own) (w : Wn Yc D T ρ S A s H locs) (ha : Ag ρ0 ρ) {ty : FieldType} (hr : meth.sig.returnType = some ty) (hk : meth.locks = false) {r : Int32} (hn : narrow ty (.int r) = .int r) (hdg : decode cc pc = .ok (.ireturn, 1)) (h1 : cells ≤ mc) (h2 : slots ≤ ms) : W p l e R s m args below meth c H locs cells slots (MQ below (QiM D T ρ0 A S r) args s mc ms A) (F0 m pc ls [.int r]) :=
  W.widen h1 h2 (W.zret C.1 C.2.1 hr hn (fun t ht hW => ⟨⟨r, ρ, rfl, ⟨rfl, ha⟩, by rw [ht]; exact w.2.1, va_K.moved hW.alike w.1, w.2.2.1⟩, w.2.2.2.1.F ht⟩) w.2.2.2.1.2.2 hdg hk)
/-- a call on an object that is a constant; nothing is made -/
theorem x_callKi {r : Int32} {b : Addr} {K : String} (C : CallFix p m c cc nL s args tb own) (w : Wn Yc D T ρ S A s H locs) (hcn : Kn Z A s s.heap) (hcw : Kw Z s) (hrc : va_O K b A s s.heap) (hM : MiC l Z D T ρ y bytes maxL ret fr lo S S r (.ref b :: As) H.size) (hv : Vk own idx K y bytes maxL ret n) (hR : fr + 1 ≤ R.frames ∧ 8 + (maxL + 11) + lo ≤ R.locals) (hst : st0 = As.reverse ++ .ref b :: rest) (hn : As.length = n) (hl : ls.size = nL) (hW : (rest.map fun v => v.category).sum ≤ 8) (hcs : cells ≤ R.cells ∧ slots ≤ R.slots) (hdg : decode cc pc = .ok (.invokevirtual idx, 3))
    (kk : ∀ (ρ1 : Nat → Nat) (H1 : Heap) (locs1 : List Loc), Ag ρ ρ1 → Wn Yc D T ρ1 S A s H1 locs1 → W p l e R s m args below meth c H1 locs1 cells slots Q (F0 m (pc + 3) ls (.int r :: rest))) : W p l e R s m args below meth c H locs cells slots Q (F0 m pc ls st0) := by
  have hz : kap S - kap S = 0 := Nat.sub_self _
  obtain ⟨cell, g1, g2, g3, g4⟩ := hrc.kept w.2.2.2.1.2.1
  unfold MiC at hM
  rw [hz] at hM
  refine va_calli (va_runV C hM (cwV_K C.2.2.2.2 hv hR) ⟨blindC, ⟨cell, g1, g2, g3⟩, fun U hU hW => pre_atC w hcn hcw _ U hU hW⟩ rfl hn hl hst (lv_room (rest := st0) hW) hdg hcs) w.2.2.2.1 (fun q _ h => wn_A w q h) (wn_A w) (fun r1 ρ1 t H1 locs1 ht hvm hw hB _ _ hS => ?_)
  obtain ⟨rfl, hag⟩ := hw
  exact kk ρ1 H1 locs1 hag (wn_backM w hB ht hvm hS)
theorem cwS_K (hts : ∀ w ∈ tb, w.before args s = true) {K : Nat} (hv : Sk own idx y bytes maxL ret n) (hR : fr + 1 ≤ R.frames ∧ 8 + (maxL + 11) + lo ≤ R.locals) : CallB R s args own idx y bytes maxL ret (.code y bytes maxL ret :: tb) (rmK fr lo K) K (2 * K) n ∧ (Cond.static y).before args s = true := by
  obtain ⟨h1, h2, h3, h4, h5⟩ := hv
  exact ⟨callB_of n hts (goodIn_tb h4) rfl rfl rfl (hts _ h3) (hts _ h1) h5 hR, hts _ h2⟩
theorem x_callKSi {r : Int32} (C : CallFix p m c cc nL s args tb own) (w : Wn Yc D T ρ S A s H locs) (hcn : Kn Z A s s.heap) (hcw : Kw Z s) (hM : MiC l Z D T ρ y bytes maxL ret fr lo S S r As H.size) (hv : Sk own idx y bytes maxL ret n) (hR : fr + 1 ≤ R.frames ∧ 8 + (maxL + 11) + lo ≤ R.locals) (hst : st0 = As.reverse ++ rest) (hn : As.length = n) (hl : ls.size = nL) (hW : (rest.map fun v => v.category).sum ≤ 8) (hcs : cells ≤ R.cells ∧ slots ≤ R.slots) (hdg : decode cc pc = .ok (.invokestatic idx, 3))
    (kk : ∀ (ρ1 : Nat → Nat) (H1 : Heap) (locs1 : List Loc), Ag ρ ρ1 → Wn Yc D T ρ1 S A s H1 locs1 → W p l e R s m args below meth c H1 locs1 cells slots Q (F0 m (pc + 3) ls (.int r :: rest))) : W p l e R s m args below meth c H locs cells slots Q (F0 m pc ls st0) := by
  have hz : kap S - kap S = 0 := Nat.sub_self _
  unfold MiC at hM
  rw [hz] at hM
  refine va_calli (va_runS C hM (cwS_K C.2.2.2.2 hv hR) ⟨blindC, fun U hU hW => pre_atC w hcn hcw _ U hU hW⟩ rfl hn hl hst (lv_room (rest := st0) hW) hdg hcs) w.2.2.2.1 (fun q _ h => wn_A w q h) (wn_A w) (fun r1 ρ1 t H1 locs1 ht hvm hw hB _ _ hS => ?_)
  obtain ⟨rfl, hag⟩ := hw
  exact kk ρ1 H1 locs1 hag (wn_backM w hB ht hvm hS)
theorem x_callKSv (C : CallFix p m c cc nL s args tb own) (w : Wn Yc D T ρ S A s H locs) (hcn : Kn Z A s s.heap) (hcw : Kw Z s) (hM : MvC l Z D T ρ y bytes maxL ret fr lo S S As H.size) (hv : Sk own idx y bytes maxL ret n) (hR : fr + 1 ≤ R.frames ∧ 8 + (maxL + 11) + lo ≤ R.locals) (hst : st0 = As.reverse ++ rest) (hn : As.length = n) (hl : ls.size = nL) (hW : (rest.map fun v => v.category).sum ≤ 8) (hcs : cells ≤ R.cells ∧ slots ≤ R.slots) (hdg : decode cc pc = .ok (.invokestatic idx, 3))
    (kk : ∀ (ρ1 : Nat → Nat) (H1 : Heap) (locs1 : List Loc), Ag ρ ρ1 → Wn Yc D T ρ1 S A s H1 locs1 → W p l e R s m args below meth c H1 locs1 cells slots Q (F0 m (pc + 3) ls rest)) : W p l e R s m args below meth c H locs cells slots Q (F0 m pc ls st0) := by
  have hz : kap S - kap S = 0 := Nat.sub_self _
  unfold MvC at hM
  rw [hz] at hM
  refine va_callv (va_runS C hM (cwS_K C.2.2.2.2 hv hR) ⟨blindC, fun U hU hW => pre_atC w hcn hcw _ U hU hW⟩ rfl hn hl hst (lv_room (rest := st0) hW) hdg hcs) w.2.2.2.1 (fun q _ h => wn_A w q h) (wn_A w) (fun ρ1 t H1 locs1 ht hvm hw hB _ _ hS => ?_)
  exact kk ρ1 H1 locs1 hw (wn_backM w hB ht hvm hS)
end XST
set_option maxRecDepth 100000 in
theorem k_sCoder (l : Launch) (Z : Ad) (D : va_G) (T : Cy) (ρ : Nat → Nat) (sz : Nat) (S : St) {j : Nat} (hj : j < 101) : MiC l Z D T ρ yJ0_coder_7d493 cJ0_coder_7d493 1 (some .byte) 0 0 S S 0 [.ref (Z.2.2.2.1 j)] sz := by
  refine x_inC (by decide) (Nat.le_of_ble_eq_true rfl) (fun p e s m below meth c ls C hr hk hcn hcw w hl => ?_)
  have hl : lv_has ls 1 [(0, .ref (Z.2.2.2.1 j))] := hl
  refine va_gets C.1 C.2.1 hcn.2.2.2.2.2.2.2.2.1 w.2.2.2.1 C.2.2.2.1 (C.2.2.2.2 _ fs_38) (fun x h => h) dJ0_coder_7d493_0 ?_
  refine lv_if_eq (tgt := 13) C.1 C.2.1 dJ0_coder_7d493_3 (by decide) (fun hc => absurd hc (by decide)) (fun _ => ?_)
  refine lv_aload_n C.1 C.2.1 dJ0_coder_7d493_6 rfl (lv_at hl 0 rfl) ?_
  refine vk_getf C.1 C.2.1 (hcn.2.2.2.2.2.2.2.1 j hj).2.1 w.2.2.2.1 C.2.2.2.1 (C.2.2.2.2 _ fs_15) (fun x h => h) dJ0_coder_7d493_7 ?_
  refine lv_goto (tgt := 14) C.1 C.2.1 dJ0_coder_7d493_10 (by decide) ?_
  exact x_tretM C w Ag.rf hr hk (by decide +kernel) dJ0_coder_7d493_14 (Nat.zero_le _) (Nat.zero_le _)
set_option maxRecDepth 100000 in
theorem k_sIsLatin1 (l : Launch) (Z : Ad) (D : va_G) (T : Cy) (ρ : Nat → Nat) (sz : Nat) (S : St) {j : Nat} (hj : j < 101) : MiC l Z D T ρ yJ0_isLatin1_aae02 cJ0_isLatin1_aae02 1 (some .boolean) 0 0 S S 1 [.ref (Z.2.2.2.1 j)] sz := by
  refine x_inC (by decide) (Nat.le_of_ble_eq_true rfl) (fun p e s m below meth c ls C hr hk hcn hcw w hl => ?_)
  have hl : lv_has ls 1 [(0, .ref (Z.2.2.2.1 j))] := hl
  refine va_gets C.1 C.2.1 hcn.2.2.2.2.2.2.2.2.1 w.2.2.2.1 C.2.2.2.1 (C.2.2.2.2 _ fs_38) (fun x h => h) dJ0_isLatin1_aae02_0 ?_
  refine lv_if_eq (tgt := 17) C.1 C.2.1 dJ0_isLatin1_aae02_3 (by decide) (fun hc => absurd hc (by decide)) (fun _ => ?_)
  refine lv_aload_n C.1 C.2.1 dJ0_isLatin1_aae02_6 rfl (lv_at hl 0 rfl) ?_
  refine vk_getf C.1 C.2.1 (hcn.2.2.2.2.2.2.2.1 j hj).2.1 w.2.2.2.1 C.2.2.2.1 (C.2.2.2.2 _ fs_15) (fun x h => h) dJ0_isLatin1_aae02_7 ?_
  refine lv_if_ne (tgt := 17) C.1 C.2.1 dJ0_isLatin1_aae02_10 (by decide) (fun hc => absurd rfl hc) (fun _ => ?_)
  refine lv_iconst (v := 1) C.1 C.2.1 dJ0_isLatin1_aae02_13 (by decide) ?_
  refine lv_goto (tgt := 18) C.1 C.2.1 dJ0_isLatin1_aae02_14 (by decide) ?_
  exact x_tretM C w Ag.rf hr hk (by decide +kernel) dJ0_isLatin1_aae02_18 (Nat.zero_le _) (Nat.zero_le _)
def sLen (j : Nat) : Int32 := nI (byT.getD j []).length
theorem byT_len : ∀ j, j < 101 → (byT.getD j []).length < 100 := by decide +kernel
set_option maxRecDepth 100000 in
theorem k_sLength (l : Launch) (Z : Ad) (D : va_G) (T : Cy) (ρ : Nat → Nat) (sz : Nat) (S : St) {j : Nat} (hj : j < 101) : MiC l Z D T ρ yJ0_length_8abf5 cJ0_length_8abf5 1 (some .int) 1 20 S S (sLen j) [.ref (Z.2.2.2.1 j)] sz := by
  refine x_inC (by decide) (Nat.le_of_ble_eq_true rfl) (fun p e s m below meth c ls C hr hk hcn hcw w hl => ?_)
  have hl : lv_has ls 1 [(0, .ref (Z.2.2.2.1 j))] := hl
  refine lv_aload_n C.1 C.2.1 dJ0_length_8abf5_0 rfl (lv_at hl 0 rfl) ?_
  refine vk_getf C.1 C.2.1 (hcn.2.2.2.2.2.2.2.1 j hj).2.2.1 w.2.2.2.1 C.2.2.2.1 (C.2.2.2.2 _ fs_9) (fun x h => h) dJ0_length_8abf5_1 ?_
  refine va_tlen C.1 C.2.1 (hcn.2.2.2.2.2.2.2.1 j hj).2.2.2 w.2.2.2.1 (v := sLen j) rfl dJ0_length_8abf5_4 ?_
  refine lv_aload_n C.1 C.2.1 dJ0_length_8abf5_5 rfl (lv_at hl 0 rfl) ?_
  refine x_callKi (As := []) (rest := [.int (sLen j)]) C w hcn hcw (hcn.2.2.2.2.2.2.2.1 j hj).1 (k_sCoder l Z D T ρ s.heap.size S hj) vJ0_335 (hRK (by decide) (by decide)) rfl rfl hl.1 (Nat.le_of_ble_eq_true rfl) ⟨Nat.zero_le _, Nat.zero_le _⟩ dJ0_length_8abf5_6 (fun ρ1 H locs hag w => ?_)
  refine lv_ishr C.1 C.2.1 dJ0_length_8abf5_9 ?_
  have hsh : sLen j >>> ((0 : Int32) &&& 31) = sLen j := by
    have hlt := byT_len j hj
    show nI _ >>> ((0 : Int32) &&& 31) = nI _
    rw [pk_shrN (by omega) _ 0 (by decide)]
    simp
  rw [hsh]
  exact x_iretM C w (Ag.rf.trans hag) hr hk dJ0_length_8abf5_10 (Nat.zero_le _) (Nat.zero_le _)
