/-! ordinal() of a sort -/
def yOrd : MethodName := ⟨"java/lang/Enum", "ordinal", "()I"⟩
def xOrd : MethodName := ⟨"TextLessons$Sort", "ordinal", "()I"⟩
theorem dOrd_0 : decode prog_18_method_2_code 0 = .ok (.aload_n 0, 1) := by decide +kernel
theorem dOrd_1 : decode prog_18_method_2_code 1 = .ok (.getfield 7, 3) := by decide +kernel
theorem dOrd_4 : decode prog_18_method_2_code 4 = .ok (.ireturn, 1) := by decide +kernel
theorem or_f : Cond.fieldLink "java/lang/Enum" 7 "java/lang/Enum" "ordinal" "I" ∈ tb := tb9 237 rfl rfl
theorem or_i : Cond.initialized "java/lang/Enum" ∈ tb := tb1 21 rfl rfl
theorem or_s : Cond.sameMethod "TextLessons$Sort" "java/lang/Enum" "ordinal" "()I" ∈ tb := tb4 53 rfl rfl
theorem or_l : Cond.selects "TextLessons$Sort" xOrd yOrd ∈ tb := tb4 55 rfl rfl
theorem or_m : Cond.instanceMethod yOrd ∈ tb := tb4 56 rfl rfl
theorem or_c : Cond.code yOrd prog_18_method_2_code 1 (some .int) ∈ tb := tb4 57 rfl rfl
theorem or_9 : Cond.methodLink RX9 55 xOrd ∈ tb := tb4 52 rfl rfl
theorem or_11 : Cond.methodLink RX11 28 xOrd ∈ tb := tb5 50 rfl rfl
theorem or_2 : Cond.methodLink RX2 41 xOrd ∈ tb := tb5 181 rfl rfl
def orQ : String × String × String × List Int32 := fSo.getD 0 ("", "", "", [])
theorem orQ_in : orQ ∈ fSo := List.mem_of_getElem? (i := 0) rfl
theorem orQ_at : ∀ k, k < 56 → orQ.2.2.2.getD k 0 = nI k := by decide +kernel
set_option maxRecDepth 100000 in
theorem k_ordinal (l : Launch) (Z : Ad) (D : va_G) (T : Cy) (ρ : Nat → Nat) (sz : Nat) (S : St) {k : Nat} (hk56 : k < 56) : MiC l Z D T ρ yOrd prog_18_method_2_code 1 (some .int) 0 0 S S (nI k) [.ref (Z.1 k)] sz := by
  refine x_inC (by decide) (Nat.le_of_ble_eq_true rfl) (fun p e s m below meth c ls C hr hk hcn hcw w hl => ?_)
  have hl : lv_has ls 1 [(0, .ref (Z.1 k))] := hl
  refine lv_aload_n C.1 C.2.1 dOrd_0 rfl (lv_at hl 0 rfl) ?_
  refine x_eI (q := orQ) C w hcn hk56 orQ_in or_f dOrd_1 ?_
  rw [orQ_at k hk56]
  exact x_iretM C w Ag.rf hr hk dOrd_4 (Nat.zero_le _) (Nat.zero_le _)
section XOR
variable {p : Program} {l : Launch} {e : Env} {R : Room} {s : State} {m : MethodId} {args : Array Value} {below : List Frame} {meth : Method} {c : Code} {H : Heap} {locs : List Loc} {Q : State → Prop}
variable {cc : ByteArray} {pc nL idx cells slots : Nat} {ls : Array Slot} {rest : List Value} {D : va_G} {T : Cy} {ρ : Nat → Nat} {S : St} {A : Nat → Prop} {own : String} {Z : Ad}
theorem x_ord {k : Nat} (hk : k < 56) (C : CallFix p m c cc nL s args tb own) (w : Wn Yc D T ρ S A s H locs) (hcn : Kn Z A s s.heap) (hcw : Kw Z s) (hlink : Cond.methodLink own idx xOrd ∈ tb) (hR : 1 ≤ R.frames ∧ 20 ≤ R.locals) (hl : ls.size = nL) (hW : (rest.map fun v => v.category).sum ≤ 8) (hcs : cells ≤ R.cells ∧ slots ≤ R.slots) (hdg : decode cc pc = .ok (.invokevirtual idx, 3))
    (kk : ∀ (ρ1 : Nat → Nat) (H1 : Heap) (locs1 : List Loc), Ag ρ ρ1 → Wn Yc D T ρ1 S A s H1 locs1 → W p l e R s m args below meth c H1 locs1 cells slots Q (F0 m (pc + 3) ls (.int (nI k) :: rest))) : W p l e R s m args below meth c H locs cells slots Q (F0 m pc ls (.ref (Z.1 k) :: rest)) := by
  have hz : kap S - kap S = 0 := Nat.sub_self _
  have hM := k_ordinal l Z D T ρ H.size S hk
  unfold MiC at hM
  rw [hz] at hM
  obtain ⟨cell, g1, g2, g3⟩ := va_recvE hcn.1 (by rw [smN_len]; exact hk) w.2.2.2.1
  refine va_calli (va_runU (As := []) (rest := rest) (C := "TextLessons$Sort") (owner := "java/lang/Enum") (x := xOrd) C hM (va_cwU 0 C.2.2.2.2 (fun x hx => ?_) rfl rfl rfl rfl ⟨by decide, by decide, by decide +kernel⟩ hR) ⟨blindC, ⟨cell, g1, g2, g3⟩, fun U hU hW => pre_atC w hcn hcw _ U hU hW⟩ rfl rfl hl rfl (lv_room (rest := .ref (Z.1 k) :: rest) hW) hdg hcs) w.2.2.2.1 (fun q _ h => wn_A w q h) (wn_A w) (fun r1 ρ1 t H1 locs1 ht hvm hw hB _ _ hS => ?_)
  · unfold va_wsU at hx
    rcases List.mem_append.mp hx with hx | hx
    · simp only [List.mem_cons, List.not_mem_nil, or_false] at hx
      rcases hx with rfl | rfl | rfl | rfl | rfl
      · exact good_tb hlink
      · exact good_tb or_s
      · exact good_tb or_l
      · exact good_tb or_m
      · exact good_tb or_i
    · exact goodIn_tb or_c x hx
  · obtain ⟨rfl, hag⟩ := hw
    exact kk ρ1 H1 locs1 hag (wn_backM w hB ht hvm hS)
end XOR
