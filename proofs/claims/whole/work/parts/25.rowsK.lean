/-! rows for methods that use the constants -/
/-- charAt and indexOf of a String -/
def cC (j : Nat) (i : Int32) : Option Int32 := if i < 0 ∨ (byT.getD j []).length ≤ i.toNatClampNeg then none else some (sCh j i)
theorem cC_some {j : Nat} {i x : Int32} (h : cC j i = some x) : vp_in i (byT.getD j []).length ∧ sCh j i = x := by
  unfold cC at h
  by_cases q : i < 0 ∨ (byT.getD j []).length ≤ i.toNatClampNeg
  · rw [if_pos q] at h; cases h
  · rw [if_neg q] at h; exact ⟨q, Option.some.inj h⟩
def alw (j : Nat) (ch : Int32) : Option Int32 := if ch < 0 ∨ 255 < ch then none else some (if sIx j ch < 0 then 0 else 1)
theorem alw_some {j : Nat} {ch x : Int32} (h : alw j ch = some x) : ¬ ch < 0 ∧ ¬ 255 < ch ∧ (if sIx j ch < 0 then (0 : Int32) else 1) = x := by
  unfold alw at h
  by_cases q : ch < 0 ∨ 255 < ch
  · rw [if_pos q] at h; cases h
  · rw [if_neg q] at h; exact ⟨fun z => q (Or.inl z), fun z => q (Or.inr z), Option.some.inj h⟩
section XKR
variable {p : Program} {l : Launch} {e : Env} {R : Room} {s : State} {m : MethodId} {args : Array Value} {below : List Frame} {meth : Method} {c : Code} {H : Heap} {locs : List Loc} {Q : State → Prop}
variable {cc : ByteArray} {pc nL : Nat} {ls : Array Slot} {rest st0 : List Value} {D : va_G} {T : Cy} {ρ ρ0 : Nat → Nat} {S : St} {A : Nat → Prop} {own : String} {Z : Ad}
variable {y : MethodName} {bytes : ByteArray} {maxL n idx o ci fr lo cells slots mc ms : Nat} {ret : Option FieldType} {q : vw_C} {As : List Value} {S1 : St}
theorem x_callVeC {k : Nat} (C : CallFix p m c cc nL s args tb own) (w : Wn Yc D T ρ S A s H locs) (hcn : Kn Z A s s.heap) (hcw : Kw Z s) (hM : MeC l Z D T ρ y bytes maxL ret fr lo S S k (.ref (ρ o) :: As) H.size) (hv : Vk own idx q.1 y bytes maxL ret n) (hR : fr + 1 ≤ R.frames ∧ 8 + (maxL + 11) + lo ≤ R.locals) (ho : Ob Yc o ci) (hc : ci < 100) (hq : vwCl[ci]? = some q) (hst : st0 = As.reverse ++ .ref (ρ o) :: rest) (hn : As.length = n) (hl : ls.size = nL) (hW : (rest.map fun v => v.category).sum ≤ 8) (hcs : cells ≤ R.cells ∧ slots ≤ R.slots) (hdg : decode cc pc = .ok (.invokevirtual idx, 3))
    (kk : ∀ (ρ1 : Nat → Nat) (H1 : Heap) (locs1 : List Loc), Ag ρ ρ1 → Wn Yc D T ρ1 S A s H1 locs1 → W p l e R s m args below meth c H1 locs1 cells slots Q (F0 m (pc + 3) ls (.ref (Z.1 k) :: rest))) : W p l e R s m args below meth c H locs cells slots Q (F0 m pc ls st0) := by
  have hz : kap S - kap S = 0 := Nat.sub_self _
  unfold MeC at hM
  rw [hz] at hM
  refine va_callr (va_runV C hM (cwV_K C.2.2.2.2 hv hR) ⟨blindC, recv_at w ho hc hq, fun U hU hW => pre_atC w hcn hcw _ U hU hW⟩ rfl hn hl hst (lv_room (rest := st0) hW) hdg hcs) w.2.2.2.1 (fun q _ h => wn_A w q h) (wn_A w) (fun ρ1 q t H1 locs1 ht hvm hw hB _ _ hS => ?_)
  obtain ⟨rfl, hB⟩ := hB
  exact kk ρ1 H1 locs1 hw (wn_backM w hB ht hvm hS)
theorem x_eLe (C : CallFix p m c cc nL s args tb own) (w : Wn Yc D T ρ S A s H locs) (hc : Kn Z A s s.heap) {k : Nat} (hk : k < 56) (hlink : Cond.fieldLink own idx "TextLessons$Sort" "least" "I" ∈ tb) (hdg : decode cc pc = .ok (.getfield idx, 3)) (kk : W p l e R s m args below meth c H locs cells slots Q (F0 m (pc + 3) ls (.int (leT.getD k 0) :: rest))) : W p l e R s m args below meth c H locs cells slots Q (F0 m pc ls (.ref (Z.1 k) :: rest)) :=
  x_eI (q := ("TextLessons$Sort", "least", "I", leT)) C w hc hk (List.mem_of_getElem? (i := 1) rfl) hlink hdg kk
theorem x_eGr (C : CallFix p m c cc nL s args tb own) (w : Wn Yc D T ρ S A s H locs) (hc : Kn Z A s s.heap) {k : Nat} (hk : k < 56) (hlink : Cond.fieldLink own idx "TextLessons$Sort" "group" "I" ∈ tb) (hdg : decode cc pc = .ok (.getfield idx, 3)) (kk : W p l e R s m args below meth c H locs cells slots Q (F0 m (pc + 3) ls (.int (grT.getD k 0) :: rest))) : W p l e R s m args below meth c H locs cells slots Q (F0 m pc ls (.ref (Z.1 k) :: rest)) :=
  x_eI (q := ("TextLessons$Sort", "group", "I", grT)) C w hc hk (List.mem_of_getElem? (i := 2) rfl) hlink hdg kk
end XKR
theorem dX5_allows_0 : decode cX5_allows 0 = .ok (.aload_n 1, 1) := by decide +kernel
theorem dX5_allows_1 : decode cX5_allows 1 = .ok (.iload_n 0, 1) := by decide +kernel
theorem dX5_allows_2 : decode cX5_allows 2 = .ok (.invokevirtual 131, 3) := by decide +kernel
theorem dX5_allows_5 : decode cX5_allows 5 = .ok (.ifCond .lt 7, 3) := by decide +kernel
theorem dX5_allows_8 : decode cX5_allows 8 = .ok (.iconst 1, 1) := by decide +kernel
theorem dX5_allows_9 : decode cX5_allows 9 = .ok (.goto 4, 3) := by decide +kernel
theorem dX5_allows_12 : decode cX5_allows 12 = .ok (.iconst 0, 1) := by decide +kernel
theorem dX5_allows_13 : decode cX5_allows 13 = .ok (.ireturn, 1) := by decide +kernel
set_option maxRecDepth 100000 in
theorem k_Rd_allows (l : Launch) (Z : Ad) (D : va_G) (T : Cy) (ρ : Nat → Nat) (sz : Nat) (S : St) {j : Nat} {ch r : Int32} (hj : j < 101) (h : alw j ch = some r) : MiC l Z D T ρ yX5_allows cX5_allows 2 (some .boolean) 4 91 S S r [.int ch, .ref (Z.2.2.2.1 j)] sz := by
  obtain ⟨h0, h1, h2⟩ := alw_some h
  refine x_inC (by decide) (Nat.le_of_ble_eq_true rfl) (fun p e s m below meth c ls C hr hk hcn hcw w hl => ?_)
  have hl : lv_has ls 2 [(0, .int ch), (1, .ref (Z.2.2.2.1 j))] := hl
  refine lv_aload_n C.1 C.2.1 dX5_allows_0 rfl (lv_at hl 1 rfl) ?_
  refine lv_iload_n C.1 C.2.1 dX5_allows_1 rfl (lv_at hl 0 rfl) ?_
  refine x_callKi (As := [.int ch]) (rest := []) C w hcn hcw (hcn.2.2.2.2.2.2.2.1 _ hj).1 (k_sIndexOf l Z D T ρ s.heap.size S hj h0 h1) vX5_131 (hRK (by decide) (by decide)) rfl rfl hl.1 (Nat.le_of_ble_eq_true rfl) ⟨Nat.zero_le _, Nat.zero_le _⟩ dX5_allows_2 (fun ρ1 H locs hag w => ?_)
  refine lv_if_lt (tgt := 12) C.1 C.2.1 dX5_allows_5 (by decide) (fun hc => ?_) (fun hc => ?_)
  · rw [if_pos hc] at h2
    subst h2
    refine lv_iconst (v := 0) C.1 C.2.1 dX5_allows_12 (by decide) ?_
    exact x_tretM C w (Ag.rf.trans hag) hr hk (by decide +kernel) dX5_allows_13 (Nat.zero_le _) (Nat.zero_le _)
  · rw [if_neg hc] at h2
    subst h2
    refine lv_iconst (v := 1) C.1 C.2.1 dX5_allows_8 (by decide) ?_
    refine lv_goto (tgt := 13) C.1 C.2.1 dX5_allows_9 (by decide) ?_
    exact x_tretM C w (Ag.rf.trans hag) hr hk (by decide +kernel) dX5_allows_13 (Nat.zero_le _) (Nat.zero_le _)
