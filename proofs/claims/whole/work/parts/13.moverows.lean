/-! rows for methods in which a Row may grow -/
theorem sum_le {l : List Nat} {f g : Nat → Nat} (h : ∀ x ∈ l, f x ≤ g x) : (l.map f).sum ≤ (l.map g).sum := by
  induction l with
  | nil => exact Nat.le_refl _
  | cons x l ih =>
    rw [List.map_cons, List.map_cons, List.sum_cons, List.sum_cons]
    exact Nat.add_le_add (h x List.mem_cons_self) (ih (fun y hy => h y (List.mem_cons_of_mem _ hy)))
theorem km_gro {S S1 : St} {o : Nat} {n : Int32} (h : gro S o n = some S1) : kap S ≤ kap S1 := by
  obtain ⟨h1, h2, h3, h4, h5, rfl⟩ := gro_some h
  refine sum_le (fun x _ => ?_)
  show gN S (34 + x) ≤ gN (sM S (o + 24) n.toNatClampNeg (cpf S (o + 24))) (34 + x)
  by_cases q : 34 + x = o + 24
  · have : gN (sM S (o + 24) n.toNatClampNeg (cpf S (o + 24))) (34 + x) = n.toNatClampNeg := by simp [gN, sM, q]
    rw [this, q]
    omega
  · have : gN (sM S (o + 24) n.toNatClampNeg (cpf S (o + 24))) (34 + x) = gN S (34 + x) := by simp [gN, sM, q]
    rw [this]
    exact Nat.le_refl _
theorem hRK {a b fr lo K : Nat} (h1 : a ≤ fr) (h2 : b ≤ lo) : a ≤ (rmK fr lo K).frames ∧ b ≤ (rmK fr lo K).locals := ⟨h1, h2⟩
theorem hcK {a b z fr lo : Nat} (h : a ≤ b) : a - z ≤ (rmK fr lo (b - z)).cells ∧ 2 * (a - z) ≤ (rmK fr lo (b - z)).slots := ⟨show a - z ≤ b - z by omega, show 2 * (a - z) ≤ 2 * (b - z) by omega⟩
theorem hcM {a b z x y fr lo : Nat} (h0 : z ≤ a) (h1 : x = a) (h2 : x ≤ y) (h3 : y ≤ b) : a - z + (y - x) ≤ (rmK fr lo (b - z)).cells ∧ 2 * (a - z) + 2 * (y - x) ≤ (rmK fr lo (b - z)).slots := ⟨show a - z + (y - x) ≤ b - z by omega, show 2 * (a - z) + 2 * (y - x) ≤ 2 * (b - z) by omega⟩
theorem ncR {o : Nat} (h : Ob Yc o 4) : ¬ (34 ≤ o ∧ o < 58) := by have := row_rng o h.1 h.2; omega
theorem ncP {o : Nat} (h : Ob Yc o 2) : ¬ (34 ≤ o ∧ o < 58) := by have := ctPg o h.1 h.2; omega
section XMV
variable {p : Program} {l : Launch} {e : Env} {R : Room} {s : State} {m : MethodId} {args : Array Value} {below : List Frame} {meth : Method} {c : Code} {H : Heap} {locs : List Loc} {Q : State → Prop}
variable {cc : ByteArray} {pc nL : Nat} {ls : Array Slot} {rest st0 : List Value} {D : va_G} {T : Cy} {ρ ρ0 : Nat → Nat} {S : St} {A : Nat → Prop} {own : String}
variable {y : MethodName} {bytes : ByteArray} {maxL n idx o ci fr lo cells slots mc ms : Nat} {ret : Option FieldType} {q : vw_C} {As : List Value} {S1 : St}
theorem cwV_K (hts : ∀ w ∈ tb, w.before args s = true) {C : String} {K : Nat} (hv : Vk own idx C y bytes maxL ret n) (hR : fr + 1 ≤ R.frames ∧ 8 + (maxL + 11) + lo ≤ R.locals) : CallW R s args own C idx y bytes maxL ret (.code y bytes maxL ret :: tb) (rmK fr lo K) K (2 * K) n := by
  obtain ⟨h1, h2, h3, h4, h5, h6⟩ := hv
  refine cwV n hts (fun w hw => ?_) rfl rfl rfl h6 hR
  unfold wsV at hw
  rcases List.mem_append.mp hw with hw | hw
  · simp only [List.mem_cons, List.not_mem_nil, or_false] at hw
    rcases hw with rfl | rfl | rfl | rfl
    · exact good_tb h1
    · exact good_tb h2
    · exact good_tb h3
    · exact good_tb h4
  · exact goodIn_tb h5 w hw
theorem wn_backM {ρ1 : Nat → Nat} {t : State} {H1 : Heap} {locs1 : List Loc} (w : Wn Yc D T ρ S A s H locs) (hB : Be Yc D T ρ1 (va_A (wl Yc T ρ S) H.size) S1 t) (ht : t.heap = H1) (hvm : s.vm.Alike t.vm) (hS : va_S A s.heap H1 locs1) : Wn Yc D T ρ1 S1 A s H1 locs1 :=
  ⟨va_K.moved hvm.symm hB.2.1, by rw [← ht]; exact hB.1, hB.2.2.weaken (fun k q _ h => wn_A w q.1 h), hS, w.2.2.2.2⟩
theorem x_callViM {r : Int32} (C : CallFix p m c cc nL s args tb own) (w : Wn Yc D T ρ S A s H locs) (hM : MiM l D T ρ y bytes maxL ret fr lo S S1 r (.ref (ρ o) :: As) H.size) (hv : Vk own idx q.1 y bytes maxL ret n) (hR : fr + 1 ≤ R.frames ∧ 8 + (maxL + 11) + lo ≤ R.locals) (ho : Ob Yc o ci) (hc : ci < 100) (hq : vwCl[ci]? = some q) (hst : st0 = As.reverse ++ .ref (ρ o) :: rest) (hn : As.length = n) (hl : ls.size = nL) (hW : (rest.map fun v => v.category).sum ≤ 8) (hcs : cells + (kap S1 - kap S) ≤ R.cells ∧ slots + 2 * (kap S1 - kap S) ≤ R.slots) (hdg : decode cc pc = .ok (.invokevirtual idx, 3))
    (kk : ∀ (ρ1 : Nat → Nat) (H1 : Heap) (locs1 : List Loc), Ag ρ ρ1 → Wn Yc D T ρ1 S1 A s H1 locs1 → W p l e R s m args below meth c H1 locs1 (cells + (kap S1 - kap S)) (slots + 2 * (kap S1 - kap S)) Q (F0 m (pc + 3) ls (.int r :: rest))) : W p l e R s m args below meth c H locs cells slots Q (F0 m pc ls st0) := by
  refine va_calli (va_runV C hM (cwV_K C.2.2.2.2 hv hR) ⟨blind, recv_at w ho hc hq, fun U hU hW => pre_at w _ U hU hW⟩ rfl hn hl hst (lv_room (rest := st0) hW) hdg hcs) w.2.2.2.1 (fun q _ h => wn_A w q h) (wn_A w) (fun r1 ρ1 t H1 locs1 ht hvm hw hB _ _ hS => ?_)
  obtain ⟨rfl, hag⟩ := hw
  exact kk ρ1 H1 locs1 hag (wn_backM w hB ht hvm hS)
theorem x_callVvM (C : CallFix p m c cc nL s args tb own) (w : Wn Yc D T ρ S A s H locs) (hM : MvM l D T ρ y bytes maxL ret fr lo S S1 (.ref (ρ o) :: As) H.size) (hv : Vk own idx q.1 y bytes maxL ret n) (hR : fr + 1 ≤ R.frames ∧ 8 + (maxL + 11) + lo ≤ R.locals) (ho : Ob Yc o ci) (hc : ci < 100) (hq : vwCl[ci]? = some q) (hst : st0 = As.reverse ++ .ref (ρ o) :: rest) (hn : As.length = n) (hl : ls.size = nL) (hW : (rest.map fun v => v.category).sum ≤ 8) (hcs : cells + (kap S1 - kap S) ≤ R.cells ∧ slots + 2 * (kap S1 - kap S) ≤ R.slots) (hdg : decode cc pc = .ok (.invokevirtual idx, 3))
    (kk : ∀ (ρ1 : Nat → Nat) (H1 : Heap) (locs1 : List Loc), Ag ρ ρ1 → Wn Yc D T ρ1 S1 A s H1 locs1 → W p l e R s m args below meth c H1 locs1 (cells + (kap S1 - kap S)) (slots + 2 * (kap S1 - kap S)) Q (F0 m (pc + 3) ls rest)) : W p l e R s m args below meth c H locs cells slots Q (F0 m pc ls st0) := by
  refine va_callv (va_runV C hM (cwV_K C.2.2.2.2 hv hR) ⟨blind, recv_at w ho hc hq, fun U hU hW => pre_at w _ U hU hW⟩ rfl hn hl hst (lv_room (rest := st0) hW) hdg hcs) w.2.2.2.1 (fun q _ h => wn_A w q h) (wn_A w) (fun ρ1 t H1 locs1 ht hvm hw hB _ _ hS => ?_)
  exact kk ρ1 H1 locs1 hw (wn_backM w hB ht hvm hS)
theorem x_iretM (C : CallFix p m c cc nL s args tb own) (w : Wn Yc D T ρ S A s H locs) (ha : Ag ρ0 ρ) (hr : meth.sig.returnType = some .int) (hk : meth.locks = false) {r : Int32} (hdg : decode cc pc = .ok (.ireturn, 1)) (h1 : cells ≤ mc) (h2 : slots ≤ ms) : W p l e R s m args below meth c H locs cells slots (MQ below (QiM D T ρ0 A S r) args s mc ms A) (F0 m pc ls [.int r]) :=
  W.widen h1 h2 (W.iret C.1 C.2.1 hr (fun t ht hW => ⟨⟨r, ρ, rfl, ⟨rfl, ha⟩, by rw [ht]; exact w.2.1, va_K.moved hW.alike w.1, w.2.2.1⟩, w.2.2.2.1.F ht⟩) w.2.2.2.1.2.2 hdg hk)
theorem x_zretM (C : CallFix p m c cc nL s args tb own) (w : Wn Yc D T ρ S A s H locs) (ha : Ag ρ0 ρ) (hr : meth.sig.returnType = some .boolean) (hk : meth.locks = false) {r : Int32} (hv : r = 0 ∨ r = 1) (hdg : decode cc pc = .ok (.ireturn, 1)) (h1 : cells ≤ mc) (h2 : slots ≤ ms) : W p l e R s m args below meth c H locs cells slots (MQ below (QiM D T ρ0 A S r) args s mc ms A) (F0 m pc ls [.int r]) :=
  W.widen h1 h2 (W.zret C.1 C.2.1 hr (nar01 hv).1 (fun t ht hW => ⟨⟨r, ρ, rfl, ⟨rfl, ha⟩, by rw [ht]; exact w.2.1, va_K.moved hW.alike w.1, w.2.2.1⟩, w.2.2.2.1.F ht⟩) w.2.2.2.1.2.2 hdg hk)
theorem x_vretM (C : CallFix p m c cc nL s args tb own) (w : Wn Yc D T ρ S A s H locs) (ha : Ag ρ0 ρ) (hr : meth.sig.returnType = none) (hk : meth.locks = false) (hdg : decode cc pc = .ok (.return_, 1)) (h1 : cells ≤ mc) (h2 : slots ≤ ms) : W p l e R s m args below meth c H locs cells slots (MQ below (QvM D T ρ0 A S) args s mc ms A) (F0 m pc ls []) :=
  W.widen h1 h2 (W.vret C.1 C.2.1 hr (fun t ht hW => ⟨⟨ρ, rfl, ha, by rw [ht]; exact w.2.1, va_K.moved hW.alike w.1, w.2.2.1⟩, w.2.2.2.1.F ht⟩) w.2.2.2.1.2.2 hdg hk)
end XMV
