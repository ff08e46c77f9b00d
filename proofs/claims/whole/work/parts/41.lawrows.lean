/-! THE LAW: rows for calls in a world of two sides -/
theorem P_left {D : va_G} {cl : List vw_C} {a b : va_W} {H : Heap} (h : va_P D cl (a ++ b) H) : va_P D cl a H := fun k q hq => h k q (by rw [List.getElem?_append_left (List.getElem?_eq_some_iff.mp hq).1]; exact hq)
theorem at_right {a b : va_W} {k : Nat} : (a ++ b)[a.length + k]? = b[k]? := by
  rw [List.getElem?_append_right (by omega)]
  congr 1
  omega
theorem P_right {D : va_G} {cl : List vw_C} {a b : va_W} {H : Heap} (h : va_P D cl (a ++ b) H) : va_P D cl b H := fun k q hq => h (a.length + k) q (by rw [at_right]; exact hq)
theorem D_left {A : Nat → Prop} {a b : va_W} (h : va_D A (a ++ b)) : va_D A a := by
  have e : ∀ (k : Nat) (q : Nat × va_E), a[k]? = some q → (a ++ b)[k]? = some q := fun k q hq => by rw [List.getElem?_append_left (List.getElem?_eq_some_iff.mp hq).1]; exact hq
  exact ⟨fun i j p q hi hj he => h.1 i j p q (e i p hi) (e j q hj) he, fun k q hq => h.2 k q (e k q hq)⟩
theorem P_app {D : va_G} {cl : List vw_C} {a b : va_W} {H : Heap} (h1 : va_P D cl a H) (h2 : va_P D cl b H) : va_P D cl (a ++ b) H := by
  intro k q hq
  by_cases hk : k < a.length
  · rw [List.getElem?_append_left hk] at hq
    exact h1 k q hq
  · rw [List.getElem?_append_right (by omega)] at hq
    exact h2 _ q hq
theorem P_swap {D : va_G} {cl : List vw_C} {a b : va_W} {H : Heap} (h : va_P D cl (a ++ b) H) : va_P D cl (b ++ a) H := P_app (P_right h) (P_left h)
theorem D_swap {A : Nat → Prop} {a b : va_W} (h : va_D A (a ++ b)) : va_D A (b ++ a) := by
  have e : ∀ (k : Nat) (q : Nat × va_E), (b ++ a)[k]? = some q → (a ++ b)[if k < b.length then a.length + k else k - b.length]? = some q := by
    intro k q hq
    by_cases hk : k < b.length
    · rw [List.getElem?_append_left hk] at hq
      rw [if_pos hk, at_right]
      exact hq
    · rw [List.getElem?_append_right (by omega)] at hq
      rw [if_neg hk, List.getElem?_append_left (List.getElem?_eq_some_iff.mp hq).1]
      exact hq
  refine ⟨fun i j p q hi hj he => ?_, fun k q hq => h.2 _ q (e k q hq)⟩
  have h1 := h.1 _ _ p q (e i p hi) (e j q hj) he
  have l1 := (List.getElem?_eq_some_iff.mp hi).1
  have l2 := (List.getElem?_eq_some_iff.mp hj).1
  rw [List.length_append] at l1 l2
  split at h1 <;> split at h1 <;> omega
theorem notA {D : va_G} {cl : List vw_C} {A : Nat → Prop} {a b : va_W} {H : Heap} (hP : va_P D cl (a ++ b) H) (hD : va_D A (a ++ b)) {k : Nat} {x : Nat × va_E} (hx : b[k]? = some x) : x.1 < H.size ∧ ¬ va_A a H.size x.1 := by
  have hl : x.1 < H.size := (P_right hP k x hx).lt
  refine ⟨hl, fun h => ?_⟩
  rcases h with ⟨i, e, h⟩ | h
  · have hi := (List.getElem?_eq_some_iff.mp h).1
    have := hD.1 i (a.length + k) (x.1, e) x (by rw [List.getElem?_append_left hi]; exact h) (by rw [at_right]; exact hx) rfl
    omega
  · omega
theorem joinL {D : va_G} {cl : List vw_C} {A : Nat → Prop} {a b w1 : va_W} {H H1 : Heap} (hP : va_P D cl (a ++ b) H) (hD : va_D A (a ++ b)) (hk : ∀ q : Nat, q < H.size → ¬ va_A a H.size q → H1[q]? = H[q]?) (hF : ∀ q, va_A a H.size q → A q) (hP1 : va_P D cl w1 H1) (hD1 : va_D (va_A a H.size) w1) : va_P D cl (w1 ++ b) H1 ∧ va_D A (w1 ++ b) := by
  refine ⟨P_app hP1 ((P_right hP).kept (fun k x hx => hk x.1 (notA hP hD hx).1 (notA hP hD hx).2)), ?_, ?_⟩
  · intro i j p q hi hj he
    by_cases h1 : i < w1.length <;> by_cases h2 : j < w1.length
    · rw [List.getElem?_append_left h1] at hi
      rw [List.getElem?_append_left h2] at hj
      exact hD1.1 i j p q hi hj he
    · rw [List.getElem?_append_left h1] at hi
      rw [List.getElem?_append_right (by omega)] at hj
      exact absurd (he ▸ hD1.2 i p hi) (notA hP hD hj).2
    · rw [List.getElem?_append_right (by omega)] at hi
      rw [List.getElem?_append_left h2] at hj
      exact absurd (he ▸ hD1.2 j q hj) (notA hP hD hi).2
    · rw [List.getElem?_append_right (by omega)] at hi hj
      have := hD.1 (a.length + (i - w1.length)) (a.length + (j - w1.length)) p q (by rw [at_right]; exact hi) (by rw [at_right]; exact hj) he
      omega
  · intro k q hq
    by_cases h1 : k < w1.length
    · rw [List.getElem?_append_left h1] at hq
      exact hF _ (hD1.2 k q hq)
    · rw [List.getElem?_append_right (by omega)] at hq
      exact hD.2 (a.length + (k - w1.length)) q (by rw [at_right]; exact hq)
section GLW
variable {p : Program} {l : Launch} {e : Env} {R : Room} {s : State} {m : MethodId} {args : Array Value} {below : List Frame} {meth : Method} {c : Code} {H : Heap} {locs : List Loc} {Q : State → Prop}
variable {cc : ByteArray} {pc nL : Nat} {ls : Array Slot} {rest st0 : List Value} {Y : Ly} {D : va_G} {T : Cy} {ρ : Nat → Nat} {S S1 : St} {A : Nat → Prop} {own : String} {Z : Ad} {wb : va_W}
variable {y : MethodName} {bytes : ByteArray} {maxL n idx ci fr lo cells slots : Nat} {ret : Option FieldType} {q : vw_C} {As : List Value}
theorem g_swap {a b : va_W} (w : Wg D T (a ++ b) A s H locs) : Wg D T (b ++ a) A s H locs := ⟨w.1, P_swap w.2.1, D_swap w.2.2.1, w.2.2.2⟩
theorem g_F (w : Wg D T (wl Y T ρ S ++ wb) A s H locs) : ∀ q, va_A (wl Y T ρ S) H.size q → A q := by
  intro q h
  rcases h with ⟨k, e, h⟩ | h
  · exact (D_left w.2.2.1).2 k (q, e) h
  · exact w.2.2.2.2 q (Nat.le_trans w.2.2.2.1.1 h)
theorem g_rc (w : Wg D T (wl Y T ρ S ++ wb) A s H locs) (ho : Ob Y 0 ci) (hc : ci < 100) (hq : vwCl[ci]? = some q) : ∃ cell : Cell, H[ρ 0]? = some cell ∧ cell.vm.isStatics = false ∧ s.vm.findClass q.1 = some cell.cls :=
  va_recv (q0 := 0) w.1 (P_left w.2.1) hq (by rw [wl_at ho.1, cel_o ho.2 hc])
theorem g_pre (w : Wg D T (wl Y T ρ S ++ wb) A s H locs) (av : List Value) (U : State) (hU : U.heap = H) (hW : s.WarmedH U.vm) : Pm Y D T ρ S H.size av av.toArray U :=
  ⟨rfl, by rw [hU], by rw [hU]; exact P_left w.2.1, va_K.moved hW.alike w.1, (D_left w.2.2.1).weaken (fun _ _ _ _ => trivial)⟩
theorem g_preC (w : Wg D T (wl Yc T ρ S ++ wb) A s H locs) (hc : Kn Z A s s.heap) (hw : Kw Z s) (av : List Value) (U : State) (hU : U.heap = H) (hW : s.WarmedH U.vm) : PmC Z D T ρ S H.size av av.toArray U :=
  ⟨rfl, by rw [hU], by rw [hU]; exact P_left w.2.1, va_K.moved hW.alike w.1, (D_left w.2.2.1).weaken (fun _ _ _ _ => trivial), by rw [hU]; exact Kn.moved hW.alike ((hc.kept w.2.2.2.1.2.1).narrow (g_F w)), Kw.warm hW hw⟩
theorem g_back {S1 : St} {ρ1 : Nat → Nat} {t : State} {H1 : Heap} {locs1 : List Loc} (w : Wg D T (wl Y T ρ S ++ wb) A s H locs) (hB : Be Y D T ρ1 (va_A (wl Y T ρ S) H.size) S1 t) (ht : t.heap = H1) (hk : ∀ q : Nat, q < H.size → ¬ va_A (wl Y T ρ S) H.size q → H1[q]? = H[q]?) (hS : va_S A s.heap H1 locs1) : Wg D T (wl Y T ρ1 S1 ++ wb) A s H1 locs1 := by
  obtain ⟨hP1, hK1, hD1⟩ := hB
  rw [ht] at hP1
  obtain ⟨j1, j2⟩ := joinL w.2.1 w.2.2.1 hk (g_F w) hP1 hD1
  exact ⟨w.1, j1, j2, hS, w.2.2.2.2⟩
theorem g_i {r : Int32} (C : CallFix p m c cc nL s args tb own) (w : Wg D T (wl Y T ρ S ++ wb) A s H locs) (ho : Ob Y 0 ci) (hc : ci < 100) (hq : vwCl[ci]? = some q) (hM : Mi l Y D T ρ y bytes maxL ret fr lo S S1 r (.ref (ρ 0) :: As) H.size) (hv : Vk own idx q.1 y bytes maxL ret n) (hR : fr + 1 ≤ R.frames ∧ 8 + (maxL + 11) + lo ≤ R.locals) (hst : st0 = As.reverse ++ .ref (ρ 0) :: rest) (hn : As.length = n) (hl : ls.size = nL) (hW : (rest.map fun v => v.category).sum ≤ 8) (hcs : cells ≤ R.cells ∧ slots ≤ R.slots) (hdg : decode cc pc = .ok (.invokevirtual idx, 3))
    (kk : ∀ (H1 : Heap) (locs1 : List Loc), Wg D T (wl Y T ρ S1 ++ wb) A s H1 locs1 → W p l e R s m args below meth c H1 locs1 cells slots Q (F0 m (pc + 3) ls (.int r :: rest))) : W p l e R s m args below meth c H locs cells slots Q (F0 m pc ls st0) := by
  refine va_calli (va_runV C hM (cwV_tb C.2.2.2.2 hv hR) ⟨blind, g_rc w ho hc hq, fun U hU hW => g_pre w _ U hU hW⟩ rfl hn hl hst (lv_room (rest := st0) hW) hdg hcs) w.2.2.2.1 (fun q _ h => g_F w q h) (g_F w) (fun r1 u t H1 locs1 ht hvm hw hB _ hk hS => ?_)
  subst hw
  exact kk H1 locs1 (g_back w hB ht hk hS)
theorem g_j {r : Int64} (C : CallFix p m c cc nL s args tb own) (w : Wg D T (wl Y T ρ S ++ wb) A s H locs) (ho : Ob Y 0 ci) (hc : ci < 100) (hq : vwCl[ci]? = some q) (hM : Mj l Y D T ρ y bytes maxL ret fr lo S S1 r (.ref (ρ 0) :: As) H.size) (hv : Vk own idx q.1 y bytes maxL ret n) (hR : fr + 1 ≤ R.frames ∧ 8 + (maxL + 11) + lo ≤ R.locals) (hst : st0 = As.reverse ++ .ref (ρ 0) :: rest) (hn : As.length = n) (hl : ls.size = nL) (hW : (rest.map fun v => v.category).sum ≤ 8) (hcs : cells ≤ R.cells ∧ slots ≤ R.slots) (hdg : decode cc pc = .ok (.invokevirtual idx, 3))
    (kk : ∀ (H1 : Heap) (locs1 : List Loc), Wg D T (wl Y T ρ S1 ++ wb) A s H1 locs1 → W p l e R s m args below meth c H1 locs1 cells slots Q (F0 m (pc + 3) ls (.long r :: rest))) : W p l e R s m args below meth c H locs cells slots Q (F0 m pc ls st0) := by
  refine va_calll (va_runV C hM (cwV_tb C.2.2.2.2 hv hR) ⟨blind, g_rc w ho hc hq, fun U hU hW => g_pre w _ U hU hW⟩ rfl hn hl hst (lv_room (rest := st0) hW) hdg hcs) w.2.2.2.1 (fun q _ h => g_F w q h) (g_F w) (fun r1 u t H1 locs1 ht hvm hw hB _ hk hS => ?_)
  subst hw
  exact kk H1 locs1 (g_back w hB ht hk hS)
theorem g_M {r : Int32} (C : CallFix p m c cc nL s args tb own) (w : Wg D T (wl Yc T ρ S ++ wb) A s H locs) (hM : MiM l D T ρ y bytes maxL ret fr lo S S1 r (.ref (ρ 0) :: As) H.size) (hv : Vk own idx RX12 y bytes maxL ret n) (hR : fr + 1 ≤ R.frames ∧ 8 + (maxL + 11) + lo ≤ R.locals) (hst : st0 = As.reverse ++ .ref (ρ 0) :: rest) (hn : As.length = n) (hl : ls.size = nL) (hW : (rest.map fun v => v.category).sum ≤ 8) (hcs : cells + (kap S1 - kap S) ≤ R.cells ∧ slots + 2 * (kap S1 - kap S) ≤ R.slots) (hdg : decode cc pc = .ok (.invokevirtual idx, 3))
    (kk : ∀ (ρ1 : Nat → Nat) (H1 : Heap) (locs1 : List Loc), ρ1 0 = ρ 0 → Wg D T (wl Yc T ρ1 S1 ++ wb) A s H1 locs1 → W p l e R s m args below meth c H1 locs1 (cells + (kap S1 - kap S)) (slots + 2 * (kap S1 - kap S)) Q (F0 m (pc + 3) ls (.int r :: rest))) : W p l e R s m args below meth c H locs cells slots Q (F0 m pc ls st0) := by
  refine va_calli (va_runV C hM (cwV_K C.2.2.2.2 hv hR) ⟨blind, g_rc (q := (RX12, TX12, 7)) w obC0 (by decide) rfl, fun U hU hW => g_pre w _ U hU hW⟩ rfl hn hl hst (lv_room (rest := st0) hW) hdg hcs) w.2.2.2.1 (fun q _ h => g_F w q h) (g_F w) (fun r1 ρ1 t H1 locs1 ht hvm hw hB _ hk hS => ?_)
  obtain ⟨rfl, hag⟩ := hw
  exact kk ρ1 H1 locs1 (hag 0 (by decide)) (g_back w hB ht hk hS)
theorem g_C {r : Int32} (C : CallFix p m c cc nL s args tb own) (w : Wg D T (wl Yc T ρ S ++ wb) A s H locs) (hcn : Kn Z A s s.heap) (hcw : Kw Z s) (hM : MiC l Z D T ρ y bytes maxL ret fr lo S S1 r (.ref (ρ 0) :: As) H.size) (hv : Vk own idx RX12 y bytes maxL ret n) (hR : fr + 1 ≤ R.frames ∧ 8 + (maxL + 11) + lo ≤ R.locals) (hst : st0 = As.reverse ++ .ref (ρ 0) :: rest) (hn : As.length = n) (hl : ls.size = nL) (hW : (rest.map fun v => v.category).sum ≤ 8) (hcs : cells + (kap S1 - kap S) ≤ R.cells ∧ slots + 2 * (kap S1 - kap S) ≤ R.slots) (hdg : decode cc pc = .ok (.invokevirtual idx, 3))
    (kk : ∀ (ρ1 : Nat → Nat) (H1 : Heap) (locs1 : List Loc), ρ1 0 = ρ 0 → Wg D T (wl Yc T ρ1 S1 ++ wb) A s H1 locs1 → W p l e R s m args below meth c H1 locs1 (cells + (kap S1 - kap S)) (slots + 2 * (kap S1 - kap S)) Q (F0 m (pc + 3) ls (.int r :: rest))) : W p l e R s m args below meth c H locs cells slots Q (F0 m pc ls st0) := by
  refine va_calli (va_runV C hM (cwV_K C.2.2.2.2 hv hR) ⟨blindC, g_rc (q := (RX12, TX12, 7)) w obC0 (by decide) rfl, fun U hU hW => g_preC w hcn hcw _ U hU hW⟩ rfl hn hl hst (lv_room (rest := st0) hW) hdg hcs) w.2.2.2.1 (fun q _ h => g_F w q h) (g_F w) (fun r1 ρ1 t H1 locs1 ht hvm hw hB _ hk hS => ?_)
  obtain ⟨rfl, hag⟩ := hw
  exact kk ρ1 H1 locs1 (hag 0 (by decide)) (g_back w hB ht hk hS)
/-- script[i + k] -/
theorem g_ld {b L i k : Nat} {xs : Nat → Int32} {a1 a2 : Nat} {kz : Int} (C : CallFix p m c cc nL s args tb own) (hX : va_X b L xs s s.heap) (hbl : b < s.heap.size) (hbA : ¬ A b) (hS : va_S A s.heap H locs) (hl : lv_has ls nL [(3, .int (nI i)), (0, .ref b), (1, .ref a1), (2, .ref a2)]) (hk : i + k < L) (hL : L ≤ 3072) (hkz : Int32.ofInt kz = nI k) (d1 : decode cc pc = .ok (.aload_n 0, 1)) (d2 : decode cc (pc + 1) = .ok (.iload_n 3, 1)) (d3 : decode cc (pc + 2) = .ok (.iconst kz, 1)) (d4 : decode cc (pc + 3) = .ok (.iadd, 1)) (d5 : decode cc (pc + 4) = .ok (.iaload, 1))
    (kk : W p l e R s m args below meth c H locs cells slots Q (F0 m (pc + 5) ls (.int (xs (i + k)) :: rest))) : W p l e R s m args below meth c H locs cells slots Q (F0 m pc ls rest) := by
  refine lv_aload_n C.1 C.2.1 d1 rfl (lv_at hl 1 rfl) ?_
  refine lv_iload_n C.1 C.2.1 d2 rfl (lv_at hl 0 rfl) ?_
  refine lv_iconst C.1 C.2.1 d3 hkz ?_
  refine lv_iadd C.1 C.2.1 d4 ?_
  rw [nI_add]
  refine va_sld C.1 C.2.1 hX hbl hbA hS (vp_in_nI hk (by omega)) d5 ?_
  rw [nI_clamp (by omega)]
  exact kk
end GLW
theorem g_end {L i : Nat} (hL : L ≤ 3072) (hi : i ≤ 10000) : (nI L - 6 < nI i) ↔ L < i + 6 := by
  rw [Int32.lt_iff_toInt_lt, Int32.toInt_sub, nI_toInt (by omega), nI_toInt (by omega), show (6 : Int32).toInt = 6 from by decide +kernel]
  rw [Int.bmod_eq_of_le (by omega) (by omega)]
  omega
/-- the classes and array classes at the law's start -/
theorem start_T {args : Array Value} {s : State} (hts : ∀ w ∈ lw_tbl, w.before args s = true) : ∃ T : Cy, ∀ (k : Nat) (q : ClassId × FieldType), (tyT T)[k]? = some q → ArrOfT s q.1 q.2 ∧ va_RA s q.1 q.2 := by
  have hI : (Cond.arrayClass .int).before args s = true := hts _ (tbl_in (k := 1) (i := 64) (by decide +kernel))
  have hJ : (Cond.arrayClass .long).before args s = true := hts _ (tbl_in (k := 1) (i := 138) (by decide +kernel))
  have hO : (Cond.arrayOver (.object "TextLessons$Row")).before args s = true := hts _ w_ao
  obtain ⟨c1, k1, p1, a1, a2, a3⟩ := Cond.arrayClass_spec hI
  obtain ⟨c2, k2, p2, b1, b2, b3⟩ := Cond.arrayClass_spec hJ
  obtain ⟨p3, c3, k3, e1, -, e2, e3, e4⟩ := Cond.arrayOver_spec hO
  refine ⟨(c1, c2, c3), fun k q hq => ?_⟩
  have hk : k < 3 := (List.getElem?_eq_some_iff.mp hq).1
  have : k = 0 ∨ k = 1 ∨ k = 2 := by omega
  rcases this with rfl | rfl | rfl
  · cases hq
    exact ⟨fun n z => ⟨fun k h => (by cases h), k1, a2, p1, a3⟩, a1⟩
  · cases hq
    exact ⟨fun n z => ⟨fun k h => (by cases h), k2, b2, p2, b3⟩, b1⟩
  · cases hq
    exact ⟨fun n z => ⟨fun k h => (by cases h), k3, e2, p3, e3⟩, k3, p3, e2, e3, e1, e4⟩
