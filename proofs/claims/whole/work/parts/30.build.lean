/-! BUILDING: worlds as lists of cells, for constructors -/
def Kj (U : State) : Prop := va_AO "TextLessons$Row" U ∧ va_Nw (.methodLinkNest RX12 20 yX4_init "TextLessons") U
theorem Kj.warm {s U : State} (hW : s.WarmedH U.vm) (h : Kj s) : Kj U := ⟨va_AO.moved hW.alike h.1, va_Nw.warmM hW h.2⟩
theorem Kj.same {u U : State} (hv : U.vm = u.vm) (h : Kj u) : Kj U := ⟨va_AO.moved (u := u) (U := U) (by rw [hv]; exact Vm.Alike.refl _) h.1, va_Nw.same rfl hv.symm h.2⟩
def Wg (D : va_G) (T : Cy) (ws : va_W) (A : Nat → Prop) (s : State) (H : Heap) (locs : List Loc) : Prop :=
  va_K D vwCl (tyT T) s ∧ va_P D vwCl ws H ∧ va_D A ws ∧ va_S A s.heap H locs ∧ ∀ q : Nat, s.heap.size ≤ q → A q
def PiW (D : va_G) (T : Cy) (ws : va_W) (sz : Nat) (av : List Value) : Array Value → State → Prop := va_Pc av (fun U => U.heap.size = sz ∧ va_P D vwCl ws U.heap ∧ va_K D vwCl (tyT T) U ∧ va_D (fun _ => True) ws ∧ Kj U)
def QuW (D : va_G) (T : Cy) (A : Nat → Prop) (W' : (Nat → Nat) → va_W) : Array Value → State → Outcome → State → Prop := va_Qv (fun (_ : Nat → Nat) => True) (fun u t => va_P D vwCl (W' u) t.heap ∧ va_K D vwCl (tyT T) t ∧ va_D A (W' u)) A
def rmI (fr lo mc ms : Nat) : Room := { frames := fr, cells := mc, slots := ms, locals := lo }
def Mu (l : Launch) (D : va_G) (T : Cy) (y : MethodName) (cc : ByteArray) (nL fr lo mc ms : Nat) (ws : va_W) (W' : (Nat → Nat) → va_W) (av : List Value) (sz : Nat) : Prop := Met l y (.code y cc nL none :: tb) (rmI fr lo mc ms) (PiW D T ws sz av) (QuW D T (va_A ws sz) W') mc ms (va_A ws sz)
/-- a constructor by its link -/
def Ik (own : String) (idx : Nat) (y : MethodName) (bytes : ByteArray) (maxL n : Nat) : Prop := Cond.methodLink own idx y ∈ tb ∧ Cond.instanceMethod y ∈ tb ∧ Cond.initialized y.cls ∈ tb ∧ Cond.code y bytes maxL none ∈ tb ∧ y.name = "<init>" ∧ (y.cls ≠ "java/lang/invoke/MethodHandle" ∧ y.cls ≠ "java/lang/invoke/VarHandle" ∧ (parseMethodDescriptor y.desc).map (fun d => d.parameters.length) = some n)
/-- a final field that its own class puts -/
def PkF (own : String) (ci k : Nat) (ty : FieldType) : Prop := ∃ (C : String) (T : u_T) (N : Nat) (ty0 : Nat → FieldType), vwCl[ci]? = some (C, T, N) ∧ (∀ k, k < N → parseFieldDescriptor (T k).2.2.1 = some (ty0 k)) ∧ (∀ a, a < N → ∀ b, b < N → a ≠ b → (T a).2.1 ≠ (T b).2.1) ∧ (T k).2.2.2 = true ∧ (T k).1 = own ∧ parseFieldDescriptor (T k).2.2.1 = some ty
/-- a class whose objects are made -/
def Nk (own : String) (idx ci : Nat) (fs : List Value) : Prop := ∃ (C : String) (T : u_T) (N : Nat) (ty : Nat → FieldType), vwCl[ci]? = some (C, T, N) ∧ (∀ w ∈ u_ws C T N, w ∈ tb) ∧ (∀ k, k < N → parseFieldDescriptor (T k).2.2.1 = some (ty k)) ∧ Cond.classLink own idx C ∈ tb ∧ Cond.instantiable C N ∈ tb ∧ Cond.initialized C ∈ tb ∧ (∀ j, j < N → defaultValue (ty j) = vp_V fs j) ∧ fs.length = N
theorem ob_i : Cond.instanceMethod Lib.objectInit ∈ tb := tb1 30 rfl rfl
theorem ob_c : Cond.code Lib.objectInit ⟨#[0xb1]⟩ 1 none ∈ tb := tb1 31 rfl rfl
theorem ar_i : Cond.arrayClass (newarray.typeOf .int) ∈ tb := tb1 64 rfl rfl
theorem ar_j : Cond.arrayClass (newarray.typeOf .long) ∈ tb := tb1 138 rfl rfl
theorem vpi {i : Int32} {N : Nat} (h : decide (¬ (i < 0 ∨ N ≤ i.toNatClampNeg)) = true) : vp_in i N := show ¬ (i < 0 ∨ N ≤ i.toNatClampNeg) from of_decide_eq_true h
section BLD
variable {p : Program} {l : Launch} {e : Env} {R : Room} {s : State} {m : MethodId} {args : Array Value} {below : List Frame} {meth : Method} {c : Code} {H : Heap} {locs : List Loc} {cells slots : Nat} {Q : State → Prop}
variable {cc : ByteArray} {pc nL : Nat} {ls : Array Slot} {rest st0 : List Value} {D : va_G} {T : Cy} {A : Nat → Prop} {own : String} {ws : va_W}
variable {y : MethodName} {bytes : ByteArray} {maxL n idx fr lo mc ms ci k kd q0 : Nat} {As : List Value} {W' : (Nat → Nat) → va_W}
theorem i_in {sz : Nat} {av : List Value} (hy : plainName y.cls = true) (hlen : (lg_sl av).length ≤ nL)
    (body : ∀ (p : Program) (e : Env) (s : State) (m : MethodId) (below : List Frame) (meth : Method) (c : Code) (ls : Array Slot), CallFix p m c cc nL s av.toArray tb y.cls → meth.sig.returnType = none → meth.locks = false → meth.name = y.name → Kj s → Wg D T ws (va_A ws sz) s s.heap [] → lv_has ls nL (lv_args 0 av) → W p l e (rmI fr lo mc ms) s m av.toArray below meth c s.heap [] 0 0 (MQ below (QuW D T (va_A ws sz) W') av.toArray s mc ms (va_A ws sz)) (F0 m 0 ls [])) : Mu l D T y cc nL fr lo mc ms ws W' av sz := by
  refine Met.ofW (cc := cc) (maxL := nL) (ret := none) hy rfl ?_
  intro p e s m args below meth c s₁ B hml hv
  obtain ⟨rfl, hsz, hP, hK, hD0, hj⟩ := hv
  have hts := atoms_spec (ws := .code y cc nL none :: tb) B.pre
  have hown : s.vm.findClass y.cls = some m.cls := findClass_of_methodNamed B.named
  have hnm : meth.name = y.name := (name_of_methodNamed B.named B.method).1
  subst hsz
  have hl := lv_entry av (n := nL) hlen
  rw [lg_entry_eq]
  exact body p e s m below meth c _ ⟨B.exec, B.bytes, hml, hown, fun w h => hts w (List.mem_cons_of_mem _ h)⟩ B.returns B.notSynchronized hnm hj ⟨hK, hP, hD0.self, va_S.rf, fun q h => Or.inr h⟩ hl
theorem i_ret (C : CallFix p m c cc nL s args tb own) (w : Wg D T ws A s H locs) (hr : meth.sig.returnType = none) (hk : meth.locks = false) (u : Nat → Nat) (is : List Nat) (h1 : is.filterMap (fun i => ws[i]?) = W' u) (hn : va_nd is = true) (h2 : is.map (fun i => ws[i]?) = (W' u).map some) (hdg : decode cc pc = .ok (.return_, 1)) (hc : cells ≤ mc) (hs : slots ≤ ms) : W p l e R s m args below meth c H locs cells slots (MQ below (QuW D T A W') args s mc ms A) (F0 m pc ls []) :=
  W.widen hc hs (W.vret C.1 C.2.1 hr (fun t ht hW => ⟨⟨u, rfl, trivial, by rw [ht]; exact w.2.1.sub is h1, va_K.moved hW.alike w.1, w.2.2.1.sub is hn h2⟩, w.2.2.2.1.F ht⟩) w.2.2.2.1.2.2 hdg hk)
theorem i_obj (C : CallFix p m c cc nL s args tb own) {a : Nat} (hlink : Cond.methodLink own idx Lib.objectInit ∈ tb) (hl : ls.size = nL) (hR : 1 ≤ R.frames ∧ 12 ≤ R.locals) (hdg : decode cc pc = .ok (.invokespecial idx, 3)) (kk : W p l e R s m args below meth c H locs cells slots Q (F0 m (pc + 3) ls [])) : W p l e R s m args below meth c H locs cells slots Q (F0 m pc ls [.ref a]) :=
  W.objInit C.1 C.2.1 C.2.2.2.1 (C.2.2.2.2 _ hlink) (C.2.2.2.2 _ ob_i) (C.2.2.2.2 _ ob_c) rfl (by rw [C.2.2.1]; exact hl) rfl hdg hR.1 hR.2 (W.eq (g2 := F0 m (pc + 3) ls []) rfl kk)
theorem i_new {fs : List Value} (C : CallFix p m c cc nL s args tb own) (w : Wg D T ws A s H locs) (hk : Nk own idx ci fs) (hcs : cells + 1 ≤ R.cells ∧ slots + fs.length ≤ R.slots) (hdg : decode cc pc = .ok (.new idx, 3)) (kk : ∀ (q : Nat) (H1 : Heap), Wg D T (ws ++ [(q, .inr (ci, fs))]) A s H1 locs → W p l e R s m args below meth c H1 locs (cells + 1) (slots + fs.length) Q (F0 m (pc + 3) ls (.ref q :: rest))) : W p l e R s m args below meth c H locs cells slots Q (F0 m pc ls rest) := by
  obtain ⟨C', Tt, N, ty, h1, h2, h3, h4, h5, h6, h7, rfl⟩ := hk
  exact va_new C.1 C.2.1 C.2.2.2.2 h2 ty h3 C.2.2.2.1 (C.2.2.2.2 _ h4) (C.2.2.2.2 _ h5) (C.2.2.2.2 _ h6) w.1 w.2.1 w.2.2.1 w.2.2.2.1 w.2.2.2.2 h1 h7 hcs.1 hcs.2 hdg (fun q H1 a1 a2 a3 => kk q H1 ⟨w.1, a1, a2, a3, w.2.2.2.2⟩)
theorem i_newI {N : Nat} {v : Int32} (C : CallFix p m c cc nL s args tb own) (w : Wg D T ws A s H locs) (hv : v = nI N) (hN : N < 100000) (hcs : cells + 1 ≤ R.cells ∧ slots + N ≤ R.slots) (hdg : decode cc pc = .ok (.newarray .int, 2)) (kk : ∀ (q : Nat) (H1 : Heap), Wg D T (ws ++ [(q, .inl (T.1, N, .inl (fun _ => 0)))]) A s H1 locs → W p l e R s m args below meth c H1 locs (cells + 1) (slots + N) Q (F0 m (pc + 2) ls (.ref q :: rest))) : W p l e R s m args below meth c H locs cells slots Q (F0 m pc ls (.int v :: rest)) := by
  subst hv
  refine va_newa C.1 C.2.1 (C.2.2.2.2 _ ar_i) (ty := .int) rfl w.1 w.2.1 w.2.2.1 w.2.2.2.1 w.2.2.2.2 (N' := N) (a0 := (N, .inl (fun _ => 0))) (fun cA => rfl) (nI_pos (by omega)) (nI_clamp (by omega)) (show N * 4 ≤ 536870912 by omega) hcs.1 hcs.2 hdg (fun q cA H1 hK hP hD hS => ?_)
  have hcA : cA = T.1 := Option.some.inj (Eq.trans (Eq.symm (hK.2 3 (cA, .int) rfl).2) (hK.2 0 (T.1, .int) rfl).2)
  subst hcA
  exact kk q H1 ⟨w.1, hP, hD, hS, w.2.2.2.2⟩
theorem i_newJ {N : Nat} {v : Int32} (C : CallFix p m c cc nL s args tb own) (w : Wg D T ws A s H locs) (hv : v = nI N) (hN : N < 100000) (hcs : cells + 1 ≤ R.cells ∧ slots + N ≤ R.slots) (hdg : decode cc pc = .ok (.newarray .long, 2)) (kk : ∀ (q : Nat) (H1 : Heap), Wg D T (ws ++ [(q, .inl (T.2.1, N, .inr (.inl (fun _ => 0))))]) A s H1 locs → W p l e R s m args below meth c H1 locs (cells + 1) (slots + N) Q (F0 m (pc + 2) ls (.ref q :: rest))) : W p l e R s m args below meth c H locs cells slots Q (F0 m pc ls (.int v :: rest)) := by
  subst hv
  refine va_newa C.1 C.2.1 (C.2.2.2.2 _ ar_j) (ty := .long) rfl w.1 w.2.1 w.2.2.1 w.2.2.2.1 w.2.2.2.2 (N' := N) (a0 := (N, .inr (.inl (fun _ => 0)))) (fun cA => rfl) (nI_pos (by omega)) (nI_clamp (by omega)) (show N * 8 ≤ 536870912 by omega) hcs.1 hcs.2 hdg (fun q cA H1 hK hP hD hS => ?_)
  have hcA : cA = T.2.1 := Option.some.inj (Eq.trans (Eq.symm (hK.2 3 (cA, .long) rfl).2) (hK.2 1 (T.2.1, .long) rfl).2)
  subst hcA
  exact kk q H1 ⟨w.1, hP, hD, hS, w.2.2.2.2⟩
theorem i_newR {N : Nat} {v : Int32} (C : CallFix p m c cc nL s args tb own) (hj : Kj s) (w : Wg D T ws A s H locs) (hv : v = nI N) (hN : N < 100000) (hlink : Cond.classLink own idx "TextLessons$Row" ∈ tb) (hcs : cells + 1 ≤ R.cells ∧ slots + N ≤ R.slots) (hdg : decode cc pc = .ok (.anewarray idx, 3)) (kk : ∀ (q : Nat) (H1 : Heap), Wg D T (ws ++ [(q, .inl (T.2.2, N, .inr (.inr (.inr (.inr (fun _ => none))))))]) A s H1 locs → W p l e R s m args below meth c H1 locs (cells + 1) (slots + N) Q (F0 m (pc + 3) ls (.ref q :: rest))) : W p l e R s m args below meth c H locs cells slots Q (F0 m pc ls (.int v :: rest)) := by
  subst hv
  refine va_newq C.1 C.2.1 C.2.2.2.1 (C.2.2.2.2 _ hlink) hj.1 w.1 w.2.1 w.2.2.1 w.2.2.2.1 w.2.2.2.2 (N' := N) (nI_pos (by omega)) (nI_clamp (by omega)) (show N * 4 ≤ 536870912 by omega) hcs.1 hcs.2 hdg (fun q cA H1 hK hP hD hS => ?_)
  have hcA : cA = T.2.2 := by
    obtain ⟨-, -, -, -, -, h1⟩ := (hK.2 3 (cA, .object "TextLessons$Row") rfl).2
    obtain ⟨-, -, -, -, -, h2⟩ := (hK.2 2 (T.2.2, .object "TextLessons$Row") rfl).2
    exact Option.some.inj (Eq.trans (Eq.symm h1) h2)
  subst hcA
  exact kk q H1 ⟨w.1, hP, hD, hS, w.2.2.2.2⟩
theorem i_putF {Y : Ly} {a : Nat} {fs : List Value} {ty : FieldType} {v : Value} (C : CallFix p m c cc nL s args tb own) (hin : meth.name = "<init>") (w : Wg D T ws A s H locs) (hf : Fg Y own idx ci k kd) (hp : PkF own ci k ty) (he : ws[q0]? = some (a, .inr (ci, fs))) (hn : narrow ty v = v) (hfit : fits ty v = true) (hl : k < fs.length) (hdg : decode cc pc = .ok (.putfield idx, 3)) (kk : ∀ (H1 : Heap) (locs1 : List Loc), Wg D T (ws.set q0 (a, .inr (ci, fs.set k v))) A s H1 locs1 → W p l e R s m args below meth c H1 locs1 cells slots Q (F0 m (pc + 3) ls rest)) : W p l e R s m args below meth c H locs cells slots Q (F0 m pc ls (v :: .ref a :: rest)) := by
  obtain ⟨⟨C', ref, Tt, N, h1, h2, h3, h4, h5⟩, hc, hk⟩ := hf
  obtain ⟨C2, T2, N2, ty0, g1, g2, g3, g4, g6, g5⟩ := hp
  have hq := h1.symm.trans g1
  cases hq
  exact va_putF C.1 C.2.1 C.2.2.2.2 h2 ty0 g2 g3 C.2.2.2.1 w.1 w.2.1 w.2.2.1 w.2.2.2.1 q0 he h1 k h3 (C.2.2.2.2 _ h4) (fun x h => by rw [← h5]; exact h) g4 hin g6 g5 hn hfit hl hdg (fun H1 locs1 q1 q2 q3 => kk H1 locs1 ⟨w.1, q1, q2, q3, w.2.2.2.2⟩)
theorem i_put {Y : Ly} {a : Nat} {fs : List Value} {ty : FieldType} {v : Value} (C : CallFix p m c cc nL s args tb own) (w : Wg D T ws A s H locs) (hf : Fg Y own idx ci k kd) (hp : Pk ci k ty) (he : ws[q0]? = some (a, .inr (ci, fs))) (hn : narrow ty v = v) (hfit : fits ty v = true) (hl : k < fs.length) (hdg : decode cc pc = .ok (.putfield idx, 3)) (kk : ∀ (H1 : Heap) (locs1 : List Loc), Wg D T (ws.set q0 (a, .inr (ci, fs.set k v))) A s H1 locs1 → W p l e R s m args below meth c H1 locs1 cells slots Q (F0 m (pc + 3) ls rest)) : W p l e R s m args below meth c H locs cells slots Q (F0 m pc ls (v :: .ref a :: rest)) := by
  obtain ⟨⟨C', ref, Tt, N, h1, h2, h3, h4, h5⟩, hc, hk⟩ := hf
  obtain ⟨C2, T2, N2, ty0, g1, g2, g3, g4, g5⟩ := hp
  have hq := h1.symm.trans g1
  cases hq
  exact va_put C.1 C.2.1 C.2.2.2.2 h2 ty0 g2 g3 C.2.2.2.1 w.1 w.2.1 w.2.2.1 w.2.2.2.1 q0 he h1 k h3 (C.2.2.2.2 _ h4) (fun x h => by rw [← h5]; exact h) g4 g5 hn hfit hl hdg (fun H1 locs1 q1 q2 q3 => kk H1 locs1 ⟨w.1, q1, q2, q3, w.2.2.2.2⟩)
theorem i_get {Y : Ly} {a : Nat} {fs : List Value} {v : Value} (C : CallFix p m c cc nL s args tb own) (w : Wg D T ws A s H locs) (hf : Fg Y own idx ci k kd) (he : ws[q0]? = some (a, .inr (ci, fs))) (hv : fs[k]? = some v) (hdg : decode cc pc = .ok (.getfield idx, 3)) (kk : W p l e R s m args below meth c H locs cells slots Q (F0 m (pc + 3) ls (v :: rest))) : W p l e R s m args below meth c H locs cells slots Q (F0 m pc ls (.ref a :: rest)) := by
  obtain ⟨⟨C', ref, Tt, N, h1, h2, h3, h4, h5⟩, hc, hk⟩ := hf
  exact va_get (v := v) C.1 C.2.1 C.2.2.2.2 h2 C.2.2.2.1 w.1 w.2.1 q0 he h1 k h3 (C.2.2.2.2 _ h4) (fun x h => by rw [← h5]; exact h) hv hdg kk
theorem i_iast {a N : Nat} {f : Nat → Int32} {i x : Int32} (C : CallFix p m c cc nL s args tb own) (w : Wg D T ws A s H locs) (he : ws[q0]? = some (a, .inl (T.1, N, .inl f))) (hin : vp_in i N) (hdg : decode cc pc = .ok (.iastore, 1)) (kk : ∀ (H1 : Heap) (locs1 : List Loc), Wg D T (ws.set q0 (a, .inl (T.1, N, .inl (upd f i.toNatClampNeg x)))) A s H1 locs1 → W p l e R s m args below meth c H1 locs1 cells slots Q (F0 m (pc + 1) ls rest)) : W p l e R s m args below meth c H locs cells slots Q (F0 m pc ls (.int x :: .int i :: .ref a :: rest)) :=
  va_iast C.1 C.2.1 w.1 w.2.1 w.2.2.1 w.2.2.2.1 q0 0 he rfl hin hdg (fun H1 locs1 q1 q2 q3 => kk H1 locs1 ⟨w.1, q1, q2, q3, w.2.2.2.2⟩)
theorem i_last {a N : Nat} {f : Nat → Int64} {i : Int32} {x : Int64} (C : CallFix p m c cc nL s args tb own) (w : Wg D T ws A s H locs) (he : ws[q0]? = some (a, .inl (T.2.1, N, .inr (.inl f)))) (hin : vp_in i N) (hdg : decode cc pc = .ok (.lastore, 1)) (kk : ∀ (H1 : Heap) (locs1 : List Loc), Wg D T (ws.set q0 (a, .inl (T.2.1, N, .inr (.inl (vp_updL f i.toNatClampNeg x))))) A s H1 locs1 → W p l e R s m args below meth c H1 locs1 cells slots Q (F0 m (pc + 1) ls rest)) : W p l e R s m args below meth c H locs cells slots Q (F0 m pc ls (.long x :: .int i :: .ref a :: rest)) :=
  va_last C.1 C.2.1 w.1 w.2.1 w.2.2.1 w.2.2.2.1 q0 1 he rfl hin hdg (fun H1 locs1 q1 q2 q3 => kk H1 locs1 ⟨w.1, q1, q2, q3, w.2.2.2.2⟩)
theorem i_aast {a N v qk : Nat} {f : Nat → Option Nat} {vs : List Value} {i : Int32} (C : CallFix p m c cc nL s args tb own) (w : Wg D T ws A s H locs) (he : ws[q0]? = some (a, .inl (T.2.2, N, .inr (.inr (.inr (.inr f)))))) (hv : ws[qk]? = some (v, .inr (4, vs))) (hin : vp_in i N) (hdg : decode cc pc = .ok (.aastore, 1)) (kk : ∀ (H1 : Heap) (locs1 : List Loc), Wg D T (ws.set q0 (a, .inl (T.2.2, N, .inr (.inr (.inr (.inr (va_up f i.toNatClampNeg (some v)))))))) A s H1 locs1 → W p l e R s m args below meth c H1 locs1 cells slots Q (F0 m (pc + 1) ls rest)) : W p l e R s m args below meth c H locs cells slots Q (F0 m pc ls (.ref v :: .int i :: .ref a :: rest)) :=
  va_astq (r := (RX6, TX6, 4)) C.1 C.2.1 w.1 w.2.1 w.2.2.1 w.2.2.2.1 q0 2 qk 4 he rfl hv rfl hin hdg (fun H1 locs1 q1 q2 q3 => kk H1 locs1 ⟨w.1, q1, q2, q3, w.2.2.2.2⟩)
theorem i_alen {a N : Nat} {f : Nat → Int32} (C : CallFix p m c cc nL s args tb own) (w : Wg D T ws A s H locs) (he : ws[q0]? = some (a, .inl (T.1, N, .inl f))) (hdg : decode cc pc = .ok (.arraylength, 1)) (kk : W p l e R s m args below meth c H locs cells slots Q (F0 m (pc + 1) ls (.int (Int32.ofNat N) :: rest))) : W p l e R s m args below meth c H locs cells slots Q (F0 m pc ls (.ref a :: rest)) :=
  va_alen C.1 C.2.1 w.1 w.2.1 q0 0 (x := (N, .inl f)) he rfl rfl hdg kk
theorem blindI {sz : Nat} {av : List Value} : FrameBlind (PiW D T ws sz av) := fun a U g mk q => by
  obtain ⟨q0, q1, qP, qK, qD, qj⟩ := q
  exact ⟨q0, q1, qP, va_K.moved (u := U) (U := U.calling g mk a) (Vm.Alike.refl U.vm) qK, qD, Kj.same (u := U) (U := U.calling g mk a) rfl qj⟩
theorem pre_i {wc : va_W} (hj : Kj s) (w : Wg D T ws A s H locs) (isC : List Nat) (hC : isC.map (fun i => ws[i]?) = wc.map some) (hC2 : isC.filterMap (fun i => ws[i]?) = wc) (hCn : va_nd isC = true) (av : List Value) (U : State) (hU : U.heap = H) (hW : s.WarmedH U.vm) : PiW D T wc H.size av av.toArray U :=
  ⟨rfl, by rw [hU], by rw [hU]; exact w.2.1.sub isC hC2, va_K.moved hW.alike w.1, (w.2.2.1.sub isC hCn hC).weaken (fun _ _ _ _ => trivial), Kj.warm hW hj⟩
theorem i_call {wc wr : va_W} {b : Nat} (C : CallFix p m c cc nL s args tb own) (hj : Kj s) (w : Wg D T ws A s H locs) (hM : Mu l D T y bytes maxL fr lo mc ms wc W' (.ref b :: As) H.size) (hv : Ik own idx y bytes maxL n) (hR : fr + 1 ≤ R.frames ∧ 8 + (maxL + 11) + lo ≤ R.locals) (isC isR : List Nat) (hC : isC.map (fun i => ws[i]?) = wc.map some) (hC2 : isC.filterMap (fun i => ws[i]?) = wc) (hCn : va_nd isC = true) (hR2 : isR.map (fun i => ws[i]?) = wr.map some) (hn2 : va_nd isR = true) (hdis : ∀ i ∈ isR, i ∉ isC) (hst : st0 = As.reverse ++ .ref b :: rest) (hn : As.length = n) (hl : ls.size = nL) (hW : (rest.map fun v => v.category).sum ≤ 8) (hcs : cells + mc ≤ R.cells ∧ slots + ms ≤ R.slots) (hdg : decode cc pc = .ok (.invokespecial idx, 3))
    (kk : ∀ (u : Nat → Nat) (H1 : Heap) (locs1 : List Loc), Wg D T (wr ++ W' u) A s H1 locs1 → W p l e R s m args below meth c H1 locs1 (cells + mc) (slots + ms) Q (F0 m (pc + 3) ls rest)) : W p l e R s m args below meth c H locs cells slots Q (F0 m pc ls st0) := by
  have hF : ∀ q, va_A wc H.size q → A q := va_free w.2.2.1 w.2.2.2.1 w.2.2.2.2 isC hC
  obtain ⟨h1, h2, h3, h4, h5, h6⟩ := hv
  refine va_callv (va_runI C hM (cwI n C.2.2.2.2 (goodIn_tb h4) rfl rfl rfl (C.2.2.2.2 _ h3) (C.2.2.2.2 _ h1) (C.2.2.2.2 _ h2) h5 h6 hR) ⟨blindI, fun U hU hW => pre_i hj w isC hC hC2 hCn _ U hU hW⟩ rfl hn hl hst (lv_room (rest := st0) hW) hdg hcs) w.2.2.2.1 (fun q _ h => hF q h) hF (fun u t H1 locs1 ht hvm hw hB _ hkeep hS => ?_)
  obtain ⟨hP1, hK1, hD1⟩ := hB
  rw [ht] at hP1
  obtain ⟨j1, j2⟩ := va_join w.2.1 w.2.2.1 isC isR hC hR2 hn2 hdis hkeep hF hP1 hD1
  exact kk u H1 locs1 ⟨w.1, j1, j2, hS, w.2.2.2.2⟩
theorem i_callN {wc wr : va_W} {b : Nat} {host : String} (C : CallFix p m c cc nL s args tb own) (hj : Kj s) (w : Wg D T ws A s H locs) (hM : Mu l D T y bytes maxL fr lo mc ms wc W' (.ref b :: As) H.size) (hlk : va_Nw (.methodLinkNest own idx y host) s) (h2 : Cond.instanceMethod y ∈ tb) (h3 : Cond.initialized y.cls ∈ tb) (h4 : Cond.code y bytes maxL none ∈ tb) (h5 : y.name = "<init>") (h6 : y.cls ≠ "java/lang/invoke/MethodHandle" ∧ y.cls ≠ "java/lang/invoke/VarHandle" ∧ (parseMethodDescriptor y.desc).map (fun d => d.parameters.length) = some n) (hR : fr + 1 ≤ R.frames ∧ 8 + (maxL + 11) + lo ≤ R.locals) (isC isR : List Nat) (hC : isC.map (fun i => ws[i]?) = wc.map some) (hC2 : isC.filterMap (fun i => ws[i]?) = wc) (hCn : va_nd isC = true) (hR2 : isR.map (fun i => ws[i]?) = wr.map some) (hn2 : va_nd isR = true) (hdis : ∀ i ∈ isR, i ∉ isC) (hst : st0 = As.reverse ++ .ref b :: rest) (hn : As.length = n) (hl : ls.size = nL) (hW : (rest.map fun v => v.category).sum ≤ 8) (hcs : cells + mc ≤ R.cells ∧ slots + ms ≤ R.slots) (hdg : decode cc pc = .ok (.invokespecial idx, 3))
    (kk : ∀ (u : Nat → Nat) (H1 : Heap) (locs1 : List Loc), Wg D T (wr ++ W' u) A s H1 locs1 → W p l e R s m args below meth c H1 locs1 (cells + mc) (slots + ms) Q (F0 m (pc + 3) ls rest)) : W p l e R s m args below meth c H locs cells slots Q (F0 m pc ls st0) := by
  have hF : ∀ q, va_A wc H.size q → A q := va_free w.2.2.1 w.2.2.2.1 w.2.2.2.2 isC hC
  refine va_callv (va_runIN C hM ⟨va_cnB n C.2.2.2.2 (goodIn_tb h4) rfl rfl rfl hlk (C.2.2.2.2 _ h3) h6 hR, h5, C.2.2.2.2 _ h2⟩ ⟨blindI, fun U hU hW => pre_i hj w isC hC hC2 hCn _ U hU hW⟩ rfl hn hl hst (lv_room (rest := st0) hW) hdg hcs) w.2.2.2.1 (fun q _ h => hF q h) hF (fun u t H1 locs1 ht hvm hw hB _ hkeep hS => ?_)
  obtain ⟨hP1, hK1, hD1⟩ := hB
  rw [ht] at hP1
  obtain ⟨j1, j2⟩ := va_join w.2.1 w.2.2.1 isC isR hC hR2 hn2 hdis hkeep hF hP1 hD1
  exact kk u H1 locs1 ⟨w.1, j1, j2, hS, w.2.2.2.2⟩
theorem i_callS {wc wr : va_W} (C : CallFix p m c cc nL s args tb own) (hj : Kj s) (w : Wg D T ws A s H locs) (hM : Mu l D T y bytes maxL fr lo mc ms wc W' As H.size) (hv : Sk own idx y bytes maxL none n) (hR : fr + 1 ≤ R.frames ∧ 8 + (maxL + 11) + lo ≤ R.locals) (isC isR : List Nat) (hC : isC.map (fun i => ws[i]?) = wc.map some) (hC2 : isC.filterMap (fun i => ws[i]?) = wc) (hCn : va_nd isC = true) (hR2 : isR.map (fun i => ws[i]?) = wr.map some) (hn2 : va_nd isR = true) (hdis : ∀ i ∈ isR, i ∉ isC) (hst : st0 = As.reverse ++ rest) (hn : As.length = n) (hl : ls.size = nL) (hW : (rest.map fun v => v.category).sum ≤ 8) (hcs : cells + mc ≤ R.cells ∧ slots + ms ≤ R.slots) (hdg : decode cc pc = .ok (.invokestatic idx, 3))
    (kk : ∀ (u : Nat → Nat) (H1 : Heap) (locs1 : List Loc), Wg D T (wr ++ W' u) A s H1 locs1 → W p l e R s m args below meth c H1 locs1 (cells + mc) (slots + ms) Q (F0 m (pc + 3) ls rest)) : W p l e R s m args below meth c H locs cells slots Q (F0 m pc ls st0) := by
  have hF : ∀ q, va_A wc H.size q → A q := va_free w.2.2.1 w.2.2.2.1 w.2.2.2.2 isC hC
  obtain ⟨h1, h2, h3, h4, h5⟩ := hv
  refine va_callv (va_runS C hM ⟨callB_of n C.2.2.2.2 (goodIn_tb h4) rfl rfl rfl (C.2.2.2.2 _ h3) (C.2.2.2.2 _ h1) h5 hR, C.2.2.2.2 _ h2⟩ ⟨blindI, fun U hU hW => pre_i hj w isC hC hC2 hCn _ U hU hW⟩ rfl hn hl hst (lv_room (rest := st0) hW) hdg hcs) w.2.2.2.1 (fun q _ h => hF q h) hF (fun u t H1 locs1 ht hvm hw hB _ hkeep hS => ?_)
  obtain ⟨hP1, hK1, hD1⟩ := hB
  rw [ht] at hP1
  obtain ⟨j1, j2⟩ := va_join w.2.1 w.2.2.1 isC isR hC hR2 hn2 hdis hkeep hF hP1 hD1
  exact kk u H1 locs1 ⟨w.1, j1, j2, hS, w.2.2.2.2⟩
theorem i_callV {wc wr : va_W} {b : Nat} {fs : List Value} {q : vw_C} (C : CallFix p m c cc nL s args tb own) (hj : Kj s) (w : Wg D T ws A s H locs) (hM : Mu l D T y bytes maxL fr lo mc ms wc W' (.ref b :: As) H.size) (hv : Vk own idx q.1 y bytes maxL none n) (he : ws[q0]? = some (b, .inr (ci, fs))) (hq : vwCl[ci]? = some q) (hR : fr + 1 ≤ R.frames ∧ 8 + (maxL + 11) + lo ≤ R.locals) (isC isR : List Nat) (hC : isC.map (fun i => ws[i]?) = wc.map some) (hC2 : isC.filterMap (fun i => ws[i]?) = wc) (hCn : va_nd isC = true) (hR2 : isR.map (fun i => ws[i]?) = wr.map some) (hn2 : va_nd isR = true) (hdis : ∀ i ∈ isR, i ∉ isC) (hst : st0 = As.reverse ++ .ref b :: rest) (hn : As.length = n) (hl : ls.size = nL) (hW : (rest.map fun v => v.category).sum ≤ 8) (hcs : cells + mc ≤ R.cells ∧ slots + ms ≤ R.slots) (hdg : decode cc pc = .ok (.invokevirtual idx, 3))
    (kk : ∀ (u : Nat → Nat) (H1 : Heap) (locs1 : List Loc), Wg D T (wr ++ W' u) A s H1 locs1 → W p l e R s m args below meth c H1 locs1 (cells + mc) (slots + ms) Q (F0 m (pc + 3) ls rest)) : W p l e R s m args below meth c H locs cells slots Q (F0 m pc ls st0) := by
  have hF : ∀ q, va_A wc H.size q → A q := va_free w.2.2.1 w.2.2.2.1 w.2.2.2.2 isC hC
  obtain ⟨h1, h2, h3, h4, h5, h6⟩ := hv
  have hcw : CallW R s args own q.1 idx y bytes maxL none (.code y bytes maxL none :: tb) (rmI fr lo mc ms) mc ms n := by
    refine cwV n C.2.2.2.2 (fun x hx => ?_) rfl rfl rfl h6 hR
    unfold wsV at hx
    rcases List.mem_append.mp hx with hx | hx
    · simp only [List.mem_cons, List.not_mem_nil, or_false] at hx
      rcases hx with rfl | rfl | rfl | rfl
      · exact good_tb h1
      · exact good_tb h2
      · exact good_tb h3
      · exact good_tb h4
    · exact goodIn_tb h5 x hx
  refine va_callv (va_runV C hM hcw ⟨blindI, va_recv w.1 w.2.1 hq he, fun U hU hW => pre_i hj w isC hC hC2 hCn _ U hU hW⟩ rfl hn hl hst (lv_room (rest := st0) hW) hdg hcs) w.2.2.2.1 (fun q _ h => hF q h) hF (fun u t H1 locs1 ht hvm hw hB _ hkeep hS => ?_)
  obtain ⟨hP1, hK1, hD1⟩ := hB
  rw [ht] at hP1
  obtain ⟨j1, j2⟩ := va_join w.2.1 w.2.2.1 isC isR hC hR2 hn2 hdis hkeep hF hP1 hD1
  exact kk u H1 locs1 ⟨w.1, j1, j2, hS, w.2.2.2.2⟩
end BLD
