/-! THE ROWS over a store: an instruction, a row -/
def tb : List Cond := lw_tbl.filter goodWord
theorem tb_in {w : Cond} (h : w ∈ lw_tbl) (g : goodWord w = true) : w ∈ tb := List.mem_filter.mpr ⟨h, g⟩
theorem tb_good {w : Cond} (h : w ∈ tb) : goodWord w = true := (List.mem_filter.mp h).2
def tyT (T : Cy) : List (ClassId × FieldType) := [(T.1, .int), (T.2.1, .long), (T.2.2, .object "TextLessons$Row")]
def Wn (Y : Ly) (D : va_G) (T : Cy) (ρ : Nat → Nat) (S : St) (A : Nat → Prop) (s : State) (H : Heap) (locs : List Loc) : Prop :=
  va_K D vwCl (tyT T) s ∧ va_P D vwCl (wl Y T ρ S) H ∧ va_D A (wl Y T ρ S) ∧ va_S A s.heap H locs ∧ ∀ q : Nat, s.heap.size ≤ q → A q
def Ob (Y : Ly) (o ci : Nat) : Prop := o < Y.1 ∧ Y.2.1 o = ci
/-- a field by its link: the class that reads it, the link's place; the object's class, the slot, its kind -/
def Fg (Y : Ly) (own : String) (idx ci k kd : Nat) : Prop := (∃ (C ref : String) (T : u_T) (N : Nat), vwCl[ci]? = some (C, T, N) ∧ (∀ w ∈ u_ws C T N, w ∈ tb) ∧ k < N ∧ Cond.fieldLink own idx ref (T k).2.1 (T k).2.2.1 ∈ tb ∧ (T k).1 = ref) ∧ ci < 100 ∧ (Y.2.2.1 ci)[k]? = some kd
/-- a field that may be put -/
def Pk (ci k : Nat) (ty : FieldType) : Prop := ∃ (C : String) (T : u_T) (N : Nat) (ty0 : Nat → FieldType), vwCl[ci]? = some (C, T, N) ∧ (∀ k, k < N → parseFieldDescriptor (T k).2.2.1 = some (ty0 k)) ∧ (∀ a, a < N → ∀ b, b < N → a ≠ b → (T a).2.1 ≠ (T b).2.1) ∧ (T k).2.2.2 = false ∧ parseFieldDescriptor (T k).2.2.1 = some ty
def aI (S : St) (a : Nat) (i : Int32) : Option Int32 := if i < 0 ∨ gN S a ≤ i.toNatClampNeg then none else some (gF S a i.toNatClampNeg)
def aJ (S : St) (a : Nat) (i : Int32) : Option Int64 := if i < 0 ∨ gN S a ≤ i.toNatClampNeg then none else some (gG S a i.toNatClampNeg)
def tI (S : St) (a : Nat) (i : Int32) (v : Int32) : Option St := if i < 0 ∨ gN S a ≤ i.toNatClampNeg then none else some (sF S a i.toNatClampNeg v)
def tJ (S : St) (a : Nat) (i : Int32) (v : Int64) : Option St := if i < 0 ∨ gN S a ≤ i.toNatClampNeg then none else some (sG S a i.toNatClampNeg v)
theorem aI_some {S : St} {a : Nat} {i x : Int32} (h : aI S a i = some x) : vp_in i (gN S a) ∧ gF S a i.toNatClampNeg = x := by
  unfold aI at h
  by_cases q : i < 0 ∨ gN S a ≤ i.toNatClampNeg
  · rw [if_pos q] at h; cases h
  · rw [if_neg q] at h; exact ⟨q, Option.some.inj h⟩
theorem aJ_some {S : St} {a : Nat} {i : Int32} {x : Int64} (h : aJ S a i = some x) : vp_in i (gN S a) ∧ gG S a i.toNatClampNeg = x := by
  unfold aJ at h
  by_cases q : i < 0 ∨ gN S a ≤ i.toNatClampNeg
  · rw [if_pos q] at h; cases h
  · rw [if_neg q] at h; exact ⟨q, Option.some.inj h⟩
theorem tI_some {S S1 : St} {a : Nat} {i v : Int32} (h : tI S a i v = some S1) : vp_in i (gN S a) ∧ sF S a i.toNatClampNeg v = S1 := by
  unfold tI at h
  by_cases q : i < 0 ∨ gN S a ≤ i.toNatClampNeg
  · rw [if_pos q] at h; cases h
  · rw [if_neg q] at h; exact ⟨q, Option.some.inj h⟩
theorem tJ_some {S S1 : St} {a : Nat} {i : Int32} {v : Int64} (h : tJ S a i v = some S1) : vp_in i (gN S a) ∧ sG S a i.toNatClampNeg v = S1 := by
  unfold tJ at h
  by_cases q : i < 0 ∨ gN S a ≤ i.toNatClampNeg
  · rw [if_pos q] at h; cases h
  · rw [if_neg q] at h; exact ⟨q, Option.some.inj h⟩
theorem bnd {α β : Type} {o : Option α} {f : α → Option β} {b : β} (h : o.bind f = some b) : ∃ x, o = some x ∧ f x = some b := Option.bind_eq_some_iff.mp h
theorem ift {α : Type} {c : Prop} [Decidable c] {a b r : α} (hc : c) (h : (if c then a else b) = r) : a = r := by rw [if_pos hc] at h; exact h
theorem iff0 {α : Type} {c : Prop} [Decidable c] {a b r : α} (hc : ¬ c) (h : (if c then a else b) = r) : b = r := by rw [if_neg hc] at h; exact h
def Pm (Y : Ly) (D : va_G) (T : Cy) (ρ : Nat → Nat) (S : St) (sz : Nat) (av : List Value) : Array Value → State → Prop := va_Pc av (fun U => U.heap.size = sz ∧ va_P D vwCl (wl Y T ρ S) U.heap ∧ va_K D vwCl (tyT T) U ∧ va_D (fun _ => True) (wl Y T ρ S))
def Be (Y : Ly) (D : va_G) (T : Cy) (ρ : Nat → Nat) (A : Nat → Prop) (S' : St) (t : State) : Prop := va_P D vwCl (wl Y T ρ S') t.heap ∧ va_K D vwCl (tyT T) t ∧ va_D A (wl Y T ρ S')
def Qi (Y : Ly) (D : va_G) (T : Cy) (ρ : Nat → Nat) (A : Nat → Prop) (S' : St) (r : Int32) : Array Value → State → Outcome → State → Prop := va_Qi (fun rr (_ : Unit) => rr = r) (fun _ t => Be Y D T ρ A S' t) A
def Qj (Y : Ly) (D : va_G) (T : Cy) (ρ : Nat → Nat) (A : Nat → Prop) (S' : St) (r : Int64) : Array Value → State → Outcome → State → Prop := va_Ql (fun rr (_ : Unit) => rr = r) (fun _ t => Be Y D T ρ A S' t) A
def Qv (Y : Ly) (D : va_G) (T : Cy) (ρ : Nat → Nat) (A : Nat → Prop) (S' : St) : Array Value → State → Outcome → State → Prop := va_Qv (fun (_ : Unit) => True) (fun _ t => Be Y D T ρ A S' t) A
def rmN (fr lo : Nat) : Room := { frames := fr, cells := 0, slots := 0, locals := lo }
def Mi (l : Launch) (Y : Ly) (D : va_G) (T : Cy) (ρ : Nat → Nat) (y : MethodName) (cc : ByteArray) (nL : Nat) (ret : Option FieldType) (fr lo : Nat) (S S' : St) (r : Int32) (av : List Value) (sz : Nat) : Prop := Met l y (.code y cc nL ret :: tb) (rmN fr lo) (Pm Y D T ρ S sz av) (Qi Y D T ρ (va_A (wl Y T ρ S) sz) S' r) 0 0 (va_A (wl Y T ρ S) sz)
def Mj (l : Launch) (Y : Ly) (D : va_G) (T : Cy) (ρ : Nat → Nat) (y : MethodName) (cc : ByteArray) (nL : Nat) (ret : Option FieldType) (fr lo : Nat) (S S' : St) (r : Int64) (av : List Value) (sz : Nat) : Prop := Met l y (.code y cc nL ret :: tb) (rmN fr lo) (Pm Y D T ρ S sz av) (Qj Y D T ρ (va_A (wl Y T ρ S) sz) S' r) 0 0 (va_A (wl Y T ρ S) sz)
def Mv (l : Launch) (Y : Ly) (D : va_G) (T : Cy) (ρ : Nat → Nat) (y : MethodName) (cc : ByteArray) (nL : Nat) (ret : Option FieldType) (fr lo : Nat) (S S' : St) (av : List Value) (sz : Nat) : Prop := Met l y (.code y cc nL ret :: tb) (rmN fr lo) (Pm Y D T ρ S sz av) (Qv Y D T ρ (va_A (wl Y T ρ S) sz) S') 0 0 (va_A (wl Y T ρ S) sz)
/-- a method by its link -/
def Vk (own : String) (idx : Nat) (C : String) (y : MethodName) (bytes : ByteArray) (maxL : Nat) (ret : Option FieldType) (n : Nat) : Prop := Cond.methodLink own idx y ∈ tb ∧ Cond.instanceMethod y ∈ tb ∧ Cond.selects C y y ∈ tb ∧ Cond.initialized C ∈ tb ∧ Cond.code y bytes maxL ret ∈ tb ∧ (y.cls = C ∧ y.cls ≠ "java/lang/invoke/MethodHandle" ∧ y.cls ≠ "java/lang/invoke/VarHandle" ∧ (parseMethodDescriptor y.desc).map (fun d => d.parameters.length) = some n)
def Sk (own : String) (idx : Nat) (y : MethodName) (bytes : ByteArray) (maxL : Nat) (ret : Option FieldType) (n : Nat) : Prop := Cond.methodLink own idx y ∈ tb ∧ Cond.static y ∈ tb ∧ Cond.initialized y.cls ∈ tb ∧ Cond.code y bytes maxL ret ∈ tb ∧ (y.cls ≠ "java/lang/invoke/MethodHandle" ∧ y.cls ≠ "java/lang/invoke/VarHandle" ∧ (parseMethodDescriptor y.desc).map (fun d => d.parameters.length) = some n)
theorem good_tb {w : Cond} (h : w ∈ tb) : w ∈ tb ∧ ((w.onTables && w.keeps) = true ∨ ∃ ty, w = .arrayClass ty) := ⟨h, good_of_word (tb_good h)⟩
theorem goodIn_tb {w : Cond} (h : w ∈ tb) : GoodIn tb (w :: tb) := fun x hx => by
  rcases List.mem_cons.mp hx with rfl | hx
  · exact good_tb h
  · exact good_tb hx
section XR
variable {p : Program} {l : Launch} {e : Env} {R : Room} {s : State} {m : MethodId} {args : Array Value} {below : List Frame} {meth : Method} {c : Code} {H : Heap} {locs : List Loc} {cells slots : Nat} {Q : State → Prop}
variable {cc : ByteArray} {pc nL : Nat} {ls : Array Slot} {rest : List Value} {Y : Ly} {D : va_G} {T : Cy} {ρ : Nat → Nat} {S : St} {A : Nat → Prop} {own : String}
theorem x_getI (C : CallFix p m c cc nL s args tb own) (w : Wn Y D T ρ S A s H locs) {o k idx ci : Nat} (hf : Fg Y own idx ci k 0) (ho : Ob Y o ci) (hdg : decode cc pc = .ok (.getfield idx, 3)) (kk : W p l e R s m args below meth c H locs cells slots Q (F0 m (pc + 3) ls (.int (gI S o k) :: rest))) : W p l e R s m args below meth c H locs cells slots Q (F0 m pc ls (.ref (ρ o) :: rest)) := by
  obtain ⟨⟨C', ref, Tt, N, h1, h2, h3, h4, h5⟩, hc, hk⟩ := hf
  exact va_get (v := .int (gI S o k)) C.1 C.2.1 C.2.2.2.2 h2 C.2.2.2.1 w.1 w.2.1 o (by rw [wl_at ho.1, cel_o ho.2 hc]) h1 k h3 (C.2.2.2.2 _ h4) (fun x h => by rw [← h5]; exact h) (fl_at hk) hdg kk
theorem x_getL (C : CallFix p m c cc nL s args tb own) (w : Wn Y D T ρ S A s H locs) {o k idx ci : Nat} (hf : Fg Y own idx ci k 1) (ho : Ob Y o ci) (hdg : decode cc pc = .ok (.getfield idx, 3)) (kk : W p l e R s m args below meth c H locs cells slots Q (F0 m (pc + 3) ls (.long (gL S o k) :: rest))) : W p l e R s m args below meth c H locs cells slots Q (F0 m pc ls (.ref (ρ o) :: rest)) := by
  obtain ⟨⟨C', ref, Tt, N, h1, h2, h3, h4, h5⟩, hc, hk⟩ := hf
  exact va_get (v := .long (gL S o k)) C.1 C.2.1 C.2.2.2.2 h2 C.2.2.2.1 w.1 w.2.1 o (by rw [wl_at ho.1, cel_o ho.2 hc]) h1 k h3 (C.2.2.2.2 _ h4) (fun x h => by rw [← h5]; exact h) (fl_at hk) hdg kk
/-- a field that holds a fixed object or array -/
theorem x_getC (C : CallFix p m c cc nL s args tb own) (w : Wn Y D T ρ S A s H locs) {o k idx ci : Nat} (a : Nat) (hf : Fg Y own idx ci k 2) (ho : Ob Y o ci) (ha : Y.2.2.2 o k = a) (hdg : decode cc pc = .ok (.getfield idx, 3)) (kk : W p l e R s m args below meth c H locs cells slots Q (F0 m (pc + 3) ls (.ref (ρ a) :: rest))) : W p l e R s m args below meth c H locs cells slots Q (F0 m pc ls (.ref (ρ o) :: rest)) := by
  obtain ⟨⟨C', ref, Tt, N, h1, h2, h3, h4, h5⟩, hc, hk⟩ := hf
  subst ha
  exact va_get (v := .ref (ρ (Y.2.2.2 o k))) C.1 C.2.1 C.2.2.2.2 h2 C.2.2.2.1 w.1 w.2.1 o (by rw [wl_at ho.1, cel_o ho.2 hc]) h1 k h3 (C.2.2.2.2 _ h4) (fun x h => by rw [← h5]; exact h) (fl_at hk) hdg kk
theorem x_getR (C : CallFix p m c cc nL s args tb own) (w : Wn Y D T ρ S A s H locs) {o k idx ci : Nat} (hf : Fg Y own idx ci k 3) (ho : Ob Y o ci) (hdg : decode cc pc = .ok (.getfield idx, 3)) (kk : W p l e R s m args below meth c H locs cells slots Q (F0 m (pc + 3) ls (.ref (ρ (gR S o k)) :: rest))) : W p l e R s m args below meth c H locs cells slots Q (F0 m pc ls (.ref (ρ o) :: rest)) := by
  obtain ⟨⟨C', ref, Tt, N, h1, h2, h3, h4, h5⟩, hc, hk⟩ := hf
  exact va_get (v := .ref (ρ (gR S o k))) C.1 C.2.1 C.2.2.2.2 h2 C.2.2.2.1 w.1 w.2.1 o (by rw [wl_at ho.1, cel_o ho.2 hc]) h1 k h3 (C.2.2.2.2 _ h4) (fun x h => by rw [← h5]; exact h) (fl_at hk) hdg kk
theorem x_putN (C : CallFix p m c cc nL s args tb own) (w : Wn Y D T ρ S A s H locs) {o k idx ci : Nat} {ty : FieldType} {v : Int32} (hf : Fg Y own idx ci k 0) (hp : Pk ci k ty) (hn : narrow ty (.int v) = .int v) (hfit : fits ty (.int v) = true) (ho : Ob Y o ci) (hdg : decode cc pc = .ok (.putfield idx, 3)) (kk : ∀ (H1 : Heap) (locs1 : List Loc), Wn Y D T ρ (sI S o k v) A s H1 locs1 → W p l e R s m args below meth c H1 locs1 cells slots Q (F0 m (pc + 3) ls rest)) : W p l e R s m args below meth c H locs cells slots Q (F0 m pc ls (.int v :: .ref (ρ o) :: rest)) := by
  obtain ⟨⟨C', ref, Tt, N, h1, h2, h3, h4, h5⟩, hc, hk⟩ := hf
  obtain ⟨C2, T2, N2, ty0, g1, g2, g3, g4, g5⟩ := hp
  have hq := h1.symm.trans g1
  cases hq
  refine va_put C.1 C.2.1 C.2.2.2.2 h2 ty0 g2 g3 C.2.2.2.1 w.1 w.2.1 w.2.2.1 w.2.2.2.1 o (by rw [wl_at ho.1, cel_o ho.2 hc]) h1 k h3 (C.2.2.2.2 _ h4) (fun x h => by rw [← h5]; exact h) g4 g5 hn hfit (List.getElem?_eq_some_iff.mp (fl_at (Y := Y) (ρ := ρ) (S := S) (o := o) hk)).1 hdg (fun H1 locs1 q1 q2 q3 => ?_)
  rw [wl_sI ho hc hk] at q1 q2
  exact kk H1 locs1 ⟨w.1, q1, q2, q3, w.2.2.2.2⟩
theorem x_putI (C : CallFix p m c cc nL s args tb own) (w : Wn Y D T ρ S A s H locs) {o k idx ci : Nat} {v : Int32} (hf : Fg Y own idx ci k 0) (hp : Pk ci k .int) (ho : Ob Y o ci) (hdg : decode cc pc = .ok (.putfield idx, 3)) (kk : ∀ (H1 : Heap) (locs1 : List Loc), Wn Y D T ρ (sI S o k v) A s H1 locs1 → W p l e R s m args below meth c H1 locs1 cells slots Q (F0 m (pc + 3) ls rest)) : W p l e R s m args below meth c H locs cells slots Q (F0 m pc ls (.int v :: .ref (ρ o) :: rest)) := x_putN C w hf hp rfl rfl ho hdg kk
theorem nar01 {v : Int32} (h : v = 0 ∨ v = 1) : narrow .boolean (.int v) = .int v ∧ fits .boolean (.int v) = true := by
  rcases h with rfl | rfl <;> exact ⟨by decide +kernel, by decide +kernel⟩
theorem x_putZ (C : CallFix p m c cc nL s args tb own) (w : Wn Y D T ρ S A s H locs) {o k idx ci : Nat} {v : Int32} (hf : Fg Y own idx ci k 0) (hp : Pk ci k .boolean) (hv : v = 0 ∨ v = 1) (ho : Ob Y o ci) (hdg : decode cc pc = .ok (.putfield idx, 3)) (kk : ∀ (H1 : Heap) (locs1 : List Loc), Wn Y D T ρ (sI S o k v) A s H1 locs1 → W p l e R s m args below meth c H1 locs1 cells slots Q (F0 m (pc + 3) ls rest)) : W p l e R s m args below meth c H locs cells slots Q (F0 m pc ls (.int v :: .ref (ρ o) :: rest)) := x_putN C w hf hp (nar01 hv).1 (nar01 hv).2 ho hdg kk
theorem x_putL (C : CallFix p m c cc nL s args tb own) (w : Wn Y D T ρ S A s H locs) {o k idx ci : Nat} {v : Int64} (hf : Fg Y own idx ci k 1) (hp : Pk ci k .long) (ho : Ob Y o ci) (hdg : decode cc pc = .ok (.putfield idx, 3)) (kk : ∀ (H1 : Heap) (locs1 : List Loc), Wn Y D T ρ (sL S o k v) A s H1 locs1 → W p l e R s m args below meth c H1 locs1 cells slots Q (F0 m (pc + 3) ls rest)) : W p l e R s m args below meth c H locs cells slots Q (F0 m pc ls (.long v :: .ref (ρ o) :: rest)) := by
  obtain ⟨⟨C', ref, Tt, N, h1, h2, h3, h4, h5⟩, hc, hk⟩ := hf
  obtain ⟨C2, T2, N2, ty0, g1, g2, g3, g4, g5⟩ := hp
  have hq := h1.symm.trans g1
  cases hq
  refine va_put C.1 C.2.1 C.2.2.2.2 h2 ty0 g2 g3 C.2.2.2.1 w.1 w.2.1 w.2.2.1 w.2.2.2.1 o (by rw [wl_at ho.1, cel_o ho.2 hc]) h1 k h3 (C.2.2.2.2 _ h4) (fun x h => by rw [← h5]; exact h) g4 g5 rfl rfl (List.getElem?_eq_some_iff.mp (fl_at (Y := Y) (ρ := ρ) (S := S) (o := o) hk)).1 hdg (fun H1 locs1 q1 q2 q3 => ?_)
  rw [wl_sL ho hc hk] at q1 q2
  exact kk H1 locs1 ⟨w.1, q1, q2, q3, w.2.2.2.2⟩
theorem x_putR (C : CallFix p m c cc nL s args tb own) (w : Wn Y D T ρ S A s H locs) {o k idx ci v : Nat} {ty : String} (hf : Fg Y own idx ci k 3) (hp : Pk ci k (.object ty)) (ho : Ob Y o ci) (hdg : decode cc pc = .ok (.putfield idx, 3)) (kk : ∀ (H1 : Heap) (locs1 : List Loc), Wn Y D T ρ (sR S o k v) A s H1 locs1 → W p l e R s m args below meth c H1 locs1 cells slots Q (F0 m (pc + 3) ls rest)) : W p l e R s m args below meth c H locs cells slots Q (F0 m pc ls (.ref (ρ v) :: .ref (ρ o) :: rest)) := by
  obtain ⟨⟨C', ref, Tt, N, h1, h2, h3, h4, h5⟩, hc, hk⟩ := hf
  obtain ⟨C2, T2, N2, ty0, g1, g2, g3, g4, g5⟩ := hp
  have hq := h1.symm.trans g1
  cases hq
  refine va_put C.1 C.2.1 C.2.2.2.2 h2 ty0 g2 g3 C.2.2.2.1 w.1 w.2.1 w.2.2.1 w.2.2.2.1 o (by rw [wl_at ho.1, cel_o ho.2 hc]) h1 k h3 (C.2.2.2.2 _ h4) (fun x h => by rw [← h5]; exact h) g4 g5 rfl rfl (List.getElem?_eq_some_iff.mp (fl_at (Y := Y) (ρ := ρ) (S := S) (o := o) hk)).1 hdg (fun H1 locs1 q1 q2 q3 => ?_)
  rw [wl_sR ho hc hk] at q1 q2
  exact kk H1 locs1 ⟨w.1, q1, q2, q3, w.2.2.2.2⟩
theorem x_iald (C : CallFix p m c cc nL s args tb own) (w : Wn Y D T ρ S A s H locs) {a : Nat} {i x : Int32} (ha : Ob Y a 100) (hx : aI S a i = some x) (hdg : decode cc pc = .ok (.iaload, 1)) (kk : W p l e R s m args below meth c H locs cells slots Q (F0 m (pc + 1) ls (.int x :: rest))) : W p l e R s m args below meth c H locs cells slots Q (F0 m pc ls (.int i :: .ref (ρ a) :: rest)) := by
  obtain ⟨hin, rfl⟩ := aI_some hx
  exact va_iald C.1 C.2.1 w.1 w.2.1 a 0 (by rw [wl_at ha.1, cel_i ha.2]) rfl hin hdg kk
theorem x_lald (C : CallFix p m c cc nL s args tb own) (w : Wn Y D T ρ S A s H locs) {a : Nat} {i : Int32} {x : Int64} (ha : Ob Y a 101) (hx : aJ S a i = some x) (hdg : decode cc pc = .ok (.laload, 1)) (kk : W p l e R s m args below meth c H locs cells slots Q (F0 m (pc + 1) ls (.long x :: rest))) : W p l e R s m args below meth c H locs cells slots Q (F0 m pc ls (.int i :: .ref (ρ a) :: rest)) := by
  obtain ⟨hin, rfl⟩ := aJ_some hx
  exact va_lald C.1 C.2.1 w.1 w.2.1 a 1 (by rw [wl_at ha.1, cel_l ha.2]) rfl hin hdg kk
theorem x_iast (C : CallFix p m c cc nL s args tb own) (w : Wn Y D T ρ S A s H locs) {a : Nat} {i v : Int32} {S1 : St} (ha : Ob Y a 100) (hx : tI S a i v = some S1) (hdg : decode cc pc = .ok (.iastore, 1)) (kk : ∀ (H1 : Heap) (locs1 : List Loc), Wn Y D T ρ S1 A s H1 locs1 → W p l e R s m args below meth c H1 locs1 cells slots Q (F0 m (pc + 1) ls rest)) : W p l e R s m args below meth c H locs cells slots Q (F0 m pc ls (.int v :: .int i :: .ref (ρ a) :: rest)) := by
  obtain ⟨hin, rfl⟩ := tI_some hx
  refine va_iast C.1 C.2.1 w.1 w.2.1 w.2.2.1 w.2.2.2.1 a 0 (by rw [wl_at ha.1, cel_i ha.2]) rfl hin hdg (fun H1 locs1 q1 q2 q3 => ?_)
  rw [wl_sF ha] at q1 q2
  exact kk H1 locs1 ⟨w.1, q1, q2, q3, w.2.2.2.2⟩
theorem x_last (C : CallFix p m c cc nL s args tb own) (w : Wn Y D T ρ S A s H locs) {a : Nat} {i : Int32} {v : Int64} {S1 : St} (ha : Ob Y a 101) (hx : tJ S a i v = some S1) (hdg : decode cc pc = .ok (.lastore, 1)) (kk : ∀ (H1 : Heap) (locs1 : List Loc), Wn Y D T ρ S1 A s H1 locs1 → W p l e R s m args below meth c H1 locs1 cells slots Q (F0 m (pc + 1) ls rest)) : W p l e R s m args below meth c H locs cells slots Q (F0 m pc ls (.long v :: .int i :: .ref (ρ a) :: rest)) := by
  obtain ⟨hin, rfl⟩ := tJ_some hx
  refine va_last C.1 C.2.1 w.1 w.2.1 w.2.2.1 w.2.2.2.1 a 1 (by rw [wl_at ha.1, cel_l ha.2]) rfl hin hdg (fun H1 locs1 q1 q2 q3 => ?_)
  rw [wl_sG ha] at q1 q2
  exact kk H1 locs1 ⟨w.1, q1, q2, q3, w.2.2.2.2⟩
theorem x_iret (C : CallFix p m c cc nL s args tb own) (w : Wn Y D T ρ S A s H locs) (hr : meth.sig.returnType = some .int) (hk : meth.locks = false) {r : Int32} (hdg : decode cc pc = .ok (.ireturn, 1)) : W p l e R s m args below meth c H locs cells slots (MQ below (Qi Y D T ρ A S r) args s cells slots A) (F0 m pc ls [.int r]) :=
  W.iret C.1 C.2.1 hr (fun t ht hW => ⟨⟨r, (), rfl, rfl, by rw [ht]; exact w.2.1, va_K.moved hW.alike w.1, w.2.2.1⟩, w.2.2.2.1.F ht⟩) w.2.2.2.1.2.2 hdg hk
theorem x_zret (C : CallFix p m c cc nL s args tb own) (w : Wn Y D T ρ S A s H locs) (hr : meth.sig.returnType = some .boolean) (hk : meth.locks = false) {r : Int32} (hv : r = 0 ∨ r = 1) (hdg : decode cc pc = .ok (.ireturn, 1)) : W p l e R s m args below meth c H locs cells slots (MQ below (Qi Y D T ρ A S r) args s cells slots A) (F0 m pc ls [.int r]) :=
  W.zret C.1 C.2.1 hr (nar01 hv).1 (fun t ht hW => ⟨⟨r, (), rfl, rfl, by rw [ht]; exact w.2.1, va_K.moved hW.alike w.1, w.2.2.1⟩, w.2.2.2.1.F ht⟩) w.2.2.2.1.2.2 hdg hk
theorem x_lret (C : CallFix p m c cc nL s args tb own) (w : Wn Y D T ρ S A s H locs) (hr : meth.sig.returnType = some .long) (hk : meth.locks = false) {r : Int64} (hdg : decode cc pc = .ok (.lreturn, 1)) : W p l e R s m args below meth c H locs cells slots (MQ below (Qj Y D T ρ A S r) args s cells slots A) (F0 m pc ls [.long r]) :=
  W.lret C.1 C.2.1 hr (fun t ht hW => ⟨⟨r, (), rfl, rfl, by rw [ht]; exact w.2.1, va_K.moved hW.alike w.1, w.2.2.1⟩, w.2.2.2.1.F ht⟩) w.2.2.2.1.2.2 hdg hk
theorem x_vret (C : CallFix p m c cc nL s args tb own) (w : Wn Y D T ρ S A s H locs) (hr : meth.sig.returnType = none) (hk : meth.locks = false) (hdg : decode cc pc = .ok (.return_, 1)) : W p l e R s m args below meth c H locs cells slots (MQ below (Qv Y D T ρ A S) args s cells slots A) (F0 m pc ls []) :=
  W.vret C.1 C.2.1 hr (fun t ht hW => ⟨⟨(), rfl, trivial, by rw [ht]; exact w.2.1, va_K.moved hW.alike w.1, w.2.2.1⟩, w.2.2.2.1.F ht⟩) w.2.2.2.1.2.2 hdg hk
theorem x_in {y : MethodName} {ret : Option FieldType} {fr lo sz : Nat} {av : List Value} {Qc : Array Value → State → Outcome → State → Prop} (hy : plainName y.cls = true) (hlen : (lg_sl av).length ≤ nL)
    (body : ∀ (p : Program) (e : Env) (s : State) (m : MethodId) (below : List Frame) (meth : Method) (c : Code) (ls : Array Slot), CallFix p m c cc nL s av.toArray tb y.cls → meth.sig.returnType = ret → meth.locks = false → Wn Y D T ρ S (va_A (wl Y T ρ S) sz) s s.heap [] → lv_has ls nL (lv_args 0 av) → W p l e (rmN fr lo) s m av.toArray below meth c s.heap [] 0 0 (MQ below Qc av.toArray s 0 0 (va_A (wl Y T ρ S) sz)) (F0 m 0 ls [])) : Met l y (.code y cc nL ret :: tb) (rmN fr lo) (Pm Y D T ρ S sz av) Qc 0 0 (va_A (wl Y T ρ S) sz) := by
  refine Met.ofW (cc := cc) (maxL := nL) (ret := ret) hy rfl ?_
  intro p e s m args below meth c s₁ B hml hv
  obtain ⟨rfl, hsz, hP, hK, hD0⟩ := hv
  have hts := atoms_spec (ws := .code y cc nL ret :: tb) B.pre
  have hown : s.vm.findClass y.cls = some m.cls := findClass_of_methodNamed B.named
  subst hsz
  have hl := lv_entry av (n := nL) hlen
  rw [lg_entry_eq]
  exact body p e s m below meth c _ ⟨B.exec, B.bytes, hml, hown, fun w h => hts w (List.mem_cons_of_mem _ h)⟩ B.returns B.notSynchronized ⟨hK, hP, hD0.self, va_S.rf, fun q h => Or.inr h⟩ hl
theorem blind {sz : Nat} {av : List Value} : FrameBlind (Pm Y D T ρ S sz av) := fun a U g mk q => by
  obtain ⟨q0, q1, qP, qK, qD⟩ := q
  exact ⟨q0, q1, qP, va_K.moved (u := U) (U := U.calling g mk a) (Vm.Alike.refl U.vm) qK, qD⟩
theorem wn_A (w : Wn Y D T ρ S A s H locs) : ∀ q, va_A (wl Y T ρ S) H.size q → A q := by
  intro q h
  rcases h with ⟨k, e, h⟩ | h
  · exact w.2.2.1.2 k (q, e) h
  · exact w.2.2.2.2 q (Nat.le_trans w.2.2.2.1.1 h)
theorem wn_back {S1 : St} {t : State} {H1 : Heap} {locs1 : List Loc} (w : Wn Y D T ρ S A s H locs) (hB : Be Y D T ρ (va_A (wl Y T ρ S) H.size) S1 t) (ht : t.heap = H1) (hvm : s.vm.Alike t.vm) (hS : va_S A s.heap H1 locs1) : Wn Y D T ρ S1 A s H1 locs1 :=
  ⟨va_K.moved hvm.symm hB.2.1, by rw [← ht]; exact hB.1, hB.2.2.weaken (fun k q _ h => wn_A w q.1 h), hS, w.2.2.2.2⟩
theorem pre_at (w : Wn Y D T ρ S A s H locs) (av : List Value) (U : State) (hU : U.heap = H) (hW : s.WarmedH U.vm) : Pm Y D T ρ S H.size av av.toArray U :=
  ⟨rfl, by rw [hU], by rw [hU]; exact w.2.1, va_K.moved hW.alike w.1, w.2.2.1.weaken (fun _ _ _ _ => trivial)⟩
theorem recv_at (w : Wn Y D T ρ S A s H locs) {o ci : Nat} {q : vw_C} (ho : Ob Y o ci) (hc : ci < 100) (hq : vwCl[ci]? = some q) : ∃ cell : Cell, H[ρ o]? = some cell ∧ cell.vm.isStatics = false ∧ s.vm.findClass q.1 = some cell.cls :=
  va_recv w.1 w.2.1 hq (by rw [wl_at ho.1, cel_o ho.2 hc])
end XR
section XC
variable {p : Program} {l : Launch} {e : Env} {R : Room} {s : State} {m : MethodId} {args : Array Value} {below : List Frame} {meth : Method} {c : Code} {H : Heap} {locs : List Loc} {Q : State → Prop}
variable {cc : ByteArray} {pc nL : Nat} {ls : Array Slot} {rest st0 : List Value} {Y : Ly} {D : va_G} {T : Cy} {ρ : Nat → Nat} {S : St} {A : Nat → Prop} {own : String}
variable {y : MethodName} {bytes : ByteArray} {maxL n idx o ci fr lo cells slots : Nat} {ret : Option FieldType} {q : vw_C} {As : List Value} {S1 : St}
theorem cwV_tb (hts : ∀ w ∈ tb, w.before args s = true) {C : String} (hv : Vk own idx C y bytes maxL ret n) (hR : fr + 1 ≤ R.frames ∧ 8 + (maxL + 11) + lo ≤ R.locals) : CallW R s args own C idx y bytes maxL ret (.code y bytes maxL ret :: tb) (rmN fr lo) 0 0 n := by
  obtain ⟨h1, h2, h3, h4, h5, h6⟩ := hv
  refine cwV n hts (fun w hw => ?_) rfl rfl rfl h6 hR
  unfold wsV at hw
  rcases List.mem_append.mp hw with hw | hw
  · simp only [List.mem_cons, List.not_mem_nil, or_false] at hw
    rcases hw with rfl | rfl | rfl | rfl
    · exact good_tb h1
    · exact good_tb h2
    · exact good_tb h3
    · exact good_tb h4
  · exact goodIn_tb h5 w hw
theorem cwS_tb (hts : ∀ w ∈ tb, w.before args s = true) (hv : Sk own idx y bytes maxL ret n) (hR : fr + 1 ≤ R.frames ∧ 8 + (maxL + 11) + lo ≤ R.locals) : CallB R s args own idx y bytes maxL ret (.code y bytes maxL ret :: tb) (rmN fr lo) 0 0 n ∧ (Cond.static y).before args s = true := by
  obtain ⟨h1, h2, h3, h4, h5⟩ := hv
  exact ⟨callB_of n hts (goodIn_tb h4) rfl rfl rfl (hts _ h3) (hts _ h1) h5 hR, hts _ h2⟩
theorem x_callVi {r : Int32} (C : CallFix p m c cc nL s args tb own) (w : Wn Y D T ρ S A s H locs) (hM : Mi l Y D T ρ y bytes maxL ret fr lo S S1 r (.ref (ρ o) :: As) H.size) (hv : Vk own idx q.1 y bytes maxL ret n) (hR : fr + 1 ≤ R.frames ∧ 8 + (maxL + 11) + lo ≤ R.locals) (ho : Ob Y o ci) (hc : ci < 100) (hq : vwCl[ci]? = some q) (hst : st0 = As.reverse ++ .ref (ρ o) :: rest) (hn : As.length = n) (hl : ls.size = nL) (hW : (rest.map fun v => v.category).sum ≤ 8) (hcs : cells ≤ R.cells ∧ slots ≤ R.slots) (hdg : decode cc pc = .ok (.invokevirtual idx, 3))
    (kk : ∀ (H1 : Heap) (locs1 : List Loc), Wn Y D T ρ S1 A s H1 locs1 → W p l e R s m args below meth c H1 locs1 cells slots Q (F0 m (pc + 3) ls (.int r :: rest))) : W p l e R s m args below meth c H locs cells slots Q (F0 m pc ls st0) := by
  refine va_calli (va_runV C hM (cwV_tb C.2.2.2.2 hv hR) ⟨blind, recv_at w ho hc hq, fun U hU hW => pre_at w _ U hU hW⟩ rfl hn hl hst (lv_room (rest := st0) hW) hdg hcs) w.2.2.2.1 (fun q _ h => wn_A w q h) (wn_A w) (fun r1 u t H1 locs1 ht hvm hw hB _ _ hS => ?_)
  subst hw
  exact kk H1 locs1 (wn_back w hB ht hvm hS)
theorem x_callVj {r : Int64} (C : CallFix p m c cc nL s args tb own) (w : Wn Y D T ρ S A s H locs) (hM : Mj l Y D T ρ y bytes maxL ret fr lo S S1 r (.ref (ρ o) :: As) H.size) (hv : Vk own idx q.1 y bytes maxL ret n) (hR : fr + 1 ≤ R.frames ∧ 8 + (maxL + 11) + lo ≤ R.locals) (ho : Ob Y o ci) (hc : ci < 100) (hq : vwCl[ci]? = some q) (hst : st0 = As.reverse ++ .ref (ρ o) :: rest) (hn : As.length = n) (hl : ls.size = nL) (hW : (rest.map fun v => v.category).sum ≤ 8) (hcs : cells ≤ R.cells ∧ slots ≤ R.slots) (hdg : decode cc pc = .ok (.invokevirtual idx, 3))
    (kk : ∀ (H1 : Heap) (locs1 : List Loc), Wn Y D T ρ S1 A s H1 locs1 → W p l e R s m args below meth c H1 locs1 cells slots Q (F0 m (pc + 3) ls (.long r :: rest))) : W p l e R s m args below meth c H locs cells slots Q (F0 m pc ls st0) := by
  refine va_calll (va_runV C hM (cwV_tb C.2.2.2.2 hv hR) ⟨blind, recv_at w ho hc hq, fun U hU hW => pre_at w _ U hU hW⟩ rfl hn hl hst (lv_room (rest := st0) hW) hdg hcs) w.2.2.2.1 (fun q _ h => wn_A w q h) (wn_A w) (fun r1 u t H1 locs1 ht hvm hw hB _ _ hS => ?_)
  subst hw
  exact kk H1 locs1 (wn_back w hB ht hvm hS)
theorem x_callVv (C : CallFix p m c cc nL s args tb own) (w : Wn Y D T ρ S A s H locs) (hM : Mv l Y D T ρ y bytes maxL ret fr lo S S1 (.ref (ρ o) :: As) H.size) (hv : Vk own idx q.1 y bytes maxL ret n) (hR : fr + 1 ≤ R.frames ∧ 8 + (maxL + 11) + lo ≤ R.locals) (ho : Ob Y o ci) (hc : ci < 100) (hq : vwCl[ci]? = some q) (hst : st0 = As.reverse ++ .ref (ρ o) :: rest) (hn : As.length = n) (hl : ls.size = nL) (hW : (rest.map fun v => v.category).sum ≤ 8) (hcs : cells ≤ R.cells ∧ slots ≤ R.slots) (hdg : decode cc pc = .ok (.invokevirtual idx, 3))
    (kk : ∀ (H1 : Heap) (locs1 : List Loc), Wn Y D T ρ S1 A s H1 locs1 → W p l e R s m args below meth c H1 locs1 cells slots Q (F0 m (pc + 3) ls rest)) : W p l e R s m args below meth c H locs cells slots Q (F0 m pc ls st0) := by
  refine va_callv (va_runV C hM (cwV_tb C.2.2.2.2 hv hR) ⟨blind, recv_at w ho hc hq, fun U hU hW => pre_at w _ U hU hW⟩ rfl hn hl hst (lv_room (rest := st0) hW) hdg hcs) w.2.2.2.1 (fun q _ h => wn_A w q h) (wn_A w) (fun u t H1 locs1 ht hvm hw hB _ _ hS => ?_)
  exact kk H1 locs1 (wn_back w hB ht hvm hS)
theorem x_callSi {r : Int32} (C : CallFix p m c cc nL s args tb own) (w : Wn Y D T ρ S A s H locs) (hM : Mi l Y D T ρ y bytes maxL ret fr lo S S1 r As H.size) (hv : Sk own idx y bytes maxL ret n) (hR : fr + 1 ≤ R.frames ∧ 8 + (maxL + 11) + lo ≤ R.locals) (hst : st0 = As.reverse ++ rest) (hn : As.length = n) (hl : ls.size = nL) (hW : (rest.map fun v => v.category).sum ≤ 8) (hcs : cells ≤ R.cells ∧ slots ≤ R.slots) (hdg : decode cc pc = .ok (.invokestatic idx, 3))
    (kk : ∀ (H1 : Heap) (locs1 : List Loc), Wn Y D T ρ S1 A s H1 locs1 → W p l e R s m args below meth c H1 locs1 cells slots Q (F0 m (pc + 3) ls (.int r :: rest))) : W p l e R s m args below meth c H locs cells slots Q (F0 m pc ls st0) := by
  refine va_calli (va_runS C hM (cwS_tb C.2.2.2.2 hv hR) ⟨blind, fun U hU hW => pre_at w _ U hU hW⟩ rfl hn hl hst (lv_room (rest := st0) hW) hdg hcs) w.2.2.2.1 (fun q _ h => wn_A w q h) (wn_A w) (fun r1 u t H1 locs1 ht hvm hw hB _ _ hS => ?_)
  subst hw
  exact kk H1 locs1 (wn_back w hB ht hvm hS)
end XC
