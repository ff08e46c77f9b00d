/-! THE STORE: what the cells of a side hold, in numbers. An object and an array have a number each (a CODE), below Y.1; ρ says where they lie.
Y = (how many codes; the kind of a code: the place of its class in vwCl, or 100 an int array, 101 a long array, 102 an array of Rows; the kinds of a class's fields by slot: 0 int or boolean, 1 long, 2 a fixed object, 3 an object that may change; the fixed objects). -/
abbrev St : Type := (Nat → Nat → Int32) × (Nat → Nat → Int64) × (Nat → Nat → Nat) × (Nat → Nat) × (Nat → Nat → Int32) × (Nat → Nat → Int64)
def gI (S : St) (o k : Nat) : Int32 := S.1 o k
def gL (S : St) (o k : Nat) : Int64 := S.2.1 o k
def gR (S : St) (o k : Nat) : Nat := S.2.2.1 o k
def gN (S : St) (a : Nat) : Nat := S.2.2.2.1 a
def gF (S : St) (a i : Nat) : Int32 := S.2.2.2.2.1 a i
def gG (S : St) (a i : Nat) : Int64 := S.2.2.2.2.2 a i
def sI (S : St) (o k : Nat) (v : Int32) : St := (fun x y => if x = o ∧ y = k then v else S.1 x y, S.2)
def sL (S : St) (o k : Nat) (v : Int64) : St := (S.1, fun x y => if x = o ∧ y = k then v else S.2.1 x y, S.2.2)
def sR (S : St) (o k : Nat) (v : Nat) : St := (S.1, S.2.1, fun x y => if x = o ∧ y = k then v else S.2.2.1 x y, S.2.2.2)
def sF (S : St) (a i : Nat) (v : Int32) : St := (S.1, S.2.1, S.2.2.1, S.2.2.2.1, fun x y => if x = a ∧ y = i then v else S.2.2.2.2.1 x y, S.2.2.2.2.2)
def sG (S : St) (a i : Nat) (v : Int64) : St := (S.1, S.2.1, S.2.2.1, S.2.2.2.1, S.2.2.2.2.1, fun x y => if x = a ∧ y = i then v else S.2.2.2.2.2 x y)
abbrev Ly : Type := Nat × (Nat → Nat) × (Nat → List Nat) × (Nat → Nat → Nat)
abbrev Cy : Type := ClassId × ClassId × ClassId
def fv (Y : Ly) (ρ : Nat → Nat) (S : St) (o k kd : Nat) : Value := if kd = 0 then .int (gI S o k) else if kd = 1 then .long (gL S o k) else if kd = 2 then .ref (ρ (Y.2.2.2 o k)) else .ref (ρ (gR S o k))
def fl (Y : Ly) (ρ : Nat → Nat) (S : St) (o : Nat) (l : List Nat) : List Value := l.mapIdx (fun k kd => fv Y ρ S o k kd)
def cel (Y : Ly) (T : Cy) (ρ : Nat → Nat) (S : St) (c : Nat) : va_E :=
  if Y.2.1 c = 100 then .inl (T.1, gN S c, .inl (gF S c)) else if Y.2.1 c = 101 then .inl (T.2.1, gN S c, .inr (.inl (gG S c))) else if Y.2.1 c = 102 then .inl (T.2.2, gN S c, .inr (.inr (.inr (.inr (fun i => some (ρ (Y.2.2.2 c i))))))) else .inr (Y.2.1 c, fl Y ρ S c (Y.2.2.1 (Y.2.1 c)))
def wl (Y : Ly) (T : Cy) (ρ : Nat → Nat) (S : St) : va_W := (List.range Y.1).map (fun c => (ρ c, cel Y T ρ S c))
theorem wl_at {Y : Ly} {T : Cy} {ρ : Nat → Nat} {S : St} {c : Nat} (h : c < Y.1) : (wl Y T ρ S)[c]? = some (ρ c, cel Y T ρ S c) := by simp [wl, h]
theorem wl_set {Y : Ly} {T : Cy} {ρ : Nat → Nat} {S S' : St} {c : Nat} {e : va_E} (h : c < Y.1) (h1 : cel Y T ρ S' c = e) (h2 : ∀ x, x ≠ c → cel Y T ρ S' x = cel Y T ρ S x) : (wl Y T ρ S).set c (ρ c, e) = wl Y T ρ S' := by
  apply List.ext_getElem?
  intro i
  rw [List.getElem?_set]
  by_cases hi : c = i
  · subst hi
    rw [if_pos rfl, wl_at h, h1]
    simp [wl, h]
  · rw [if_neg hi]
    by_cases hl : i < Y.1
    · rw [wl_at hl, wl_at hl, h2 i (fun q => hi q.symm)]
    · simp [wl, hl]
theorem fl_at {Y : Ly} {ρ : Nat → Nat} {S : St} {o k kd : Nat} {l : List Nat} (h : l[k]? = some kd) : (fl Y ρ S o l)[k]? = some (fv Y ρ S o k kd) := by simp [fl, h]
theorem fl_set {Y : Ly} {ρ : Nat → Nat} {S S' : St} {o k : Nat} {v : Value} {l : List Nat} {kd : Nat} (hk : l[k]? = some kd) (h1 : fv Y ρ S' o k kd = v) (h2 : ∀ j q, j ≠ k → fv Y ρ S' o j q = fv Y ρ S o j q) : (fl Y ρ S o l).set k v = fl Y ρ S' o l := by
  apply List.ext_getElem?
  intro i
  rw [List.getElem?_set]
  by_cases hi : k = i
  · subst hi
    have hl : k < (fl Y ρ S o l).length := by
      have := (List.getElem?_eq_some_iff.mp hk).1
      simp [fl, this]
    rw [if_pos rfl, if_pos hl, fl_at hk, h1]
  · rw [if_neg hi]
    cases hq : l[i]? with
    | none => simp [fl, hq]
    | some q => rw [fl_at hq, fl_at hq, h2 i q (fun z => hi z.symm)]
theorem cel_o {Y : Ly} {T : Cy} {ρ : Nat → Nat} {S : St} {c ci : Nat} (h : Y.2.1 c = ci) (hc : ci < 100) : cel Y T ρ S c = .inr (ci, fl Y ρ S c (Y.2.2.1 ci)) := by
  subst h
  unfold cel
  rw [if_neg (by omega), if_neg (by omega), if_neg (by omega)]
theorem cel_i {Y : Ly} {T : Cy} {ρ : Nat → Nat} {S : St} {c : Nat} (h : Y.2.1 c = 100) : cel Y T ρ S c = .inl (T.1, gN S c, .inl (gF S c)) := by
  unfold cel
  rw [if_pos h]
theorem cel_l {Y : Ly} {T : Cy} {ρ : Nat → Nat} {S : St} {c : Nat} (h : Y.2.1 c = 101) : cel Y T ρ S c = .inl (T.2.1, gN S c, .inr (.inl (gG S c))) := by
  unfold cel
  rw [if_neg (by omega), if_pos h]
theorem cel_r {Y : Ly} {T : Cy} {ρ : Nat → Nat} {S : St} {c : Nat} (h : Y.2.1 c = 102) : cel Y T ρ S c = .inl (T.2.2, gN S c, .inr (.inr (.inr (.inr (fun i => some (ρ (Y.2.2.2 c i))))))) := by
  unfold cel
  rw [if_neg (by omega), if_neg (by omega), if_pos h]
/-- what stays of a store when one thing of it changes: of the cell c itself only what e says -/
theorem cel_ne {Y : Ly} {T : Cy} {ρ : Nat → Nat} {S S' : St} {c : Nat} (h1 : ∀ k, gI S' c k = gI S c k) (h2 : ∀ k, gL S' c k = gL S c k) (h3 : ∀ k, gR S' c k = gR S c k) (h4 : gN S' c = gN S c) (h5 : gF S' c = gF S c) (h6 : gG S' c = gG S c) : cel Y T ρ S' c = cel Y T ρ S c := by
  have hf : ∀ l, fl Y ρ S' c l = fl Y ρ S c l := by
    intro l
    unfold fl
    congr 1
    funext k kd
    unfold fv
    rw [h1, h2, h3]
  unfold cel
  rw [h4, h5, h6, hf]
theorem wl_sI {Y : Ly} {T : Cy} {ρ : Nat → Nat} {S : St} {o ci k : Nat} {v : Int32} (ho : o < Y.1 ∧ Y.2.1 o = ci) (hc : ci < 100) (hk : (Y.2.2.1 ci)[k]? = some 0) : (wl Y T ρ S).set o (ρ o, .inr (ci, (fl Y ρ S o (Y.2.2.1 ci)).set k (.int v))) = wl Y T ρ (sI S o k v) := by
  refine wl_set ho.1 ?_ ?_
  · rw [cel_o ho.2 hc, fl_set (S' := sI S o k v) hk]
    · simp [fv, gI, sI]
    · intro j q hj
      simp [fv, gI, gL, gR, sI, hj]
  · intro x hx
    exact cel_ne (fun k => by simp [gI, sI, hx]) (fun _ => rfl) (fun _ => rfl) rfl rfl rfl
theorem wl_sL {Y : Ly} {T : Cy} {ρ : Nat → Nat} {S : St} {o ci k : Nat} {v : Int64} (ho : o < Y.1 ∧ Y.2.1 o = ci) (hc : ci < 100) (hk : (Y.2.2.1 ci)[k]? = some 1) : (wl Y T ρ S).set o (ρ o, .inr (ci, (fl Y ρ S o (Y.2.2.1 ci)).set k (.long v))) = wl Y T ρ (sL S o k v) := by
  refine wl_set ho.1 ?_ ?_
  · rw [cel_o ho.2 hc, fl_set (S' := sL S o k v) hk]
    · simp [fv, gL, sL]
    · intro j q hj
      simp [fv, gI, gL, gR, sL, hj]
  · intro x hx
    exact cel_ne (fun _ => rfl) (fun k => by simp [gL, sL, hx]) (fun _ => rfl) rfl rfl rfl
theorem wl_sR {Y : Ly} {T : Cy} {ρ : Nat → Nat} {S : St} {o ci k : Nat} {v : Nat} (ho : o < Y.1 ∧ Y.2.1 o = ci) (hc : ci < 100) (hk : (Y.2.2.1 ci)[k]? = some 3) : (wl Y T ρ S).set o (ρ o, .inr (ci, (fl Y ρ S o (Y.2.2.1 ci)).set k (.ref (ρ v)))) = wl Y T ρ (sR S o k v) := by
  refine wl_set ho.1 ?_ ?_
  · rw [cel_o ho.2 hc, fl_set (S' := sR S o k v) hk]
    · simp [fv, gR, sR]
    · intro j q hj
      simp [fv, gI, gL, gR, sR, hj]
  · intro x hx
    exact cel_ne (fun _ => rfl) (fun _ => rfl) (fun k => by simp [gR, sR, hx]) rfl rfl rfl
theorem wl_sF {Y : Ly} {T : Cy} {ρ : Nat → Nat} {S : St} {a i : Nat} {v : Int32} (ho : a < Y.1 ∧ Y.2.1 a = 100) : (wl Y T ρ S).set a (ρ a, .inl (T.1, gN S a, .inl (upd (gF S a) i v))) = wl Y T ρ (sF S a i v) := by
  refine wl_set ho.1 ?_ ?_
  · rw [cel_i ho.2]
    have : gF (sF S a i v) a = upd (gF S a) i v := by
      funext j
      simp [gF, sF, upd]
    rw [this]
    rfl
  · intro x hx
    exact cel_ne (fun _ => rfl) (fun _ => rfl) (fun _ => rfl) rfl (by funext j; simp [gF, sF, hx]) rfl
theorem wl_sG {Y : Ly} {T : Cy} {ρ : Nat → Nat} {S : St} {a i : Nat} {v : Int64} (ho : a < Y.1 ∧ Y.2.1 a = 101) : (wl Y T ρ S).set a (ρ a, .inl (T.2.1, gN S a, .inr (.inl (vp_updL (gG S a) i v)))) = wl Y T ρ (sG S a i v) := by
  refine wl_set ho.1 ?_ ?_
  · rw [cel_l ho.2]
    have : gG (sG S a i v) a = vp_updL (gG S a) i v := by
      funext j
      simp [gG, sG, vp_updL]
    rw [this]
    rfl
  · intro x hx
    exact cel_ne (fun _ => rfl) (fun _ => rfl) (fun _ => rfl) rfl rfl (by funext j; simp [gG, sG, hx])
