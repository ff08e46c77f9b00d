/-! rows of the class's side: references that change, the array of builders, arraycopy, lengths, switches -/
def bR (S : St) (i : Int32) : Option Nat := if i < 0 ∨ gN S 76 ≤ i.toNatClampNeg then none else if i.toNatClampNeg < 6 then some (24 + i.toNatClampNeg) else none
theorem bR_some {S : St} {i : Int32} {r : Nat} (h : bR S i = some r) : vp_in i (gN S 76) ∧ i.toNatClampNeg < 6 ∧ 24 + i.toNatClampNeg = r := by
  unfold bR at h
  by_cases q : i < 0 ∨ gN S 76 ≤ i.toNatClampNeg
  · rw [if_pos q] at h; cases h
  · rw [if_neg q] at h
    by_cases q2 : i.toNatClampNeg < 6
    · rw [if_pos q2] at h; exact ⟨q, q2, Option.some.inj h⟩
    · rw [if_neg q2] at h; cases h
theorem bR_ob {S : St} {i : Int32} {r : Nat} (h : bR S i = some r) : Ob Yc r 4 := by
  obtain ⟨-, h2, rfl⟩ := bR_some h
  exact (obBld h2).2
def sFF (S : St) (a : Nat) (f : Nat → Int32) : St := (S.1, S.2.1, S.2.2.1, S.2.2.2.1, fun x y => if x = a then f y else S.2.2.2.2.1 x y, S.2.2.2.2.2)
def sGG (S : St) (a : Nat) (f : Nat → Int64) : St := (S.1, S.2.1, S.2.2.1, S.2.2.2.1, S.2.2.2.2.1, fun x y => if x = a then f y else S.2.2.2.2.2 x y)
theorem wl_sFF {Y : Ly} {T : Cy} {ρ : Nat → Nat} {S : St} {a : Nat} {f : Nat → Int32} (ho : a < Y.1 ∧ Y.2.1 a = 100) : (wl Y T ρ S).set a (ρ a, .inl (T.1, gN S a, .inl f)) = wl Y T ρ (sFF S a f) := by
  refine wl_set ho.1 ?_ ?_
  · rw [cel_i ho.2]
    have : gF (sFF S a f) a = f := by
      funext j
      simp [gF, sFF]
    rw [this]
    rfl
  · intro x hx
    exact cel_ne (fun _ => rfl) (fun _ => rfl) (fun _ => rfl) rfl (by funext j; simp [gF, sFF, hx]) rfl
theorem wl_sGG {Y : Ly} {T : Cy} {ρ : Nat → Nat} {S : St} {a : Nat} {f : Nat → Int64} (ho : a < Y.1 ∧ Y.2.1 a = 101) : (wl Y T ρ S).set a (ρ a, .inl (T.2.1, gN S a, .inr (.inl f))) = wl Y T ρ (sGG S a f) := by
  refine wl_set ho.1 ?_ ?_
  · rw [cel_l ho.2]
    have : gG (sGG S a f) a = f := by
      funext j
      simp [gG, sGG]
    rw [this]
    rfl
  · intro x hx
    exact cel_ne (fun _ => rfl) (fun _ => rfl) (fun _ => rfl) rfl rfl (by funext j; simp [gG, sGG, hx])
def cpOk (S : St) (a : Nat) (sp : Int32) (b : Nat) (dp n : Int32) : Prop := ¬ sp < 0 ∧ ¬ dp < 0 ∧ ¬ n < 0 ∧ sp.toNatClampNeg + n.toNatClampNeg ≤ gN S a ∧ dp.toNatClampNeg + n.toNatClampNeg ≤ gN S b
/-- System.arraycopy of ints: n of a from sp on, into b from dp on -/
def cpI (S : St) (a : Nat) (sp : Int32) (b : Nat) (dp n : Int32) : Option St := if ¬ sp < 0 ∧ ¬ dp < 0 ∧ ¬ n < 0 ∧ sp.toNatClampNeg + n.toNatClampNeg ≤ gN S a ∧ dp.toNatClampNeg + n.toNatClampNeg ≤ gN S b then some (sFF S b (va_cpy (gF S a) (gF S b) sp.toNatClampNeg dp.toNatClampNeg n.toNatClampNeg)) else none
def cpJ (S : St) (a : Nat) (sp : Int32) (b : Nat) (dp n : Int32) : Option St := if ¬ sp < 0 ∧ ¬ dp < 0 ∧ ¬ n < 0 ∧ sp.toNatClampNeg + n.toNatClampNeg ≤ gN S a ∧ dp.toNatClampNeg + n.toNatClampNeg ≤ gN S b then some (sGG S b (va_cpy (gG S a) (gG S b) sp.toNatClampNeg dp.toNatClampNeg n.toNatClampNeg)) else none
theorem cpI_some {S S1 : St} {a b : Nat} {sp dp n : Int32} (h : cpI S a sp b dp n = some S1) : cpOk S a sp b dp n ∧ sFF S b (va_cpy (gF S a) (gF S b) sp.toNatClampNeg dp.toNatClampNeg n.toNatClampNeg) = S1 := by
  unfold cpI at h
  by_cases q : ¬ sp < 0 ∧ ¬ dp < 0 ∧ ¬ n < 0 ∧ sp.toNatClampNeg + n.toNatClampNeg ≤ gN S a ∧ dp.toNatClampNeg + n.toNatClampNeg ≤ gN S b
  · rw [if_pos q] at h; exact ⟨q, Option.some.inj h⟩
  · rw [if_neg q] at h; cases h
theorem cpJ_some {S S1 : St} {a b : Nat} {sp dp n : Int32} (h : cpJ S a sp b dp n = some S1) : cpOk S a sp b dp n ∧ sGG S b (va_cpy (gG S a) (gG S b) sp.toNatClampNeg dp.toNatClampNeg n.toNatClampNeg) = S1 := by
  unfold cpJ at h
  by_cases q : ¬ sp < 0 ∧ ¬ dp < 0 ∧ ¬ n < 0 ∧ sp.toNatClampNeg + n.toNatClampNeg ≤ gN S a ∧ dp.toNatClampNeg + n.toNatClampNeg ≤ gN S b
  · rw [if_pos q] at h; exact ⟨q, Option.some.inj h⟩
  · rw [if_neg q] at h; cases h
theorem ac_s : Cond.static arraycopyName ∈ tb := tb1 195 rfl rfl
theorem ac_n : Cond.native arraycopyName ∈ tb := tb1 196 rfl rfl
theorem ac_i : Cond.initialized "java/lang/System" ∈ tb := tb1 9 rfl rfl
theorem ac_X6 : Cond.methodLink RX6 71 arraycopyName ∈ tb := tb3 124 rfl rfl
theorem ac_X4 : Cond.methodLink RX4 97 arraycopyName ∈ tb := tb6 60 rfl rfl
theorem ac_J7 : Cond.methodLink RJ7 150 arraycopyName ∈ tb := tb1 194 rfl rfl
theorem i_ne {x : Int32} {k : Int} {v : Int32} (hv : v.toInt = k) (h : ¬ x = v) : ¬ k = x.toInt := fun q => h (Int32.toInt_inj.mp (by rw [hv]; exact q.symm))
theorem off_t {a o : Int} {r : List (Int × Int)} {d k : Int} (h : a = k) : Op.lookupswitch.offset ((a, o) :: r) d k = o := by rw [Op.lookupswitch.offset_cons, if_pos h]
theorem off_f {a o t : Int} {r : List (Int × Int)} {d k : Int} (h : ¬ a = k) (q : Op.lookupswitch.offset r d k = t) : Op.lookupswitch.offset ((a, o) :: r) d k = t := by rw [Op.lookupswitch.offset_cons, if_neg h]; exact q
def maxI (x y : Int32) : Int32 := if x < y then y else x
def minI (x y : Int32) : Int32 := if y < x then y else x
def maxJ (x y : Int64) : Int64 := if y < x then x else y
def minJ (x y : Int64) : Int64 := if y < x then y else x
theorem mt_i : Cond.initialized "java/lang/Math" ∈ tb := tb1 8 rfl rfl
theorem mt_s1 : Cond.static Lib.Math.min.name ∈ tb := tb1 192 rfl rfl
theorem mt_c1 : Cond.code Lib.Math.min.name Lib.Math.min.code 2 (some .int) ∈ tb := tb1 193 (by decide +kernel) rfl
theorem mt_s2 : Cond.static Lib.Math.max.name ∈ tb := tb3 48 rfl rfl
theorem mt_c2 : Cond.code Lib.Math.max.name Lib.Math.max.code 2 (some .int) ∈ tb := tb3 49 (by decide +kernel) rfl
theorem mt_s3 : Cond.static Lib.MathLoose.min_long.x ∈ tb := tb4 171 rfl rfl
theorem mt_c3 : Cond.code Lib.MathLoose.min_long.x Lib.MathLoose.min_long.code 4 (some .long) ∈ tb := tb4 172 (by decide +kernel) rfl
theorem mt_s4 : Cond.static Lib.MathLoose.max_long.x ∈ tb := tb4 174 rfl rfl
theorem mt_c4 : Cond.code Lib.MathLoose.max_long.x Lib.MathLoose.max_long.code 4 (some .long) ∈ tb := tb4 175 (by decide +kernel) rfl
section XK
variable {p : Program} {l : Launch} {e : Env} {R : Room} {s : State} {m : MethodId} {args : Array Value} {below : List Frame} {meth : Method} {c : Code} {H : Heap} {locs : List Loc} {cells slots : Nat} {Q : State → Prop}
variable {cc : ByteArray} {pc nL : Nat} {ls : Array Slot} {rest : List Value} {Y : Ly} {D : va_G} {T : Cy} {ρ : Nat → Nat} {S S1 : St} {A : Nat → Prop} {own : String}
theorem x_nmR {x v : Nat} (q : x = v) (kk : W p l e R s m args below meth c H locs cells slots Q (F0 m pc ls (.ref (ρ x) :: rest))) : W p l e R s m args below meth c H locs cells slots Q (F0 m pc ls (.ref (ρ v) :: rest)) := q ▸ kk
theorem y_putR (C : CallFix p m c cc nL s args tb own) (w : Wn Y D T ρ S A s H locs) {o k idx ci v : Nat} {ty : String} (hS : S1 = sR S o k v) (hf : Fg Y own idx ci k 3) (hp : Pk ci k (.object ty)) (ho : Ob Y o ci) (hdg : decode cc pc = .ok (.putfield idx, 3)) (kk : ∀ (H1 : Heap) (locs1 : List Loc), Wn Y D T ρ S1 A s H1 locs1 → W p l e R s m args below meth c H1 locs1 cells slots Q (F0 m (pc + 3) ls rest)) : W p l e R s m args below meth c H locs cells slots Q (F0 m pc ls (.ref (ρ v) :: .ref (ρ o) :: rest)) := by
  subst hS
  exact x_putR C w hf hp ho hdg kk
theorem x_alen (C : CallFix p m c cc nL s args tb own) (w : Wn Y D T ρ S A s H locs) {a : Nat} (ha : Ob Y a 100) (hdg : decode cc pc = .ok (.arraylength, 1)) (kk : W p l e R s m args below meth c H locs cells slots Q (F0 m (pc + 1) ls (.int (Int32.ofNat (gN S a)) :: rest))) : W p l e R s m args below meth c H locs cells slots Q (F0 m pc ls (.ref (ρ a) :: rest)) :=
  va_alen C.1 C.2.1 w.1 w.2.1 a 0 (x := (gN S a, .inl (gF S a))) (by rw [wl_at ha.1, cel_i ha.2]) rfl rfl hdg kk
theorem x_alenJ (C : CallFix p m c cc nL s args tb own) (w : Wn Y D T ρ S A s H locs) {a : Nat} (ha : Ob Y a 101) (hdg : decode cc pc = .ok (.arraylength, 1)) (kk : W p l e R s m args below meth c H locs cells slots Q (F0 m (pc + 1) ls (.int (Int32.ofNat (gN S a)) :: rest))) : W p l e R s m args below meth c H locs cells slots Q (F0 m pc ls (.ref (ρ a) :: rest)) :=
  va_alen C.1 C.2.1 w.1 w.2.1 a 1 (x := (gN S a, .inr (.inl (gG S a)))) (by rw [wl_at ha.1, cel_l ha.2]) rfl rfl hdg kk
theorem x_bald (C : CallFix p m c cc nL s args tb own) (w : Wn Yc D T ρ S A s H locs) {i : Int32} {r : Nat} (hx : bR S i = some r) (hdg : decode cc pc = .ok (.aaload, 1)) (kk : W p l e R s m args below meth c H locs cells slots Q (F0 m (pc + 1) ls (.ref (ρ r) :: rest))) : W p l e R s m args below meth c H locs cells slots Q (F0 m pc ls (.int i :: .ref (ρ 76) :: rest)) := by
  obtain ⟨hin, h2, rfl⟩ := bR_some hx
  refine va_aldq C.1 C.2.1 w.1 w.2.1 76 2 (by rw [wl_at obC76.1, cel_r obC76.2]) rfl hin hdg ?_
  show W p l e R s m args below meth c H locs cells slots Q (F0 m (pc + 1) ls (.ref (ρ (Yc.2.2.2 76 i.toNatClampNeg)) :: rest))
  rw [(obBld h2).1]
  exact kk
theorem x_cpI (C : CallFix p m c cc nL s args tb own) (w : Wn Y D T ρ S A s H locs) {a b idx : Nat} {sp dp n : Int32} (hl : ls.size = nL) (hlink : Cond.methodLink own idx arraycopyName ∈ tb) (ha : Ob Y a 100) (hb : Ob Y b 100) (hx : cpI S a sp b dp n = some S1) (hR : 1 ≤ R.frames ∧ 26 ≤ R.locals) (hW : (rest.map fun v => v.category).sum ≤ 8) (hdg : decode cc pc = .ok (.invokestatic idx, 3)) (kk : ∀ (H1 : Heap) (locs1 : List Loc), Wn Y D T ρ S1 A s H1 locs1 → W p l e R s m args below meth c H1 locs1 cells slots Q (F0 m (pc + 3) ls rest)) : W p l e R s m args below meth c H locs cells slots Q (F0 m pc ls (.int n :: .int dp :: .ref (ρ b) :: .int sp :: .ref (ρ a) :: rest)) := by
  obtain ⟨⟨h1, h2, h3, h4, h5⟩, rfl⟩ := cpI_some hx
  refine va_copyi C.1 C.2.1 (C.2.2.1.trans hl.symm) C.2.2.2.1 (C.2.2.2.2 _ hlink) (C.2.2.2.2 _ ac_n) (C.2.2.2.2 _ ac_s) (C.2.2.2.2 _ ac_i) w.1 w.2.1 w.2.2.1 w.2.2.2.1 a b 0 0 (by rw [wl_at ha.1, cel_i ha.2]) (by rw [wl_at hb.1, cel_i hb.2]) rfl rfl rfl h1 h2 h3 h4 h5 (fun _ _ => rfl) hR.1 (Nat.le_trans (Nat.add_le_add hW (show nativeFrameWords "java/lang/System" "arraycopy" 5 + 11 ≤ 18 by decide +kernel)) hR.2) hdg (fun H1 locs1 q1 q2 q3 => ?_)
  rw [wl_sFF hb] at q1 q2
  exact kk H1 locs1 ⟨w.1, q1, q2, q3, w.2.2.2.2⟩
theorem x_cpJ (C : CallFix p m c cc nL s args tb own) (w : Wn Y D T ρ S A s H locs) {a b idx : Nat} {sp dp n : Int32} (hl : ls.size = nL) (hlink : Cond.methodLink own idx arraycopyName ∈ tb) (ha : Ob Y a 101) (hb : Ob Y b 101) (hx : cpJ S a sp b dp n = some S1) (hR : 1 ≤ R.frames ∧ 26 ≤ R.locals) (hW : (rest.map fun v => v.category).sum ≤ 8) (hdg : decode cc pc = .ok (.invokestatic idx, 3)) (kk : ∀ (H1 : Heap) (locs1 : List Loc), Wn Y D T ρ S1 A s H1 locs1 → W p l e R s m args below meth c H1 locs1 cells slots Q (F0 m (pc + 3) ls rest)) : W p l e R s m args below meth c H locs cells slots Q (F0 m pc ls (.int n :: .int dp :: .ref (ρ b) :: .int sp :: .ref (ρ a) :: rest)) := by
  obtain ⟨⟨h1, h2, h3, h4, h5⟩, rfl⟩ := cpJ_some hx
  refine va_copyl C.1 C.2.1 (C.2.2.1.trans hl.symm) C.2.2.2.1 (C.2.2.2.2 _ hlink) (C.2.2.2.2 _ ac_n) (C.2.2.2.2 _ ac_s) (C.2.2.2.2 _ ac_i) w.1 w.2.1 w.2.2.1 w.2.2.2.1 a b 1 1 (by rw [wl_at ha.1, cel_l ha.2]) (by rw [wl_at hb.1, cel_l hb.2]) rfl rfl rfl h1 h2 h3 h4 h5 (fun _ _ => rfl) hR.1 (Nat.le_trans (Nat.add_le_add hW (show nativeFrameWords "java/lang/System" "arraycopy" 5 + 11 ≤ 18 by decide +kernel)) hR.2) hdg (fun H1 locs1 q1 q2 q3 => ?_)
  rw [wl_sGG hb] at q1 q2
  exact kk H1 locs1 ⟨w.1, q1, q2, q3, w.2.2.2.2⟩
theorem x_callSj {y : MethodName} {bytes : ByteArray} {maxL n idx fr lo : Nat} {ret : Option FieldType} {As st0 : List Value} {r : Int64} (C : CallFix p m c cc nL s args tb own) (w : Wn Y D T ρ S A s H locs) (hM : Mj l Y D T ρ y bytes maxL ret fr lo S S1 r As H.size) (hv : Sk own idx y bytes maxL ret n) (hR : fr + 1 ≤ R.frames ∧ 8 + (maxL + 11) + lo ≤ R.locals) (hst : st0 = As.reverse ++ rest) (hn : As.length = n) (hl : ls.size = nL) (hW : (rest.map fun v => v.category).sum ≤ 8) (hcs : cells ≤ R.cells ∧ slots ≤ R.slots) (hdg : decode cc pc = .ok (.invokestatic idx, 3))
    (kk : ∀ (H1 : Heap) (locs1 : List Loc), Wn Y D T ρ S1 A s H1 locs1 → W p l e R s m args below meth c H1 locs1 cells slots Q (F0 m (pc + 3) ls (.long r :: rest))) : W p l e R s m args below meth c H locs cells slots Q (F0 m pc ls st0) := by
  refine va_calll (va_runS C hM (cwS_tb C.2.2.2.2 hv hR) ⟨blind, fun U hU hW => pre_at w _ U hU hW⟩ rfl hn hl hst (lv_room (rest := st0) hW) hdg hcs) w.2.2.2.1 (fun q _ h => wn_A w q h) (wn_A w) (fun r1 u t H1 locs1 ht hvm hw hB _ _ hS => ?_)
  subst hw
  exact kk H1 locs1 (wn_back w hB ht hvm hS)
theorem x_callSv {y : MethodName} {bytes : ByteArray} {maxL n idx fr lo : Nat} {ret : Option FieldType} {As st0 : List Value} (C : CallFix p m c cc nL s args tb own) (w : Wn Y D T ρ S A s H locs) (hM : Mv l Y D T ρ y bytes maxL ret fr lo S S1 As H.size) (hv : Sk own idx y bytes maxL ret n) (hR : fr + 1 ≤ R.frames ∧ 8 + (maxL + 11) + lo ≤ R.locals) (hst : st0 = As.reverse ++ rest) (hn : As.length = n) (hl : ls.size = nL) (hW : (rest.map fun v => v.category).sum ≤ 8) (hcs : cells ≤ R.cells ∧ slots ≤ R.slots) (hdg : decode cc pc = .ok (.invokestatic idx, 3))
    (kk : ∀ (H1 : Heap) (locs1 : List Loc), Wn Y D T ρ S1 A s H1 locs1 → W p l e R s m args below meth c H1 locs1 cells slots Q (F0 m (pc + 3) ls rest)) : W p l e R s m args below meth c H locs cells slots Q (F0 m pc ls st0) := by
  refine va_callv (va_runS C hM (cwS_tb C.2.2.2.2 hv hR) ⟨blind, fun U hU hW => pre_at w _ U hU hW⟩ rfl hn hl hst (lv_room (rest := st0) hW) hdg hcs) w.2.2.2.1 (fun q _ h => wn_A w q h) (wn_A w) (fun u t H1 locs1 ht hvm hw hB _ _ hS => ?_)
  exact kk H1 locs1 (wn_back w hB ht hvm hS)
theorem x_minI {x y : Int32} {idx : Nat} (C : CallFix p m c cc nL s args tb own) (hl : ls.size = nL) (hlink : Cond.methodLink own idx Lib.Math.min.name ∈ tb) (hR : 1 ≤ R.frames ∧ 23 ≤ R.locals) (hW : (rest.map fun v => v.category).sum ≤ 8) (hcs : cells ≤ R.cells ∧ slots ≤ R.slots) (hdg : decode cc pc = .ok (.invokestatic idx, 3)) (kk : W p l e R s m args below meth c H locs cells slots Q (F0 m (pc + 3) ls (.int (minI x y) :: rest))) : W p l e R s m args below meth c H locs cells slots Q (F0 m pc ls (.int y :: .int x :: rest)) :=
  va_mmin C.1 C.2.1 (C.2.2.1.trans hl.symm) C.2.2.2.1 (C.2.2.2.2 _ hlink) (C.2.2.2.2 _ mt_s1) (C.2.2.2.2 _ mt_i) (C.2.2.2.2 _ mt_c1) hR.1 (by omega) hcs.1 hcs.2 hdg kk
theorem x_maxI {x y : Int32} {idx : Nat} (C : CallFix p m c cc nL s args tb own) (hl : ls.size = nL) (hlink : Cond.methodLink own idx Lib.Math.max.name ∈ tb) (hR : 1 ≤ R.frames ∧ 23 ≤ R.locals) (hW : (rest.map fun v => v.category).sum ≤ 8) (hcs : cells ≤ R.cells ∧ slots ≤ R.slots) (hdg : decode cc pc = .ok (.invokestatic idx, 3)) (kk : W p l e R s m args below meth c H locs cells slots Q (F0 m (pc + 3) ls (.int (maxI x y) :: rest))) : W p l e R s m args below meth c H locs cells slots Q (F0 m pc ls (.int y :: .int x :: rest)) :=
  va_mmax C.1 C.2.1 (C.2.2.1.trans hl.symm) C.2.2.2.1 (C.2.2.2.2 _ hlink) (C.2.2.2.2 _ mt_s2) (C.2.2.2.2 _ mt_i) (C.2.2.2.2 _ mt_c2) hR.1 (by omega) hcs.1 hcs.2 hdg kk
theorem x_minJ {x y : Int64} {idx : Nat} (C : CallFix p m c cc nL s args tb own) (hl : ls.size = nL) (hlink : Cond.methodLink own idx Lib.MathLoose.min_long.x ∈ tb) (hR : 1 ≤ R.frames ∧ 23 ≤ R.locals) (hW : (rest.map fun v => v.category).sum ≤ 8) (hcs : cells ≤ R.cells ∧ slots ≤ R.slots) (hdg : decode cc pc = .ok (.invokestatic idx, 3)) (kk : W p l e R s m args below meth c H locs cells slots Q (F0 m (pc + 3) ls (.long (minJ x y) :: rest))) : W p l e R s m args below meth c H locs cells slots Q (F0 m pc ls (.long y :: .long x :: rest)) :=
  va_mmin_long C.1 C.2.1 (C.2.2.1.trans hl.symm) C.2.2.2.1 (C.2.2.2.2 _ hlink) (C.2.2.2.2 _ mt_s3) (C.2.2.2.2 _ mt_i) (C.2.2.2.2 _ mt_c3) hR.1 (by omega) hcs.1 hcs.2 hdg kk
theorem x_maxJ {x y : Int64} {idx : Nat} (C : CallFix p m c cc nL s args tb own) (hl : ls.size = nL) (hlink : Cond.methodLink own idx Lib.MathLoose.max_long.x ∈ tb) (hR : 1 ≤ R.frames ∧ 23 ≤ R.locals) (hW : (rest.map fun v => v.category).sum ≤ 8) (hcs : cells ≤ R.cells ∧ slots ≤ R.slots) (hdg : decode cc pc = .ok (.invokestatic idx, 3)) (kk : W p l e R s m args below meth c H locs cells slots Q (F0 m (pc + 3) ls (.long (maxJ x y) :: rest))) : W p l e R s m args below meth c H locs cells slots Q (F0 m pc ls (.long y :: .long x :: rest)) :=
  va_mmax_long C.1 C.2.1 (C.2.2.1.trans hl.symm) C.2.2.2.1 (C.2.2.2.2 _ hlink) (C.2.2.2.2 _ mt_s4) (C.2.2.2.2 _ mt_i) (C.2.2.2.2 _ mt_c4) hR.1 (by omega) hcs.1 hcs.2 hdg kk
end XK
