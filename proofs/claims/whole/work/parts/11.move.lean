/-! contracts of methods in which a Row may grow: the addresses of Rows' cells may move; what is made is counted by kap -/
def Ag (ρ ρ1 : Nat → Nat) : Prop := ∀ c, ¬ (34 ≤ c ∧ c < 58) → ρ1 c = ρ c
theorem Ag.rf {ρ : Nat → Nat} : Ag ρ ρ := fun _ _ => rfl
theorem Ag.trans {ρ ρ1 ρ2 : Nat → Nat} (h1 : Ag ρ ρ1) (h2 : Ag ρ1 ρ2) : Ag ρ ρ2 := fun c hc => (h2 c hc).trans (h1 c hc)
theorem Ag_mv {ρ : Nat → Nat} {o q : Nat} (ho : Ob Yc o 4) : Ag ρ (mv ρ (o + 24) q) := by
  intro c hc
  have hr := row_rng o ho.1 ho.2
  have : c ≠ o + 24 := by omega
  simp [mv, this]
/-- how much the Rows hold room for, all together -/
def kap (S : St) : Nat := ((List.range 24).map (fun i => gN S (34 + i))).sum
def rmK (fr lo K : Nat) : Room := { frames := fr, cells := K, slots := 2 * K, locals := lo }
def QiM (D : va_G) (T : Cy) (ρ : Nat → Nat) (A : Nat → Prop) (S' : St) (r : Int32) : Array Value → State → Outcome → State → Prop := va_Qi (fun rr (ρ1 : Nat → Nat) => rr = r ∧ Ag ρ ρ1) (fun ρ1 t => Be Yc D T ρ1 A S' t) A
def QjM (D : va_G) (T : Cy) (ρ : Nat → Nat) (A : Nat → Prop) (S' : St) (r : Int64) : Array Value → State → Outcome → State → Prop := va_Ql (fun rr (ρ1 : Nat → Nat) => rr = r ∧ Ag ρ ρ1) (fun ρ1 t => Be Yc D T ρ1 A S' t) A
def QvM (D : va_G) (T : Cy) (ρ : Nat → Nat) (A : Nat → Prop) (S' : St) : Array Value → State → Outcome → State → Prop := va_Qv (fun (ρ1 : Nat → Nat) => Ag ρ ρ1) (fun ρ1 t => Be Yc D T ρ1 A S' t) A
def MiM (l : Launch) (D : va_G) (T : Cy) (ρ : Nat → Nat) (y : MethodName) (cc : ByteArray) (nL : Nat) (ret : Option FieldType) (fr lo : Nat) (S S' : St) (r : Int32) (av : List Value) (sz : Nat) : Prop := Met l y (.code y cc nL ret :: tb) (rmK fr lo (kap S' - kap S)) (Pm Yc D T ρ S sz av) (QiM D T ρ (va_A (wl Yc T ρ S) sz) S' r) (kap S' - kap S) (2 * (kap S' - kap S)) (va_A (wl Yc T ρ S) sz)
def MjM (l : Launch) (D : va_G) (T : Cy) (ρ : Nat → Nat) (y : MethodName) (cc : ByteArray) (nL : Nat) (ret : Option FieldType) (fr lo : Nat) (S S' : St) (r : Int64) (av : List Value) (sz : Nat) : Prop := Met l y (.code y cc nL ret :: tb) (rmK fr lo (kap S' - kap S)) (Pm Yc D T ρ S sz av) (QjM D T ρ (va_A (wl Yc T ρ S) sz) S' r) (kap S' - kap S) (2 * (kap S' - kap S)) (va_A (wl Yc T ρ S) sz)
def MvM (l : Launch) (D : va_G) (T : Cy) (ρ : Nat → Nat) (y : MethodName) (cc : ByteArray) (nL : Nat) (ret : Option FieldType) (fr lo : Nat) (S S' : St) (av : List Value) (sz : Nat) : Prop := Met l y (.code y cc nL ret :: tb) (rmK fr lo (kap S' - kap S)) (Pm Yc D T ρ S sz av) (QvM D T ρ (va_A (wl Yc T ρ S) sz) S') (kap S' - kap S) (2 * (kap S' - kap S)) (va_A (wl Yc T ρ S) sz)
/-- a Row's growth in the store: n places, the old ones kept; nothing else than twice the old room at least -/
def gro (S : St) (o : Nat) (n : Int32) : Option St := if ¬ n < 0 ∧ 1 ≤ gN S (o + 24) ∧ 2 * gN S (o + 24) ≤ n.toNatClampNeg ∧ n.toNatClampNeg ≤ 100000 ∧ gR S 0 4 < 3 ∧ gR S 0 5 < 3 ∧ gR S 3 2 < 3 ∧ gR S 4 9 < 3 then some (sM S (o + 24) n.toNatClampNeg (cpf S (o + 24))) else none
theorem gro_some {S S1 : St} {o : Nat} {n : Int32} (h : gro S o n = some S1) : ¬ n < 0 ∧ 1 ≤ gN S (o + 24) ∧ 2 * gN S (o + 24) ≤ n.toNatClampNeg ∧ n.toNatClampNeg ≤ 100000 ∧ gOK S ∧ sM S (o + 24) n.toNatClampNeg (cpf S (o + 24)) = S1 := by
  unfold gro at h
  by_cases q : ¬ n < 0 ∧ 1 ≤ gN S (o + 24) ∧ 2 * gN S (o + 24) ≤ n.toNatClampNeg ∧ n.toNatClampNeg ≤ 100000 ∧ gR S 0 4 < 3 ∧ gR S 0 5 < 3 ∧ gR S 3 2 < 3 ∧ gR S 4 9 < 3
  · rw [if_pos q] at h
    obtain ⟨q1, q2, q3, q4, q5⟩ := q
    exact ⟨q1, q2, q3, q4, q5, Option.some.inj h⟩
  · rw [if_neg q] at h; cases h
theorem sum_up {l : List Nat} {f g : Nat → Nat} {a : Nat} (hn : l.Nodup) (ha : a ∈ l) (h : ∀ x ∈ l, x ≠ a → g x = f x) : (l.map g).sum + f a = (l.map f).sum + g a := by
  induction l with
  | nil => cases ha
  | cons x l ih =>
    rw [List.map_cons, List.map_cons, List.sum_cons, List.sum_cons]
    obtain ⟨h1, h2⟩ := List.nodup_cons.mp hn
    rcases List.mem_cons.mp ha with rfl | h3
    · have : l.map g = l.map f := List.map_congr_left (fun y hy => h y (List.mem_cons_of_mem _ hy) (fun q => h1 (q ▸ hy)))
      rw [this]
      omega
    · have hx : x ≠ a := fun q => h1 (q ▸ h3)
      have := ih h2 h3 (fun y hy hne => h y (List.mem_cons_of_mem _ hy) hne)
      rw [h x List.mem_cons_self hx]
      omega
theorem kap_gro {S S1 : St} {o : Nat} {n : Int32} (ho : Ob Yc o 4) (h : gro S o n = some S1) : kap S + (n.toNatClampNeg - gN S (o + 24)) = kap S1 := by
  obtain ⟨h1, h2, h3, h4, h5, rfl⟩ := gro_some h
  have hr := row_rng o ho.1 ho.2
  have := sum_up (l := List.range 24) (f := fun i => gN S (34 + i)) (g := fun i => gN (sM S (o + 24) n.toNatClampNeg (cpf S (o + 24))) (34 + i)) (a := o - 10) List.nodup_range (List.mem_range.mpr (by omega)) (fun x _ hx => by
    show gN (sM S (o + 24) n.toNatClampNeg (cpf S (o + 24))) (34 + x) = gN S (34 + x)
    have : 34 + x ≠ o + 24 := by omega
    simp [gN, sM, this])
  have e1 : 34 + (o - 10) = o + 24 := by omega
  have e2 : gN (sM S (o + 24) n.toNatClampNeg (cpf S (o + 24))) (o + 24) = n.toNatClampNeg := by simp [gN, sM]
  simp only [e1, e2] at this
  unfold kap
  omega
theorem cf_link : Cond.methodLink RX6 26 yJ7_copyOf_59c91 ∈ tb := tb1 181 rfl rfl
theorem cf_stat : Cond.static yJ7_copyOf_59c91 ∈ tb := tb1 182 rfl rfl
theorem cf_code : Cond.code yJ7_copyOf_59c91 cJ7_copyOf_59c91 3 (some (.array .int)) ∈ tb := tb1 183 rfl rfl
theorem cf_ini : Cond.initialized "java/util/Arrays" ∈ tb := tb1 7 rfl rfl
theorem wlA_ob {T : Cy} {ρ : Nat → Nat} {S : St} {q N o : Nat} {f : Nat → Int32} (ho : Ob Yc o 4) : (wlA T ρ S q N f)[o]? = some (ρ o, .inr (4, fl Yc ρ S o (Yc.2.2.1 4))) := by
  have hlen : (wl Yc T ρ S).length = 81 := by simp [wl, Yc]
  have : o < 81 := ho.1
  unfold wlA
  rw [List.getElem?_append_left (by omega), wl_at ho.1, cel_o ho.2 (by decide)]
section XG
variable {p : Program} {l : Launch} {e : Env} {R : Room} {s : State} {m : MethodId} {args : Array Value} {below : List Frame} {meth : Method} {c : Code} {H : Heap} {locs : List Loc} {cells slots : Nat} {Q : State → Prop}
variable {cc : ByteArray} {pc nL : Nat} {ls : Array Slot} {rest : List Value} {D : va_G} {T : Cy} {ρ : Nat → Nat} {S S1 : St} {A : Nat → Prop}
set_option maxHeartbeats 4000000 in
theorem x_grow (C : CallFix p m c cc nL s args tb RX6) (w : Wn Yc D T ρ S A s H locs) {o : Nat} {n : Int32} (ho : Ob Yc o 4) (hx : gro S o n = some S1) (hl : ls.size = nL) (hR : 2 ≤ R.frames ∧ 48 ≤ R.locals) (hW : ((Value.ref (ρ o) :: rest).map fun v => v.category).sum ≤ 8) (hcs : cells + (kap S1 - kap S) ≤ R.cells ∧ slots + 2 * (kap S1 - kap S) ≤ R.slots) (hd1 : decode cc pc = .ok (.invokestatic 26, 3)) (hd2 : decode cc (pc + 3) = .ok (.putfield 15, 3))
    (kk : ∀ (ρ1 : Nat → Nat) (H1 : Heap) (locs1 : List Loc), Ag ρ ρ1 → Wn Yc D T ρ1 S1 A s H1 locs1 → W p l e R s m args below meth c H1 locs1 (cells + (kap S1 - kap S)) (slots + 2 * (kap S1 - kap S)) Q (F0 m (pc + 6) ls rest)) : W p l e R s m args below meth c H locs cells slots Q (F0 m pc ls (.int n :: .ref (ρ (o + 24)) :: .ref (ρ o) :: rest)) := by
  have hkap := kap_gro ho hx
  obtain ⟨h1, h2, h3, h4, h5, rfl⟩ := gro_some hx
  obtain ⟨N, hN31, rfl⟩ := nI_of h1
  rw [nI_clamp hN31] at h3 h4 hkap kk hcs
  have hcs' : cells + 1 ≤ R.cells ∧ slots + N ≤ R.slots := by omega
  refine va_callr (va_runS (As := [.ref (ρ (o + 24)), .int (nI N)]) (rest := .ref (ρ o) :: rest) C (k_copyOf l D T ρ H.size S (obCells ho) (by omega) h4) ⟨callB_of 2 C.2.2.2.2 (goodIn_tb cf_code) rfl rfl rfl (C.2.2.2.2 _ cf_ini) (C.2.2.2.2 _ cf_link) ⟨by decide, by decide, by decide +kernel⟩ hR, C.2.2.2.2 _ cf_stat⟩ ⟨blind, fun U hU hW => pre_at w _ U hU hW⟩ rfl rfl hl rfl (lv_room (rest := .int (nI N) :: .ref (ρ (o + 24)) :: .ref (ρ o) :: rest) hW) hd1 hcs') w.2.2.2.1 (fun q _ h => wn_A w q h) (wn_A w) (fun u q t H1 locs1 ht hvm hw hB _ _ hS => ?_)
  obtain ⟨hP1, hK1, hD1⟩ := hB
  rw [ht] at hP1
  have hD2 := hD1.weaken (fun k q _ h => wn_A w q.1 h)
  obtain ⟨⟨C', ref, Tt, N2, g1, g2, g3, g4, g5⟩, -, hkk⟩ := fX6_15
  obtain ⟨C2, T2, N3, ty0, b1, b2, b3, b4, b5⟩ := pX6_1
  have hq := g1.symm.trans b1
  cases hq
  refine va_put C.1 C.2.1 C.2.2.2.2 g2 ty0 b2 b3 C.2.2.2.1 w.1 hP1 hD2 hS o (wlA_ob ho) g1 1 g3 (C.2.2.2.2 _ g4) (fun x h => by rw [← g5]; exact h) b4 b5 rfl rfl (List.getElem?_eq_some_iff.mp (fl_at (Y := Yc) (ρ := ρ) (S := S) (o := o) hkk)).1 hd2 (fun H2 locs2 q1 q2 q3 => ?_)
  refine W.widen (k := cells + (kap (sM S (o + 24) N (cpf S (o + 24))) - kap S)) (n := slots + 2 * (kap (sM S (o + 24) N (cpf S (o + 24))) - kap S)) (by omega) (by omega) ?_
  exact kk (mv ρ (o + 24) q) H2 locs2 (Ag_mv ho) ⟨w.1, grow_P ho h5 q1, grow_D ho h5 q2, q3, w.2.2.2.2⟩
end XG
/-- the lengths of all arrays stay -/
def nq (S' S : St) : Prop := S'.2.2.2.1 = S.2.2.2.1
theorem nq_rf {S : St} : nq S S := rfl
theorem nq_tr {S1 S2 S3 : St} (h1 : nq S3 S2) (h2 : nq S2 S1) : nq S3 S1 := Eq.trans h1 h2
theorem nq_tI {S S1 : St} {a : Nat} {i v : Int32} (h : tI S a i v = some S1) : nq S1 S := by obtain ⟨-, rfl⟩ := tI_some h; rfl
theorem nq_tJ {S S1 : St} {a : Nat} {i : Int32} {v : Int64} (h : tJ S a i v = some S1) : nq S1 S := by obtain ⟨-, rfl⟩ := tJ_some h; rfl
theorem nq_cpI {S S1 : St} {a b : Nat} {sp dp n : Int32} (h : cpI S a sp b dp n = some S1) : nq S1 S := by obtain ⟨-, rfl⟩ := cpI_some h; rfl
theorem nq_cpJ {S S1 : St} {a b : Nat} {sp dp n : Int32} (h : cpJ S a sp b dp n = some S1) : nq S1 S := by obtain ⟨-, rfl⟩ := cpJ_some h; rfl
theorem nq_kap {S S1 : St} (h : nq S1 S) : kap S1 = kap S := by
  unfold kap gN
  rw [show S1.2.2.2.1 = S.2.2.2.1 from h]
