theorem dJ7_copyOf_59c91_0 : decode cJ7_copyOf_59c91 0 = .ok (.iload_n 1, 1) := by decide +kernel
theorem dJ7_copyOf_59c91_1 : decode cJ7_copyOf_59c91 1 = .ok (.aload_n 0, 1) := by decide +kernel
theorem dJ7_copyOf_59c91_2 : decode cJ7_copyOf_59c91 2 = .ok (.arraylength, 1) := by decide +kernel
theorem dJ7_copyOf_59c91_3 : decode cJ7_copyOf_59c91 3 = .ok (.if_icmp .ne 11, 3) := by decide +kernel
theorem dJ7_copyOf_59c91_6 : decode cJ7_copyOf_59c91 6 = .ok (.aload_n 0, 1) := by decide +kernel
theorem dJ7_copyOf_59c91_7 : decode cJ7_copyOf_59c91 7 = .ok (.invokevirtual 316, 3) := by decide +kernel
theorem dJ7_copyOf_59c91_10 : decode cJ7_copyOf_59c91 10 = .ok (.checkcast 317, 3) := by decide +kernel
theorem dJ7_copyOf_59c91_13 : decode cJ7_copyOf_59c91 13 = .ok (.areturn, 1) := by decide +kernel
theorem dJ7_copyOf_59c91_14 : decode cJ7_copyOf_59c91 14 = .ok (.iload_n 1, 1) := by decide +kernel
theorem dJ7_copyOf_59c91_15 : decode cJ7_copyOf_59c91 15 = .ok (.newarray .int, 2) := by decide +kernel
theorem dJ7_copyOf_59c91_17 : decode cJ7_copyOf_59c91 17 = .ok (.astore_n 2, 1) := by decide +kernel
theorem dJ7_copyOf_59c91_18 : decode cJ7_copyOf_59c91 18 = .ok (.aload_n 0, 1) := by decide +kernel
theorem dJ7_copyOf_59c91_19 : decode cJ7_copyOf_59c91 19 = .ok (.iconst 0, 1) := by decide +kernel
theorem dJ7_copyOf_59c91_20 : decode cJ7_copyOf_59c91 20 = .ok (.aload_n 2, 1) := by decide +kernel
theorem dJ7_copyOf_59c91_21 : decode cJ7_copyOf_59c91 21 = .ok (.iconst 0, 1) := by decide +kernel
theorem dJ7_copyOf_59c91_22 : decode cJ7_copyOf_59c91 22 = .ok (.aload_n 0, 1) := by decide +kernel
theorem dJ7_copyOf_59c91_23 : decode cJ7_copyOf_59c91 23 = .ok (.arraylength, 1) := by decide +kernel
theorem dJ7_copyOf_59c91_24 : decode cJ7_copyOf_59c91 24 = .ok (.iload_n 1, 1) := by decide +kernel
theorem dJ7_copyOf_59c91_25 : decode cJ7_copyOf_59c91 25 = .ok (.invokestatic 304, 3) := by decide +kernel
theorem dJ7_copyOf_59c91_28 : decode cJ7_copyOf_59c91 28 = .ok (.invokestatic 150, 3) := by decide +kernel
theorem dJ7_copyOf_59c91_31 : decode cJ7_copyOf_59c91 31 = .ok (.aload_n 2, 1) := by decide +kernel
theorem dJ7_copyOf_59c91_32 : decode cJ7_copyOf_59c91 32 = .ok (.areturn, 1) := by decide +kernel
/-! Arrays.copyOf of ints, to a greater length -/
theorem x_inR {l : Launch} {D : va_G} {T : Cy} {ρ : Nat → Nat} {S : St} {Y : Ly} {cc : ByteArray} {nL : Nat} {y : MethodName} {ret : Option FieldType} {rm : Room} {mc ms sz : Nat} {av : List Value} {Qc : Array Value → State → Outcome → State → Prop} (hy : plainName y.cls = true) (hlen : (lg_sl av).length ≤ nL)
    (body : ∀ (p : Program) (e : Env) (s : State) (m : MethodId) (below : List Frame) (meth : Method) (c : Code) (ls : Array Slot), CallFix p m c cc nL s av.toArray tb y.cls → meth.sig.returnType = ret → meth.locks = false → Wn Y D T ρ S (va_A (wl Y T ρ S) sz) s s.heap [] → lv_has ls nL (lv_args 0 av) → W p l e rm s m av.toArray below meth c s.heap [] 0 0 (MQ below Qc av.toArray s mc ms (va_A (wl Y T ρ S) sz)) (F0 m 0 ls [])) : Met l y (.code y cc nL ret :: tb) rm (Pm Y D T ρ S sz av) Qc mc ms (va_A (wl Y T ρ S) sz) := by
  refine Met.ofW (cc := cc) (maxL := nL) (ret := ret) hy rfl ?_
  intro p e s m args below meth c s₁ B hml hv
  obtain ⟨rfl, hsz, hP, hK, hD0⟩ := hv
  have hts := atoms_spec (ws := .code y cc nL ret :: tb) B.pre
  have hown : s.vm.findClass y.cls = some m.cls := findClass_of_methodNamed B.named
  subst hsz
  have hl := lv_entry av (n := nL) hlen
  rw [lg_entry_eq]
  exact body p e s m below meth c _ ⟨B.exec, B.bytes, hml, hown, fun w h => hts w (List.mem_cons_of_mem _ h)⟩ B.returns B.notSynchronized ⟨hK, hP, hD0.self, va_S.rf, fun q h => Or.inr h⟩ hl
def cpf (S : St) (a : Nat) : Nat → Int32 := va_cpy (gF S a) (fun _ => 0) 0 0 (gN S a)
def wlA (T : Cy) (ρ : Nat → Nat) (S : St) (q N : Nat) (f : Nat → Int32) : va_W := wl Yc T ρ S ++ ([(q, .inl (T.1, N, .inl f))] : va_W)
def Qa (D : va_G) (T : Cy) (ρ : Nat → Nat) (A : Nat → Prop) (S : St) (N : Nat) (f : Nat → Int32) : Array Value → State → Outcome → State → Prop := va_Qr (fun (_ : Unit) => True) (fun _ ra t => va_P D vwCl (wlA T ρ S ra N f) t.heap ∧ va_K D vwCl (tyT T) t ∧ va_D A (wlA T ρ S ra N f)) A
def rmA (N : Nat) : Room := { frames := 1, cells := 1, slots := N, locals := 26 }
theorem ac_arr : Cond.arrayClass (newarray.typeOf .int) ∈ tb := tb1 64 rfl rfl
theorem ac_min : Cond.methodLink RJ7 304 Lib.Math.min.name ∈ tb := tb1 191 rfl rfl
theorem wlA_at {T : Cy} {ρ : Nat → Nat} {S : St} {q N a : Nat} {f : Nat → Int32} (ha : Ob Yc a 100) : (wlA T ρ S q N f)[a]? = some (ρ a, .inl (T.1, gN S a, .inl (gF S a))) := by
  have hlen : (wl Yc T ρ S).length = 81 := by simp [wl, Yc]
  have : a < 81 := ha.1
  unfold wlA
  rw [List.getElem?_append_left (by omega), wl_at ha.1, cel_i ha.2]
theorem wlA_last {T : Cy} {ρ : Nat → Nat} {S : St} {q N : Nat} {f : Nat → Int32} : (wlA T ρ S q N f)[81]? = some (q, .inl (T.1, N, .inl f)) := by
  have hlen : (wl Yc T ρ S).length = 81 := by simp [wl, Yc]
  unfold wlA
  rw [List.getElem?_append_right (by omega), hlen]
  rfl
theorem wlA_set {T : Cy} {ρ : Nat → Nat} {S : St} {q N : Nat} {f g : Nat → Int32} : (wlA T ρ S q N f).set 81 (q, .inl (T.1, N, .inl g)) = wlA T ρ S q N g := by
  have hlen : (wl Yc T ρ S).length = 81 := by simp [wl, Yc]
  unfold wlA
  rw [List.set_append_right _ _ (by omega), hlen]
  rfl
set_option maxRecDepth 100000 in
set_option maxHeartbeats 4000000 in
theorem k_copyOf (l : Launch) (D : va_G) (T : Cy) (ρ : Nat → Nat) (sz : Nat) (S : St) {a N : Nat} (ha : Ob Yc a 100) (hN : gN S a < N) (hb : N ≤ 100000) : Met l yJ7_copyOf_59c91 (.code yJ7_copyOf_59c91 cJ7_copyOf_59c91 3 (some (.array .int)) :: tb) (rmA N) (Pm Yc D T ρ S sz [.ref (ρ a), .int (nI N)]) (Qa D T ρ (va_A (wl Yc T ρ S) sz) S N (cpf S a)) 1 N (va_A (wl Yc T ρ S) sz) := by
  refine x_inR (by decide) (Nat.le_of_ble_eq_true rfl) (fun p e s m below meth c ls C hr hk w hl => ?_)
  have hl : lv_has ls 3 [(0, .ref (ρ a)), (1, .int (nI N))] := hl
  refine lv_iload_n C.1 C.2.1 dJ7_copyOf_59c91_0 rfl (lv_at hl 1 rfl) ?_
  refine lv_aload_n C.1 C.2.1 dJ7_copyOf_59c91_1 rfl (lv_at hl 0 rfl) ?_
  refine x_alen C w ha dJ7_copyOf_59c91_2 ?_
  refine lv_icmp_ne (tgt := 14) C.1 C.2.1 dJ7_copyOf_59c91_3 (by decide) (fun hc => ?_) (fun hc => ?_)
  case refine_2 =>
    have hc' : nI N = nI (gN S a) := hc
    have := (nI_eq (by omega) (by omega)).mp hc'
    omega
  refine lv_iload_n C.1 C.2.1 dJ7_copyOf_59c91_14 rfl (lv_at hl 1 rfl) ?_
  refine va_newa C.1 C.2.1 (C.2.2.2.2 _ ac_arr) (ty := .int) rfl w.1 w.2.1 w.2.2.1 w.2.2.2.1 w.2.2.2.2 (N' := N) (a0 := (N, .inl (fun _ => 0))) (fun cA => rfl) (nI_pos (by omega)) (nI_clamp (by omega)) (show N * 4 ≤ 536870912 by omega) (Nat.le_refl 1) (show 0 + N ≤ N by omega) dJ7_copyOf_59c91_15 (fun q cA H hK hP hD hS => ?_)
  have hcA : cA = T.1 := by
    have h0 := (hK.2 0 (T.1, .int) rfl).2
    have h3 := (hK.2 3 (cA, .int) rfl).2
    exact Option.some.inj (Eq.trans (Eq.symm h3) h0)
  subst hcA
  have hP : va_P D vwCl (wlA T ρ S q N (fun _ => 0)) H := hP
  have hD : va_D (va_A (wl Yc T ρ S) sz) (wlA T ρ S q N (fun _ => 0)) := hD
  refine lv_astore_n (lv' := [(2, .ref q), (0, .ref (ρ a)), (1, .int (nI N))]) C.1 C.2.1 dJ7_copyOf_59c91_17 rfl hl (by decide) rfl (fun ls hl => ?_)
  refine lv_aload_n C.1 C.2.1 dJ7_copyOf_59c91_18 rfl (lv_at hl 1 rfl) ?_
  refine lv_iconst (v := 0) C.1 C.2.1 dJ7_copyOf_59c91_19 (by decide) ?_
  refine lv_aload_n C.1 C.2.1 dJ7_copyOf_59c91_20 rfl (lv_at hl 0 rfl) ?_
  refine lv_iconst (v := 0) C.1 C.2.1 dJ7_copyOf_59c91_21 (by decide) ?_
  refine lv_aload_n C.1 C.2.1 dJ7_copyOf_59c91_22 rfl (lv_at hl 1 rfl) ?_
  refine va_alen C.1 C.2.1 w.1 hP a 0 (x := (gN S a, .inl (gF S a))) (wlA_at ha) rfl (v := nI (gN S a)) rfl dJ7_copyOf_59c91_23 ?_
  refine lv_iload_n C.1 C.2.1 dJ7_copyOf_59c91_24 rfl (lv_at hl 2 rfl) ?_
  refine x_minI C hl.1 ac_min ⟨Nat.le_refl 1, show 23 ≤ 26 by decide⟩ (Nat.le_of_ble_eq_true rfl) ⟨Nat.le_refl 1, show 0 + N ≤ N by omega⟩ dJ7_copyOf_59c91_25 ?_
  have hmin : minI (nI (gN S a)) (nI N) = nI (gN S a) := by
    unfold minI
    rw [if_neg (nI_nlt (by omega) (by omega))]
  rw [hmin]
  refine va_copyi C.1 C.2.1 (C.2.2.1.trans hl.1.symm) C.2.2.2.1 (C.2.2.2.2 _ ac_J7) (C.2.2.2.2 _ ac_n) (C.2.2.2.2 _ ac_s) (C.2.2.2.2 _ ac_i) w.1 hP hD hS a 81 0 0 (wlA_at ha) wlA_last rfl rfl rfl (by decide) (by decide) (nI_pos (by omega)) (by rw [nI_clamp (by omega)]; exact Nat.le_of_eq (Nat.zero_add _)) (by rw [nI_clamp (by omega)]; show 0 + gN S a ≤ N; omega) (fun _ _ => rfl) (Nat.le_refl 1) (show 0 + (nativeFrameWords "java/lang/System" "arraycopy" 5 + 11) ≤ 26 by decide +kernel) dJ7_copyOf_59c91_28 (fun H locs hP hD hS => ?_)
  have hf : va_cpy (gF S a) (fun _ => (0 : Int32)) (0 : Int32).toNatClampNeg (0 : Int32).toNatClampNeg (nI (gN S a)).toNatClampNeg = cpf S a := by
    rw [nI_clamp (by omega)]
    rfl
  rw [hf, wlA_set] at hP hD
  refine lv_aload_n C.1 C.2.1 dJ7_copyOf_59c91_31 rfl (lv_at hl 0 rfl) ?_
  refine W.widen (k := 1) (n := N) (by omega) (by omega) ?_
  exact W.aret C.1 C.2.1 hr (Or.inr ⟨_, rfl⟩) (Or.inr ⟨_, rfl⟩) (fun t ht hW => ⟨⟨(), q, rfl, trivial, by rw [ht]; exact hP, va_K.moved hW.alike w.1, hD⟩, hS.F ht⟩) hS.2.2 dJ7_copyOf_59c91_32 hk
