/-! an array of constants is filled, one by one; it is the last cell of the world -/
theorem snoc_at {α : Type} {ws : List α} {x : α} : (ws ++ [x])[ws.length]? = some x := by simp
theorem snoc_set {α : Type} {ws : List α} {x y : α} : (ws ++ [x]).set ws.length y = ws ++ [y] := by simp
theorem upd_snoc {L : List Int32} {x : Int32} {k : Nat} (h : L.length = k) : upd (fun j => L.getD j 0) k x = fun j => (L ++ [x]).getD j 0 := by
  subst h
  funext j
  unfold upd
  by_cases q : j = L.length
  · subst q
    simp
  · rw [if_neg q]
    by_cases h : j < L.length
    · simp [List.getElem?_append_left h]
    · have h1 : L.length ≤ j := by omega
      have h2 : (L ++ [x]).length ≤ j := by simp; omega
      simp [h1, List.getElem?_eq_none h2]
theorem updL_snoc {L : List Int64} {x : Int64} {k : Nat} (h : L.length = k) : vp_updL (fun j => L.getD j 0) k x = fun j => (L ++ [x]).getD j 0 := by
  subst h
  funext j
  unfold vp_updL
  by_cases q : j = L.length
  · subst q
    simp
  · rw [if_neg q]
    by_cases h : j < L.length
    · simp [List.getElem?_append_left h]
    · have h1 : L.length ≤ j := by omega
      have h2 : (L ++ [x]).length ≤ j := by simp; omega
      simp [h1, List.getElem?_eq_none h2]
section SNC
variable {p : Program} {l : Launch} {e : Env} {R : Room} {s : State} {m : MethodId} {args : Array Value} {below : List Frame} {meth : Method} {c : Code} {H : Heap} {locs : List Loc} {cells slots : Nat} {Q : State → Prop}
variable {cc : ByteArray} {pc nL : Nat} {ls : Array Slot} {rest : List Value} {D : va_G} {T : Cy} {A : Nat → Prop} {own : String} {ws : va_W}
theorem i_iastE {q N : Nat} {L : List Int32} {i x : Int32} (C : CallFix p m c cc nL s args tb own) (w : Wg D T (ws ++ [(q, .inl (T.1, N, .inl (fun j => L.getD j 0)))]) A s H locs) (hin : vp_in i N) (hk : L.length = i.toNatClampNeg) (hdg : decode cc pc = .ok (.iastore, 1)) (kk : ∀ (H1 : Heap) (locs1 : List Loc), Wg D T (ws ++ [(q, .inl (T.1, N, .inl (fun j => (L ++ [x]).getD j 0)))]) A s H1 locs1 → W p l e R s m args below meth c H1 locs1 cells slots Q (F0 m (pc + 1) ls rest)) : W p l e R s m args below meth c H locs cells slots Q (F0 m pc ls (.int x :: .int i :: .ref q :: rest)) :=
  i_iast (q0 := ws.length) C w snoc_at hin hdg (fun H1 locs1 w => kk H1 locs1 (by rw [snoc_set, upd_snoc hk] at w; exact w))
theorem i_lastE {q N : Nat} {L : List Int64} {i : Int32} {x : Int64} (C : CallFix p m c cc nL s args tb own) (w : Wg D T (ws ++ [(q, .inl (T.2.1, N, .inr (.inl (fun j => L.getD j 0))))]) A s H locs) (hin : vp_in i N) (hk : L.length = i.toNatClampNeg) (hdg : decode cc pc = .ok (.lastore, 1)) (kk : ∀ (H1 : Heap) (locs1 : List Loc), Wg D T (ws ++ [(q, .inl (T.2.1, N, .inr (.inl (fun j => (L ++ [x]).getD j 0))))]) A s H1 locs1 → W p l e R s m args below meth c H1 locs1 cells slots Q (F0 m (pc + 1) ls rest)) : W p l e R s m args below meth c H locs cells slots Q (F0 m pc ls (.long x :: .int i :: .ref q :: rest)) :=
  i_last (q0 := ws.length) C w snoc_at hin hdg (fun H1 locs1 w => kk H1 locs1 (by rw [snoc_set, updL_snoc hk] at w; exact w))
end SNC
