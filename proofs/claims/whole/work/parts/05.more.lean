def lt {α β : Type} (a : α) (f : α → Option β) : Option β := f a
theorem lt_e {α β : Type} {a : α} {f : α → Option β} {b : β} (h : lt a f = some b) : ∃ x, x = a ∧ f x = some b := ⟨a, rfl, h⟩
theorem prI {α β : Type} {a c : α} {b d : β} (h : some (a, b) = some (c, d)) : a = c ∧ b = d := by cases h; exact ⟨rfl, rfl⟩
theorem som {α : Type} {a c : α} (h : some a = some c) : a = c := Option.some.inj h
theorem lg_gt (x y : Int64) : 0 < lg_cmp x y ↔ y < x := by
  unfold lg_cmp
  by_cases h1 : y < x
  · simp [h1]
  · by_cases h2 : x = y
    · rw [if_neg h1, if_pos h2]; exact ⟨fun h => absurd h (by decide), fun h => absurd h h1⟩
    · rw [if_neg h1, if_neg h2]; exact ⟨fun h => absurd h (by decide), fun h => absurd h h1⟩
theorem lg_eq (x y : Int64) : lg_cmp x y = 0 ↔ x = y := by
  unfold lg_cmp
  by_cases h1 : y < x
  · rw [if_pos h1]; exact ⟨fun h => absurd h (by decide), fun h => absurd (h ▸ h1 : y < y) (Int64.lt_irrefl)⟩
  · by_cases h2 : x = y
    · rw [if_neg h1, if_pos h2]; exact ⟨fun _ => h2, fun _ => rfl⟩
    · rw [if_neg h1, if_neg h2]; exact ⟨fun h => absurd h (by decide), fun h => absurd h h2⟩
theorem lg_lt (x y : Int64) : lg_cmp x y < 0 ↔ x < y := by
  unfold lg_cmp
  by_cases h1 : y < x
  · rw [if_pos h1]; exact ⟨fun h => absurd h (by decide), fun h => absurd h1 (Int64.lt_asymm h)⟩
  · by_cases h2 : x = y
    · rw [if_neg h1, if_pos h2]; exact ⟨fun h => absurd h (by decide), fun h => absurd (h2 ▸ h : y < y) (Int64.lt_irrefl)⟩
    · rw [if_neg h1, if_neg h2]
      refine ⟨fun _ => ?_, fun _ => by decide⟩
      rcases Int64.lt_or_le x y with q | q
      · exact q
      · exact absurd (Int64.le_antisymm (Int64.not_lt.mp h1) q) h2
section XM
variable {p : Program} {l : Launch} {e : Env} {R : Room} {s : State} {m : MethodId} {args : Array Value} {below : List Frame} {meth : Method} {c : Code} {H : Heap} {locs : List Loc} {cells slots : Nat} {Q : State → Prop}
variable {cc : ByteArray} {pc nL : Nat} {ls : Array Slot} {rest : List Value} {Y : Ly} {D : va_G} {T : Cy} {ρ : Nat → Nat} {S S1 : St} {A : Nat → Prop} {own : String}
theorem x_nm {x v : Int32} (q : x = v) (kk : W p l e R s m args below meth c H locs cells slots Q (F0 m pc ls (.int x :: rest))) : W p l e R s m args below meth c H locs cells slots Q (F0 m pc ls (.int v :: rest)) := q ▸ kk
theorem x_nmL {x v : Int64} (q : x = v) (kk : W p l e R s m args below meth c H locs cells slots Q (F0 m pc ls (.long x :: rest))) : W p l e R s m args below meth c H locs cells slots Q (F0 m pc ls (.long v :: rest)) := q ▸ kk
theorem y_putI (C : CallFix p m c cc nL s args tb own) (w : Wn Y D T ρ S A s H locs) {o k idx ci : Nat} {v : Int32} (hS : S1 = sI S o k v) (hf : Fg Y own idx ci k 0) (hp : Pk ci k .int) (ho : Ob Y o ci) (hdg : decode cc pc = .ok (.putfield idx, 3)) (kk : ∀ (H1 : Heap) (locs1 : List Loc), Wn Y D T ρ S1 A s H1 locs1 → W p l e R s m args below meth c H1 locs1 cells slots Q (F0 m (pc + 3) ls rest)) : W p l e R s m args below meth c H locs cells slots Q (F0 m pc ls (.int v :: .ref (ρ o) :: rest)) := by
  subst hS
  exact x_putI C w hf hp ho hdg kk
theorem y_putZ (C : CallFix p m c cc nL s args tb own) (w : Wn Y D T ρ S A s H locs) {o k idx ci : Nat} {v : Int32} (hS : S1 = sI S o k v) (hf : Fg Y own idx ci k 0) (hp : Pk ci k .boolean) (hv : v = 0 ∨ v = 1) (ho : Ob Y o ci) (hdg : decode cc pc = .ok (.putfield idx, 3)) (kk : ∀ (H1 : Heap) (locs1 : List Loc), Wn Y D T ρ S1 A s H1 locs1 → W p l e R s m args below meth c H1 locs1 cells slots Q (F0 m (pc + 3) ls rest)) : W p l e R s m args below meth c H locs cells slots Q (F0 m pc ls (.int v :: .ref (ρ o) :: rest)) := by
  subst hS
  exact x_putZ C w hf hp hv ho hdg kk
theorem y_putL (C : CallFix p m c cc nL s args tb own) (w : Wn Y D T ρ S A s H locs) {o k idx ci : Nat} {v : Int64} (hS : S1 = sL S o k v) (hf : Fg Y own idx ci k 1) (hp : Pk ci k .long) (ho : Ob Y o ci) (hdg : decode cc pc = .ok (.putfield idx, 3)) (kk : ∀ (H1 : Heap) (locs1 : List Loc), Wn Y D T ρ S1 A s H1 locs1 → W p l e R s m args below meth c H1 locs1 cells slots Q (F0 m (pc + 3) ls rest)) : W p l e R s m args below meth c H locs cells slots Q (F0 m pc ls (.long v :: .ref (ρ o) :: rest)) := by
  subst hS
  exact x_putL C w hf hp ho hdg kk
theorem x_l_lt {x y : Int64} {off : Int} {tgt : Nat} (C : CallFix p m c cc nL s args tb own) (hd0 : decode cc pc = .ok (.lcmp, 1)) (hdg : decode cc (pc + 1) = .ok (.ifCond .lt off, 3)) (ht : ((pc + 1 : Nat) : Int) + off = (tgt : Int)) (kt : x < y → W p l e R s m args below meth c H locs cells slots Q (F0 m tgt ls rest)) (kf : ¬ x < y → W p l e R s m args below meth c H locs cells slots Q (F0 m (pc + 4) ls rest)) : W p l e R s m args below meth c H locs cells slots Q (F0 m pc ls (.long y :: .long x :: rest)) :=
  W.lcmp C.1 C.2.1 hd0 (lv_if_lt C.1 C.2.1 hdg ht (fun q => kt ((lg_lt x y).mp q)) (fun q => kf (fun z => q ((lg_lt x y).mpr z))))
theorem x_l_ge {x y : Int64} {off : Int} {tgt : Nat} (C : CallFix p m c cc nL s args tb own) (hd0 : decode cc pc = .ok (.lcmp, 1)) (hdg : decode cc (pc + 1) = .ok (.ifCond .ge off, 3)) (ht : ((pc + 1 : Nat) : Int) + off = (tgt : Int)) (kt : ¬ x < y → W p l e R s m args below meth c H locs cells slots Q (F0 m tgt ls rest)) (kf : x < y → W p l e R s m args below meth c H locs cells slots Q (F0 m (pc + 4) ls rest)) : W p l e R s m args below meth c H locs cells slots Q (F0 m pc ls (.long y :: .long x :: rest)) :=
  W.lcmp C.1 C.2.1 hd0 (lv_if_ge C.1 C.2.1 hdg ht (fun q => kt (fun z => absurd ((lg_lt x y).mpr z) (Int32.not_lt.mpr q))) (fun q => kf ((lg_lt x y).mp (Int32.not_le.mp q))))
theorem x_l_gt {x y : Int64} {off : Int} {tgt : Nat} (C : CallFix p m c cc nL s args tb own) (hd0 : decode cc pc = .ok (.lcmp, 1)) (hdg : decode cc (pc + 1) = .ok (.ifCond .gt off, 3)) (ht : ((pc + 1 : Nat) : Int) + off = (tgt : Int)) (kt : y < x → W p l e R s m args below meth c H locs cells slots Q (F0 m tgt ls rest)) (kf : ¬ y < x → W p l e R s m args below meth c H locs cells slots Q (F0 m (pc + 4) ls rest)) : W p l e R s m args below meth c H locs cells slots Q (F0 m pc ls (.long y :: .long x :: rest)) :=
  W.lcmp C.1 C.2.1 hd0 (lv_if_gt C.1 C.2.1 hdg ht (fun q => kt ((lg_gt x y).mp q)) (fun q => kf (fun z => q ((lg_gt x y).mpr z))))
theorem x_l_le {x y : Int64} {off : Int} {tgt : Nat} (C : CallFix p m c cc nL s args tb own) (hd0 : decode cc pc = .ok (.lcmp, 1)) (hdg : decode cc (pc + 1) = .ok (.ifCond .le off, 3)) (ht : ((pc + 1 : Nat) : Int) + off = (tgt : Int)) (kt : ¬ y < x → W p l e R s m args below meth c H locs cells slots Q (F0 m tgt ls rest)) (kf : y < x → W p l e R s m args below meth c H locs cells slots Q (F0 m (pc + 4) ls rest)) : W p l e R s m args below meth c H locs cells slots Q (F0 m pc ls (.long y :: .long x :: rest)) :=
  W.lcmp C.1 C.2.1 hd0 (lv_if_le C.1 C.2.1 hdg ht (fun q => kt (fun z => absurd ((lg_gt x y).mpr z) (Int32.not_lt.mpr q))) (fun q => kf ((lg_gt x y).mp (Int32.not_le.mp q))))
theorem x_l_eq {x y : Int64} {off : Int} {tgt : Nat} (C : CallFix p m c cc nL s args tb own) (hd0 : decode cc pc = .ok (.lcmp, 1)) (hdg : decode cc (pc + 1) = .ok (.ifCond .eq off, 3)) (ht : ((pc + 1 : Nat) : Int) + off = (tgt : Int)) (kt : x = y → W p l e R s m args below meth c H locs cells slots Q (F0 m tgt ls rest)) (kf : ¬ x = y → W p l e R s m args below meth c H locs cells slots Q (F0 m (pc + 4) ls rest)) : W p l e R s m args below meth c H locs cells slots Q (F0 m pc ls (.long y :: .long x :: rest)) :=
  W.lcmp C.1 C.2.1 hd0 (lv_if_eq C.1 C.2.1 hdg ht (fun q => kt ((lg_eq x y).mp q)) (fun q => kf (fun z => q ((lg_eq x y).mpr z))))
theorem x_l_ne {x y : Int64} {off : Int} {tgt : Nat} (C : CallFix p m c cc nL s args tb own) (hd0 : decode cc pc = .ok (.lcmp, 1)) (hdg : decode cc (pc + 1) = .ok (.ifCond .ne off, 3)) (ht : ((pc + 1 : Nat) : Int) + off = (tgt : Int)) (kt : ¬ x = y → W p l e R s m args below meth c H locs cells slots Q (F0 m tgt ls rest)) (kf : x = y → W p l e R s m args below meth c H locs cells slots Q (F0 m (pc + 4) ls rest)) : W p l e R s m args below meth c H locs cells slots Q (F0 m pc ls (.long y :: .long x :: rest)) :=
  W.lcmp C.1 C.2.1 hd0 (lv_if_ne C.1 C.2.1 hdg ht (fun q => kt (fun z => q ((lg_eq x y).mpr z))) (fun q => kf ((lg_eq x y).mp q)))
end XM
