/-! a run begins: the class, whole -/
theorem nodup_len : ∀ (n : Nat) (l : List Nat), l.Nodup → (∀ x ∈ l, x < n) → l.length ≤ n := by
  intro n
  induction n with
  | zero =>
    intro l _ h
    cases l with
    | nil => exact Nat.le_refl _
    | cons a r => exact absurd (h a (by simp)) (by omega)
  | succ n ih =>
    intro l hn h
    by_cases hm : n ∈ l
    · have h1 := ih (l.erase n) (hn.erase n) (fun x hx => by
        have h2 := (hn.mem_erase_iff).mp hx
        have := h x h2.2
        have := h2.1
        omega)
      rw [List.length_erase_of_mem hm] at h1
      omega
    · have := ih l hn (fun x hx => by
        have := h x hx
        have : x ≠ n := fun e => hm (e ▸ hx)
        omega)
      omega
theorem poolS_ok {num : Nat → Nat} {B : Nat} : ∀ (o pl : List Nat), pl.Nodup → (∀ x ∈ pl, x < B) → (∀ n ∈ o, num n < B) → (poolS num o pl).Nodup ∧ ∀ x ∈ poolS num o pl, x < B := by
  intro o
  induction o with
  | nil => intro pl h1 h2 _; exact ⟨h1, h2⟩
  | cons n o ih =>
    intro pl h1 h2 h3
    show (poolS num o (if num n ∈ pl then pl else pl ++ [num n])).Nodup ∧ ∀ x ∈ poolS num o (if num n ∈ pl then pl else pl ++ [num n]), x < B
    by_cases h : num n ∈ pl
    · rw [if_pos h]
      exact ih pl h1 h2 (fun m hm => h3 m (by simp [hm]))
    · rw [if_neg h]
      refine ih _ ?_ ?_ (fun m hm => h3 m (by simp [hm]))
      · refine List.nodup_append.mpr ⟨h1, by simp, fun a ha b hb => ?_⟩
        rw [List.mem_singleton] at hb
        rw [hb]
        exact fun e => h (e ▸ ha)
      · intro x hx
        rcases List.mem_append.mp hx with hx | hx
        · exact h2 x hx
        · rw [List.mem_singleton] at hx
          rw [hx]
          exact h3 n (by simp)
theorem lxL_b : ∀ {lits : List (List Int32)} {k : Nat}, ∀ x ∈ lxL lits k, x < k + lits.length ∨ x = 0 := by
  intro lits
  induction lits with
  | nil => intro k x hx; simp [lxL] at hx
  | cons l r ih =>
    intro k x hx
    have hx' : x ∈ (if l = [] then 0 :: lxL r k else k :: lxL r (k + 1)) := hx
    split at hx'
    · rcases List.mem_cons.mp hx' with h | h
      · exact Or.inr h
      · rcases ih x h with h | h
        · exact Or.inl (by rw [List.length_cons]; omega)
        · exact Or.inr h
    · rcases List.mem_cons.mp hx' with h | h
      · exact Or.inl (by rw [List.length_cons]; omega)
      · rcases ih x h with h | h
        · exact Or.inl (by rw [List.length_cons]; omega)
        · exact Or.inr h
theorem lxL_len : ∀ {lits : List (List Int32)} {k : Nat}, (lxL lits k).length = lits.length := by
  intro lits
  induction lits with
  | nil => intro k; rfl
  | cons l r ih =>
    intro k
    show (if l = [] then 0 :: lxL r k else k :: lxL r (k + 1)).length = _
    split <;> simp [ih]
/-- what begin leaves as it was, in the class -/
def FBg (S S' : St) : Prop := (∀ o k, o < 10 → (o ≠ 4 ∨ (k ≠ 7 ∧ k ≠ 10 ∧ k ≠ 11)) → gI S' o k = gI S o k) ∧ (∀ o, 10 ≤ o → o < 34 → ¬ stpRow o → o ≠ 32 → o ≠ 33 → (∀ k, gI S' o k = gI S o k) ∧ gN S' (o + 24) = gN S (o + 24) ∧ ∀ i, gF S' (o + 24) i = gF S (o + 24) i) ∧ S'.2.1 = S.2.1 ∧ (∀ o k, ¬ (o = 4 ∧ k = 9) → gR S' o k = gR S o k) ∧ (∀ a, 58 ≤ a → gN S' a = gN S a) ∧ ∀ a, 58 ≤ a → a ≤ 73 → (∀ i, gF S' a i = gF S a i) ∧ ∀ i, gG S' a i = gG S a i
theorem FBg.tr {S S1 S2 : St} (h1 : FBg S S1) (h2 : FBg S1 S2) : FBg S S2 :=
  ⟨fun o k a b => (h2.1 o k a b).trans (h1.1 o k a b), fun o a b c d e => ⟨fun k => ((h2.2.1 o a b c d e).1 k).trans ((h1.2.1 o a b c d e).1 k), (h2.2.1 o a b c d e).2.1.trans (h1.2.1 o a b c d e).2.1, fun i => ((h2.2.1 o a b c d e).2.2 i).trans ((h1.2.1 o a b c d e).2.2 i)⟩, h2.2.2.1.trans h1.2.2.1, fun o k h => (h2.2.2.2.1 o k h).trans (h1.2.2.2.1 o k h), fun a b => (h2.2.2.2.2.1 a b).trans (h1.2.2.2.2.1 a b), fun a b c => ⟨fun i => ((h2.2.2.2.2.2 a b c).1 i).trans ((h1.2.2.2.2.2 a b c).1 i), fun i => ((h2.2.2.2.2.2 a b c).2 i).trans ((h1.2.2.2.2.2 a b c).2 i)⟩⟩
theorem FBg.fr {S S' : St} (h : FRc S S') : FBg S S' := ⟨h.1, h.2.1, h.2.2.1, fun o k _ => by unfold gR; rw [h.2.2.2.1], h.2.2.2.2.1, h.2.2.2.2.2.1⟩
theorem FBg.row {o : Nat} {S S' : St} (h : Fr o S S') (ho : stpRow o ∨ o = 32 ∨ o = 33) : FBg S S' := by
  have h18 : 18 ≤ o ∧ o ≤ 33 := by rcases ho with h | h | h <;> (try unfold stpRow at h) <;> omega
  refine ⟨fun x k a _ => h.1 x k (by omega), fun x a b c d e => ?_, h.2.1, fun x k _ => by unfold gR; rw [h.2.2.1], fun a b => (h.2.2.2.1 a (by omega)).1, fun a b c => ⟨fun i => (h.2.2.2.1 a (by omega)).2 i, fun i => by unfold gG; rw [h.2.2.2.2]⟩⟩
  have hx : x ≠ o := by rintro rfl; rcases ho with h | h | h; exact c h; exact d h; exact e h
  exact ⟨fun k => h.1 x k hx, (h.2.2.2.1 (x + 24) (by omega)).1, fun i => (h.2.2.2.1 (x + 24) (by omega)).2 i⟩
theorem FBg.fa {a : Nat} {S S' : St} (h : FA a S S') (ha : 74 ≤ a) : FBg S S' := ⟨fun o k _ _ => h.i o k, fun o _ _ _ _ _ => ⟨fun k => h.i o k, h.n _, fun i => h.2.2.2.2.1 _ (by omega) i⟩, h.2.1, fun o k _ => h.r o k, fun b _ => h.n b, fun b _ _ => ⟨fun i => h.2.2.2.2.1 b (by omega) i, fun i => h.2.2.2.2.2 b (by omega) i⟩⟩
/-- the Rows that a run uses are there -/
def RwX (S : St) : Prop := (∃ l ov, Rw S 20 l ov) ∧ (∃ l ov, Rw S 22 l ov) ∧ XR S ∧ (∀ b, b < 6 → ∃ l ov, Rw S (24 + b) l ov) ∧ (∃ l ov, Rw S 32 l ov) ∧ ∃ l ov, Rw S 33 l ov
theorem RwX.fr {o : Nat} {S S' : St} (w : RwX S) (h : Fr o S S') {l : List Int32} {ov : Int32} (wo : Rw S' o l ov) : RwX S' := by
  have key : ∀ x, (∃ l ov, Rw S x l ov) → ∃ l ov, Rw S' x l ov := by
    rintro x ⟨l', ov', wx⟩
    by_cases e : x = o
    · subst e
      exact ⟨l, ov, wo⟩
    · exact ⟨l', ov', wx.fr h e⟩
  obtain ⟨a, b, ⟨c, d, e⟩, f, i, j⟩ := w
  exact ⟨key 20 a, key 22 b, ⟨key 23 c, key 30 d, key 31 e⟩, fun z hz => key _ (f z hz), key 32 i, key 33 j⟩
theorem RwX.fa {a : Nat} {S S' : St} (w : RwX S) (h : FA a S S') (ha : 58 ≤ a) : RwX S' := by
  have key : ∀ x, (∃ l ov, Rw S x l ov) → ∃ l ov, Rw S' x l ov := fun x ⟨l', ov', wx⟩ => ⟨l', ov', wx.fa h ha⟩
  obtain ⟨a, b, ⟨c, d, e⟩, f, i, j⟩ := w
  exact ⟨key 20 a, key 22 b, ⟨key 23 c, key 30 d, key 31 e⟩, fun z hz => key _ (f z hz), key 32 i, key 33 j⟩
/-- what the class has where a run begins -/
def BegC (S : St) (p : Nat) (lits : List (List Int32)) (P : Prg) : Prop := TXc S ([] :: lxT lits) ∧ PoC S (poolS (numL lits) (occP P) [0]) ∧ Rw S 22 [] 0 ∧ Rw S 32 [] 0 ∧ Rw S 33 [] 0 ∧ (∀ v, v < 20 → gF S 74 v = -1) ∧ (∀ w, w < 12 → gG S 75 w = 0) ∧ (∀ b, b < 6 → gF S 77 b = -1) ∧ gI S 4 7 = nI 0 ∧ (∀ s, s < 56 → gF S 80 s = 0) ∧ gF S 79 0 = -1 ∧ (∀ j, j = 1 ∨ j = 2 ∨ j = 3 → gF S 79 j = 0) ∧ gR S 4 9 = p ∧ Rw S 21 ((lxL lits 1).map nI) 0 ∧ RwX S ∧ LC S ∧ gOK S
section BCW
variable {g p : Nat} {P : Prg} {lits : List (List Int32)} {S : St}
theorem gOK.sR (w : gOK S) (hp : p < 3) : gOK (sR S 4 9 p) := by
  obtain ⟨a, b, c, d⟩ := w
  refine ⟨a, b, c, ?_⟩
  show (if (4 : Nat) = 4 ∧ (9 : Nat) = 9 then p else S.2.2.1 4 9) < 3
  rw [if_pos ⟨rfl, rfl⟩]
  exact hp
theorem C_begin (hg : 100000 ≤ g) (ld : LoadC S lits) (pc : PrC S p P) (hl : LC S) (hk : gOK S) (rx : RwX S) (h24 : lits.length ≤ 24) (hocc : ∀ (m : Nat) (w : Wd), (wdP P)[m]? = some w → w.1 < 10 ∧ (w.1 = 3 → ∃ n : Nat, n < lits.length ∧ w.2.1.toInt = (n : Int))) : ∃ S', m_Rn_begin g S p = some S' ∧ FBg S S' ∧ BegC S' p lits P := by
  obtain ⟨l21, l54, ⟨r18, w18⟩, r19, w19⟩ := ld
  have hp3 : p < 3 := by rcases pc.1 with h | h <;> omega
  have hT24 : (lxT lits).length ≤ 24 := by
    have key : ∀ l : List (List Int32), (lxT l).length ≤ l.length := by
      intro l
      induction l with
      | nil => exact Nat.le_refl _
      | cons a r ih =>
        show (if a = [] then lxT r else a :: lxT r).length ≤ _
        split
        · rw [List.length_cons]; omega
        · rw [List.length_cons, List.length_cons]; omega
    have := key lits
    omega
  have hb : FBg S (sR S 4 9 p) := ⟨fun _ _ _ _ => rfl, fun _ _ _ _ _ _ => ⟨fun _ => rfl, rfl, fun _ => rfl⟩, rfl, fun o k h => by
    show (if o = 4 ∧ k = 9 then p else S.2.2.1 o k) = _
    rw [if_neg h]
    rfl, fun _ _ => rfl, fun _ _ _ => ⟨fun _ => rfl, fun _ => rfl⟩⟩
  have hR0 : gR (sR S 4 9 p) 4 9 = p := by
    show (if (4 : Nat) = 4 ∧ (9 : Nat) = 9 then p else S.2.2.1 4 9) = p
    rw [if_pos ⟨rfl, rfl⟩]
  have hk0 : gOK (sR S 4 9 p) := hk.sR hp3
  -- the texts
  obtain ⟨S1, a1, a2, a3⟩ := R_shorten (g := g) (S := sR S 4 9 p) (n := 1 + (lxT lits).length) w19 (by omega)
  rw [List.take_left' (by rw [endsC_len, List.length_cons]; omega)] at a3
  have hcs : ([] :: lxT lits).flatten = (lxT lits).flatten := by simp
  have hlen18 : (lxT lits).flatten.length ≤ 27000 := by
    have := w18.2.2.2.2.1
    rw [List.length_append, show limC 18 = 27000 from by decide +kernel] at this
    omega
  have eAt : m_Row_at g S1 19 (nI (lxT lits).length) = some (nI (lxT lits).flatten.length) := by
    rw [R_at a3, atR_nI (by omega)]
    unfold endsC
    rw [List.getD_eq_getElem?_getD, List.getElem?_map, List.getElem?_range (by rw [List.length_cons]; omega)]
    show some (nI (stC ([] :: lxT lits) ((lxT lits).length + 1))) = _
    unfold stC
    rw [List.take_of_length_le (by rw [List.length_cons]; omega), hcs]
  have w18' : Rw S1 18 ((lxT lits).flatten ++ r18) 0 := Rw.fr a2 (by decide) w18
  obtain ⟨S3, b1, b2, b3⟩ := R_shorten (g := g) (n := (lxT lits).flatten.length) w18' (by omega)
  rw [List.take_left' rfl, ← hcs] at b3
  have T3 : TXc S3 ([] :: lxT lits) := ⟨b3, a3.fr b2 (by decide)⟩
  have rx0 : RwX (sR S 4 9 p) := rx
  have rx3 : RwX S3 := (rx0.fr a2 a3).fr b2 b3
  -- the pool
  obtain ⟨l20, o20, w20⟩ := rx3.1
  obtain ⟨S4, c1, c2, c3⟩ := R_clear (g := g) w20
  have hk4 : gOK S4 := ((hk0.fr a2).fr b2).fr c2
  obtain ⟨S5, d1, d2, d3⟩ := R_add (g := g) (v := 0) c3 hk4
  rw [show limC 20 = 85 from by decide +kernel, if_pos (by simp), if_pos (by simp), List.nil_append] at d3
  have f5 : FBg S S5 := (((hb.tr (FBg.row a2 (Or.inl (by unfold stpRow; omega)))).tr (FBg.row b2 (Or.inl (by unfold stpRow; omega)))).tr (FBg.row c2 (Or.inl (by unfold stpRow; omega)))).tr (FBg.row d2 (Or.inl (by unfold stpRow; omega)))
  have hl5 : LC S5 := fun a ha => (f5.2.2.2.2.1 a ha).trans (hl a ha)
  have hk5 : gOK S5 := hk4.fr d2
  have prB : ∀ {Z : St}, FBg S Z → PrC Z p P := by
    intro Z h
    obtain ⟨x1, x2, x3, x4, x5, x6⟩ := pc
    have hf : ∀ k i, k < 8 → gF Z (50 + 8 * p + k) i = gF S (50 + 8 * p + k) i := fun k i hk => (h.2.2.2.2.2 _ (by omega) (by omega)).1 i
    have hgg : ∀ k i, k < 8 → gG Z (50 + 8 * p + k) i = gG S (50 + 8 * p + k) i := fun k i hk => (h.2.2.2.2.2 _ (by omega) (by omega)).2 i
    refine ⟨x1, x2, x3, (h.1 p 8 (by omega) (by omega)).trans x4, fun i hi => (hf 1 i (by omega)).trans (x5 i hi), fun i s ws hi => ⟨(hf 0 i (by omega)).trans (x6 i s ws hi).1, fun j w hw => ?_⟩⟩
    obtain ⟨q1, q2, q3, q4⟩ := (x6 i s ws hi).2 j w hw
    exact ⟨(hf 2 _ (by omega)).trans q1, (hf 3 _ (by omega)).trans q2, (hgg 4 _ (by omega)).trans q3, (hf 5 _ (by omega)).trans q4⟩
  have w21 : Rw S5 21 ((lxL lits 1).map nI) 0 := ((((show Rw (sR S 4 9 p) 21 ((lxL lits 1).map nI) 0 from l21).fr a2 (by decide)).fr b2 (by decide)).fr c2 (by decide)).fr d2 (by decide)
  have hnum : ∀ n, n < lits.length → numL lits n < 25 := by
    intro n hn
    unfold numL
    rw [List.getD_eq_getElem?_getD, List.getElem?_eq_getElem (by rw [lxL_len]; exact hn)]
    have hh : n < (lxL lits 1).length := by rw [lxL_len]; exact hn
    have := lxL_b (lits := lits) (k := 1) _ (List.getElem_mem hh)
    show (lxL lits 1)[n] < 25
    omega
  have hoc : ∀ n ∈ occP P, numL lits n < 25 := by
    have key : ∀ ws : List Wd, (∀ (m : Nat) (w : Wd), ws[m]? = some w → w.1 = 3 → ∃ n : Nat, n < lits.length ∧ w.2.1.toInt = (n : Int)) → ∀ n ∈ occW ws, numL lits n < 25 := by
      intro ws
      induction ws with
      | nil => intro _ n hn; simp [occW] at hn
      | cons c r ih =>
        intro h n hn
        have hn' : n ∈ (if c.1 = 3 then c.2.1.toInt.toNat :: occW r else occW r) := hn
        have ih' := ih (fun m w hw => h (m + 1) w (by simpa using hw))
        split at hn'
        · rename_i h3
          rcases List.mem_cons.mp hn' with e | e
          · obtain ⟨z, z1, z2⟩ := h 0 c rfl h3
            rw [e, show c.2.1.toInt.toNat = z by omega]
            exact hnum z z1
          · exact ih' n e
        · exact ih' n hn'
    rw [occP_w]
    exact key _ (fun m w hw h3 => (hocc m w hw).2 h3)
  have hpool := poolS_ok (num := numL lits) (B := 25) (occP P) [0] (by simp) (fun x hx => by rw [List.mem_singleton] at hx; omega) hoc
  have hpl25 := nodup_len 25 _ hpool.1 hpool.2
  have hwl := wdP_len (P := P)
  have hP5 : PoC S5 [0] := d3
  obtain ⟨S6, e1, e2, e3⟩ := pool_l (g := g) (p := p) (P := P) (num := numL lits) (ls := lxL lits 1) hg (fun m w hw => ⟨(hocc m w hw).1, fun h3 => by
    obtain ⟨n, n1, n2⟩ := (hocc m w hw).2 h3
    exact ⟨n, by rw [lxL_len]; exact n1, n2, rfl⟩⟩) (wdP P).length g 0 S5 [0] (by omega) (by have := pc.2.2.1; omega) (prB f5) hl5 hk5 w21 (fun x hx => by
      have := lxL_b (lits := lits) (k := 1) x hx
      omega) hP5 (by simp) (by have := pc.2.2.1; simp; omega) (by rw [List.drop_zero, ← occP_w]; omega)
  rw [List.drop_zero, ← occP_w] at e3
  have f6 : FBg S S6 := f5.tr (FBg.row e2 (Or.inl (by unfold stpRow; omega)))
  have hk6 : gOK S6 := hk5.fr e2
  have rx6 : RwX S6 := ((rx3.fr c2 c3).fr d2 d3).fr e2 e3
  have T6 : TXc S6 ([] :: lxT lits) := ⟨((T3.1.fr c2 (by decide)).fr d2 (by decide)).fr e2 (by decide), ((T3.2.fr c2 (by decide)).fr d2 (by decide)).fr e2 (by decide)⟩
  have hN : ∀ {Z : St}, FBg S Z → ∀ a, 58 ≤ a → gN Z a = gN SC0 a := fun h a ha => (h.2.2.2.2.1 a ha).trans (hl a ha)
  obtain ⟨S7, i1, i2, i3⟩ := A_fill (g := g) (a := 74) (N := 20) (v := -1) (S := S6) hg (hN f6 74 (by decide)) (by omega)
  have f7 := f6.tr (FBg.fa i2 (by decide))
  obtain ⟨S8, j1, j2, j3⟩ := A_fillJ (g := g) (a := 75) (N := 12) (v := 0) (S := S7) hg (hN f7 75 (by decide)) (by omega)
  have f8 := f7.tr (FBg.fa j2 (by decide))
  obtain ⟨S9, k1, k2, k3⟩ := A_fill (g := g) (a := 77) (N := 6) (v := -1) (S := S8) hg (hN f8 77 (by decide)) (by omega)
  have f9 := f8.tr (FBg.fa k2 (by decide))
  have rx9 : RwX S9 := ((rx6.fa i2 (by decide)).fa j2 (by decide)).fa k2 (by decide)
  obtain ⟨l22, o22, w22⟩ := rx9.2.1
  obtain ⟨Sa, m1, m2, m3⟩ := R_clear (g := g) w22
  have fa := f9.tr (FBg.row m2 (Or.inl (by unfold stpRow; omega)))
  have rxa : RwX Sa := rx9.fr m2 m3
  have fb : FBg S (sI Sa 4 7 0) := fa.tr (FBg.fr (FRc.fc FC_mk))
  have rxb : RwX (sI Sa 4 7 0) := by
    obtain ⟨⟨_, _, x20⟩, ⟨_, _, x22⟩, ⟨⟨_, _, x23⟩, ⟨_, _, x30⟩, _, _, x31⟩, xb, ⟨_, _, x32⟩, _, _, x33⟩ := rxa
    exact ⟨⟨_, _, x20.s4⟩, ⟨_, _, x22.s4⟩, ⟨⟨_, _, x23.s4⟩, ⟨_, _, x30.s4⟩, _, _, x31.s4⟩, fun b hb => by obtain ⟨l, ov, w⟩ := xb b hb; exact ⟨l, ov, w.s4⟩, ⟨_, _, x32.s4⟩, _, _, x33.s4⟩
  obtain ⟨Sc, n1, n2, n3⟩ := A_fill (g := g) (a := 80) (N := 56) (v := 0) (S := sI Sa 4 7 0) hg (hN fb 80 (by decide)) (by omega)
  have fc := fb.tr (FBg.fa n2 (by decide))
  obtain ⟨Sd, p1, p2, p3⟩ := A_fill (g := g) (a := 79) (N := 4) (v := 0) (S := Sc) hg (hN fc 79 (by decide)) (by omega)
  have fd := fc.tr (FBg.fa p2 (by decide))
  have h79d : gN Sd 79 = 4 := hN fd 79 (by decide)
  have fae : FA 79 Sd (sF Sd 79 0 (-1)) := ⟨rfl, rfl, rfl, rfl, fun b hb j => gF_ne hb, fun _ _ _ => rfl⟩
  have fe := fd.tr (FBg.fa fae (by decide))
  have rxe : RwX (sF Sd 79 0 (-1)) := ((rxb.fa n2 (by decide)).fa p2 (by decide)).fa fae (by decide)
  obtain ⟨l32, o32, w32⟩ := rxe.2.2.2.2.1
  obtain ⟨Sf, s1, s2, s3⟩ := R_clear (g := g) w32
  have rxf : RwX Sf := rxe.fr s2 s3
  obtain ⟨l33, o33, w33⟩ := rxf.2.2.2.2.2
  obtain ⟨Sg, t1, t2, t3⟩ := R_clear (g := g) w33
  have ff := fe.tr (FBg.row s2 (Or.inr (Or.inl rfl)))
  have fg := ff.tr (FBg.row t2 (Or.inr (Or.inr rfl)))
  -- arrays that stay to the end
  have arE : ∀ a, a ≠ 79 → a ≠ 80 → a ≠ 56 → a ≠ 57 → (∀ i, gF Sg a i = gF Sa a i) ∧ ∀ i, gG Sg a i = gG Sa a i := by
    intro a h1 h2 h3 h4
    refine ⟨fun i => ?_, fun i => ?_⟩
    · rw [(t2.2.2.2.1 a (by omega)).2, (s2.2.2.2.1 a (by omega)).2, fae.2.2.2.2.1 a h1, p2.2.2.2.2.1 a h1, n2.2.2.2.2.1 a h2]
      rfl
    · unfold gG
      rw [t2.2.2.2.2, s2.2.2.2.2]
      have q1 := fae.2.2.2.2.2 a h1 i
      have q2 := p2.2.2.2.2.2 a h1 i
      have q3 := n2.2.2.2.2.2 a h2 i
      unfold gG at q1 q2 q3
      rw [q1, q2, q3]
      rfl
  have arA : ∀ a, 58 ≤ a → (∀ i, gF Sa a i = gF S9 a i) ∧ ∀ i, gG Sa a i = gG S9 a i := fun a ha => ⟨fun i => (m2.2.2.2.1 a (by omega)).2 i, fun i => by unfold gG; rw [m2.2.2.2.2]⟩
  refine ⟨Sg, ?_, fg, ?_⟩
  · unfold m_Rn_begin m_Bn_begin m_Tx_begin m_Tx_begin_46 m_Bn_begin_13 m_Rn_begin_8
    rw [lt_d, show gI (sR S 4 9 p) 5 4 = nI (1 + (lxT lits).length) from l54, a1, Option.bind_some, show gI S1 5 4 = nI ((lxT lits).length + 1) from by rw [a2.1 5 4 (by decide), Nat.add_comm]; exact l54, nI_pred, eAt, Option.bind_some, b1, Option.bind_some, c1, Option.bind_some, d1, Option.bind_some, show m_Tx_begin_48 g g S5 p 0 = some S6 from e1, Option.bind_some, i1, Option.bind_some, j1, Option.bind_some, k1, Option.bind_some, m1, Option.bind_some, lt_d, Option.bind_some, n1, Option.bind_some, p1, Option.bind_some, show tI Sd 79 0 (-1) = some (sF Sd 79 0 (-1)) from tI_at (i := 0) (by omega) (by omega), Option.bind_some, s1, Option.bind_some, t1]
    rfl
  · have upT : ∀ {x : Nat} {l : List Int32} {ov : Int32}, x ≠ 22 → x ≠ 32 → x ≠ 33 → Rw S6 x l ov → Rw Sg x l ov := by
      intro x l ov h1 h2 h3 w
      exact ((((((((((w.fa i2 (by decide)).fa j2 (by decide)).fa k2 (by decide)).fr m2 h1).s4 (k := 7) (v := 0)).fa n2 (by decide)).fa p2 (by decide)).fa fae (by decide)).fr s2 h2).fr t2 h3)
    refine ⟨⟨upT (by decide) (by decide) (by decide) T6.1, upT (by decide) (by decide) (by decide) T6.2⟩, upT (by decide) (by decide) (by decide) e3, ((((((m3.s4 (k := 7) (v := 0)).fa n2 (by decide)).fa p2 (by decide)).fa fae (by decide)).fr s2 (by decide)).fr t2 (by decide)), s3.fr t2 (by decide), t3, fun v hv => ?_, fun w hw => ?_, fun b hb => ?_, ?_, fun s hs => ?_, ?_, fun j hj => ?_, ?_, upT (by decide) (by decide) (by decide) (w21.fr e2 (by decide)), rxf.fr t2 t3, hN fg, ?_⟩
    · rw [(arE 74 (by decide) (by decide) (by decide) (by decide)).1, (arA 74 (by decide)).1, k2.2.2.2.2.1 74 (by decide), j2.2.2.2.2.1 74 (by decide)]
      exact i3 v hv
    · rw [(arE 75 (by decide) (by decide) (by decide) (by decide)).2, (arA 75 (by decide)).2, k2.2.2.2.2.2 75 (by decide)]
      exact j3 w hw
    · rw [(arE 77 (by decide) (by decide) (by decide) (by decide)).1, (arA 77 (by decide)).1]
      exact k3 b hb
    · rw [t2.1 4 7 (by decide), s2.1 4 7 (by decide), fae.i, p2.i, n2.i, sI_g]
      rfl
    · rw [(t2.2.2.2.1 80 (by decide)).2, (s2.2.2.2.1 80 (by decide)).2, fae.2.2.2.2.1 80 (by decide), p2.2.2.2.2.1 80 (by decide)]
      exact n3 s hs
    · rw [(t2.2.2.2.1 79 (by decide)).2, (s2.2.2.2.1 79 (by decide)).2, gF_sF]
    · rw [(t2.2.2.2.1 79 (by decide)).2, (s2.2.2.2.1 79 (by decide)).2, gF_sFi (by omega)]
      exact p3 j (by omega)
    · have gg : ∀ {o : Nat} {Z Z' : St}, Fr o Z Z' → gR Z' 4 9 = gR Z 4 9 := fun h => by unfold gR; rw [h.2.2.1]
      rw [gg t2, gg s2, fae.r, p2.r, n2.r, show gR (sI Sa 4 7 0) 4 9 = gR Sa 4 9 from rfl, gg m2, k2.r, j2.r, i2.r, gg e2, gg d2, gg c2, gg b2, gg a2]
      exact hR0
    · have fok : ∀ {a : Nat} {Z Z' : St}, FA a Z Z' → gOK Z → gOK Z' := fun h w => by unfold gOK at *; rw [h.r, h.r, h.r, h.r]; exact w
      have hka : gOK Sa := (fok k2 (fok j2 (fok i2 hk6))).fr m2
      exact ((fok fae (fok p2 (fok n2 (show gOK (sI Sa 4 7 0) from hka)))).fr s2).fr t2
end BCW
