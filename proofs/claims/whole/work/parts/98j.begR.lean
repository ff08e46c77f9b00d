/-! a run begins: both sides tell the same -/
theorem lx_0 : ∀ {lits : List (List Int32)} {k n : Nat}, lits.getD n [] = [] → (lxL lits k).getD n 0 = 0 := by
  intro lits
  induction lits with
  | nil => intro k n _; simp [lxL]
  | cons l r ih =>
    intro k n h
    show (if l = [] then 0 :: lxL r k else k :: lxL r (k + 1)).getD n 0 = 0
    cases n with
    | zero =>
      have : l = [] := h
      rw [if_pos this]
      rfl
    | succ n =>
      have h' : r.getD n [] = [] := by simpa using h
      split
      · exact (show (lxL r k).getD n 0 = 0 from ih h')
      · exact (show (lxL r (k + 1)).getD n 0 = 0 from ih h')
theorem lx_n : ∀ {lits : List (List Int32)} {k n : Nat}, n < lits.length → ¬ lits.getD n [] = [] → k ≤ (lxL lits k).getD n 0 ∧ (lxT lits)[(lxL lits k).getD n 0 - k]? = some (lits.getD n []) := by
  intro lits
  induction lits with
  | nil => intro k n h; simp at h
  | cons l r ih =>
    intro k n hn h
    show k ≤ (if l = [] then 0 :: lxL r k else k :: lxL r (k + 1)).getD n 0 ∧ (if l = [] then lxT r else l :: lxT r)[(if l = [] then 0 :: lxL r k else k :: lxL r (k + 1)).getD n 0 - k]? = _
    cases n with
    | zero =>
      have : ¬ l = [] := h
      rw [if_neg this, if_neg this]
      refine ⟨Nat.le_refl _, ?_⟩
      show (l :: lxT r)[k - k]? = some l
      rw [Nat.sub_self]
      rfl
    | succ n =>
      have h' : ¬ r.getD n [] = [] := by simpa using h
      have hn' : n < r.length := by simpa using hn
      have e : (l :: r).getD (n + 1) [] = r.getD n [] := by simp
      rw [e]
      by_cases hl : l = []
      · rw [if_pos hl, if_pos hl]
        exact (show k ≤ (lxL r k).getD n 0 ∧ (lxT r)[(lxL r k).getD n 0 - k]? = _ from ih hn' h')
      · rw [if_neg hl, if_neg hl]
        obtain ⟨a, b⟩ := ih (k := k + 1) hn' h'
        show k ≤ (lxL r (k + 1)).getD n 0 ∧ (l :: lxT r)[(lxL r (k + 1)).getD n 0 - k]? = _
        refine ⟨by omega, ?_⟩
        rw [show (lxL r (k + 1)).getD n 0 - k = ((lxL r (k + 1)).getD n 0 - (k + 1)) + 1 by omega, List.getElem?_cons_succ]
        exact b
theorem lx_inj : ∀ {lits : List (List Int32)} {k n m : Nat}, n < lits.length → m < lits.length → ¬ lits.getD n [] = [] → ¬ lits.getD m [] = [] → (lxL lits k).getD n 0 = (lxL lits k).getD m 0 → n = m := by
  intro lits
  induction lits with
  | nil => intro k n m h; simp at h
  | cons l r ih =>
    intro k n m hn hm h1 h2 e
    have e' : (if l = [] then 0 :: lxL r k else k :: lxL r (k + 1)).getD n 0 = (if l = [] then 0 :: lxL r k else k :: lxL r (k + 1)).getD m 0 := e
    cases n with
    | zero =>
      have hl : ¬ l = [] := h1
      rw [if_neg hl] at e'
      cases m with
      | zero => rfl
      | succ m =>
        have h' : ¬ r.getD m [] = [] := by simpa using h2
        have hm' : m < r.length := by simpa using hm
        have q := (lx_n (k := k + 1) hm' h').1
        have e'' : k = (lxL r (k + 1)).getD m 0 := e'
        omega
    | succ n =>
      have hx : ¬ r.getD n [] = [] := by simpa using h1
      have hn' : n < r.length := by simpa using hn
      cases m with
      | zero =>
        have hl : ¬ l = [] := h2
        rw [if_neg hl] at e'
        have q := (lx_n (k := k + 1) hn' hx).1
        have e'' : (lxL r (k + 1)).getD n 0 = k := e'
        omega
      | succ m =>
        have h' : ¬ r.getD m [] = [] := by simpa using h2
        have hm' : m < r.length := by simpa using hm
        congr 1
        by_cases hl : l = []
        · rw [if_pos hl] at e'
          exact ih hn' hm' hx h' (show (lxL r k).getD n 0 = (lxL r k).getD m 0 from e')
        · rw [if_neg hl] at e'
          exact ih hn' hm' hx h' (show (lxL r (k + 1)).getD n 0 = (lxL r (k + 1)).getD m 0 from e')
theorem lxT_fl : ∀ {lits : List (List Int32)}, (lxT lits).flatten = lits.flatten := by
  intro lits
  induction lits with
  | nil => rfl
  | cons l r ih =>
    show (if l = [] then lxT r else l :: lxT r).flatten = _
    by_cases h : l = []
    · rw [if_pos h, h, List.flatten_cons, List.nil_append]; exact ih
    · rw [if_neg h, List.flatten_cons, List.flatten_cons, ih]
theorem lxT_le : ∀ {lits : List (List Int32)}, (lxT lits).length ≤ lits.length := by
  intro lits
  induction lits with
  | nil => exact Nat.le_refl _
  | cons l r ih =>
    show (if l = [] then lxT r else l :: lxT r).length ≤ _
    split
    · rw [List.length_cons]; omega
    · rw [List.length_cons, List.length_cons]; omega
theorem pool_us {lits : List (List Int32)} : ∀ (o us : List Nat), (∀ n ∈ o, n < lits.length) → (∀ n ∈ us, n < lits.length ∧ ¬ lits.getD n [] = []) → poolS (numL lits) o (0 :: us.map (numL lits)) = 0 :: (usS lits o us).map (numL lits) ∧ ∀ n ∈ o, lits.getD n [] = [] ∨ n ∈ usS lits o us := by
  have mono : ∀ (o us : List Nat), ∀ n ∈ us, n ∈ usS lits o us := by
    intro o
    induction o with
    | nil => intro us n h; exact h
    | cons c o ih =>
      intro us n h
      refine ih _ n ?_
      split
      · exact h
      · exact List.mem_append.mpr (Or.inl h)
  intro o
  induction o with
  | nil => intro us _ _; exact ⟨rfl, fun n h => by simp at h⟩
  | cons c o ih =>
    intro us h1 h2
    have hc := h1 c (by simp)
    have ho : ∀ n ∈ o, n < lits.length := fun n h => h1 n (by simp [h])
    have key : numL lits c ∈ 0 :: us.map (numL lits) ↔ (lits.getD c [] = [] ∨ c ∈ us) := by
      constructor
      · intro h
        rcases Classical.em (lits.getD c [] = []) with e | e
        · exact Or.inl e
        · refine Or.inr ?_
          rcases List.mem_cons.mp h with h | h
          · have := (lx_n (k := 1) hc e).1
            unfold numL at h
            omega
          · obtain ⟨m, m1, m2⟩ := List.mem_map.mp h
            have := lx_inj (k := 1) (h2 m m1).1 hc (h2 m m1).2 e m2
            rw [← this]
            exact m1
      · rintro (h | h)
        · rw [show numL lits c = 0 from lx_0 h]
          simp
        · exact List.mem_cons.mpr (Or.inr (List.mem_map.mpr ⟨c, h, rfl⟩))
    show poolS (numL lits) o (if numL lits c ∈ 0 :: us.map (numL lits) then 0 :: us.map (numL lits) else 0 :: us.map (numL lits) ++ [numL lits c]) = 0 :: (usS lits o (if lits.getD c [] = [] ∨ c ∈ us then us else us ++ [c])).map (numL lits) ∧ ∀ n ∈ c :: o, lits.getD n [] = [] ∨ n ∈ usS lits o (if lits.getD c [] = [] ∨ c ∈ us then us else us ++ [c])
    by_cases hk : lits.getD c [] = [] ∨ c ∈ us
    · rw [if_pos (key.mpr hk), if_pos hk]
      obtain ⟨a, b⟩ := ih us ho h2
      refine ⟨a, fun n hn => ?_⟩
      rcases List.mem_cons.mp hn with e | e
      · rw [e]
        rcases hk with h | h
        · exact Or.inl h
        · exact Or.inr (mono o us c h)
      · exact b n e
    · rw [if_neg (fun h => hk (key.mp h)), if_neg hk, List.cons_append, show us.map (numL lits) ++ [numL lits c] = (us ++ [c]).map (numL lits) by rw [List.map_append]; rfl]
      obtain ⟨a, b⟩ := ih (us ++ [c]) ho (fun n hn => by
        rcases List.mem_append.mp hn with h | h
        · exact h2 n h
        · rw [List.mem_singleton] at h
          rw [h]
          exact ⟨hc, fun e => hk (Or.inl e)⟩)
      refine ⟨a, fun n hn => ?_⟩
      rcases List.mem_cons.mp hn with e | e
      · rw [e]
        exact Or.inr (mono o _ c (by simp))
      · exact b n e
/-- the place of a number in a list -/
def ixP : List Nat → Nat → Nat → Option Nat
  | [], _, _ => none
  | a :: l, k, p => if a = p then some k else ixP l (k + 1) p
theorem ixP_s : ∀ {l : List Nat} {k p q : Nat}, ixP l k p = some q → k ≤ q ∧ l[q - k]? = some p := by
  intro l
  induction l with
  | nil => intro k p q h; simp [ixP] at h
  | cons a l ih =>
    intro k p q h
    have h' : (if a = p then some k else ixP l (k + 1) p) = some q := h
    split at h'
    · rename_i e
      have : k = q := Option.some.inj h'
      subst this
      rw [Nat.sub_self, e]
      exact ⟨Nat.le_refl _, rfl⟩
    · obtain ⟨x, y⟩ := ih h'
      refine ⟨by omega, ?_⟩
      rw [show q - k = (q - (k + 1)) + 1 by omega, List.getElem?_cons_succ]
      exact y
theorem ixP_g : ∀ {l : List Nat} {k p i : Nat}, l.Nodup → l[i]? = some p → ixP l k p = some (k + i) := by
  intro l
  induction l with
  | nil => intro k p i _ h; simp at h
  | cons a l ih =>
    intro k p i hn h
    show (if a = p then some k else ixP l (k + 1) p) = some (k + i)
    obtain ⟨n1, n2⟩ := List.nodup_cons.mp hn
    cases i with
    | zero =>
      rw [if_pos (by simpa using h)]
      rfl
    | succ i =>
      rw [List.getElem?_cons_succ] at h
      rw [if_neg (show ¬ a = p from fun e => n1 (by rw [e]; exact List.mem_of_getElem? h)), ih n2 h]
      congr 1
      omega
theorem okL_lit {U : Nat → Prop} {c : Int32} {w : Wd} (h : okL U c w) : w.1 < 10 ∧ (w.1 = 3 → ∃ n : Nat, U n ∧ w.2.1.toInt = (n : Int)) := by
  unfold okL at h
  rcases h with ⟨-, h, -⟩ | ⟨-, h, -⟩ | ⟨-, h, -⟩ | ⟨-, ⟨h, -⟩ | ⟨h, hn⟩⟩ | ⟨-, ⟨h, -⟩ | h⟩ | ⟨-, ⟨h, -⟩ | ⟨h, hn⟩ | ⟨h, -⟩ | ⟨h, -⟩ | h⟩ | ⟨-, h⟩
  all_goals first
    | exact ⟨by omega, fun _ => hn⟩
    | exact ⟨by omega, fun e => by omega⟩
theorem okL_m {U V : Nat → Prop} {c : Int32} {w : Wd} (h : okL U c w) (hv : w.1 = 3 → ∀ n : Nat, U n → w.2.1.toInt = (n : Int) → V n) : okL V c w := by
  unfold okL at *
  rcases h with h | h | h | ⟨h0, h | ⟨h, n, h1, h2⟩⟩ | h | ⟨h0, h | ⟨h, n, h1, h2⟩ | h⟩ | h
  · exact Or.inl h
  · exact Or.inr (Or.inl h)
  · exact Or.inr (Or.inr (Or.inl h))
  · exact Or.inr (Or.inr (Or.inr (Or.inl ⟨h0, Or.inl h⟩)))
  · exact Or.inr (Or.inr (Or.inr (Or.inl ⟨h0, Or.inr ⟨h, n, hv h n h1 h2, h2⟩⟩)))
  · exact Or.inr (Or.inr (Or.inr (Or.inr (Or.inl h))))
  · exact Or.inr (Or.inr (Or.inr (Or.inr (Or.inr (Or.inl ⟨h0, Or.inl h⟩)))))
  · exact Or.inr (Or.inr (Or.inr (Or.inr (Or.inr (Or.inl ⟨h0, Or.inr (Or.inl ⟨h, n, hv h n h1 h2, h2⟩)⟩)))))
  · exact Or.inr (Or.inr (Or.inr (Or.inr (Or.inr (Or.inl ⟨h0, Or.inr (Or.inr h)⟩)))))
  · exact Or.inr (Or.inr (Or.inr (Or.inr (Or.inr (Or.inr h)))))
theorem occW_m : ∀ {ws : List Wd} {w : Wd} {n : Nat}, w ∈ ws → w.1 = 3 → w.2.1.toInt = (n : Int) → n ∈ occW ws := by
  intro ws
  induction ws with
  | nil => intro w n h; simp at h
  | cons c r ih =>
    intro w n h h3 hn
    show n ∈ (if c.1 = 3 then c.2.1.toInt.toNat :: occW r else occW r)
    rcases List.mem_cons.mp h with e | e
    · rw [← e, if_pos h3, hn]
      exact List.mem_cons.mpr (Or.inl (by omega))
    · split
      · exact List.mem_cons.mpr (Or.inr (ih e h3 hn))
      · exact ih e h3 hn
theorem occP_m : ∀ {P : Prg} {i s n : Nat} {ws : List Wd} {w : Wd}, P[i]? = some (s, ws) → w ∈ ws → w.1 = 3 → w.2.1.toInt = (n : Int) → n ∈ occP P := by
  intro P
  induction P with
  | nil => intro i s n ws w h; simp at h
  | cons c P ih =>
    intro i s n ws w h hw h3 hn
    show n ∈ occW c.2 ++ occP P
    cases i with
    | zero =>
      have : c = (s, ws) := by simpa using h
      rw [this]
      exact List.mem_append.mpr (Or.inl (occW_m hw h3 hn))
    | succ i =>
      exact List.mem_append.mpr (Or.inr (ih (by simpa using h) hw h3 hn))
theorem occP_b {lits : List (List Int32)} {P : Prg} (hok : ∀ (i s : Nat) (ws : List Wd), P[i]? = some (s, ws) → ∀ w ∈ ws, w.1 < 10 ∧ (w.1 = 3 → ∃ n : Nat, n < lits.length ∧ w.2.1.toInt = (n : Int))) : ∀ n ∈ occP P, n < lits.length := by
  have key : ∀ ws : List Wd, (∀ w ∈ ws, w.1 = 3 → ∃ n : Nat, n < lits.length ∧ w.2.1.toInt = (n : Int)) → ∀ n ∈ occW ws, n < lits.length := by
    intro ws
    induction ws with
    | nil => intro _ n hn; simp [occW] at hn
    | cons c r ih =>
      intro h n hn
      have hn' : n ∈ (if c.1 = 3 then c.2.1.toInt.toNat :: occW r else occW r) := hn
      have ih' := ih (fun w hw => h w (by simp [hw]))
      split at hn'
      · rename_i h3
        rcases List.mem_cons.mp hn' with e | e
        · obtain ⟨z, z1, z2⟩ := h c (by simp) h3
          omega
        · exact ih' n e
      · exact ih' n hn'
  intro n hn
  rw [occP_w] at hn
  refine key _ (fun w hw h3 => ?_) n hn
  obtain ⟨m, hm1, hm2⟩ := List.getElem_of_mem hw
  obtain ⟨i, s, ws, j, a1, a2, -⟩ := wdP_get (P := P) (m := m) (w := w) (by rw [List.getElem?_eq_getElem hm1, hm2])
  exact (hok i s ws a1 w (List.mem_of_getElem? a2)).2 h3
/-- the LITERALS that a program uses -/
def UP (P : Prg) : Nat → Prop := fun n => n ∈ occP P
theorem PrgOK.lit {lits : List (List Int32)} {P : Prg} (h : PrgOK (fun n => n < lits.length) P) : ∀ (i s : Nat) (ws : List Wd), P[i]? = some (s, ws) → ∀ w ∈ ws, w.1 < 10 ∧ (w.1 = 3 → ∃ n : Nat, n < lits.length ∧ w.2.1.toInt = (n : Int)) := by
  intro i s ws hi w hw
  obtain ⟨j, hj1, hj2⟩ := List.getElem_of_mem hw
  exact okL_lit ((h i s ws hi).2.1.2.2 j w (by rw [List.getElem?_eq_getElem hj1, hj2]))
theorem PrgOK.up {U : Nat → Prop} {P : Prg} (h : PrgOK U P) : PrgOK (UP P) P := fun i s ws hi => ⟨(h i s ws hi).1, ⟨(h i s ws hi).2.1.1, (h i s ws hi).2.1.2.1, fun j w hw => okL_m ((h i s ws hi).2.1.2.2 j w hw) (fun h3 n _ hn => occP_m hi (List.mem_of_getElem? hw) h3 hn)⟩, (h i s ws hi).2.2⟩
section BGR
variable {g p q : Nat} {P : Prg} {lits : List (List Int32)} {S S2 : St}
/-- where a run begins, both sides tell the same -/
theorem beg_R (hok : ∀ (i s : Nat) (ws : List Wd), P[i]? = some (s, ws) → ∀ w ∈ ws, w.1 < 10 ∧ (w.1 = 3 → ∃ n : Nat, n < lits.length ∧ w.2.1.toInt = (n : Int))) (hu : ∀ l ∈ lits, usL l) (lm : LitM S2 lits) (b : BegC S p lits P) (m : BegM S2 lits P) : RSx (UP P) 0 S S2 ∧ Tal S S2 := by
  obtain ⟨c1, c2, c3, c4, c5, c6, c7, c8, c9, c10, c11, c12, c13, c14, c15, c16, c17⟩ := b
  obtain ⟨⟨m1, m2, m3, m4, m5⟩, n1, n2, n3, n4, n5, n6, n7, n8, n9, n10, n11, n12⟩ := m
  have hob := occP_b hok
  obtain ⟨pu1, pu2⟩ := pool_us (lits := lits) (occP P) [] hob (by simp)
  rw [List.map_nil] at pu1
  rw [pu1] at c2
  generalize hus : usS lits (occP P) [] = us at *
  have h24 := lm.2.1
  have h3000 := lm.2.2.1
  have hul : us.length ≤ 24 := by
    have := nodup_len lits.length us m3 (fun x hx => (m4 x hx).1)
    omega
  have hlit : ∀ n, n < lits.length → lits[n]? = some (lits.getD n []) := fun n hn => by
    rw [List.getD_eq_getElem?_getD, List.getElem?_eq_getElem hn]
    rfl
  have hnd : (0 :: us.map (numL lits)).Nodup := by
    refine List.nodup_cons.mpr ⟨fun h => ?_, ?_⟩
    · obtain ⟨z, z1, z2⟩ := List.mem_map.mp h
      have := (lx_n (k := 1) (m4 z z1).1 (m4 z z1).2).1
      unfold numL at z2
      omega
    · refine List.pairwise_map.mpr (List.Pairwise.imp_of_mem (fun {a b} ha hb hab => fun e => hab (lx_inj (k := 1) (m4 a ha).1 (m4 b hb).1 (m4 a ha).2 (m4 b hb).2 e)) m3)
  have hphi : ∀ x y, ixP (0 :: us.map (numL lits)) 0 x = some y → (x = 0 ∧ y = 0) ∨ ∃ j n, y = j + 1 ∧ us[j]? = some n ∧ x = numL lits n := by
    intro x y h
    obtain ⟨-, h2⟩ := ixP_s h
    rw [Nat.sub_zero] at h2
    cases y with
    | zero =>
      have : 0 = x := by simpa using h2
      exact Or.inl ⟨this.symm, rfl⟩
    | succ j =>
      rw [List.getElem?_cons_succ, List.getElem?_map] at h2
      cases hj : us[j]? with
      | none => rw [hj] at h2; simp at h2
      | some n =>
        rw [hj] at h2
        have : numL lits n = x := by simpa using h2
        exact Or.inr ⟨j, n, rfl, hj, this.symm⟩
  have hcs : ∀ n, n < lits.length → ¬ lits.getD n [] = [] → ([] :: lxT lits)[numL lits n]? = some (lits.getD n []) := by
    intro n hn he
    obtain ⟨x1, x2⟩ := lx_n (k := 1) hn he
    unfold numL
    rw [show (lxL lits 1).getD n 0 = ((lxL lits 1).getD n 0 - 1) + 1 by omega, List.getElem?_cons_succ]
    exact x2
  have hnum : ∀ n, n < lits.length → numL lits n < 26 := by
    intro n hn
    rcases Classical.em (lits.getD n [] = []) with e | e
    · rw [show numL lits n = 0 from lx_0 e]; omega
    · have := (List.getElem?_eq_some_iff.mp (hcs n hn e)).1
      rw [List.length_cons] at this
      have := lxT_le (lits := lits)
      omega
  have htr : TR S S2 (ixP (0 :: us.map (numL lits)) 0) ([] :: lxT lits) ([] :: txU lits us) (txU lits us).flatten.length := by
    refine ⟨c1, m1, fun x y h => ?_, fun x x' y h h' => ?_, by rfl, rfl⟩
    · rcases hphi x y h with ⟨h1, h2⟩ | ⟨j, n, h1, h2, h3⟩
      · rw [h1, h2]
        exact ⟨[], rfl, rfl, by simp, fun i hi => by simp at hi⟩
      · obtain ⟨q1, q2⟩ := m4 n (List.mem_of_getElem? h2)
        refine ⟨lits.getD n [], by rw [h3]; exact hcs n q1 q2, ?_, (lm.2.2.2 n _ (hlit n q1)).1, hu _ (List.mem_of_getElem? (hlit n q1))⟩
        rw [h1, List.getElem?_cons_succ]
        unfold txU
        rw [List.getElem?_map, h2]
        rfl
    · have a := (ixP_s h).2
      have a' := (ixP_s h').2
      rw [a] at a'
      exact Option.some.inj a'
  refine ⟨⟨ixP (0 :: us.map (numL lits)) 0, [] :: lxT lits, [] :: txU lits us, _, 0 :: us.map (numL lits), List.range (us.length + 1), [], [], ⟨c17, c16, n12, htr, c2, m2, ?_, ?_, ?_, ?_, ?_, ?_, ?_, c15.2.2.1⟩, ?_⟩, fun s hs => ?_, ?_, ?_⟩
  · apply List.ext_getElem?
    intro i
    rw [List.getElem?_map, List.getElem?_map]
    by_cases hi : i < us.length + 1
    · rw [List.getElem?_range hi]
      have hil : i < (0 :: us.map (numL lits)).length := by rw [List.length_cons, List.length_map]; omega
      rw [List.getElem?_eq_getElem hil]
      show some (ixP _ 0 _) = some (some i)
      rw [ixP_g hnd (List.getElem?_eq_getElem hil), Nat.zero_add]
    · rw [List.getElem?_eq_none (by rw [List.length_cons, List.length_map]; omega), List.getElem?_eq_none (by rw [List.length_range]; omega)]
      rfl
  · intro v hv
    exact Or.inl ⟨c6 v hv, n2 v hv⟩
  · intro w hw
    rw [c7 w hw, n4 w hw]
  · intro b hb
    obtain ⟨l, ov, w⟩ := c15.2.2.2.1 b hb
    exact ⟨l, ov, w, Or.inl ⟨c8 b hb, n3 b hb⟩⟩
  · exact ⟨c3, n6, by simp, fun i hi => by simp at hi, rfl⟩
  · exact ⟨0, by omega, c9, n7, fun i hi => by omega⟩
  · refine ⟨(lxL lits 1).map nI, c14, fun n hn => ?_⟩
    have hnl := hob n hn
    have e1 : atR ((lxL lits 1).map nI) (nI n) = nI (numL lits n) := by
      have hh : n < (lxL lits 1).length := by rw [lxL_len]; exact hnl
      rw [atR_nI (by omega)]
      unfold numL
      rw [List.getD_eq_getElem?_getD, List.getElem?_map, List.getD_eq_getElem?_getD, List.getElem?_eq_getElem hh]
      rfl
    have hb := hnum n hnl
    refine ⟨by omega, ?_, by rw [e1]; exact nI_m1 (by omega)⟩
    rw [e1]
    refine Or.inr ?_
    rcases m5 n hnl with h | h | ⟨j, h1, h2⟩
    · exact absurd h.1 (n1 n hn)
    · exact ⟨0, 0, by rw [show numL lits n = 0 from lx_0 h.2], h.1, rfl, by omega, by omega⟩
    · have hj := (List.getElem?_eq_some_iff.mp h1).1
      refine ⟨numL lits n, 1 + j, rfl, h2, ?_, by omega, by omega⟩
      rw [ixP_g hnd (i := j + 1) (by rw [List.getElem?_cons_succ, List.getElem?_map, h1]; rfl)]
      congr 1
      omega
  · have q1 := lxT_le (lits := lits)
    have q2 := txU_len m3 (fun x hx => (m4 x hx).1)
    refine ⟨by rw [List.length_cons]; omega, ?_, ?_, by omega, by rw [List.length_cons, List.length_map]; omega⟩
    · rw [List.flatten_cons, List.nil_append, lxT_fl]; omega
    · rw [List.length_cons]
      unfold txU
      rw [List.length_map]
      omega
  · rw [c10 s hs, n5 s hs]
  · rw [c12 2 (by omega), n10]
  · rw [c12 3 (by omega), n11]
end BGR
