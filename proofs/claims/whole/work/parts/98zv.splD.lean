/-! spelled, the reference's words; the call -/
section SPY
variable {g p x : Nat} {S S2 : St} {l : List Int32} {lits : List (List Int32)} {P : Prg} {i j s : Nat} {ws : List Wd} {w : Wd}
theorem M_layword (hg : 100000 ≤ g) (pm : PrM S2 0 P) (hm : LM S2) (lm : LitM S2 lits) (hi : P[i]? = some (s, ws)) (hw : ws[j]? = some w) (k10 : w.1 < 10) (k9 : w.1 ≠ 3 → True) (k3 : w.1 = 3 → ∃ n : Nat, n < lits.length ∧ w.2.1.toInt = (n : Int)) (h : LayI S2 l) (hl : l.length + 22 + wlL lits w ≤ 6500) : ∃ S', m_layWord g S2 (nI (10 * i + j)) = some S' ∧ FLy S2 S' ∧ LayI S' (l ++ wS lits w) := by
  have h8 : gN S2 8 = 1800 := LMn hm 8
  have h10 : gN S2 10 = 1800 := LMn hm 10
  have hil := (List.getElem?_eq_some_iff.mp hi).1
  have hj := (List.getElem?_eq_some_iff.mp hw).1
  have hP := pm.2.1
  obtain ⟨y1, -, -, y4⟩ := pm.2.2.2 i s ws hi
  obtain ⟨z1, z2, -⟩ := y4 j w hw
  rw [show 10 * (60 * 0 + i) + j = 10 * i + j by omega] at z1 z2
  have a8 : aI S2 8 (nI (10 * i + j)) = some (nI w.1) := by rw [aI_at (by omega) (by omega), z1]
  have a10 : ∀ {T : St}, FLy S2 T → aJ T 10 (nI (10 * i + j)) = some w.2.1 := fun {T} f => by
    have hT := hm.ly f
    have hn : gN T 10 = 1800 := LMn hT 10
    rw [aJ_at (by omega) (by omega), show gG T 10 (10 * i + j) = gG S2 10 (10 * i + j) from by unfold gG; rw [f.2.2.2], z2]
  by_cases q : w.1 = 3
  · obtain ⟨n, n1, n2⟩ := k3 q
    obtain ⟨us, hus⟩ : ∃ us, lits[n]? = some us := ⟨lits[n], List.getElem?_eq_getElem n1⟩
    have hwl : wlL lits w = llen us := by
      unfold wlL
      rw [if_pos q, n2, Int.toNat_natCast, List.getD_eq_getElem?_getD, hus]
      rfl
    have h24 := lm.2.1
    obtain ⟨T1, b1, f1, h1⟩ := M_lay (g := g) (u := 34) h hm (by omega)
    obtain ⟨S', d1, d2, d3⟩ := M_lit29 (g := g) (lits := lits) (m := n) (us := us) us.length g 0 T1 _ (by omega) (by have := (lm.2.2.2 n us hus).1; omega) (lm.z (FZm.ly f1)) (hm.ly f1) hus h1 (by rw [List.drop_zero]; simp; omega) hg
    refine ⟨S', ?_, f1.tr d2, ?_⟩
    · unfold m_layWord
      rw [a8, Option.bind_some, if_pos (show nI w.1 = 3 from by rw [q]; rfl), a10 FLy.rf, Option.bind_some, lt_d, j32 n2 (by omega), b1, Option.bind_some]
      exact d1
    · unfold wS
      rw [if_pos q, n2, Int.toNat_natCast, List.getD_eq_getElem?_getD, hus]
      rw [List.append_assoc, List.singleton_append, List.drop_zero] at d3
      exact d3
  · have n149 : ∀ (T : St) (m : List Int32), FLy S2 T → LayI T m → m.length + 20 ≤ 6500 → ∃ S', m_layWord_149 g T (nI (10 * i + j)) = some S' ∧ FLy T S' ∧ LayI S' (m ++ numU w.2.1 10) := by
      intro T m f hT hmm
      obtain ⟨S', d1, d2, d3⟩ := M_laynum (g := g) (v := w.2.1) hg hT (hm.ly f) hmm
      refine ⟨S', ?_, d2, d3⟩
      unfold m_layWord_149
      rw [a10 f, Option.bind_some, d1, Option.bind_some]
    unfold wS
    rw [if_neg q]
    have hk : w.1 = 0 ∨ w.1 = 1 ∨ w.1 = 2 ∨ w.1 = 4 ∨ w.1 = 5 ∨ w.1 = 6 ∨ w.1 = 7 ∨ w.1 = 8 ∨ w.1 = 9 := by omega
    rcases hk with hk | hk | hk | hk | hk | hk | hk | hk | hk
    · rw [hk] at a8 ⊢
      obtain ⟨T1, b1, f1, h1⟩ := M_lay (g := g) (u := 118) h hm (by first | omega | (simp; omega))
      have m1 := hm.ly f1
      obtain ⟨S', d1, d2, d3⟩ := n149 T1 _ ((FLy.rf).tr f1) h1 (by first | omega | (simp; omega))
      refine ⟨S', ?_, ((FLy.rf).tr f1).tr d2, ?_⟩
      · unfold m_layWord
        rw [a8, Option.bind_some, if_neg (show ¬ nI 0 = (3 : Int32) by decide), if_neg (show ¬ nI 0 = (5 : Int32) by decide), if_neg (show ¬ nI 0 = (6 : Int32) by decide)]
        unfold m_layWord_88
        rw [if_neg (show ¬ nI 0 = (7 : Int32) by decide), if_neg (show ¬ nI 0 = (8 : Int32) by decide)]
        unfold m_layWord_106
        rw [if_pos (show nI 0 = (0 : Int32) by decide), b1, Option.bind_some]
        unfold m_layWord_116
        rw [if_neg (show ¬ nI 0 = (1 : Int32) by decide), if_neg (show ¬ nI 0 = (5 : Int32) by decide), if_neg (show ¬ nI 0 = (7 : Int32) by decide)]
        unfold m_layWord_138
        rw [if_neg (show ¬ nI 0 = (2 : Int32) by decide)]
        exact d1
      · simpa [sgW, ckW, show nI 118 = (118 : Int32) from rfl] using d3
    · rw [hk] at a8 ⊢
      obtain ⟨T1, b1, f1, h1⟩ := M_lay (g := g) (u := 119) h hm (by first | omega | (simp; omega))
      have m1 := hm.ly f1
      obtain ⟨S', d1, d2, d3⟩ := n149 T1 _ ((FLy.rf).tr f1) h1 (by first | omega | (simp; omega))
      refine ⟨S', ?_, ((FLy.rf).tr f1).tr d2, ?_⟩
      · unfold m_layWord
        rw [a8, Option.bind_some, if_neg (show ¬ nI 1 = (3 : Int32) by decide), if_neg (show ¬ nI 1 = (5 : Int32) by decide), if_neg (show ¬ nI 1 = (6 : Int32) by decide)]
        unfold m_layWord_88
        rw [if_neg (show ¬ nI 1 = (7 : Int32) by decide), if_neg (show ¬ nI 1 = (8 : Int32) by decide)]
        unfold m_layWord_106
        rw [if_neg (show ¬ nI 1 = (0 : Int32) by decide)]
        unfold m_layWord_116
        rw [if_pos (show nI 1 = (1 : Int32) by decide)]
        unfold m_layWord_132
        rw [b1, Option.bind_some]
        unfold m_layWord_138
        rw [if_neg (show ¬ nI 1 = (2 : Int32) by decide)]
        exact d1
      · simpa [sgW, ckW, show nI 119 = (119 : Int32) from rfl] using d3
    · rw [hk] at a8 ⊢
      obtain ⟨T1, b1, f1, h1⟩ := M_lay (g := g) (u := 98) h hm (by first | omega | (simp; omega))
      have m1 := hm.ly f1
      obtain ⟨S', d1, d2, d3⟩ := n149 T1 _ ((FLy.rf).tr f1) h1 (by first | omega | (simp; omega))
      refine ⟨S', ?_, ((FLy.rf).tr f1).tr d2, ?_⟩
      · unfold m_layWord
        rw [a8, Option.bind_some, if_neg (show ¬ nI 2 = (3 : Int32) by decide), if_neg (show ¬ nI 2 = (5 : Int32) by decide), if_neg (show ¬ nI 2 = (6 : Int32) by decide)]
        unfold m_layWord_88
        rw [if_neg (show ¬ nI 2 = (7 : Int32) by decide), if_neg (show ¬ nI 2 = (8 : Int32) by decide)]
        unfold m_layWord_106
        rw [if_neg (show ¬ nI 2 = (0 : Int32) by decide)]
        unfold m_layWord_116
        rw [if_neg (show ¬ nI 2 = (1 : Int32) by decide), if_neg (show ¬ nI 2 = (5 : Int32) by decide), if_neg (show ¬ nI 2 = (7 : Int32) by decide)]
        unfold m_layWord_138
        rw [if_pos (show nI 2 = (2 : Int32) by decide), b1, Option.bind_some]
        exact d1
      · simpa [sgW, ckW, show nI 98 = (98 : Int32) from rfl] using d3
    · rw [hk] at a8 ⊢
      obtain ⟨S', d1, d2, d3⟩ := n149 S2 _ (FLy.rf) h (by first | omega | (simp; omega))
      refine ⟨S', ?_, (FLy.rf).tr d2, ?_⟩
      · unfold m_layWord
        rw [a8, Option.bind_some, if_neg (show ¬ nI 4 = (3 : Int32) by decide), if_neg (show ¬ nI 4 = (5 : Int32) by decide), if_neg (show ¬ nI 4 = (6 : Int32) by decide)]
        unfold m_layWord_88
        rw [if_neg (show ¬ nI 4 = (7 : Int32) by decide), if_neg (show ¬ nI 4 = (8 : Int32) by decide)]
        unfold m_layWord_106
        rw [if_neg (show ¬ nI 4 = (0 : Int32) by decide)]
        unfold m_layWord_116
        rw [if_neg (show ¬ nI 4 = (1 : Int32) by decide), if_neg (show ¬ nI 4 = (5 : Int32) by decide), if_neg (show ¬ nI 4 = (7 : Int32) by decide)]
        unfold m_layWord_138
        rw [if_neg (show ¬ nI 4 = (2 : Int32) by decide)]
        exact d1
      · simpa [sgW, ckW] using d3
    · rw [hk] at a8 ⊢
      obtain ⟨T1, b1, f1, h1⟩ := M_lay (g := g) (u := 64) h hm (by first | omega | (simp; omega))
      have m1 := hm.ly f1
      obtain ⟨T2, b2, f2, h2⟩ := M_lay (g := g) (u := 119) h1 m1 (by first | omega | (simp; omega))
      have m2 := m1.ly f2
      obtain ⟨S', d1, d2, d3⟩ := n149 T2 _ (((FLy.rf).tr f1).tr f2) h2 (by first | omega | (simp; omega))
      refine ⟨S', ?_, (((FLy.rf).tr f1).tr f2).tr d2, ?_⟩
      · unfold m_layWord
        rw [a8, Option.bind_some, if_neg (show ¬ nI 5 = (3 : Int32) by decide), if_pos (show nI 5 = (5 : Int32) by decide)]
        unfold m_layWord_82
        rw [b1, Option.bind_some]
        unfold m_layWord_88
        rw [if_neg (show ¬ nI 5 = (7 : Int32) by decide), if_neg (show ¬ nI 5 = (8 : Int32) by decide)]
        unfold m_layWord_106
        rw [if_neg (show ¬ nI 5 = (0 : Int32) by decide)]
        unfold m_layWord_116
        rw [if_neg (show ¬ nI 5 = (1 : Int32) by decide), if_pos (show nI 5 = (5 : Int32) by decide)]
        unfold m_layWord_132
        rw [b2, Option.bind_some]
        unfold m_layWord_138
        rw [if_neg (show ¬ nI 5 = (2 : Int32) by decide)]
        exact d1
      · simpa [sgW, ckW, show nI 64 = (64 : Int32) from rfl, show nI 119 = (119 : Int32) from rfl] using d3
    · rw [hk] at a8 ⊢
      obtain ⟨T1, b1, f1, h1⟩ := M_lay (g := g) (u := 64) h hm (by first | omega | (simp; omega))
      have m1 := hm.ly f1
      obtain ⟨S', d1, d2, d3⟩ := n149 T1 _ ((FLy.rf).tr f1) h1 (by first | omega | (simp; omega))
      refine ⟨S', ?_, ((FLy.rf).tr f1).tr d2, ?_⟩
      · unfold m_layWord
        rw [a8, Option.bind_some, if_neg (show ¬ nI 6 = (3 : Int32) by decide), if_neg (show ¬ nI 6 = (5 : Int32) by decide), if_pos (show nI 6 = (6 : Int32) by decide)]
        unfold m_layWord_82
        rw [b1, Option.bind_some]
        unfold m_layWord_88
        rw [if_neg (show ¬ nI 6 = (7 : Int32) by decide), if_neg (show ¬ nI 6 = (8 : Int32) by decide)]
        unfold m_layWord_106
        rw [if_neg (show ¬ nI 6 = (0 : Int32) by decide)]
        unfold m_layWord_116
        rw [if_neg (show ¬ nI 6 = (1 : Int32) by decide), if_neg (show ¬ nI 6 = (5 : Int32) by decide), if_neg (show ¬ nI 6 = (7 : Int32) by decide)]
        unfold m_layWord_138
        rw [if_neg (show ¬ nI 6 = (2 : Int32) by decide)]
        exact d1
      · simpa [sgW, ckW, show nI 64 = (64 : Int32) from rfl] using d3
    · rw [hk] at a8 ⊢
      obtain ⟨T1, b1, f1, h1⟩ := M_lay (g := g) (u := 63) h hm (by first | omega | (simp; omega))
      have m1 := hm.ly f1
      obtain ⟨T2, b2, f2, h2⟩ := M_lay (g := g) (u := 119) h1 m1 (by first | omega | (simp; omega))
      have m2 := m1.ly f2
      obtain ⟨S', d1, d2, d3⟩ := n149 T2 _ (((FLy.rf).tr f1).tr f2) h2 (by first | omega | (simp; omega))
      refine ⟨S', ?_, (((FLy.rf).tr f1).tr f2).tr d2, ?_⟩
      · unfold m_layWord
        rw [a8, Option.bind_some, if_neg (show ¬ nI 7 = (3 : Int32) by decide), if_neg (show ¬ nI 7 = (5 : Int32) by decide), if_neg (show ¬ nI 7 = (6 : Int32) by decide)]
        unfold m_layWord_88
        rw [if_pos (show nI 7 = (7 : Int32) by decide)]
        unfold m_layWord_100
        rw [b1, Option.bind_some]
        unfold m_layWord_106
        rw [if_neg (show ¬ nI 7 = (0 : Int32) by decide)]
        unfold m_layWord_116
        rw [if_neg (show ¬ nI 7 = (1 : Int32) by decide), if_neg (show ¬ nI 7 = (5 : Int32) by decide), if_pos (show nI 7 = (7 : Int32) by decide)]
        unfold m_layWord_132
        rw [b2, Option.bind_some]
        unfold m_layWord_138
        rw [if_neg (show ¬ nI 7 = (2 : Int32) by decide)]
        exact d1
      · simpa [sgW, ckW, show nI 63 = (63 : Int32) from rfl, show nI 119 = (119 : Int32) from rfl] using d3
    · rw [hk] at a8 ⊢
      obtain ⟨T1, b1, f1, h1⟩ := M_lay (g := g) (u := 63) h hm (by first | omega | (simp; omega))
      have m1 := hm.ly f1
      obtain ⟨S', d1, d2, d3⟩ := n149 T1 _ ((FLy.rf).tr f1) h1 (by first | omega | (simp; omega))
      refine ⟨S', ?_, ((FLy.rf).tr f1).tr d2, ?_⟩
      · unfold m_layWord
        rw [a8, Option.bind_some, if_neg (show ¬ nI 8 = (3 : Int32) by decide), if_neg (show ¬ nI 8 = (5 : Int32) by decide), if_neg (show ¬ nI 8 = (6 : Int32) by decide)]
        unfold m_layWord_88
        rw [if_neg (show ¬ nI 8 = (7 : Int32) by decide), if_pos (show nI 8 = (8 : Int32) by decide)]
        unfold m_layWord_100
        rw [b1, Option.bind_some]
        unfold m_layWord_106
        rw [if_neg (show ¬ nI 8 = (0 : Int32) by decide)]
        unfold m_layWord_116
        rw [if_neg (show ¬ nI 8 = (1 : Int32) by decide), if_neg (show ¬ nI 8 = (5 : Int32) by decide), if_neg (show ¬ nI 8 = (7 : Int32) by decide)]
        unfold m_layWord_138
        rw [if_neg (show ¬ nI 8 = (2 : Int32) by decide)]
        exact d1
      · simpa [sgW, ckW, show nI 63 = (63 : Int32) from rfl] using d3
    · rw [hk] at a8 ⊢
      obtain ⟨S', d1, d2, d3⟩ := n149 S2 _ (FLy.rf) h (by first | omega | (simp; omega))
      refine ⟨S', ?_, (FLy.rf).tr d2, ?_⟩
      · unfold m_layWord
        rw [a8, Option.bind_some, if_neg (show ¬ nI 9 = (3 : Int32) by decide), if_neg (show ¬ nI 9 = (5 : Int32) by decide), if_neg (show ¬ nI 9 = (6 : Int32) by decide)]
        unfold m_layWord_88
        rw [if_neg (show ¬ nI 9 = (7 : Int32) by decide), if_neg (show ¬ nI 9 = (8 : Int32) by decide)]
        unfold m_layWord_106
        rw [if_neg (show ¬ nI 9 = (0 : Int32) by decide)]
        unfold m_layWord_116
        rw [if_neg (show ¬ nI 9 = (1 : Int32) by decide), if_neg (show ¬ nI 9 = (5 : Int32) by decide), if_neg (show ¬ nI 9 = (7 : Int32) by decide)]
        unfold m_layWord_138
        rw [if_neg (show ¬ nI 9 = (2 : Int32) by decide)]
        exact d1
      · simpa [sgW, ckW] using d3
/-- the words of a STEP as they are spelled -/
def lnS (lits : List (List Int32)) (ws : List Wd) : List Int32 := (ws.map fun w => 32 :: wS lits w).flatten
theorem lnS_c {w : Wd} {ws : List Wd} : lnS lits (w :: ws) = 32 :: (wS lits w ++ lnS lits ws) := by
  unfold lnS
  rw [List.map_cons, List.flatten_cons]
  rfl
theorem lnS_len : ∀ {ws : List Wd}, (lnS lits ws).length ≤ 23 * ws.length + (ws.map (wlL lits)).sum
  | [] => Nat.le_refl _
  | w :: ws => by
    have ih := lnS_len (ws := ws)
    have := wS_len (lits := lits) (w := w)
    rw [lnS_c, List.length_cons, List.length_append, List.length_cons, List.map_cons, List.sum_cons]
    omega
theorem dr_c {ws : List Wd} (h : j < ws.length) : ∃ w, ws[j]? = some w ∧ ws.drop j = w :: ws.drop (j + 1) := ⟨ws[j], List.getElem?_eq_getElem h, List.drop_eq_getElem_cons h⟩
def wdK (lits : List (List Int32)) (ws : List Wd) : Prop := ∀ w ∈ ws, w.1 < 10 ∧ (w.1 = 3 → ∃ n : Nat, n < lits.length ∧ w.2.1.toInt = (n : Int))
theorem C_73 (hg : 100000 ≤ g) (hi : P[i]? = some (s, ws)) (hk : wdK lits ws) (hL : lits.length ≤ 24) (hfl : lits.flatten.length ≤ 3000) (hi60 : i < 60) : ∀ (c n j : Nat) (S : St) (l : List Int32), j + c = ws.length → c < n → PrC S p P → LC S → gOK S → LitsC S p lits → (∃ l ov, Rw S (8 + 3 * p + 2) l ov) → SayI S p x l → l.length + (lnS lits (ws.drop j)).length ≤ 40000 → ∃ S', m_Pg_spelledByte_73 g n S p (nI i) (nI (fsP P i + j)) = some (S', gI S' p 14) ∧ Fsy p S S' ∧ SayI S' p x (l ++ lnS lits (ws.drop j)) ∧ ∃ l ov, Rw S' (8 + 3 * p + 2) l ov := by
  intro c
  induction c with
  | zero =>
    intro n j S l hj hn pc hl hk2 lc hd h hb3
    obtain ⟨n, rfl⟩ : ∃ m, n = m + 1 := ⟨n - 1, by omega⟩
    have l1 := (LCp hl pc.1).2.1
    have e := fsP_s hi
    have hil := (List.getElem?_eq_some_iff.mp hi).1
    have e3 := pc.2.2.1
    have e2 : fsP P (i + 1) ≤ fsP P P.length := fsP_le
    refine ⟨S, ?_, Fsy.rf, by rw [List.drop_of_length_le (by omega)]; show SayI S p x (l ++ []); rw [List.append_nil]; exact h, hd⟩
    show b_Pg_spelledByte_73 g (m_Pg_spelledByte_73 g n) S p _ _ = _
    unfold b_Pg_spelledByte_73
    rw [nI_1, aI_at (by omega) (by omega), pc.2.2.2.2.1 (i + 1) (by omega), Option.bind_some, if_pos (nI_le (by omega) (by omega))]
  | succ c ih =>
    intro n j S l hj hn pc hl hk2 lc hd h hb3
    obtain ⟨n, rfl⟩ : ∃ m, n = m + 1 := ⟨n - 1, by omega⟩
    have l1 := (LCp hl pc.1).2.1
    have e := fsP_s hi
    have hil := (List.getElem?_eq_some_iff.mp hi).1
    have e3 := pc.2.2.1
    have e2 : fsP P (i + 1) ≤ fsP P P.length := fsP_le
    obtain ⟨w, hw, hdr⟩ := dr_c (ws := ws) (show j < ws.length by omega)
    have hwm := hk w (List.mem_of_getElem? hw)
    rw [hdr, lnS_c] at hb3
    rw [List.length_cons, List.length_append] at hb3
    have eq : m_Pg_spelledByte_73 g (n + 1) S p (nI i) (nI (fsP P i + j)) = b_Pg_spelledByte_73 g (m_Pg_spelledByte_73 g n) S p (nI i) (nI (fsP P i + j)) := rfl
    unfold b_Pg_spelledByte_73 m_Pg_spelledByte_98 at eq
    obtain ⟨S1, a1, a2, a3, a4⟩ := C_sayd (g := g) (u := 32) pc.1 h (by omega) hd
    obtain ⟨S3, b1, b2, b3, b4⟩ := C_sayword (g := g) (m := fsP P i + j) (lits := lits) hg (pc.z (FZc.sy a2 pc.1)) (hl.sy a2 pc.1) (hk2.sy a2) hi hw rfl hwm.1 hwm.2 ⟨lc.1.sy a2 pc.1 (by have := pc.1; omega), lc.2.sy a2 pc.1 (by have := pc.1; omega)⟩ hL hfl a4 a3 (by simp; omega)
    rw [nI_1, aI_at (by omega) (by omega), pc.2.2.2.2.1 (i + 1) (by omega), Option.bind_some, if_neg (nI_ge (by omega) (by omega)), a1, Option.bind_some, b1, Option.bind_some, lt_d, nI_1] at eq
    have f3 := a2.tr b2
    obtain ⟨S', c1, c2, c3, c4⟩ := ih n (j + 1) S3 _ (by omega) (by omega) (pc.z (FZc.sy f3 pc.1)) (hl.sy f3 pc.1) (hk2.sy f3) ⟨lc.1.sy f3 pc.1 (by have := pc.1; omega), lc.2.sy f3 pc.1 (by have := pc.1; omega)⟩ b4 b3 (by rw [List.length_append, List.length_append, List.length_singleton]; omega)
    refine ⟨S', eq.trans (by rw [Nat.add_assoc]; exact c1), f3.tr c2, ?_, c4⟩
    rw [hdr, lnS_c]
    simpa using c3
theorem M_27 (hg : 100000 ≤ g) (hi : P[i]? = some (s, ws)) (hk : wdK lits ws) {x2 : Int32} : ∀ (c n j : Nat) (S2 : St) (l : List Int32), j + c = ws.length → c < n → PrM S2 0 P → LM S2 → LitM S2 lits → LayI S2 l → l.length + 23 * c + ((ws.drop j).map (wlL lits)).sum ≤ 6500 → ∃ S', m_spelled_27 g n S2 (nI i) x2 (nI j) = ((m_isIn g x2.toInt64 0 ((gI S' 0 67 - 1).toInt64)).bind fun v_6 => if v_6 = 0 then some (S', (-1 : Int32)) else (aI S' 40 x2).bind fun v_7 => some (S', v_7)) ∧ FLy S2 S' ∧ LayI S' (l ++ lnS lits (ws.drop j)) := by
  intro c
  induction c with
  | zero =>
    intro n j S2 l hj hn pm hm lm h hb
    obtain ⟨n, rfl⟩ : ∃ m, n = m + 1 := ⟨n - 1, by omega⟩
    have h7 : gN S2 7 = 180 := LMn hm 7
    have hil := (List.getElem?_eq_some_iff.mp hi).1
    have hP := pm.2.1
    obtain ⟨y1, -, y3, -⟩ := pm.2.2.2 i s ws hi
    rw [show 60 * 0 + i = i by omega] at y3
    refine ⟨S2, ?_, FLy.rf, by rw [List.drop_of_length_le (by omega)]; show LayI S2 (l ++ []); rw [List.append_nil]; exact h⟩
    show b_spelled_27 g (m_spelled_27 g n) S2 _ _ _ = _
    unfold b_spelled_27
    rw [aI_at (S := S2) (a := 7) (by omega) (by omega), y3, Option.bind_some, if_pos (nI_le (by omega) (by omega))]
  | succ c ih =>
    intro n j S2 l hj hn pm hm lm h hb
    obtain ⟨n, rfl⟩ : ∃ m, n = m + 1 := ⟨n - 1, by omega⟩
    have h7 : gN S2 7 = 180 := LMn hm 7
    have hil := (List.getElem?_eq_some_iff.mp hi).1
    have hP := pm.2.1
    obtain ⟨y1, -, y3, -⟩ := pm.2.2.2 i s ws hi
    rw [show 60 * 0 + i = i by omega] at y3
    obtain ⟨w, hw, hdr⟩ := dr_c (ws := ws) (show j < ws.length by omega)
    have hwm := hk w (List.mem_of_getElem? hw)
    rw [hdr, List.map_cons, List.sum_cons] at hb
    have eq : m_spelled_27 g (n + 1) S2 (nI i) x2 (nI j) = b_spelled_27 g (m_spelled_27 g n) S2 (nI i) x2 (nI j) := rfl
    unfold b_spelled_27 at eq
    obtain ⟨S1, a1, a2, a3⟩ := M_lay (g := g) (u := 32) h hm (by omega)
    obtain ⟨S3, b1, b2, b3⟩ := M_layword (g := g) (lits := lits) hg (pm.z (FZm.ly a2)) (hm.ly a2) (lm.z (FZm.ly a2)) hi hw hwm.1 (fun _ => trivial) hwm.2 a3 (by simp; omega)
    rw [aI_at (S := S2) (a := 7) (by omega) (by omega), y3, Option.bind_some, if_neg (nI_ge (by omega) (by omega)), a1, Option.bind_some, show (10 : Int32) * nI i + nI j = nI (10 * i + j) from by rw [show (10 : Int32) = nI 10 from rfl, nI_mulE, nI_add], b1, Option.bind_some, lt_d, nI_1] at eq
    have f3 := a2.tr b2
    have hwl := wS_len (lits := lits) (w := w)
    obtain ⟨S', c1, c2, c3⟩ := ih n (j + 1) S3 _ (by omega) (by omega) (pm.z (FZm.ly f3)) (hm.ly f3) (lm.z (FZm.ly f3)) b3 (by rw [List.length_append, List.length_append, List.length_singleton]; omega)
    refine ⟨S', eq.trans c1, f3.tr c2, ?_⟩
    rw [hdr, lnS_c]
    simpa using c3
theorem opn2 : ∀ s, s < 56 → s = 53 ∨ s = 54 → ltN s = 2 ∧ (lett s (nI 0) = 119 ∨ lett s (nI 0) = 87) ∧ lett s (nI 1) = 78 := by decide +kernel
theorem sum_0 : ∀ {ws : List Wd}, (∀ w ∈ ws, wlL lits w = 0) → (ws.map (wlL lits)).sum = 0
  | [], _ => rfl
  | w :: ws, H => by
    rw [List.map_cons, List.sum_cons, H w (List.mem_cons_self ..), sum_0 (fun x hx => H x (List.mem_cons_of_mem _ hx))]
theorem sp_sum (pk : PrgOK (fun n => n < lits.length) P) (sp : SpOK P lits) (hi : P[i]? = some (s, ws)) : (ws.map (wlL lits)).sum ≤ 3000 := by
  by_cases q : s = 53 ∨ s = 54
  · obtain ⟨hs, hw, -⟩ := pk i s ws hi
    obtain ⟨o1, o2, o3⟩ := opn2 s hs q
    have h2 : ws.length ≤ 2 := by have := hw.2.1; unfold ltN at o1; omega
    rw [sum_0 (fun w hw2 => ?_)]
    · omega
    · obtain ⟨jj, hj⟩ := List.mem_iff_getElem?.mp hw2
      have hjl := (List.getElem?_eq_some_iff.mp hj).1
      have ok := hw.2.2 jj w hj
      have hc : lett s (nI jj) = 119 ∨ lett s (nI jj) = 87 ∨ lett s (nI jj) = 78 := by
        by_cases z : jj = 0
        · rw [z]; exact o2.elim Or.inl (fun y => Or.inr (Or.inl y))
        · rw [show jj = 1 by omega]; exact Or.inr (Or.inr o3)
      have k3 : ¬ w.1 = 3 := by
        intro z
        rcases hc with hc | hc | hc
        · rw [hc] at ok
          rcases ok with ⟨a, -⟩ | ⟨-, a, -⟩ | ⟨a, -⟩ | ⟨a, -⟩ | ⟨a, -⟩ | ⟨a, -⟩ | ⟨a, -⟩
          · exact absurd a (by decide)
          · omega
          · exact absurd a (by decide)
          · exact absurd a (by decide)
          · exact absurd a (by decide)
          · exact absurd a (by decide)
          · exact absurd a (by decide)
        · rw [hc] at ok
          rcases ok with ⟨a, -⟩ | ⟨a, -⟩ | ⟨a, -⟩ | ⟨a, -⟩ | ⟨-, a⟩ | ⟨a, -⟩ | ⟨a, -⟩
          · exact absurd a (by decide)
          · exact absurd a (by decide)
          · exact absurd a (by decide)
          · exact absurd a (by decide)
          · rcases a with ⟨a, -⟩ | a
            · omega
            · omega
          · exact absurd a (by decide)
          · exact absurd a (by decide)
        · rw [hc] at ok
          rcases ok with ⟨a, -⟩ | ⟨a, -⟩ | ⟨a, -⟩ | ⟨a, -⟩ | ⟨a, -⟩ | ⟨a, -⟩ | ⟨-, a⟩
          · exact absurd a (by decide)
          · exact absurd a (by decide)
          · exact absurd a (by decide)
          · exact absurd a (by decide)
          · exact absurd a (by decide)
          · exact absurd a (by decide)
          · omega
      unfold wlL
      rw [if_neg k3]
  · exact sp i s ws hi (fun z => q (Or.inl z)) (fun z => q (Or.inr z))
end SPY
