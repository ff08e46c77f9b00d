/-! READING: the lines on both sides -/
theorem WOK_mo {U U' : Nat → Prop} {s : Nat} {ws : List Wd} (h : WOK U s ws) (hU : ∀ n, U n → U' n) : WOK U' s ws := ⟨h.1, h.2.1, fun j w hw => okL_mo (h.2.2 j w hw) hU⟩
theorem PrgOK_mo {U U' : Nat → Prop} {P : Prg} (h : PrgOK U P) (hU : ∀ n, U n → U' n) : PrgOK U' P := fun i s ws hi => ⟨(h i s ws hi).1, WOK_mo (h i s ws hi).2.1 hU, (h i s ws hi).2.2⟩
theorem opn_t : (∀ s, s < 56 → s = 53 ∨ s = 54 → (leT.getD s 0).toNatClampNeg = 2 ∧ lett s (nI 1) = 78) ∧ ∀ s, s < 56 → 0 ≤ leT.getD s 0 ∧ leT.getD s 0 ≤ 9 := by decide +kernel
theorem le_n {s k : Nat} (hs : s < 56) (hk : k < 2 ^ 31) (h : leT.getD s 0 ≤ nI k) : (leT.getD s 0).toNatClampNeg ≤ k := by
  obtain ⟨h1, h2⟩ := opn_t.2 s hs
  rcases i_or (leT.getD s 0) with z | ⟨n, n1, n2⟩
  · rw [Int32.le_iff_toInt_le] at h1
    rw [Int32.lt_iff_toInt_lt] at z
    omega
  · rw [n2] at h ⊢
    rw [nI_nat n1]
    exact (nI_leI n1 hk).mp h
theorem PrgOK.snoc {lits : List (List Int32)} {P : Prg} {s : Nat} {ws : List Wd} (h : PrgOK (fun n => n < lits.length) P) (hs : s < 56) (h1 : leT.getD s 0 ≤ nI ws.length) (h2 : ws.length ≤ ltN s) (wo : WSo lits s ws) : PrgOK (fun n => n < lits.length) (P ++ [(s, ws)]) := by
  intro i s' ws' hi
  rcases app_get hi with ⟨-, z⟩ | ⟨-, rfl, rfl⟩
  · exact h i s' ws' z
  · have h9 : ltN s' ≤ 9 := byT9 s' hs
    have hl := le_n hs (by omega) h1
    refine ⟨hs, ⟨hl, h2, fun j w hw => (wo j w hw).1⟩, fun h53 => ?_⟩
    obtain ⟨o1, o2⟩ := opn_t.1 s' hs h53
    have hlt : 1 < ws'.length := by omega
    obtain ⟨p1, -, p3⟩ := wo 1 ws'[1] (List.getElem?_eq_getElem hlt)
    rw [o2] at p1
    have k9 : ws'[1].1 = 9 := by
      rcases p1 with ⟨q, -⟩ | ⟨q, -⟩ | ⟨q, -⟩ | ⟨q, -⟩ | ⟨q, -⟩ | ⟨q, -⟩ | ⟨-, q⟩
      · exact absurd q (by decide)
      · exact absurd q (by decide)
      · exact absurd q (by decide)
      · exact absurd q (by decide)
      · exact absurd q (by decide)
      · exact absurd q (by decide)
      · exact q
    obtain ⟨n, n1, n2⟩ := p3 k9
    exact ⟨ws'[1], n, List.getElem?_eq_getElem hlt, by omega, n2⟩
theorem PlOK.snoc {lits : List (List Int32)} {P : Prg} {s : Nat} {ws : List Wd} (h : PlOK P) (wo : WSo lits s ws) : PlOK (P ++ [(s, ws)]) := by
  intro i s' ws' j w hi hw
  rcases app_get hi with ⟨-, z⟩ | ⟨-, rfl, rfl⟩
  · exact h i s' ws' j w z hw
  · exact (wo j w hw).2.1
section RDM
variable {g d : Nat} {tp : List Int32}
/-- the reference goes to the line's end -/
theorem M_46 {k24 : St → Option (St × Int32)} : ∀ (k n p : Nat) (S2 : St), p + k = 3001 → k < n → TpM S2 tp → LM S2 → gI S2 0 18 = nI p → ∃ S', m_compile_46 g k24 n S2 = k24 S' ∧ Fi 0 (· = 18) S2 S' := by
  intro k
  induction k with
  | zero =>
    intro n p S2 hp hn t hm h18
    obtain ⟨n, rfl⟩ : ∃ m, n = m + 1 := ⟨n - 1, by omega⟩
    have h30 := t.2.1
    refine ⟨sI S2 0 18 (nI (p + 1)), ?_, Fi.sI rfl⟩
    show b_compile_46 g k24 (m_compile_46 g k24 n) S2 = _
    unfold b_compile_46 m_isLineEnd
    rw [t.1, h18, if_pos (nI_le (by omega) (by omega)), Option.bind_some, if_neg (by decide), lt_d, nI_1]
  | succ k ih =>
    intro n p S2 hp hn t hm h18
    obtain ⟨n, rfl⟩ : ∃ m, n = m + 1 := ⟨n - 1, by omega⟩
    have h30 := t.2.1
    have eq : m_compile_46 g k24 (n + 1) S2 = b_compile_46 g k24 (m_compile_46 g k24 n) S2 := rfl
    unfold b_compile_46 m_isLineEnd at eq
    rw [t.1, h18, lt_d, nI_1] at eq
    have f : Fi 0 (· = 18) S2 (sI S2 0 18 (nI (p + 1))) := Fi.sI rfl
    by_cases q : tp.length ≤ p
    · rw [if_pos (nI_le q (by omega)), Option.bind_some, if_neg (by decide)] at eq
      exact ⟨_, eq, f⟩
    · rw [if_neg (nI_ge (by omega) (by omega)), M_byte t hm (by omega), Option.bind_some] at eq
      by_cases q2 : rdB tp p = 10
      · rw [if_pos q2, Option.bind_some, if_neg (by decide)] at eq
        exact ⟨_, eq, f⟩
      · rw [if_neg q2, Option.bind_some, if_pos rfl] at eq
        obtain ⟨S', a1, a2⟩ := ih n (p + 1) _ (by omega) (by omega) (t.fi f (by decide)) (hm.fi f) sI_g
        exact ⟨S', eq.trans a1, f.tr a2⟩
theorem M_46e {k24 : St → Option (St × Int32)} {n i le : Nat} {S2 : St} (L : rdL tp i le) (t : TpM S2 tp) (hm : LM S2) (h18 : gI S2 0 18 = nI le) : m_compile_46 g k24 (n + 1) S2 = k24 (sI S2 0 18 (nI (le + 1))) := by
  show b_compile_46 g k24 (m_compile_46 g k24 n) S2 = _
  unfold b_compile_46
  rw [h18, M_le t hm L L.1 (Nat.le_refl _), if_pos rfl, Option.bind_some, if_neg (by decide), lt_d, nI_1]
/-- what a program read must be -/
def RdP (tp : List Int32) (P : Prg) (lits : List (List Int32)) (i : Nat) : Prop := PrgOK (fun n => n < lits.length) P ∧ PlOK P ∧ LOK lits i ∧ fsP P P.length ≤ 9 * P.length ∧ SpOK P lits
/-- how READING comes out -/
def RdO (g d : Nat) (tp : List Int32) (S S2 : St) (eC eM : Option (St × Int32)) : Prop :=
  (∃ S' S2' P lits, eC = some (S', -1) ∧ eM = m_compile_83 g S2' ∧ RdC S' d tp P lits ∧ FRd d S S' ∧ RdM S2' tp P lits ∧ FRq S2 S2' ∧ RdP tp P lits 3000) ∨
  ∃ S' S2' pl, pl ≤ 3000 ∧ eC = some (S', nI pl) ∧ eM = m_compile_83 g S2' ∧ FRd d S S' ∧ RwR S' d ∧ FRq S2 S2' ∧ gI S2' 0 19 = nI pl
theorem FRq.fi {K : Nat → Prop} {S S' : St} (h : Fi 0 K S S') (hK : ∀ k, K k → 18 ≤ k ∧ k ≤ 24) : FRq S S' := ⟨fun k a => h.1 0 k (fun z => a (hK k z.2)), by rw [h.2], by rw [h.2], fun a i _ => h.F a i, fun a i _ => h.G a i⟩
theorem RdM.i18 {S2 : St} {P : Prg} {lits : List (List Int32)} {v : Int32} (w : RdM S2 tp P lits) : RdM (sI S2 0 18 v) tp P lits := w.fw (FW.sI (by omega))
theorem B_lines (hg : 100000 ≤ g) : ∀ (k n1 n2 i : Nat) (P : Prg) (lits : List (List Int32)) (S S2 : St), 3001 ≤ i + k → i ≤ 3001 → k < n1 → k + 1 < n2 → RdC S d tp P lits → RdM S2 tp P lits → gI S2 0 18 = nI i → RdP tp P lits i → RdO g d tp S S2 (m_Rd_read_14 g n1 S (nI i)) (m_compile_24 g n2 S2) := by
  intro k
  induction k with
  | zero =>
    intro n1 n2 i P lits S S2 hi hi2 hn1 hn2 cS mS h18 rp
    obtain ⟨n1, rfl⟩ : ∃ m, n1 = m + 1 := ⟨n1 - 1, by omega⟩
    obtain ⟨n2, rfl⟩ : ∃ m, n2 = m + 1 := ⟨n2 - 1, by omega⟩
    have h30 := mS.1.2.1
    refine Or.inl ⟨S, S2, P, lits, ?_, ?_, cS, FRd.rf, mS, FRq.rf, rp.1, rp.2.1, ⟨rp.2.2.1.1, ?_, rp.2.2.1.2.2⟩, rp.2.2.2⟩
    · show b_Rd_read_14 g (m_Rd_read_14 g n1) S (nI i) = _
      unfold b_Rd_read_14
      rw [cS.1.2.2.1, if_pos (nI_le (by omega) (by omega))]
    · show b_compile_24 g (m_compile_24 g n2) S2 = _
      unfold b_compile_24
      rw [mS.1.1, h18, if_pos (nI_le (by omega) (by omega))]
    · have h1 : lits.flatten.length ≤ limC (8 + 3 * d + 0) := cS.2.2.2.2.1.1.2.2.2.2.1
      have h2 : limC (8 + 3 * d + 0) = 3000 := by rcases cS.2.2.2.1.1 with rfl | rfl <;> rfl
      omega
  | succ k ih =>
    intro n1 n2 i P lits S S2 hi hi2 hn1 hn2 cS mS h18 rp
    obtain ⟨n1, rfl⟩ : ∃ m, n1 = m + 1 := ⟨n1 - 1, by omega⟩
    obtain ⟨n2, rfl⟩ : ∃ m, n2 = m + 2 := ⟨n2 - 2, by omega⟩
    have h30 := mS.1.2.1
    have hd := cS.2.2.2.1.1
    have hfl : lits.flatten.length ≤ 3000 := by
      have h1 : lits.flatten.length ≤ limC (8 + 3 * d + 0) := cS.2.2.2.2.1.1.2.2.2.2.1
      have h2 : limC (8 + 3 * d + 0) = 3000 := by rcases hd with rfl | rfl <;> rfl
      omega
    have eC : m_Rd_read_14 g (n1 + 1) S (nI i) = b_Rd_read_14 g (m_Rd_read_14 g n1) S (nI i) := rfl
    have eM : m_compile_24 g (n2 + 2) S2 = b_compile_24 g (m_compile_24 g (n2 + 1)) S2 := rfl
    unfold b_Rd_read_14 at eC
    unfold b_compile_24 at eM
    rw [cS.1.2.2.1] at eC
    rw [mS.1.1, h18] at eM
    by_cases q : tp.length ≤ i
    · rw [if_pos (nI_le q (by omega))] at eC eM
      exact Or.inl ⟨S, S2, P, lits, eC, eM, cS, FRd.rf, mS, FRq.rf, rp.1, rp.2.1, ⟨rp.2.2.1.1, hfl, rp.2.2.1.2.2⟩, rp.2.2.2⟩
    rw [if_neg (nI_ge (by omega) (by omega))] at eC eM
    rw [if_neg (show ¬ (0 : Int32) ≤ gI S2 0 19 from by rw [mS.2.2.2.2.2]; decide)] at eM
    obtain ⟨le, hle⟩ : ∃ le, le = rdN tp 10 (tp.length - i) i := ⟨_, rfl⟩
    have hrn := rdN_s (tp := tp) (c := 10) (tp.length - i) i
    rw [← hle] at hrn
    have L : rdL tp i le := ⟨hrn.1, by omega, fun j h1 h2 => hrn.2.2.1 j h1 h2, by
      rcases hrn.2.2.2 with z | z
      · exact Or.inl (by omega)
      · exact Or.inr z.2⟩
    have hl2 := L.2.1
    have f0 : Fi 3 (fun k => k = 3 ∨ k = 4) S (sI (sI S 3 3 (nI i)) 3 4 (nI le)) := (Fi.sI (Or.inl rfl)).tr (Fi.sI (Or.inr rfl))
    have f00 : Fi 3 (fun k => k = 3 ∨ k = 4) S (sI S 3 3 (nI i)) := Fi.sI (Or.inl rfl)
    have c0 := cS.fi f0
    rw [lt_d, show gI (sI S 3 3 (nI i)) 10 2 = nI tp.length from by rw [f00.1 10 2 (by omega)]; exact cS.1.2.2.1, C_next hg (cS.1.fi f00 (by decide)) h30 (by omega), ← hle, Option.bind_some, lt_d] at eC
    obtain ⟨a, ha⟩ : ∃ a, a = rdS tp (le - i) i := ⟨_, rfl⟩
    have hsk := rdS_s (tp := tp) (le - i) i
    rw [← ha] at hsk
    obtain ⟨S1, a1, a2, a3⟩ := C_skip (g := g) hg c0.1 (show le ≤ 3000 by omega) L.1 (by rw [gI_ne (by omega), sI_g]) sI_g
    rw [← ha] at a3
    have c1 := c0.fi a2
    have f1 : FRd d S S1 := (FRd.fi f0 (fun k h => h)).tr (FRd.fi a2 (fun k h => Or.inl h))
    have e4 : gI S1 3 4 = nI le := by rw [a2.1 3 4 (by omega), sI_g]
    rw [a1, Option.bind_some, a3, e4, lt_d, nI_1] at eC
    obtain ⟨T, v, b1, b2, b3, b4⟩ := M_next hg L mS.1 mS.2.1 (Nat.le_refl i) L.1 h18 ha
    have mT := mS.fw b2
    have h11 : gF T 11 1 = nI P.length := mT.2.2.2.1.2.2.1
    have h11n : gN T 11 = 3 := LMn mT.2.1 11
    have h6n : gN T 6 = 180 := LMn mT.2.1 6
    have h7n : gN T 7 = 180 := LMn mT.2.1 7
    unfold m_readLine at eM
    rw [b1, Option.bind_some] at eM
    dsimp only at eM
    obtain ⟨G, hG⟩ : ∃ G, g = G + 1 := ⟨g - 1, by omega⟩
    have bad : ∀ (S' T' : St) (pl p : Nat), pl ≤ 3000 → p ≤ le + 1 → m_Rd_read_14 g (n1 + 1) S (nI i) = some (S', nI pl) → FRd d S S' → RwR S' d → FRq S2 T' → gI T' 0 19 = nI pl → gI T' 0 18 = nI p → m_compile_24 g (n2 + 2) S2 = m_compile_46 g (m_compile_24 g (n2 + 1)) g T' → RdO g d tp S S2 (m_Rd_read_14 g (n1 + 1) S (nI i)) (m_compile_24 g (n2 + 2) S2) := by
      intro S' T' pl p hpl hp h1 h2 hrr h3 h4 h5 h6
      obtain ⟨U, u1, u2⟩ := M_46 (g := g) (tp := tp) (k24 := m_compile_24 g (n2 + 1)) (3001 - p) g p T' (by omega) (by omega) (mS.1.rq h3) (mS.2.1.rq h3) h5
      have U19 : gI U 0 19 = nI pl := by rw [u2.1 0 19 (by omega)]; exact h4
      have e83 : m_compile_24 g (n2 + 1) U = m_compile_83 g U := by
        show b_compile_24 g (m_compile_24 g n2) U = _
        unfold b_compile_24
        rw [if_pos (show (0 : Int32) ≤ gI U 0 19 from by rw [U19]; exact nI_pos' (by omega))]
        exact ifo rfl rfl
      exact Or.inr ⟨S', U, pl, hpl, h1, (h6.trans u1).trans e83, h2, hrr, h3.tr (FRq.fi u2 (fun k h => by omega)), U19⟩
    by_cases qa : a = le
    · have hv : v = 0 ∧ gI T 0 18 = nI le := by
        rcases b4 with ⟨-, z1, z2⟩ | ⟨z, -⟩ | ⟨z, -⟩
        · exact ⟨z1, z2⟩
        · omega
        · omega
      obtain ⟨rfl, v18⟩ := hv
      rw [if_neg (nI_nlt (by omega) (by omega))] at eC
      rw [if_pos rfl, Option.bind_some] at eM
      have e46 : m_compile_46 g (m_compile_24 g (n2 + 1)) g T = m_compile_24 g (n2 + 1) (sI T 0 18 (nI (le + 1))) := by
        have := M_46e (g := g) (k24 := m_compile_24 g (n2 + 1)) (n := G) L mT.1 mT.2.1 v18
        rw [← hG] at this
        exact this
      rw [e46] at eM
      have ihx := ih n1 (n2 + 1) (le + 1) P lits S1 (sI T 0 18 (nI (le + 1))) (by omega) (by omega) (by omega) (by omega) c1 mT.i18 sI_g ⟨rp.1, rp.2.1, ⟨rp.2.2.1.1, by have := rp.2.2.1.2.1; omega, rp.2.2.1.2.2⟩, rp.2.2.2⟩
      rw [eC, eM]
      rcases ihx with ⟨Sx, Sy, Px, lx, y1, y2, y3, y4, y5, y6, y7⟩ | ⟨Sx, Sy, pl, y0, y1, y2, y3, yr, y4, y5⟩
      · exact Or.inl ⟨Sx, Sy, Px, lx, y1, y2, y3, f1.tr y4, y5, ((FRq.fw b2).tr (FRq.sI (by omega))).tr y6, y7⟩
      · exact Or.inr ⟨Sx, Sy, pl, y0, y1, y2, f1.tr y3, yr, ((FRq.fw b2).tr (FRq.sI (by omega))).tr y4, y5⟩
    · have qa2 : a < le := by omega
      have hv : v = 1 := by
        rcases b4 with ⟨z, -⟩ | ⟨-, z, -⟩ | ⟨-, z, -⟩
        · omega
        · exact z
        · exact z
      subst hv
      obtain ⟨b, hb⟩ : ∃ b, b = rdN tp 32 (le - a) a := ⟨_, rfl⟩
      have rn := rdN_s (tp := tp) (c := 32) (le - a) a
      rw [← hb] at rn
      have hne : ¬ a = i + (le - i) := by
        have := L.1
        clear b4
        omega
      have hb32 : ¬ rdB tp a = 32 := hsk.2.2.elim (fun z => absurd z hne) (fun z => z.2)
      have hab : a < b := by
        by_cases z : b = a
        · rcases rn.2.2.2 with y | y
          · omega
          · rw [z] at y
            exact absurd y.2 hb32
        · omega
      rw [if_pos (nI_lt qa2 (by omega)), C_next hg c1.1 (by omega) (by omega), ← hb, Option.bind_some] at eC
      rw [if_neg (by decide)] at eM
      have p18 : ∃ p, p ≤ le + 1 ∧ gI T 0 18 = nI p := by
        rcases b4 with ⟨z1, -, z2⟩ | ⟨z1, -, -, -, -, z2, -⟩ | ⟨z1, -, -, -, z2⟩
        · exact ⟨le, by omega, z2⟩
        · exact ⟨b, by omega, by rw [hb]; exact z2⟩
        · rcases z2 with ⟨us, b', y1, -, y2, -⟩ | ⟨-, -, p, y1, y2⟩
          · have := (rdT_b mS.1.2.2.2 hl2 3001 (a + 1) [] us b' y1).2.1
            exact ⟨b', by omega, y2⟩
          · exact ⟨p, y1, y2⟩
      have bsort : (∃ s, s < 56 ∧ m_Rd_sortNamed g S1 (nI a) (nI b) = some (S1, nI s) ∧ m_sortOfWord g T = some (nI s) ∧ gI T 0 18 = nI b) ∨ (m_Rd_sortNamed g S1 (nI a) (nI b) = some (S1, -1) ∧ m_sortOfWord g T = some (-1)) := by
        rcases b4 with ⟨z, -⟩ | ⟨-, -, -, z1, -, z2, z3⟩ | ⟨-, -, z1, z2, -⟩
        · omega
        · rcases B_sort hg mT.1 mT.2.1 mT.2.2.1 c1.1 (show b ≤ tp.length by omega) hab b3 (Or.inl ⟨z1, by rw [hb]; exact z3⟩) with ⟨s, y1, y2, y3⟩ | y
          · exact Or.inl ⟨s, y1, y2, y3, by rw [hb]; exact z2⟩
          · exact Or.inr y
        · have e0 : m_sortOfWord g T = some (-1) := by
            have b0 : ∀ x y, m_sortOfWord_35 g T g x 0 y = some (-1) := fun x y => by
              have e : m_sortOfWord_35 g T (G + 1) x 0 y = m_sortOfWord_106 g T g x 0 0 := M_x0
              have e2 : m_sortOfWord_106 g T (G + 1) x 0 0 = some (-1) := M_y0
              rw [← hG] at e e2
              rw [e, e2]
            unfold m_sortOfWord
            rw [lt_d, lt_d, b0, if_neg (show ¬ gI T 0 23 = 0 by rw [z2]; decide)]
            exact ifo rfl rfl
          rcases B_sort hg mT.1 mT.2.1 mT.2.2.1 c1.1 (show b ≤ tp.length by omega) hab b3 (Or.inr ⟨z2, z1⟩) with ⟨s, y1, y2, y3⟩ | y
          · rw [e0] at y3
            exact absurd (Option.some.inj y3).symm (nI_m1 (by omega))
          · exact Or.inr y
      rcases bsort with ⟨s, s1, s2, s3, s4⟩ | ⟨s2, s3⟩
      · rw [s2, Option.bind_some] at eC
        have eC : m_Rd_read_14 g (n1 + 1) S (nI i) = m_Rd_read_90 g (m_Rd_read_14 g n1) S1 (nI b) (nI s) := eC
        unfold m_Rd_read_90 at eC
        rw [s3, Option.bind_some, if_neg (nI_pos (by omega)), show (1 : Int32) = nI 1 from rfl, aI_at (S := T) (a := 11) (i := 1) (by omega) (by omega), Option.bind_some, h11, Option.bind_some, lt_d, lt_d, b3, show (60 : Int32) = nI 60 from rfl, nI_add] at eM
        have hd1 : gR S1 3 2 = d := c1.2.2.2.2.2.1
        rw [if_neg (nI_m1 (by omega)), hd1, if_pos hd, if_pos hd, lt_d, lt_d, c1.2.2.2.1.2.2.2.1, a3] at eC
        by_cases q60 : P.length = 60
        · rw [if_neg (show ¬ nI P.length < 60 from nI_nlt (b := 60) (by omega) (by omega))] at eC
          rw [if_pos (by rw [q60]), Option.bind_some] at eM
          obtain ⟨p, p1, p2⟩ := p18
          exact bad S1 (sI T 0 19 (nI a)) a p (by omega) p1 eC f1 c1.rr ((FRq.fw b2).tr (FRq.sI (by omega))) sI_g (by rw [gI_ne (by omega)]; exact p2) eM
        · have hP : P.length < 60 := by have := c1.2.2.2.1.2.1; omega
          rw [if_pos (show nI P.length < 60 from nI_lt (b := 60) hP (by omega))] at eC
          rw [if_neg (i_lit (by omega) (by omega) q60), tI_at (by omega) (by omega), Option.bind_some, tI_at (show 60 + P.length < gN (sF T 6 (60 + P.length) (nI s)) 7 from by show _ < gN T 7; omega) (show gN (sF T 6 (60 + P.length) (nI s)) 7 < _ from by show gN T 7 < _; omega), Option.bind_some] at eM
          obtain ⟨S3, d1, d2, d3⟩ := C_addS (g := g) (s := s) c1.2.2.2.1 c1.2.2.1 hP
          have f3 : Fi 3 (· = 3) S3 (sI S3 3 3 (nI b)) := Fi.sI rfl
          have es : eS (nI s) = some s := by
            unfold eS
            rw [nI_nat (by omega), if_neg (fun z => z.elim (nI_pos (by omega)) (by omega))]
          rw [d1, Option.bind_some, lt_d, es, Option.bind_some] at eC
          have c3 : RdC S3 d tp (P ++ [(s, [])]) lits := by
            obtain ⟨w1, w2, w3, w4, w5, w6, l, ov, w7⟩ := c1
            exact ⟨w1.fp d2 hd, w2.fp d2, w3.fp d2, d3, ⟨w5.1.fp d2 hd, w5.2.fp d2 hd⟩, by unfold gR; rw [d2.2.2.1]; exact w6, l, ov, w7.fp d2 hd⟩
          have fT : FRq T (sF (sF T 6 (60 + P.length) (nI s)) 7 (60 + P.length) 0) := (FRq.sF (by unfold rdA; omega)).tr (FRq.sF (by unfold rdA; omega))
          have mU : RdM (sF (sF T 6 (60 + P.length) (nI s)) 7 (60 + P.length) 0) tp P lits := by
            obtain ⟨w1, w2, w3, w4, w5, w6⟩ := mT
            refine ⟨w1.rq fT, w2.rq fT, w3.rq fT, ?_, w5.of (fun a i _ _ => by rw [gF_ne (by omega), gF_ne (by omega)]), w6⟩
            obtain ⟨p1, p2, p3, p4⟩ := w4
            refine ⟨p1, p2, by rw [gF_ne (by decide), gF_ne (by decide)]; exact p3, fun y s' ws' hy => ?_⟩
            have hyl := (List.getElem?_eq_some_iff.mp hy).1
            obtain ⟨y1, y2, y3, y4⟩ := p4 y s' ws' hy
            refine ⟨y1, by rw [gF_ne (by decide), gF_sFi (by omega)]; exact y2, by rw [gF_sFi (by omega), gF_ne (by decide)]; exact y3, fun z w hw => ?_⟩
            rw [gF_ne (by decide), gF_ne (by decide), gF_ne (by decide), gF_ne (by decide)]
            exact y4 z w hw
          have qU : CurQ (sF (sF T 6 (60 + P.length) (nI s)) 7 (60 + P.length) 0) P.length s [] := ⟨by rw [gF_ne (by decide), gF_sF], fun y w hw => by cases hw⟩
          have bw := B_words (g := g) (d := d) hg s1 L hP rp.2.2.2.1 (ltN s) g g b [] lits (sI S3 3 3 (nI b)) _ (by simp) (by have := byT9 s s1; unfold ltN; omega) (by have := byT9 s s1; unfold ltN; omega) (c3.fi f3) mU qU (by omega) (by omega) sI_g (by rw [gI_ne (by omega), d2.1 3 4 (by omega)]; exact e4) s4 ⟨rp.2.2.1.1, by have := rp.2.2.1.2.1; omega, rp.2.2.1.2.2⟩ (fun y w hw => by cases hw) (by simp)
          have fS : FRd d S (sI S3 3 3 (nI b)) := (f1.tr (FRd.fp d2)).tr (FRd.fi f3 (fun k h => Or.inl h))
          have fM : FRq S2 (sF (sF T 6 (60 + P.length) (nI s)) 7 (60 + P.length) 0) := (FRq.fw b2).tr fT
          rcases bw with ⟨S', S2', ws', lits', y1, y2, y3, y4, y5, y6, y7, y8, y9, y10, y11, y12, ⟨r, y13⟩, y14⟩ | ⟨S', S2', pl, y0, y1, y2, y3, yr, y4, y5, p, y6, y7⟩
          · have y1 : m_Rd_readWords g (sI S3 3 3 (nI b)) s = some (S', -1) := y1
            have y2 : m_readLine_66 g g (sF (sF T 6 (60 + P.length) (nI s)) 7 (60 + P.length) 0) (nI s) (nI (60 + P.length)) 0 (nI 1) = some S2' := y2
            rw [y1, Option.bind_some] at eC
            have eC : m_Rd_read_14 g (n1 + 1) S (nI i) = m_Rd_read_139 g (m_Rd_read_14 g n1) S' (-1) := eC
            unfold m_Rd_read_139 at eC
            rw [if_pos rfl, lt_d, y5, nI_1] at eC
            rw [y2, Option.bind_some] at eM
            have e46 : m_compile_46 g (m_compile_24 g (n2 + 1)) g S2' = m_compile_24 g (n2 + 1) (sI S2' 0 18 (nI (le + 1))) := by
              have := M_46e (g := g) (k24 := m_compile_24 g (n2 + 1)) (n := G) L y6.1 y6.2.1 y8
              rw [← hG] at this
              exact this
            rw [e46] at eM
            have h9 := byT9 s s1
            have ihx := ih n1 (n2 + 1) (le + 1) (P ++ [(s, ws')]) lits' S' (sI S2' 0 18 (nI (le + 1))) (by omega) (by omega) (by omega) (by omega) y3 y6.i18 sI_g ⟨(PrgOK_mo rp.1 (fun n hn => by rw [y13, List.length_append]; omega)).snoc s1 y9 y10 y11, rp.2.1.snoc y11, ⟨y12.1, by have := y12.2.1; omega, y12.2.2⟩, by
              rw [List.length_append, List.length_singleton, fsP_end]
              have := rp.2.2.2.1
              unfold ltN at y10
              omega, by
              intro x sx wx hx h53 h54
              rcases app_get hx with ⟨-, z⟩ | ⟨-, rfl, rfl⟩
              · rw [y13, sum_ext (fun w hw => ?_)]
                · exact rp.2.2.2.2 x sx wx z h53 h54
                · obtain ⟨jj, hj⟩ := List.mem_iff_getElem?.mp hw
                  exact ⟨_, (rp.1 x sx wx z).2.1.2.2 jj w hj⟩
              · omega⟩
            rw [eC, eM]
            rcases ihx with ⟨Sx, Sy, Px, lx, x1, x2, x3, x4, x5, x6, x7⟩ | ⟨Sx, Sy, pl, x0, x1, x2, x3, xr, x4, x5⟩
            · exact Or.inl ⟨Sx, Sy, Px, lx, x1, x2, x3, (fS.tr y4).tr x4, x5, ((fM.tr y7).tr (FRq.sI (by omega))).tr x6, x7⟩
            · exact Or.inr ⟨Sx, Sy, pl, x0, x1, x2, (fS.tr y4).tr x3, xr, ((fM.tr y7).tr (FRq.sI (by omega))).tr x4, x5⟩
          · have y1 : m_Rd_readWords g (sI S3 3 3 (nI b)) s = some (S', nI pl) := y1
            have y2 : m_readLine_66 g g (sF (sF T 6 (60 + P.length) (nI s)) 7 (60 + P.length) 0) (nI s) (nI (60 + P.length)) 0 (nI 1) = some S2' := y2
            rw [y1, Option.bind_some] at eC
            have eC : m_Rd_read_14 g (n1 + 1) S (nI i) = some (S', nI pl) := eC.trans (if_neg (nI_m1 (by omega)))
            rw [y2, Option.bind_some] at eM
            exact bad S' S2' pl p (by omega) y6 eC (fS.tr y3) yr (fM.tr y4) y5 y7 eM
      · rw [s2, Option.bind_some] at eC
        have eC : m_Rd_read_14 g (n1 + 1) S (nI i) = some (S1, nI a) := by
          rw [eC]
          show m_Rd_read_90 g (m_Rd_read_14 g n1) S1 (nI b) (-1) = _
          unfold m_Rd_read_90
          rw [if_pos rfl, a3]
        rw [s3, Option.bind_some, if_pos (by decide), lt_d, b3, Option.bind_some] at eM
        obtain ⟨p, p1, p2⟩ := p18
        exact bad S1 (sI T 0 19 (nI a)) a p (by omega) p1 eC f1 c1.rr ((FRq.fw b2).tr (FRq.sI (by omega))) sI_g (by rw [gI_ne (by omega)]; exact p2) eM
end RDM
