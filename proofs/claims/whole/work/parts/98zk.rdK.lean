/-! READING: any word, joined -/
def RdC (S : St) (d : Nat) (tp : List Int32) (Q : Prg) (lits : List (List Int32)) : Prop := Rw S 10 tp 0 ∧ gOK S ∧ LC S ∧ PrC S d Q ∧ LitsC S d lits ∧ gR S 3 2 = d ∧ ∃ l ov, Rw S 17 l ov
def RdM (S2 : St) (tp : List Int32) (P : Prg) (lits : List (List Int32)) : Prop := TpM S2 tp ∧ LM S2 ∧ TabM S2 ∧ PrM S2 1 P ∧ LitsM S2 lits ∧ gI S2 0 19 = -1
def LOK (lits : List (List Int32)) (i : Nat) : Prop := lits.length ≤ 24 ∧ lits.flatten.length ≤ i ∧ ∀ l ∈ lits, usL l ∧ l.length ≤ 400
theorem LitsC.fi {o d : Nat} {K : Nat → Prop} {S S' : St} {lits : List (List Int32)} (w : LitsC S d lits) (h : Fi o K S S') (ho : o < 10) : LitsC S' d lits := ⟨w.1.fi h ho, w.2.fi h ho⟩
theorem LC.fi {o : Nat} {K : Nat → Prop} {S S' : St} (w : LC S) (h : Fi o K S S') : LC S' := fun a ha => (h.N a).trans (w a ha)
theorem PrC.fi {o p : Nat} {K : Nat → Prop} {S S' : St} {P : Prg} (w : PrC S p P) (h : Fi o K S S') (ho : o ≠ p) : PrC S' p P := w.of (h.1 p 8 (by omega)) (fun a i _ _ => h.F a i) (fun a i _ _ => h.G a i)
theorem RdC.fi {d : Nat} {K : Nat → Prop} {S S' : St} {tp : List Int32} {Q : Prg} {lits : List (List Int32)} (w : RdC S d tp Q lits) (h : Fi 3 K S S') : RdC S' d tp Q lits := by
  obtain ⟨w1, w2, w3, w4, w5, w6, l, ov, w7⟩ := w
  exact ⟨w1.fi h (by decide), w2.fi h, w3.fi h, w4.fi h (by have := w4.1; omega), w5.fi h (by decide), by rw [h.R]; exact w6, l, ov, w7.fi h (by decide)⟩
theorem LC.f17 {S S' : St} (w : LC S) (h : F17 S S') : LC S' := fun a ha => (h.2.2.2.1 a (by omega)).1.trans (w a ha)
theorem PrC.f17 {p : Nat} {S S' : St} {P : Prg} (w : PrC S p P) (h : F17 S S') : PrC S' p P := w.of (h.1 p 8 (by have := w.1; omega) (by have := w.1; omega)) (fun a i _ _ => (h.2.2.2.1 a (by omega)).2 i) (fun a i _ _ => by unfold gG; rw [h.2.2.2.2])
theorem RdC.f17 {d : Nat} {S S' : St} {tp us : List Int32} {Q : Prg} {lits : List (List Int32)} {ov : Int32} (w : RdC S d tp Q lits) (h : F17 S S') (hu : Rw S' 17 us ov) : RdC S' d tp Q lits := by
  obtain ⟨w1, w2, w3, w4, w5, w6, -⟩ := w
  have hd := w4.1
  exact ⟨w1.f17 h (by decide), w2.f17 h, w3.f17 h, w4.f17 h, ⟨w5.1.f17 h (by omega), w5.2.f17 h (by omega)⟩, by unfold gR; rw [h.2.2.1]; exact w6, us, ov, hu⟩
theorem LitsM.of {S S' : St} {lits : List (List Int32)} (w : LitsM S lits) (h : ∀ a i, 12 ≤ a → a ≤ 15 → gF S' a i = gF S a i) : LitsM S' lits := by
  refine ⟨(h 15 1 (by decide) (by decide)).trans w.1, fun n l hn => ?_⟩
  obtain ⟨z1, z2, z3⟩ := w.2 n l hn
  exact ⟨(h 13 _ (by decide) (by decide)).trans z1, (h 14 _ (by decide) (by decide)).trans z2, fun i hi => (h 12 _ (by decide) (by decide)).trans (z3 i hi)⟩
theorem PrM.of {S S' : St} {q : Nat} {P : Prg} (w : PrM S q P) (h : ∀ a i, 6 ≤ a → a ≤ 11 → gF S' a i = gF S a i) (hG : ∀ i, gG S' 10 i = gG S 10 i) : PrM S' q P := by
  obtain ⟨p1, p2, p3, p4⟩ := w
  refine ⟨p1, p2, by rw [h 11 _ (by decide) (by decide)]; exact p3, fun i s ws hi => ?_⟩
  rw [h 6 _ (by decide) (by decide), h 7 _ (by decide) (by decide)]
  obtain ⟨z1, z2, z3, z4⟩ := p4 i s ws hi
  refine ⟨z1, z2, z3, fun j w hw => ?_⟩
  rw [h 8 _ (by decide) (by decide), h 9 _ (by decide) (by decide), hG]
  exact z4 j w hw
theorem CurQ.of {S S' : St} {n s : Nat} {ws : List Wd} (w : CurQ S n s ws) (h : ∀ a i, 6 ≤ a → a ≤ 11 → gF S' a i = gF S a i) (hG : ∀ i, gG S' 10 i = gG S 10 i) : CurQ S' n s ws := by
  refine ⟨(h 6 _ (by decide) (by decide)).trans w.1, fun j x hx => ?_⟩
  rw [h 8 _ (by decide) (by decide), h 9 _ (by decide) (by decide), hG]
  exact w.2 j x hx
theorem RdM.fw {S S' : St} {tp : List Int32} {P : Prg} {lits : List (List Int32)} (w : RdM S tp P lits) (h : FW S S') : RdM S' tp P lits := by
  obtain ⟨w1, w2, w3, w4, w5, w6⟩ := w
  have hG : ∀ a i, gG S' a i = gG S a i := fun a i => by unfold gG; rw [h.2.2.2.2.2]
  exact ⟨w1.fw h, w2.fw h, w3.rq (FRq.fw h), w4.of (fun a i _ _ => h.2.2.2.2.1 a (by omega) i) (hG 10), w5.of (fun a i _ _ => h.2.2.2.2.1 a (by omega) i), by rw [h.1 0 19 (by omega)]; exact w6⟩
theorem CurQ.fw {S S' : St} {n s : Nat} {ws : List Wd} (w : CurQ S n s ws) (h : FW S S') : CurQ S' n s ws := w.of (fun a i _ _ => h.2.2.2.2.1 a (by omega) i) (fun i => by unfold gG; rw [h.2.2.2.2.2])
theorem RdM.kp {S : St} {tp : List Int32} {P : Prg} {lits : List (List Int32)} {x m : Nat} {k : Int32} {v : Int64} (w : RdM S tp P lits) (hx : x = 10 * (60 + P.length) + m) : RdM (kpS S x k v) tp P lits := by
  obtain ⟨w1, w2, w3, w4, w5, w6⟩ := w
  have f : FRq S (kpS S x k v) := kp_fr (by omega)
  refine ⟨w1.rq f, w2.rq f, w3.rq f, ?_, w5.of (fun a i _ _ => kp_F (by omega) (by omega)), w6⟩
  rw [hx]
  exact w4.kp rfl
theorem RdM.lt {S T : St} {tp : List Int32} {P : Prg} {lits lits' : List (List Int32)} (w : RdM S tp P lits) (h : Flt S T) (hl : LitsM T lits') : RdM T tp P lits' := by
  obtain ⟨w1, w2, w3, w4, w5, w6⟩ := w
  exact ⟨w1.rq (FRq.lt h), w2.rq (FRq.lt h), w3.rq (FRq.lt h), w4.lt h, hl, by rw [h.I]; exact w6⟩
/-- the Rows that reading fills are there -/
def RwR (S : St) (d : Nat) : Prop := (∃ l ov, Rw S 17 l ov) ∧ (∃ l ov, Rw S (8 + 3 * d + 0) l ov) ∧ ∃ l ov, Rw S (8 + 3 * d + 1) l ov
theorem RdC.rr {S : St} {d : Nat} {tp : List Int32} {Q : Prg} {lits : List (List Int32)} (w : RdC S d tp Q lits) : RwR S d := ⟨w.2.2.2.2.2.2, ⟨_, _, w.2.2.2.2.1.1⟩, _, _, w.2.2.2.2.1.2⟩
/-- a good word -/
def WG (d : Nat) (tp : List Int32) (P : Prg) (s : Nat) (ws : List Wd) (lits : List (List Int32)) (le a : Nat) (c : Int32) (S S2 S' S2' : St) : Prop := ∃ w lits' b, RdC S' d tp (P ++ [(s, ws ++ [w])]) lits' ∧ FRd d S S' ∧ gI S' 3 3 = nI b ∧ gI S' 3 4 = nI le ∧ RdM S2' tp P lits' ∧ CurQ S2' P.length s (ws ++ [w]) ∧ FRq S2 S2' ∧ gI S2' 0 18 = nI b ∧ a < b ∧ b ≤ le ∧ okL (fun n => n < lits'.length) c w ∧ w.2.2 = nI a ∧ (w.1 = 9 → ∃ n : Nat, n < 100 ∧ w.2.1.toInt = (n : Int)) ∧ LOK lits' b ∧ (∃ r, lits' = lits ++ r) ∧ wlL lits' w + a ≤ b
theorem okL_3 {U : Nat → Prop} {c : Int32} {w : Wd} (h : okL U c w) (h3 : w.1 = 3) : ∃ n : Nat, U n ∧ w.2.1.toInt = (n : Int) := by
  rcases h with ⟨-, h, -⟩ | ⟨-, h, -⟩ | ⟨-, h, -⟩ | ⟨-, h⟩ | ⟨-, h⟩ | ⟨-, h⟩ | ⟨-, h⟩
  · omega
  · omega
  · omega
  · rcases h with ⟨h, -⟩ | ⟨-, h⟩
    · omega
    · exact h
  · rcases h with ⟨h, -⟩ | h
    · omega
    · omega
  · rcases h with ⟨h, -⟩ | ⟨-, h⟩ | ⟨h, -⟩ | ⟨h, -⟩ | h
    · omega
    · exact h
    · omega
    · omega
    · omega
  · omega
section RDK
variable {g d : Nat} {S S2 : St} {tp : List Int32} {P : Prg} {lits : List (List Int32)} {s a le j : Nat} {ws : List Wd} {c r : Int32}
theorem fin_add {T U2 : St} {k b X : Nat} {v : Int64} (cT : RdC T d tp (P ++ [(s, ws)]) lits) (hF : fsP P P.length + ws.length < 540) (fT : FRd d S T) (T3 : gI T 3 3 = nI b) (T4 : gI T 3 4 = nI le) (mU : RdM U2 tp P lits) (qU : CurQ U2 P.length s ws) (fU : FRq S2 U2) (U18 : gI U2 0 18 = nI b) (U20 : gI U2 0 20 = nI a) (hX : X = 10 * (60 + P.length) + ws.length) (hab : a < b) (hbl : b ≤ le) (ok : okL (fun n => n < lits.length) c (k, v, nI a)) (h9 : k = 9 → ∃ n : Nat, n < 100 ∧ v.toInt = (n : Int)) (lo : LOK lits b) (hwl : wlL lits (k, v, nI a) + a ≤ b) : ∃ S', cwd g T a k v = some (S', 1) ∧ WG d tp P s ws lits le a c S S2 S' (kpS U2 X (nI k) v) := by
  obtain ⟨w1, w2, w3, w4, w5, w6, l, ov, w7⟩ := cT
  have hd := w4.1
  obtain ⟨S', a1, a2, a3⟩ := C_addW (g := g) (k := k) (v := v) (pl := nI a) w4 w3 hF
  refine ⟨S', ?_, (k, v, nI a), lits, b, ⟨w1.fp a2 hd, w2.fp a2, w3.fp a2, a3, ⟨w5.1.fp a2 hd, w5.2.fp a2 hd⟩, by unfold gR; rw [a2.2.2.1]; exact w6, l, ov, w7.fp a2 hd⟩, fT.tr (FRd.fp a2), by rw [a2.1 3 3 (by omega)]; exact T3, by rw [a2.1 3 4 (by omega)]; exact T4, mU.kp hX, ?_, fU.tr (kp_fr (by omega)), U18, hab, hbl, ok, rfl, h9, lo, ⟨[], by simp⟩, hwl⟩
  · unfold cwd
    rw [w6, a1, Option.bind_some]
  · rw [hX]
    exact qU.kp U20
/-- any word: good on both sides, or bad on both sides -/
theorem B_word (hg : 100000 ≤ g) (cS : RdC S d tp (P ++ [(s, ws)]) lits) (mS : RdM S2 tp P lits) (qS : CurQ S2 P.length s ws) (L : rdL tp j le) (hja : j ≤ a) (ha : a < le) (h3 : gI S 3 3 = nI a) (h4 : gI S 3 4 = nI le) (hbl : ¬ rdB tp a = 32) (hP : P.length < 60) (hw : ws.length < 9) (hF : fsP P P.length ≤ 9 * P.length) (lo : LOK lits a) (hr : rlL r c) (h20 : gI S2 0 20 = nI a) (nx : (¬ rdB tp a = 34 ∧ gI S2 0 23 = 0 ∧ gI S2 0 24 = 1 ∧ gI S2 0 18 = nI (rdN tp 32 (le - a) a) ∧ gI S2 0 21 = nI (rdN tp 32 (le - a) a)) ∨ (rdB tp a = 34 ∧ gI S2 0 23 = 1 ∧ ((∃ us b, rdT tp le 3001 (a + 1) [] = some (us, b) ∧ us.length ≤ 400 ∧ gI S2 0 18 = nI b ∧ gI S2 0 22 = nI us.length ∧ gI S2 0 24 = 1 ∧ ∀ y, y < us.length → gF S2 17 y = us.getD y 0) ∨ ((∀ us b, rdT tp le 3001 (a + 1) [] = some (us, b) → 400 < us.length) ∧ gI S2 0 24 = 0)))) : (∃ S' S2', m_Rd_readWord g S c = some (S', 1) ∧ gI S2 0 24 = 1 ∧ m_reads g S2 (nI (10 * (60 + P.length) + ws.length)) r = some (S2', 1) ∧ WG d tp P s ws lits le a c S S2 S' S2') ∨ ∃ S', m_Rd_readWord g S c = some (S', 0) ∧ FRd d S S' ∧ RwR S' d ∧ (gI S2 0 24 = 0 ∨ (gI S2 0 24 = 1 ∧ m_reads g S2 (nI (10 * (60 + P.length) + ws.length)) r = some (S2, 0))) := by
  obtain ⟨w1, w2, w3, w4, w5, w6, l, ov, w7⟩ := id cS
  obtain ⟨m1, m2, m3, m4, m5, m6⟩ := id mS
  have hd := w4.1
  have h30 := m1.2.1
  have hby := m1.2.2.2
  have hle := L.2.1
  rcases nx with ⟨n1, n2, n3, n4, n5⟩ | ⟨n1, n2, n3⟩
  · have rn := rdN_s (tp := tp) (c := 32) (le - a) a
    have hab : a < rdN tp 32 (le - a) a := by
      by_cases q : rdN tp 32 (le - a) a = a
      · rcases rn.2.2.2 with z | z
        · omega
        · rw [q] at z
          exact absurd z.2 hbl
      · omega
    generalize hb : rdN tp 32 (le - a) a = b at *
    have f : Fi 3 (· = 3) S (sI S 3 3 (nI b)) := Fi.sI rfl
    have cT := cS.fi f
    rcases B_wordN (X := 10 * (60 + P.length) + ws.length) (T := sI S 3 3 (nI b)) hg m1 m2 w1 hle ha h3 h4 n1 hb.symm rfl hab (by omega) h20 n5 n2 (by rw [cT.2.2.2.2.2.1]; exact hd) (by omega) hr with ⟨k, v, U2, z1, z2, z3, z4, z5⟩ | ⟨z1, z2⟩
    · have hU : RdM U2 tp P lits ∧ CurQ U2 P.length s ws ∧ FRq S2 U2 ∧ gI U2 0 18 = nI b ∧ gI U2 0 20 = nI a := by
        rcases z3 with rfl | ⟨z, rfl⟩
        · exact ⟨mS, qS, FRq.rf, n4, h20⟩
        · exact ⟨⟨⟨m1.1, m1.2⟩, m2.of rfl, m3, m4, m5, m6⟩, qS, FRq.sL, n4, h20⟩
      obtain ⟨u1, u2, u3, u4, u5⟩ := hU
      obtain ⟨S', e1, e2⟩ := fin_add (g := g) (S := S) (S2 := S2) (k := k) (v := v) (c := c) cT (by omega) (FRd.fi f (fun k h => Or.inl h)) sI_g (by rw [f.1 3 4 (by omega)]; exact h4) u1 u2 u3 u4 u5 rfl hab (by omega) (z4 _) z5 ⟨lo.1, by have := lo.2.1; omega, lo.2.2⟩ (by
        have k3 : ¬ k = 3 := fun h => by
          obtain ⟨n, hn, -⟩ := okL_3 (z4 (fun _ => False)) h
          exact hn
        unfold wlL
        rw [if_neg k3]
        omega)
      exact Or.inl ⟨S', _, z1.trans e1, n3, z2, e2⟩
    · exact Or.inr ⟨_, z1, FRd.fi f (fun k h => Or.inl h), cT.rr, Or.inr ⟨n3, z2⟩⟩
  · have alw0 : ∃ A, alw 0 c = some A ∧ (A = 0 ∨ A = 1) ∧ (A = 1 ↔ (r = 4 ∨ r = 6)) := by
      rcases hr with ⟨rfl, rfl⟩ | ⟨rfl, rfl⟩ | ⟨rfl, rfl⟩ | ⟨rfl, rfl | rfl⟩ | ⟨rfl, rfl⟩ | ⟨rfl, rfl⟩ | ⟨rfl, rfl⟩ | ⟨rfl, rfl⟩
      · exact ⟨0, by decide +kernel, by decide, by decide⟩
      · exact ⟨0, by decide +kernel, by decide, by decide⟩
      · exact ⟨0, by decide +kernel, by decide, by decide⟩
      · exact ⟨1, by decide +kernel, by decide, by decide⟩
      · exact ⟨1, by decide +kernel, by decide, by decide⟩
      · exact ⟨0, by decide +kernel, by decide, by decide⟩
      · exact ⟨1, by decide +kernel, by decide, by decide⟩
      · exact ⟨0, by decide +kernel, by decide, by decide⟩
      · exact ⟨0, by decide +kernel, by decide, by decide⟩
    obtain ⟨A, a1, a2, a3⟩ := alw0
    have eC : m_Rd_readWord g S c = (if A = 0 then some (S, 0) else (m_Rd_readLiteral g S).bind fun (S_10, v_11) => m_Rd_readWord_36 g S_10 v_11) := by
      unfold m_Rd_readWord
      rw [h3, lt_d, C_byte w1 (by omega), Option.bind_some, if_pos n1, a1, Option.bind_some]
    have nm : ∀ c mx, m_numbered g S2 (nI a) c mx = some (-1) := fun c mx => by
      unfold m_numbered
      rw [lt_d, if_neg (by rw [n2]; decide)]
    have eM : m_reads g S2 (nI (10 * (60 + P.length) + ws.length)) r = (if r = 4 ∨ r = 6 then (m_readsLiteral g S2 (nI (10 * (60 + P.length) + ws.length))).bind (fun (S_4, v_5) => if v_5 = 0 ∨ v_5 = 1 then some (S_4, v_5) else none) else some (S2, 0)) := by
      unfold m_reads
      rw [h20, nm, nm, nm, Option.bind_some, Option.bind_some, Option.bind_some]
      have i0 : m_isNumber g S2 (nI a) = some (S2, 0) := by
        have h36 : ∀ x y, m_isNumber_36 g S2 x y = some (S2, 0) := fun x y => by
          unfold m_isNumber_36
          rw [if_neg (show ¬ gI S2 0 23 = 0 by rw [n2]; decide)]
        have h24 : ∀ y, m_isNumber_24 g S2 (nI a) y = some (S2, 0) := fun y => by
          unfold m_isNumber_24
          rw [h36, h36]
          exact ifo rfl rfl
        unfold m_isNumber m_isNumber_23
        rw [h24, h24, M_byte m1 m2 (by omega), Option.bind_some]
        exact ifo rfl (ifo rfl rfl)
      have l158 : ∀ r : Int32, r = 4 ∨ r = 6 → m_reads_158 g S2 (nI (10 * (60 + P.length) + ws.length)) r (-1) (-1) = (m_readsLiteral g S2 (nI (10 * (60 + P.length) + ws.length))).bind (fun (S_4, v_5) => if v_5 = 0 ∨ v_5 = 1 then some (S_4, v_5) else none) := by
        intro r hr
        unfold m_reads_158
        rw [if_neg (show ¬ r = 5 from by rcases hr with rfl | rfl <;> decide), if_neg (by rw [n2]; decide)]
      rcases hr with ⟨rfl, rfl⟩ | ⟨rfl, rfl⟩ | ⟨rfl, rfl⟩ | ⟨rfl, rfl | rfl⟩ | ⟨rfl, rfl⟩ | ⟨rfl, rfl⟩ | ⟨rfl, rfl⟩ | ⟨rfl, rfl⟩
      · rw [if_pos rfl, if_pos (by decide), if_neg (by decide)]
      · rw [if_neg (by decide), if_pos rfl, if_pos (by decide), if_neg (by decide)]
      · unfold m_reads_105
        rw [if_neg (by decide), if_neg (by decide), if_pos rfl, if_pos (by decide), if_neg (by decide)]
      · rw [if_neg (by decide), if_neg (by decide), if_neg (by decide), if_neg (by decide), if_neg (by decide), if_neg (by decide), if_pos (by decide), if_pos (by decide), l158 4 (Or.inl rfl)]
      · rw [if_neg (by decide), if_neg (by decide), if_neg (by decide), if_neg (by decide), if_neg (by decide), if_neg (by decide), if_pos (by decide), if_pos (by decide), l158 4 (Or.inl rfl)]
      · unfold m_reads_158 m_reads_176
        rw [if_neg (by decide), if_neg (by decide), if_neg (by decide), if_neg (by decide), if_neg (by decide), if_pos rfl, if_pos rfl, if_neg (by decide), if_pos (by decide), h20, i0, Option.bind_some, if_neg (show ¬ ((5 : Int32) = 4 ∨ (5 : Int32) = 6) by decide)]
        show (if (0 : Int32) = 0 then _ else _) = _
        rw [if_pos rfl, if_pos rfl]
      · rw [if_neg (by decide), if_neg (by decide), if_neg (by decide), if_neg (by decide), if_neg (by decide), if_neg (by decide), if_pos (by decide), if_pos (by decide), l158 6 (Or.inr rfl)]
      · unfold m_reads_105
        rw [if_neg (by decide), if_neg (by decide), if_neg (by decide), if_pos rfl, if_pos (by decide), if_neg (by decide)]
      · unfold m_readsCount
        rw [if_neg (by decide), if_neg (by decide), if_neg (by decide), if_neg (by decide), if_pos rfl, lt_d, if_neg (show ¬ gI S2 0 23 = 0 by rw [n2]; decide), Option.bind_some, if_neg (show ¬ ((8 : Int32) = 4 ∨ (8 : Int32) = 6) by decide)]
        exact if_pos (Or.inl rfl)
    have badS : ∀ T, m_Rd_readWord g S c = some (T, 0) → FRd d S T → RwR T d → (gI S2 0 24 = 1 → m_reads g S2 (nI (10 * (60 + P.length) + ws.length)) r = some (S2, 0)) → (∃ S' S2', m_Rd_readWord g S c = some (S', 1) ∧ gI S2 0 24 = 1 ∧ m_reads g S2 (nI (10 * (60 + P.length) + ws.length)) r = some (S2', 1) ∧ WG d tp P s ws lits le a c S S2 S' S2') ∨ ∃ S', m_Rd_readWord g S c = some (S', 0) ∧ FRd d S S' ∧ RwR S' d ∧ (gI S2 0 24 = 0 ∨ (gI S2 0 24 = 1 ∧ m_reads g S2 (nI (10 * (60 + P.length) + ws.length)) r = some (S2, 0))) := by
      intro T t1 t2 t0 t3
      refine Or.inr ⟨T, t1, t2, t0, ?_⟩
      rcases n3 with ⟨us, b, -, -, -, -, z, -⟩ | ⟨-, z⟩
      · exact Or.inr ⟨z, t3 z⟩
      · exact Or.inl z
    by_cases qA : A = 0
    · rw [if_pos qA] at eC
      refine badS S eC FRd.rf cS.rr (fun _ => ?_)
      rw [eM, if_neg (fun z => by have := a3.mpr z; rw [qA] at this; exact absurd this (by decide))]
    · rw [if_neg qA] at eC
      have r46 := a3.mp (a2.resolve_left qA)
      rw [if_pos r46] at eM
      obtain ⟨S1, b1, b2, b3⟩ := R_clear (g := g) w7
      have f3 : Fi 3 (· = 3) S1 (sI S1 3 3 (nI (a + 1))) := Fi.sI rfl
      have fw : F17 S (sI S1 3 3 (nI (a + 1))) := (F17.fr b2).tr (F17.fi f3)
      have eL : m_Rd_readLiteral g S = m_Rd_readLiteral_19 g g (sI S1 3 3 (nI (a + 1))) (nI a) := by
        unfold m_Rd_readLiteral
        rw [h3, lt_d, b1, Option.bind_some, lt_d, nI_1]
      have c1 := cS.f17 fw (b3.fi f3 (by decide))
      rcases C_lit (x1 := nI a) hg hby hle 3001 g (a + 1) [] (sI S1 3 3 (nI (a + 1))) (by omega) (by omega) (by omega) c1.1 c1.2.1 (Scr.nil (b3.fi f3 (by decide))) sI_g (by rw [fw.1 3 4 (by omega) (by decide)]; exact h4) with ⟨us, b, S', y1, y2, y3, y4, y5, y6⟩ | ⟨y1, S', y2, y3, l3, ov3, y4⟩
      · obtain ⟨t1, t2, t3, t4, t5, t6⟩ := rdT_b hby hle 3001 (a + 1) [] us b y1
        rw [List.length_nil] at t4
        rcases n3 with ⟨us', b', z1, z2, z3, z4, z5, z6⟩ | ⟨z1, -⟩
        · rw [y1] at z1
          cases z1
          have c2 := c1.f17 y4 y5
          obtain ⟨u1, u2, u3, u4, u5, u6, -⟩ := id c2
          have lo2 := lo.2.1
          rw [eL, y3] at eC
          unfold m_Rd_readLiteral_149 at eC
          rw [u6, if_pos hd, lt_d] at eC
          rcases B_lits (x := 10 * (60 + P.length) + ws.length) hg hd u5 m5 u2 m2 y5 z4 z6 y2 (by omega) lo.1 (by omega) lits.length g g 0 (by omega) (by have := lo.1; omega) (by have := lo.1; omega) with ⟨m, lits', S3, T, v1, v2, v3, v4, v5, v6, v7, v8, v9, v10, v11, v12, v13⟩ | ⟨v1, v2⟩
          · have v1 : m_Pg_literalWith g S' d 17 = some (S3, nI m) := v1
            have v4 : m_readsLiteral g S2 (nI (10 * (60 + P.length) + ws.length)) = some (kpS T (10 * (60 + P.length) + ws.length) 3 (nI m).toInt64, 1) := by
              rw [stC_0] at v4
              exact v4
            rw [v1, Option.bind_some] at eC
            have eC : m_Rd_readWord g S c = (m_Rd_readLiteral_160 g S3 (nI a) (nI m)).bind (fun (S_10, v_11) => m_Rd_readWord_36 g S_10 v_11) := eC
            unfold m_Rd_readLiteral_160 at eC
            rw [if_neg (show ¬ nI m = -1 from nI_m1 (by omega))] at eC
            have hR : ∀ x k, gR S3 x k = gR S' x k := fun x k => by unfold gR; rw [v6.2.2.1]
            have c3 : RdC S3 d tp (P ++ [(s, ws)]) lits' := ⟨u1.rd v6 hd (by decide) (by omega) (by omega), u2.rd v6, u3.rd v6 hd, u4.of (v7 d 8 (by omega)) (fun a i h _ => (v8 a h).1 i) (fun a i h _ => (v8 a h).2 i), v5, by rw [hR]; exact u6, us, 0, v9⟩
            have hlen : ∃ r, lits' = lits ++ r := by
              rcases v12 with rfl | rfl
              · exact ⟨[], by simp⟩
              · exact ⟨[us], rfl⟩
            have lo' : LOK lits' b := by
              refine ⟨v3, ?_, fun l hl => ?_⟩
              · rcases v12 with rfl | rfl
                · omega
                · rw [List.flatten_append, List.length_append, show ([us] : List (List Int32)).flatten = us from by simp]
                  omega
              · rcases v12 with rfl | rfl
                · exact lo.2.2 l hl
                · rcases List.mem_append.mp hl with z | z
                  · exact lo.2.2 l z
                  · rw [List.mem_singleton] at z
                    subst z
                    refine ⟨fun i hi => t6 (fun x hx => by cases hx) _ ?_, y2⟩
                    rw [List.getD_eq_getElem?_getD, List.getElem?_eq_getElem hi]
                    exact List.getElem_mem hi
            obtain ⟨S5, e1, e2⟩ := fin_add (g := g) (S := S) (S2 := S2) (k := 3) (v := (nI m).toInt64) (c := c) (le := le) (a := a) c3 (by omega) (((FRd.f17 fw).tr (FRd.f17 y4)).tr v6) (b := b) (by rw [v7 3 3 (by omega)]; exact y6) (by rw [v7 3 4 (by omega), y4.1 3 4 (by omega) (by decide), fw.1 3 4 (by omega) (by decide)]; exact h4) (mS.lt v11 v10) (qS.lt v11) (FRq.lt v11) (by rw [v11.I]; exact z3) (by rw [v11.I]; exact h20) rfl (by omega) t2 (by
              have hn : ∃ n : Nat, n < lits'.length ∧ ((nI m).toInt64).toInt = (n : Int) := ⟨m, v2, by rw [j64, nI_toInt (by omega)]⟩
              rcases hr with ⟨rfl, rfl⟩ | ⟨rfl, rfl⟩ | ⟨rfl, rfl⟩ | ⟨rfl, hc⟩ | ⟨rfl, rfl⟩ | ⟨rfl, rfl⟩ | ⟨rfl, rfl⟩ | ⟨rfl, rfl⟩
              · exact absurd r46 (by decide)
              · exact absurd r46 (by decide)
              · exact absurd r46 (by decide)
              · exact Or.inr (Or.inr (Or.inr (Or.inl ⟨hc, Or.inr ⟨rfl, hn⟩⟩)))
              · exact absurd r46 (by decide)
              · exact Or.inr (Or.inr (Or.inr (Or.inr (Or.inr (Or.inl ⟨rfl, Or.inr (Or.inl ⟨rfl, hn⟩)⟩)))))
              · exact absurd r46 (by decide)
              · exact absurd r46 (by decide)) (fun h => absurd h (by decide)) lo' (by
                have hu := rdT_u hby hle 3001 (a + 1) [] us b y1
                rw [show llen [] = 0 from rfl] at hu
                unfold wlL
                rw [if_pos rfl, show ((nI m).toInt64).toInt = (m : Int) from by rw [j64, nI_toInt (by omega)], Int.toNat_natCast, List.getD_eq_getElem?_getD, v13]
                show llen us + a ≤ b
                omega)
            rw [v4, Option.bind_some] at eM
            refine Or.inl ⟨S5, _, ?_, z5, eM.trans (if_pos (Or.inr rfl)), ?_⟩
            · rw [eC, hR, u6, if_pos hd, lt_d]
              unfold cwd at e1
              rw [hR, u6] at e1
              have e1 : ((m_Pg_addWord g S3 d 34 32 (nI m).toInt64 (nI a)).bind fun S' => some (S', (1 : Int32))) = some (S5, 1) := e1
              rw [e1, Option.bind_some]
              exact if_neg (by decide)
            · obtain ⟨w, lits2, b2, q⟩ := e2
              exact ⟨w, lits2, b2, q.1, q.2.1, q.2.2.1, q.2.2.2.1, q.2.2.2.2.1, q.2.2.2.2.2.1, q.2.2.2.2.2.2.1, q.2.2.2.2.2.2.2.1, q.2.2.2.2.2.2.2.2.1, q.2.2.2.2.2.2.2.2.2.1, q.2.2.2.2.2.2.2.2.2.2.1, q.2.2.2.2.2.2.2.2.2.2.2.1, q.2.2.2.2.2.2.2.2.2.2.2.2.1, q.2.2.2.2.2.2.2.2.2.2.2.2.2.1, (by
                obtain ⟨r, hr⟩ := hlen
                obtain ⟨r2, hr2⟩ := q.2.2.2.2.2.2.2.2.2.2.2.2.2.2.1
                exact ⟨r ++ r2, by rw [hr2, hr, List.append_assoc]⟩), q.2.2.2.2.2.2.2.2.2.2.2.2.2.2.2⟩
          · have v1 : m_Pg_literalWith g S' d 17 = some (S', -1) := v1
            have v2 : m_readsLiteral g S2 (nI (10 * (60 + P.length) + ws.length)) = some (S2, 0) := by
              rw [stC_0] at v2
              exact v2
            rw [v1, Option.bind_some] at eC
            have eC : m_Rd_readWord g S c = (m_Rd_readLiteral_160 g S' (nI a) (-1)).bind (fun (S_10, v_11) => m_Rd_readWord_36 g S_10 v_11) := eC
            unfold m_Rd_readLiteral_160 at eC
            rw [if_pos rfl, Option.bind_some] at eC
            refine badS S' (eC.trans (if_pos rfl)) ((FRd.f17 fw).tr (FRd.f17 y4)) c2.rr (fun _ => ?_)
            rw [eM, v2, Option.bind_some]
            exact if_pos (Or.inl rfl)
        · have := z1 us b y1
          omega
      · rw [eL, y2, Option.bind_some] at eC
        refine badS S' (eC.trans (if_pos rfl)) ((FRd.f17 fw).tr (FRd.f17 y3)) (c1.f17 y3 y4).rr (fun h24 => ?_)
        rcases n3 with ⟨us, b, z1, z2, -⟩ | ⟨-, z⟩
        · have := y1 us b z1
          omega
        · rw [z] at h24
          exact absurd h24 (by decide)
end RDK
