/-! the STEPS: replace -/
section RPM
variable {g : Nat} {ts : List (List Int32)} {u q q2 q3 : Nat} {l lo lw : List Int32}
theorem stL_nil {i : Nat} (hi : i ≤ l.length) : stL [] l (i : Int) := ⟨by omega, by simp; omega, by unfold seg; simp⟩
theorem stL_lt {i : Nat} (h : stL lo l (i : Int)) : i + lo.length ≤ l.length := by
  have := h.2.1
  omega
theorem len0 {lo : List Int32} (h : lo ≠ []) : 0 < lo.length := by
  cases lo with
  | nil => exact absurd rfl h
  | cons a b => simp
theorem M_st {S : St} {i : Nat} (hg : 100000 ≤ g) (w : TXs S ts u) (hm : LM S) (h1 : ts[q2]? = some lo) (h2 : ts[q]? = some l) (hi : i < 2 ^ 31) : m_stands g S (nI q2) (nI q) (nI i).toInt64 = some (c01 (stL lo l (i : Int))) := by
  rw [M_stands hg w hm h1 h2, j64, nI_toInt hi]
theorem rpl68 {S2 : St} {x4 : Int32} {j n2 : Nat} (hg : 100000 ≤ g) (hM : TXs S2 ts u) (hm : LM S2) (l2 : ts[q]? = some l) (o2 : ts[q2]? = some lo) (hl : l.length ≤ 400) (hlo : lo.length ≤ 400) (hne : lo ≠ []) (hj : j ≤ l.length) : ∃ n', (n' = n2 ∨ n' = n2 + 1) ∧ m_replaces_68 g (m_replaces_19 g n2) S2 (nI q) (nI q2) (nI q3) x4 (nI j) = m_replaces_19 g n' S2 (nI q) (nI q2) (nI q3) x4 (nI j) := by
  have h0 := len0 hne
  by_cases h1 : l.length ≤ j
  · refine ⟨n2, Or.inl rfl, ?_⟩
    unfold m_replaces_68
    rw [(T_size hM hm l2).1, Option.bind_some, if_pos (nI_le h1 (by omega))]
  · by_cases h2 : stL lo l (j : Int)
    · refine ⟨n2, Or.inl rfl, ?_⟩
      unfold m_replaces_68
      rw [(T_size hM hm l2).1, Option.bind_some, if_neg (nI_ge (by omega) (by omega)), (T_size hM hm o2).1, Option.bind_some, if_neg (nI_ne0 h0 (by omega)), M_st hg hM hm o2 l2 (by omega), Option.bind_some, c01_t h2, if_neg (by decide)]
    · refine ⟨n2 + 1, Or.inr rfl, ?_⟩
      show _ = b_replaces_19 g (m_replaces_19 g n2) S2 (nI q) (nI q2) (nI q3) x4 (nI j)
      unfold b_replaces_19
      rw [(T_size hM hm l2).1, Option.bind_some, if_neg (nI_ge (by omega) (by omega)), M_st hg hM hm o2 l2 (by omega), Option.bind_some, c01_f h2, if_pos rfl]
/-- one turn of the reference before the end: not found here -/
theorem rplM_n {S2 : St} {x4 : Int32} {i n2 : Nat} (hg : 100000 ≤ g) (hM : TXs S2 ts u) (hm : LM S2) (l2 : ts[q]? = some l) (o2 : ts[q2]? = some lo) (hl : l.length ≤ 400) (hlo : lo.length ≤ 400) (hi : i < l.length) (hs : ¬ stL lo l (i : Int)) : m_replaces_19 g (n2 + 1) S2 (nI q) (nI q2) (nI q3) x4 (nI i) = ((m_emit g S2 (l.getD i 0)).bind fun S_12 => m_replaces_19 g n2 S_12 (nI q) (nI q2) (nI q3) x4 (nI (i + 1))) := by
  have hne : lo ≠ [] := by
    rintro rfl
    exact hs (stL_nil (by omega))
  show b_replaces_19 g (m_replaces_19 g n2) S2 (nI q) (nI q2) (nI q3) x4 (nI i) = _
  unfold b_replaces_19
  rw [(T_size hM hm l2).1, Option.bind_some, if_neg (nI_ge (by omega) (by omega)), M_st hg hM hm o2 l2 (by omega), Option.bind_some, c01_f hs, if_pos rfl]
  unfold m_replaces_68
  rw [(T_size hM hm l2).1, Option.bind_some, if_neg (nI_ge (by omega) (by omega)), (T_size hM hm o2).1, Option.bind_some, if_neg (nI_ne0 (len0 hne) (by omega)), M_st hg hM hm o2 l2 (by omega), Option.bind_some, c01_f hs, if_pos rfl]
  unfold m_replaces_100
  rw [T_unit hM hm l2 hi, Option.bind_some, nI_1]
  rfl
/-- found here -/
theorem rplM_y {S2 : St} {x4 : Int32} {i n2 : Nat} (hg : 100000 ≤ g) (hM : TXs S2 ts u) (hm : LM S2) (l2 : ts[q]? = some l) (o2 : ts[q2]? = some lo) (w2 : ts[q3]? = some lw) (hl : l.length ≤ 400) (hlo : lo.length ≤ 400) (hi : i < l.length) (hs : stL lo l (i : Int)) {v : List Int32} (o : Out S2 v) (hv : v.length + lw.length < 2 ^ 31) : ∃ T3, FE S2 T3 ∧ Out T3 (v ++ lw) ∧ m_replaces_19 g (n2 + 1) S2 (nI q) (nI q2) (nI q3) x4 (nI i) = m_replaces_68 g (m_replaces_19 g n2) T3 (nI q) (nI q2) (nI q3) 0 (nI (i + lo.length)) := by
  obtain ⟨T3, a1, a2, a3⟩ := O_text (g := g) (t := q3) (a := 0) (b := lw.length) hg hM hm w2 (by omega) (by omega) o (by omega)
  rw [Nat.sub_zero, seg_all] at a3
  refine ⟨T3, a2, a3, ?_⟩
  show b_replaces_19 g (m_replaces_19 g n2) S2 (nI q) (nI q2) (nI q3) x4 (nI i) = _
  unfold b_replaces_19
  rw [(T_size hM hm l2).1, Option.bind_some, if_neg (nI_ge (by omega) (by omega)), M_st hg hM hm o2 l2 (by omega), Option.bind_some, c01_t hs, if_neg (by decide), (T_size hM hm w2).1, Option.bind_some, show m_emitText g S2 (nI q3) 0 (nI lw.length) = some T3 from a1, Option.bind_some, (T_size (hM.fe a2) (hm.fe a2) o2).1, Option.bind_some, lt_d, nI_add]
/-- at the end -/
theorem rplM_e {S2 : St} {sm : Prop} {n2 : Nat} (hg : 100000 ≤ g) (hM : TXs S2 ts u) (hm : LM S2) (l2 : ts[q]? = some l) (o2 : ts[q2]? = some lo) (w2 : ts[q3]? = some lw) (hl : l.length ≤ 400) (hlo : lo.length ≤ 400) {v : List Int32} (o : Out S2 v) (hv : v.length + lw.length < 2 ^ 31) : ∃ T3, FE S2 T3 ∧ Out T3 (v ++ (if lo = [] then lw else [])) ∧ m_replaces_19 g (n2 + 1) S2 (nI q) (nI q2) (nI q3) (c01 sm) (nI l.length) = some (T3, c01 sm) := by
  by_cases he : lo = []
  · subst he
    obtain ⟨T3, a1, a2, a3⟩ := O_text (g := g) (t := q3) (a := 0) (b := lw.length) hg hM hm w2 (by omega) (by omega) o (by omega)
    rw [Nat.sub_zero, seg_all] at a3
    refine ⟨T3, a2, by rw [if_pos rfl]; exact a3, ?_⟩
    show b_replaces_19 g (m_replaces_19 g n2) S2 (nI q) (nI q2) (nI q3) _ _ = _
    unfold b_replaces_19
    rw [(T_size hM hm l2).1, Option.bind_some, if_pos (nI_le (by omega) (by omega)), (T_size hM hm o2).1, Option.bind_some, if_pos (show nI ([] : List Int32).length = 0 from rfl), (T_size hM hm w2).1, Option.bind_some, show m_emitText g S2 (nI q3) 0 (nI lw.length) = some T3 from a1, Option.bind_some, if_pos c01_z]
  · refine ⟨S2, FE.rf, by rw [if_neg he, List.append_nil]; exact o, ?_⟩
    show b_replaces_19 g (m_replaces_19 g n2) S2 (nI q) (nI q2) (nI q3) _ _ = _
    unfold b_replaces_19
    rw [(T_size hM hm l2).1, Option.bind_some, if_pos (nI_le (by omega) (by omega)), (T_size hM hm o2).1, Option.bind_some, if_neg (nI_ne0 (len0 he) (by omega)), if_pos c01_z]
/-- nothing is sought: a turn -/
theorem rplM_0 {S2 : St} {x4 : Int32} {i n2 : Nat} (hM : TXs S2 ts u) (hm : LM S2) (l2 : ts[q]? = some l) (o2 : ts[q2]? = some []) (hl : l.length ≤ 400) (hi : i < l.length) : m_replaces_68 g (m_replaces_19 g n2) S2 (nI q) (nI q2) (nI q3) x4 (nI i) = ((m_emit g S2 (l.getD i 0)).bind fun S_12 => m_replaces_19 g n2 S_12 (nI q) (nI q2) (nI q3) x4 (nI (i + 1))) := by
  unfold m_replaces_68
  rw [(T_size hM hm l2).1, Option.bind_some, if_neg (nI_ge (by omega) (by omega)), (T_size hM hm o2).1, Option.bind_some, if_pos (show nI ([] : List Int32).length = 0 from rfl)]
  unfold m_replaces_100
  rw [T_unit hM hm l2 hi, Option.bind_some, nI_1]
  rfl
theorem rplM_l (hg : 100000 ≤ g) (l2 : ts[q]? = some l) (o2 : ts[q2]? = some lo) (w2 : ts[q3]? = some lw) (hl : l.length ≤ 400) (hlo : lo.length ≤ 400) (hlw : lw.length ≤ 400) : ∀ (k n i : Nat) (S2 : St) (v : List Int32), i + k = l.length → k < n → TXs S2 ts u → LM S2 → Out S2 v → v.length + 500 * k + 500 < 1000000 → ∃ T' v', m_replaces_19 g n S2 (nI q) (nI q2) (nI q3) (c01 False) (nI i) = some (T', c01 False) ∧ FE S2 T' ∧ Out T' v' ∧ v.length ≤ v'.length ∧ v'.length < 1000000 := by
  intro k
  induction k using Nat.strongRecOn with
  | ind k ih =>
    intro n i S2 v hi hn hM hm o hv
    obtain ⟨n, rfl⟩ : ∃ m, n = m + 1 := ⟨n - 1, by omega⟩
    by_cases hk : k = 0
    · have hi : i = l.length := by omega
      subst hi
      obtain ⟨T3, a1, a2, a3⟩ := rplM_e (n2 := n) (sm := False) hg hM hm l2 o2 w2 hl hlo o (by omega)
      refine ⟨T3, _, a3, a1, a2, by rw [List.length_append]; omega, ?_⟩
      rw [List.length_append]
      split
      · omega
      · simp; omega
    · by_cases hs : stL lo l (i : Int)
      · obtain ⟨T3, a1, a2, a3⟩ := rplM_y (x4 := c01 False) (n2 := n) hg hM hm l2 o2 w2 hl hlo (show i < l.length by omega) hs o (by omega)
        by_cases he : lo = []
        · subst he
          rw [show i + ([] : List Int32).length = i from rfl, rplM_0 (hM.fe a1) (hm.fe a1) l2 o2 hl (by omega)] at a3
          obtain ⟨T4, b1, b2, b3⟩ := O_add (g := g) (u := l.getD i 0) a2 (hm.fe a1) (by rw [List.length_append]; omega)
          rw [b1, Option.bind_some, show (0 : Int32) = c01 False from (c01_f id).symm] at a3
          have hlen : (v ++ lw ++ [l.getD i 0]).length = v.length + lw.length + 1 := by rw [List.length_append, List.length_append, List.length_singleton]
          obtain ⟨T', v', c1, c2, c3, c4, c5⟩ := ih (k - 1) (by omega) n (i + 1) T4 _ (by omega) (by omega) ((hM.fe a1).fe b2) ((hm.fe a1).fe b2) b3 (by omega)
          exact ⟨T', v', a3.trans c1, (a1.tr b2).tr c2, c3, by omega, c5⟩
        · have hb := stL_lt hs
          have h0 := len0 he
          obtain ⟨n', hn', b1⟩ := rpl68 (q3 := q3) (x4 := 0) (n2 := n) hg (hM.fe a1) (hm.fe a1) l2 o2 hl hlo he hb
          have hlen : (v ++ lw).length = v.length + lw.length := List.length_append
          obtain ⟨T', v', c1, c2, c3, c4, c5⟩ := ih (k - lo.length) (by omega) n' (i + lo.length) T3 _ (by omega) (by omega) (hM.fe a1) (hm.fe a1) a2 (by omega)
          rw [b1, show (0 : Int32) = c01 False from (c01_f id).symm] at a3
          exact ⟨T', v', a3.trans c1, a1.tr c2, c3, by omega, c5⟩
      · obtain ⟨T4, b1, b2, b3⟩ := O_add (g := g) (u := l.getD i 0) o hm (by omega)
        have hlen : (v ++ [l.getD i 0]).length = v.length + 1 := by rw [List.length_append, List.length_singleton]
        obtain ⟨T', v', c1, c2, c3, c4, c5⟩ := ih (k - 1) (by omega) n (i + 1) T4 _ (by omega) (by omega) (hM.fe b2) (hm.fe b2) b3 (by omega)
        refine ⟨T', v', ?_, b2.tr c2, c3, by omega, c5⟩
        rw [rplM_n hg hM hm l2 o2 hl hlo (by omega) hs, b1, Option.bind_some, c1]
end RPM
section RPC
variable {g : Nat} {cs ts : List (List Int32)} {u p p2 p3 q q2 q3 : Nat} {l lo lw : List Int32}
/-- the class goes over what it has found -/
theorem rplC_k {S : St} {x6 : Int32} {x7 : Nat} (hl : l.length ≤ 400) (hx : x7 ≤ l.length) (h0 : gI S 23 3 = 0) {P1 P2 P3 P4 : Int32} : ∀ (d n j : Nat), j + d = x7 → d < n → m_TS_replace_47 g n S P1 P2 P3 P4 (nI l.length) x6 (nI x7) (nI j) = m_TS_replace_47 g (n - d) S P1 P2 P3 P4 (nI l.length) x6 (nI x7) (nI x7) := by
  intro d
  induction d with
  | zero =>
    intro n j hj hn
    have hj : j = x7 := by omega
    subst hj
    rfl
  | succ d ih =>
    intro n j hj hn
    obtain ⟨n, rfl⟩ : ∃ m, n = m + 1 := ⟨n - 1, by omega⟩
    rw [show n + 1 - (d + 1) = n - d by omega, ← ih n (j + 1) (by omega) (by omega)]
    show b_TS_replace_47 g (m_TS_replace_47 g n) S P1 P2 P3 P4 _ _ _ _ = _
    unfold b_TS_replace_47
    rw [if_neg (nI_nlt (by omega) (by omega)), if_pos h0, if_pos (nI_lt (by omega) (by omega))]
    unfold m_TS_replace_103 m_TS_replace_134
    rw [if_pos (nI_lt (by omega) (by omega)), lt_d, nI_1]
theorem rplC_o {S : St} {x6 x7 : Int32} {j n : Nat} (hl : l.length ≤ 400) (hj : j ≤ l.length) (h0 : ¬ gI S 23 3 = 0) {P1 P2 P3 P4 : Int32} : m_TS_replace_47 g (n + 1) S P1 P2 P3 P4 (nI l.length) x6 x7 (nI j) = m_TS_become g S P1 x6 := by
  show b_TS_replace_47 g (m_TS_replace_47 g n) S P1 P2 P3 P4 _ _ _ _ = _
  unfold b_TS_replace_47
  rw [if_neg (nI_nlt (by omega) (by omega)), if_neg h0]
  unfold m_TS_replace_140 m_TS_replace_147
  rw [bS2]
theorem rplC_e {S : St} {x6 x7 : Int32} {n : Nat} (hl : l.length ≤ 400) {P1 P2 P3 P4 : Int32} : m_TS_replace_47 g (n + 1) S P1 P2 P3 P4 (nI l.length) x6 x7 (nI (l.length + 1)) = m_TS_become g S P1 x6 := by
  show b_TS_replace_47 g (m_TS_replace_47 g n) S P1 P2 P3 P4 _ _ _ _ = _
  unfold b_TS_replace_47
  rw [if_pos (nI_lt (by omega) (by omega))]
  unfold m_TS_replace_140 m_TS_replace_147
  rw [bS2]
theorem Scr.ex {S : St} {v v' : List Int32} (w : Scr S 23 v) (h : 400 < v.length) (h' : 400 < v'.length) : Scr S 23 v' := by
  have h400 : limC 23 = 400 := by decide +kernel
  rcases w with ⟨w1, -⟩ | ⟨-, w⟩
  · omega
  · exact Or.inr ⟨by omega, w⟩
theorem rpl_l (hg : 100000 ≤ g) (l1 : cs[p]? = some l) (o1 : cs[p2]? = some lo) (w1 : cs[p3]? = some lw) (l2 : ts[q]? = some l) (o2 : ts[q2]? = some lo) (w2 : ts[q3]? = some lw) (hl : l.length ≤ 400) (hlo : lo.length ≤ 400) (hlw : lw.length ≤ 400) (ul : usL l) (uw : usL lw) : ∀ (k n1 n2 i : Nat) (S S2 : St) (v : List Int32) (smc smr : Prop) (x7 : Nat), i + k = l.length → k + 1 < n1 → k < n2 → x7 ≤ i → TXc S cs → gOK S → TXs S2 ts u → LM S2 → Scr S 23 v → Out S2 v → v.length + 500 * k + 500 < 1000000 → usL v → (lo ≠ [] → (smc ↔ smr)) → (lo = [] → ¬ smr) → (smc → v.length ≤ i) → ∃ S' T' v' sm', m_TS_replace_47 g n1 S (nI p) (nI p2) (nI p3) (nI lo.length) (nI l.length) (c01 (¬ smc)) (nI x7) (nI i) = m_TS_become g S' (nI p) (c01 (¬ sm')) ∧ m_replaces_19 g n2 S2 (nI q) (nI q2) (nI q3) (c01 smr) (nI i) = some (T', c01 sm') ∧ Fr 23 S S' ∧ FE S2 T' ∧ Scr S' 23 v' ∧ Out T' v' ∧ v'.length < 1000000 ∧ (v'.length ≤ 400 → usL v') := by
  intro k
  induction k using Nat.strongRecOn with
  | ind k ih =>
    intro n1 n2 i S S2 v smc smr x7 hi h1 h2 h7 hT hk hM hm w o hv hu e1 e2 e3
    have b := C_bounds hT l1
    obtain ⟨n1, rfl⟩ : ∃ m, n1 = m + 1 := ⟨n1 - 1, by omega⟩
    obtain ⟨n2, rfl⟩ : ∃ m, n2 = m + 1 := ⟨n2 - 1, by omega⟩
    rcases Nat.lt_or_ge 400 v.length with hov | hov
    · have n1' : ¬ smc := fun z => by have := e3 z; omega
      have n2' : ¬ smr := fun z => by
        by_cases he : lo = []
        · exact e2 he z
        · exact n1' ((e1 he).mpr z)
      obtain ⟨T', v', c1, c2, c3, c4, c5⟩ := rplM_l hg l2 o2 w2 hl hlo hlw k (n2 + 1) i S2 v hi (by omega) hM hm o hv
      refine ⟨S, T', v', False, ?_, ?_, Fr.rf, c2, w.ex (by omega) (by omega), c3, c5, fun z => by omega⟩
      · rw [rplC_o hl (by omega) (w.ov1 (by omega)), c01_t n1', c01_t (id : ¬ False)]
      · rw [c01_f n2']
        rw [c01_f (id : ¬ False)] at c1
        rw [c1, c01_f (id : ¬ False)]
    have eC : ∀ x6, m_TS_replace_47 g (n1 + 1) S (nI p) (nI p2) (nI p3) (nI lo.length) (nI l.length) x6 (nI x7) (nI i) = if c01 (stL lo l (i : Int)) = 0 then m_TS_replace_103 g (m_TS_replace_47 g n1) S (nI p) (nI p2) (nI p3) (nI lo.length) (nI l.length) x6 (nI x7) (nI i) else ((m_Bn_addText g S (nI p3)).bind fun S_6 => m_TS_replace_93 g (m_TS_replace_47 g n1) S_6 (nI p) (nI p2) (nI p3) (nI lo.length) (nI l.length) (nI i)) := by
      intro x6
      show b_TS_replace_47 g (m_TS_replace_47 g n1) S (nI p) (nI p2) (nI p3) _ _ _ _ _ = _
      unfold b_TS_replace_47
      rw [if_neg (nI_nlt (by omega) (by omega)), if_pos (w.ov0 hov), if_neg (nI_nlt (by omega) (by omega)), C_stands hg hT o1 l1, Option.bind_some, nI_toInt (by omega)]
    by_cases hs : stL lo l (i : Int)
    · obtain ⟨S3, a1, a2, a3⟩ := C_addTextS (g := g) hT w hk w1
      have hlen : (v ++ lw).length = v.length + lw.length := List.length_append
      have uvw := usL_app hu uw
      have e93 : m_TS_replace_47 g (n1 + 1) S (nI p) (nI p2) (nI p3) (nI lo.length) (nI l.length) (c01 (¬ smc)) (nI x7) (nI i) = m_TS_replace_103 g (m_TS_replace_47 g n1) S3 (nI p) (nI p2) (nI p3) (nI lo.length) (nI l.length) 1 (nI (i + lo.length)) (nI i) := by
        rw [eC, c01_t hs, if_neg (by decide), a1, Option.bind_some]
        unfold m_TS_replace_93
        rw [lt_d, nI_add]
      by_cases he : lo = []
      · subst he
        rw [show i + ([] : List Int32).length = i from rfl] at e93
        unfold m_TS_replace_103 m_TS_replace_134 at e93
        rw [if_neg (nI_nlt (by omega) (by omega))] at e93
        by_cases hk0 : k = 0
        · have hi : i = l.length := by omega
          subst hi
          obtain ⟨n1, rfl⟩ : ∃ m, n1 = m + 1 := ⟨n1 - 1, by omega⟩
          obtain ⟨T3, b1, b2, b3⟩ := rplM_e (n2 := n2) (sm := smr) hg hM hm l2 o2 w2 hl hlo o (by omega)
          rw [if_pos rfl] at b2
          rw [if_pos (nI_le (by omega) (by omega)), lt_d, nI_1, rplC_e hl] at e93
          refine ⟨S3, T3, v ++ lw, False, ?_, ?_, a2, b1, a3, b2, by omega, fun _ => uvw⟩
          · rw [e93, c01_t (id : ¬ False)]
          · rw [b3, c01_f (e2 rfl), c01_f (id : ¬ False)]
        · rw [if_neg (nI_ge (by omega) (by omega)), C_unit (hT.fr23 a2) l1, Option.bind_some, atR_nI (by omega), getD_d (by omega)] at e93
          obtain ⟨S4, c1, c2, c3⟩ := Scr_add (g := g) (u := l.getD i 0) a3 (hk.fr a2)
          rw [c1, Option.bind_some, lt_d, nI_1] at e93
          obtain ⟨T3, b1, b2, b3⟩ := rplM_y (x4 := c01 smr) (n2 := n2) hg hM hm l2 o2 w2 hl hlo (show i < l.length by omega) hs o (by omega)
          rw [show i + ([] : List Int32).length = i from rfl, rplM_0 (hM.fe b1) (hm.fe b1) l2 o2 hl (by omega)] at b3
          obtain ⟨T4, d1, d2, d3⟩ := O_add (g := g) (u := l.getD i 0) b2 (hm.fe b1) (by omega)
          rw [d1, Option.bind_some] at b3
          have hlen2 : (v ++ lw ++ [l.getD i 0]).length = v.length + lw.length + 1 := by rw [List.length_append, List.length_singleton, hlen]
          obtain ⟨S', T', v', sm', f1, f2, f3, f4, f5⟩ := ih (k - 1) (by omega) n1 n2 (i + 1) S4 T4 (v ++ lw ++ [l.getD i 0]) False False i (by omega) (by omega) (by omega) (by omega) ((hT.fr23 a2).fr23 c2) ((hk.fr a2).fr c2) ((hM.fe b1).fe d2) ((hm.fe b1).fe d2) c3 d3 (by omega) (usL_1 uvw (ul i (by omega))) (fun _ => Iff.rfl) (fun _ => id) (fun z => z.elim)
          refine ⟨S', T', v', sm', ?_, ?_, (a2.tr c2).tr f3, (b1.tr d2).tr f4, f5⟩
          · rw [e93, ← f1, c01_t (id : ¬ False)]
          · rw [b3, ← f2, c01_f (id : ¬ False)]
      · have h0 := len0 he
        have hb := stL_lt hs
        unfold m_TS_replace_103 m_TS_replace_134 at e93
        rw [if_pos (nI_lt (by omega) (by omega)), lt_d, nI_1] at e93
        obtain ⟨T3, b1, b2, b3⟩ := rplM_y (x4 := c01 smr) (n2 := n2) hg hM hm l2 o2 w2 hl hlo (show i < l.length by omega) hs o (by omega)
        obtain ⟨n', hn', b4⟩ := rpl68 (q3 := q3) (x4 := 0) (n2 := n2) hg (hM.fe b1) (hm.fe b1) l2 o2 hl hlo he hb
        rw [b4] at b3
        by_cases hov2 : (v ++ lw).length ≤ 400
        · obtain ⟨S', T', v', sm', f1, f2, f3, f4, f5⟩ := ih (k - lo.length) (by omega) (n1 - (lo.length - 1)) n' (i + lo.length) S3 T3 (v ++ lw) False False (i + lo.length) (by omega) (by omega) (by omega) (by omega) (hT.fr23 a2) (hk.fr a2) (hM.fe b1) (hm.fe b1) a3 b2 (by omega) uvw (fun _ => Iff.rfl) (fun z => absurd z he) (fun z => z.elim)
          refine ⟨S', T', v', sm', ?_, ?_, a2.tr f3, b1.tr f4, f5⟩
          · rw [e93, rplC_k hl hb (a3.ov0 hov2) (lo.length - 1) n1 (i + 1) (by omega) (by omega), ← f1, c01_t (id : ¬ False)]
          · rw [b3, ← f2, c01_f (id : ¬ False)]
        · obtain ⟨T', v', c1, c2, c3, c4, c5⟩ := rplM_l hg l2 o2 w2 hl hlo hlw (k - lo.length) n' (i + lo.length) T3 (v ++ lw) (by omega) (by omega) (hM.fe b1) (hm.fe b1) b2 (by omega)
          obtain ⟨n1, rfl⟩ : ∃ m, n1 = m + 1 := ⟨n1 - 1, by omega⟩
          refine ⟨S3, T', v', False, ?_, ?_, a2, b1.tr c2, a3.ex (by omega) (by omega), c3, c5, fun z => by omega⟩
          · rw [e93, rplC_o hl (by omega) (a3.ov1 (by omega)), c01_t (id : ¬ False)]
          · rw [b3, ← c1, c01_f (id : ¬ False)]
    · have he : lo ≠ [] := by
        rintro rfl
        exact hs (stL_nil (by omega))
      have e4 := eC (c01 (¬ smc))
      rw [c01_f hs, if_pos rfl] at e4
      unfold m_TS_replace_103 m_TS_replace_134 at e4
      rw [if_neg (nI_nlt (by omega) (by omega))] at e4
      by_cases hk0 : k = 0
      · have hi : i = l.length := by omega
        subst hi
        obtain ⟨n1, rfl⟩ : ∃ m, n1 = m + 1 := ⟨n1 - 1, by omega⟩
        obtain ⟨T3, b1, b2, b3⟩ := rplM_e (n2 := n2) (sm := smr) hg hM hm l2 o2 w2 hl hlo o (by omega)
        rw [if_neg he, List.append_nil] at b2
        rw [if_pos (nI_le (by omega) (by omega)), lt_d, nI_1, rplC_e hl] at e4
        refine ⟨S, T3, v, smc, e4, ?_, Fr.rf, b1, w, b2, by omega, fun _ => hu⟩
        rw [b3, c01_iff (e1 he)]
      · rw [if_neg (nI_ge (by omega) (by omega)), C_unit hT l1, Option.bind_some, atR_nI (by omega), getD_d (by omega)] at e4
        obtain ⟨S4, c1, c2, c3⟩ := Scr_add (g := g) (u := l.getD i 0) w hk
        rw [c1, Option.bind_some, lt_d, nI_1] at e4
        obtain ⟨T4, d1, d2, d3⟩ := O_add (g := g) (u := l.getD i 0) o hm (by omega)
        have hlen2 : (v ++ [l.getD i 0]).length = v.length + 1 := by rw [List.length_append, List.length_singleton]
        obtain ⟨S', T', v', sm', f1, f2, f3, f4, f5⟩ := ih (k - 1) (by omega) n1 n2 (i + 1) S4 T4 (v ++ [l.getD i 0]) smc smr x7 (by omega) (by omega) (by omega) (by omega) (hT.fr23 c2) (hk.fr c2) (hM.fe d2) (hm.fe d2) c3 d3 (by omega) (usL_1 hu (ul i (by omega))) e1 e2 (fun z => by have := e3 z; omega)
        refine ⟨S', T', v', sm', ?_, ?_, c2.tr f3, d2.tr f4, f5⟩
        · rw [e4, ← f1]
        · rw [rplM_n hg hM hm l2 o2 hl hlo (by omega) hs, d1, Option.bind_some, f2]
end RPC
/-- the reference, a text lacks if b -/
noncomputable def st4 (S : St) (b : Prop) : St := @ite _ b (Classical.propDecidable b) (sI S 0 58 4) S
theorem st4_t {S : St} {b : Prop} (h : b) : st4 S b = sI S 0 58 4 := by unfold st4; rw [if_pos h]
theorem st4_f {S : St} {b : Prop} (h : ¬ b) : st4 S b = S := by unfold st4; rw [if_neg h]
theorem st4_F {S : St} {b : Prop} : F0M S (st4 S b) := by
  by_cases h : b
  · rw [st4_t h]; exact F0M_sI (Or.inr (Or.inl rfl))
  · rw [st4_f h]; exact F0M.rf
theorem M_tX {g : Nat} {S : St} {b : Prop} {x y : Int32} (h0 : gI S 0 58 = 0) (e : m_text g (st4 S b) x = some y) (t : y = -1 ∨ ∃ q, q < 2 ^ 31 ∧ y = nI q) : ∃ v, m_textAt g (st4 S b) x = some (st4 S (b ∨ y = -1), v) ∧ (¬ y = -1 → v = y) := by
  rcases t with rfl | ⟨q, hq, rfl⟩
  · refine ⟨0, ?_, fun z => absurd rfl z⟩
    rw [st4_t (Or.inr rfl : b ∨ (-1 : Int32) = -1)]
    by_cases h : b
    · rw [st4_t h] at e ⊢
      exact M_tAt0n e (by rw [sI_58]; decide)
    · rw [st4_f h] at e ⊢
      exact M_tAt0 e h0
  · refine ⟨nI q, ?_, fun _ => rfl⟩
    have hn := m1_ne hq
    by_cases h : b
    · rw [st4_t (Or.inl h : b ∨ nI q = -1)]
      rw [st4_t h] at e ⊢
      exact M_tAt e hq
    · rw [st4_f (fun z => z.elim h hn : ¬ (b ∨ nI q = -1))]
      rw [st4_f h] at e ⊢
      exact M_tAt e hq
/-- a T's text is the same where only the Rows 23, 30, 31 have changed -/
theorem tA_F0 {U : Nat → Prop} {g : Nat} {S S1 S2 : St} {ws : List Wd} {a : Nat} {φ : Nat → Option Nat} {cs ts : List (List Int32)} {u : Nat} {pl pm ps qs : List Nat} {j : Nat} {w : Wd} {ch x : Int32} (r : RS U S S2 φ cs ts u pl pm ps qs) (c : CurC S ws) (cm : CurM S2 a ws) (hw : ws[j]? = some w) (h : okL U ch w) (hc : ch = 84 ∨ ch = 116) (e : m_Bn_textAt g S (nI j) = some x) (fc : F0C S S1) (hx : XR S1) : m_Bn_textAt g S1 (nI j) = some x := by
  obtain ⟨x0, y0, a1, a2, a3, -⟩ := getT (g := g) r c cm hw h hc
  obtain ⟨x1, y1, b1, b2, b3, -⟩ := getT (g := g) (RS_0 r fc hx F0M.rf) (c.fc (FC.f0 fc)) cm hw h hc
  have hy : y0 = y1 := Option.some.inj ((a2 _ F0M.rf).symm.trans (b2 _ F0M.rf))
  subst hy
  have hx0 : x0 = x := Option.some.inj (a1.symm.trans e)
  rw [b1, ← hx0, tRel_inj r.2.2.2.1.2.2.2.1 a3 b3]
/-- three T are asked, at 1, 2 and 3 -/
theorem lacks3 {g s : Nat} {S : St} {ws : List Wd} {x y z : Int32} (hg : 100000 ≤ g) (c : CurC S ws) (hj : ws.length = 4) (h0 : ¬ lett s (nI 0) = 84) (hT : lett s (nI 1) = 84) (hT2 : lett s (nI 2) = 84) (hT3 : lett s (nI 3) = 84) (hx : m_Bn_textAt g S (nI 1) = some x) (hy : m_Bn_textAt g S (nI 2) = some y) (hz : m_Bn_textAt g S (nI 3) = some z) : m_Bn_lacksText g S s = some (S, c01 ((x = -1 ∨ y = -1) ∨ z = -1)) := by
  have cases4 : ∀ j, j < 4 → j = 0 ∨ j = 1 ∨ j = 2 ∨ j = 3 := by omega
  rw [lacks hg c (fun j w hw hTj => by
    have hj4 : j < 4 := by have := (List.getElem?_eq_some_iff.mp hw).1; omega
    rcases cases4 j hj4 with rfl | rfl | rfl | rfl
    · exact absurd hTj h0
    · exact ⟨x, hx⟩
    · exact ⟨y, hy⟩
    · exact ⟨z, hz⟩)]
  refine congrArg (fun z => some (S, z)) (c01_iff ⟨?_, ?_⟩)
  · rintro ⟨j, q1, q2, q3⟩
    rcases cases4 j (by omega) with rfl | rfl | rfl | rfl
    · exact absurd q2 h0
    · rw [hx] at q3; exact Or.inl (Or.inl (Option.some.inj q3))
    · rw [hy] at q3; exact Or.inl (Or.inr (Option.some.inj q3))
    · rw [hz] at q3; exact Or.inr (Option.some.inj q3)
  · rintro ((q | q) | q)
    · exact ⟨1, by omega, hT, by rw [hx, q]⟩
    · exact ⟨2, by omega, hT2, by rw [hy, q]⟩
    · exact ⟨3, by omega, hT3, by rw [hz, q]⟩
theorem St21 : StOK 21 := by
  intro g U k S S2 ws a hg hk hR c cm hW h0
  obtain ⟨φ, cs, ts, u, pl, pm, ps, qs, r, bd⟩ := hR
  obtain ⟨q1, q2, qq⟩ := hW
  have q1 : 4 ≤ ws.length := q1
  have q2 : ws.length ≤ 4 := q2
  obtain ⟨w0, w1, w2, w3, rfl⟩ := ls4 (show ws.length = 4 by omega)
  change ∃ S' S2' kd, doC g S 21 = some (S', nI kd) ∧ m_does g S2 (nI 21) (nI a) (nI 4) = some S2' ∧ gI S2' 0 58 = nI kd ∧ kd ≤ 5 ∧ RSx U (k + 1) S' S2' ∧ FC S S' ∧ FS S2 S2'
  have hl := r.2.1
  have hm := r.2.2.1
  have hT := r.2.2.2.1
  have hx := r.2.2.2.2.2.2.2.2.2.2.2.2.2
  have f1 : F0M S2 (sI S2 0 57 0) := F0M_sI (Or.inl rfl)
  have f2 : F0M S2 (sI (sI S2 0 57 0) 0 58 4) := f1.tr (F0M_sI (Or.inr (Or.inl rfl)))
  have f3 : F0M S2 (sI (sI S2 0 57 0) 0 58 1) := f1.tr (F0M_sI (Or.inr (Or.inl rfl)))
  have h0' : gI (sI S2 0 57 0) 0 58 = 0 := by rw [gI_ne (by decide)]; exact h0
  have cm' := cm.fs (FS.f0 f1)
  have hm' := hm.fs (FS.f0 f1)
  have T2 := hT.2.1.f0 f1
  obtain ⟨-, n, hn, hv⟩ := okL_v (show okL U 118 w0 from qq 0 w0 rfl)
  obtain ⟨x, y, e1, e2, e3, e4⟩ := getT (g := g) (j := 1) (w := w1) r c cm rfl (show okL U 84 w1 from qq 1 w1 rfl) (by decide)
  obtain ⟨x2, y2, e12, e22, e32, e42⟩ := getT (g := g) (j := 2) (w := w2) r c cm rfl (show okL U 84 w2 from qq 2 w2 rfl) (by decide)
  obtain ⟨x3, y3, e13, e23, e33, e43⟩ := getT (g := g) (j := 3) (w := w3) r c cm rfl (show okL U 84 w3 from qq 3 w3 rfl) (by decide)
  have hlk := lacks3 (s := 21) hg c rfl (by decide +kernel) (by decide +kernel) (by decide +kernel) (by decide +kernel) e1 e12 e13
  have hx4 : x = -1 ↔ y = -1 := e4.eq1
  have hx42 : x2 = -1 ↔ y2 = -1 := e42.eq1
  have hx43 : x3 = -1 ↔ y3 = -1 := e43.eq1
  obtain ⟨v1, t1, t1'⟩ := M_tX (b := False) h0' (e2 _ (f1.tr st4_F)) e4.nn
  obtain ⟨v2, t2, t2'⟩ := M_tX (b := False ∨ y = -1) h0' (e22 _ (f1.tr st4_F)) e42.nn
  obtain ⟨v3, t3, t3'⟩ := M_tX (b := (False ∨ y = -1) ∨ y2 = -1) h0' (e23 _ (f1.tr st4_F)) e43.nn
  have hM : m_does g S2 (nI 21) (nI a) (nI 4) = m_changes_44 g (st4 (sI S2 0 57 0) (((False ∨ y = -1) ∨ y2 = -1) ∨ y3 = -1)) (nI 21) (nI a) v1 v2 v3 := by
    rw [dM_21]
    unfold m_does_68
    rw [st4_f (id : ¬ False)] at t1
    rw [dM2_21 t1, show (2 : Int32) = nI 2 from rfl, t2, Option.bind_some]
    dsimp only
    unfold m_changes_25
    rw [if_pos (by decide +kernel), show (3 : Int32) = nI 3 from rfl, t3, Option.bind_some]
    dsimp only
    rw [bS]
  unfold m_changes_44 at hM
  by_cases hn3 : (x = -1 ∨ x2 = -1) ∨ x3 = -1
  · rw [c01_t hn3] at hlk
    have hb : ((False ∨ y = -1) ∨ y2 = -1) ∨ y3 = -1 := by
      rw [hx4, hx42, hx43] at hn3
      rcases hn3 with (h | h) | h
      · exact Or.inl (Or.inl (Or.inr h))
      · exact Or.inl (Or.inr h)
      · exact Or.inr h
    refine ⟨S, sI (sI S2 0 57 0) 0 58 4, 4, doC_no hlk, ?_, fin_no r bd F0C.rf hx f2 sI_58 (by decide)⟩
    rw [hM, st4_t hb, if_neg (by rw [sI_58]; decide)]
  · rw [c01_f hn3] at hlk
    have hb : ¬ (((False ∨ y = -1) ∨ y2 = -1) ∨ y3 = -1) := by
      rw [hx4, hx42, hx43] at hn3
      rintro (((h | h) | h) | h)
      · exact h
      · exact hn3 (Or.inl (Or.inl h))
      · exact hn3 (Or.inl (Or.inr h))
      · exact hn3 (Or.inr h)
    rw [st4_f hb, if_pos h0', if_pos (by decide +kernel), if_neg (by decide +kernel), if_neg (by decide +kernel), if_pos (by decide +kernel)] at hM
    have j1 : v1 = y := t1' (fun z => hb (Or.inl (Or.inl (Or.inr z))))
    have j2 : v2 = y2 := t2' (fun z => hb (Or.inl (Or.inr z)))
    have j3 : v3 = y3 := t3' (fun z => hb (Or.inr z))
    subst j1 j2 j3
    rcases e4 with ⟨rfl, rfl⟩ | ⟨p, q, l, rfl, rfl, hpq, hp, hq, l1, l2, l3, l4⟩
    · exact absurd (Or.inl (Or.inl rfl)) hn3
    rcases e42 with ⟨rfl, rfl⟩ | ⟨p2, q2, lo, rfl, rfl, hpq2, hp2, hq2, o1, o2, o3, o4⟩
    · exact absurd (Or.inl (Or.inr rfl)) hn3
    rcases e43 with ⟨rfl, rfl⟩ | ⟨p3, q3, lw, rfl, rfl, hpq3, hp3, hq3, z1, z2, z3, z4⟩
    · exact absurd (Or.inr rfl) hn3
    obtain ⟨S1, s1, s2, s3, s4⟩ := clr (g := g) hx
    have fc := F0C.fr s2 (Or.inl rfl)
    have rc := RS_0 r fc s4 f1
    have cS := c.fc (FC.f0 fc)
    have hlS := rc.2.1
    have hTc := rc.2.2.2.1
    have hWR : WR S1 (sI S2 0 57 0) := rc.2.2.2.2.2.2.2.2.1
    have b := C_bounds hTc.1 l1
    have hC : doC g S 21 = m_TS_replace g S1 (nI p) := by
      rw [doC_T hlk (by decide +kernel), dC_21 e1 s1]
      unfold m_TS_give_198
      rw [bS2]
    have a12 := tA_F0 (g := g) (j := 2) (w := w2) r c cm rfl (show okL U 84 w2 from qq 2 w2 rfl) (by decide) e12 fc s4
    have a13 := tA_F0 (g := g) (j := 3) (w := w3) r c cm rfl (show okL U 84 w3 from qq 3 w3 rfl) (by decide) e13 fc s4
    unfold m_TS_replace at hC
    rw [show (2 : Int32) = nI 2 from rfl, show (3 : Int32) = nI 3 from rfl, a12, Option.bind_some, a13, Option.bind_some, C_size hTc.1 o1, Option.bind_some, C_size hTc.1 l1, Option.bind_some] at hC
    obtain ⟨S3, T3, v, sm, a1, a2, a3, a4, a5, a6, a7, a8⟩ := rpl_l (g := g) hg l1 o1 z1 l2 o2 z2 l3 o3 z3 l4 z4 l.length g g 0 S1 (sI S2 0 57 0) [] True (lo ≠ []) 0 (by omega) (by omega) (by omega) (by omega) hTc.1 rc.1 T2 hm' (Scr.nil s3) Out_0 (by simp; omega) usL_nil (fun h => ⟨fun _ => h, fun _ => trivial⟩) (fun h q => q h) (fun _ => by simp)
    have fc3 := fc.tr (F0C.fr a3 (Or.inl rfl))
    have fm := f1.tr (F0M.fe a4)
    have h03 : gI T3 0 58 = 0 := (a4.1 58 (by decide)).trans h0'
    obtain ⟨S4, T4, kd, y1, y2, y3⟩ := fin_chg (same := sm) hg hk r bd c cm (w0 := w0) rfl hn hv fc3 (s4.scr a3 a5) fm h03 hpq hp hq (fun _ => ⟨a5, a6, by omega, a8⟩)
    rw [c01_f (fun z => z trivial)] at a1
    refine ⟨S4, T4, kd, ?_, ?_, y3⟩
    · rw [hC]
      exact a1.trans y1
    · rw [hM]
      unfold m_replaces
      rw [(T_size T2 hm' o2).1, Option.bind_some]
      by_cases he : lo = []
      · rw [c01_f (fun z => z he)] at a2
        rw [nI_0] at a2
        rw [if_pos (by rw [he]; decide), a2, Option.bind_some]
        exact y2
      · rw [c01_t he] at a2
        rw [nI_0] at a2
        rw [if_neg (nI_nle (len0 he) (by omega)), a2, Option.bind_some]
        exact y2
