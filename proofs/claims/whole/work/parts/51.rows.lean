/-! Rows as lists: insert, remove, search -/
def seg (l : List Int32) (s n : Nat) : List Int32 := (l.drop s).take n
theorem seg_len {l : List Int32} {s n : Nat} (h : s + n ≤ l.length) : (seg l s n).length = n := by
  unfold seg
  rw [List.length_take, List.length_drop]
  omega
theorem seg_get {l : List Int32} {s n j : Nat} {d : Int32} (h : j < n) : (seg l s n).getD j d = l.getD (s + j) d := by
  unfold seg
  simp [List.getElem?_take, h, List.getElem?_drop]
theorem seg_all {l : List Int32} : seg l 0 l.length = l := by simp [seg]
theorem ins_get {l m : List Int32} {p i : Nat} {d : Int32} (hp : p ≤ l.length) : (l.take p ++ (m ++ l.drop p)).getD i d = if i < p then l.getD i d else if i < p + m.length then m.getD (i - p) d else l.getD (i - m.length) d := by
  have hl : (l.take p).length = p := by rw [List.length_take]; omega
  simp only [List.getD_eq_getElem?_getD]
  by_cases h1 : i < p
  · rw [if_pos h1, List.getElem?_append_left (by omega), List.getElem?_take, if_pos h1]
  · rw [if_neg h1, List.getElem?_append_right (by omega), hl]
    by_cases h2 : i < p + m.length
    · rw [if_pos h2, List.getElem?_append_left (by omega)]
    · rw [if_neg h2, List.getElem?_append_right (by omega), List.getElem?_drop]
      congr 2
      omega
theorem maxI_nI {a b : Nat} (ha : a < 2 ^ 31) (hb : b < 2 ^ 31) : maxI (nI a) (nI b) = nI (max a b) := by
  unfold maxI
  by_cases h : a < b
  · rw [if_pos (nI_lt h hb), Nat.max_eq_right (by omega)]
  · rw [if_neg (nI_nlt (by omega) ha), Nat.max_eq_left (by omega)]
theorem minI_nI {a b : Nat} (ha : a < 2 ^ 31) (hb : b < 2 ^ 31) : minI (nI a) (nI b) = nI (min a b) := by
  unfold minI
  by_cases h : b < a
  · rw [if_pos (nI_lt h ha), Nat.min_eq_right (by omega)]
  · rw [if_neg (nI_nlt (by omega) hb), Nat.min_eq_left (by omega)]
theorem cpI_at {S : St} {a b sp dp n : Nat} (h1 : sp + n ≤ gN S a) (h2 : dp + n ≤ gN S b) (ha : gN S a < 2 ^ 31) (hb : gN S b < 2 ^ 31) : cpI S a (nI sp) b (nI dp) (nI n) = some (sFF S b (va_cpy (gF S a) (gF S b) sp dp n)) := by
  unfold cpI
  rw [nI_clamp (by omega), nI_clamp (by omega), nI_clamp (by omega), if_pos ⟨nI_pos (by omega), nI_pos (by omega), nI_pos (by omega), h1, h2⟩]
theorem R_insert {g o x p s n : Nat} {S : St} {l l2 : List Int32} {ov ov2 : Int32} (w : Rw S o l ov) (w2 : Rw S x l2 ov2) (hx : x ≠ o) (hk : gOK S) (hp : p ≤ l.length) (hs : s + n ≤ l2.length) : ∃ S', m_Row_insert g S o (nI p) x (nI s) (nI (s + n)) = some S' ∧ Fr o S S' ∧ Rw S' o (if l.length + n ≤ limC o then l.take p ++ (seg l2 s n ++ l.drop p) else l) (if l.length + n ≤ limC o then ov else 1) := by
  have wo := w
  have wx := w2
  obtain ⟨u0, u1, u2, u3, u4, u5, u6, u7, u8⟩ := w
  obtain ⟨v0, v1, v2, v3, v4, v5, v6, v7, v8⟩ := w2
  have hb := lim_b o u0.2 u0.1
  have hb2 := lim_b x v0.2 v0.1
  have key : ∀ (S1 : St), Rw S1 o l ov → Rw S1 x l2 ov2 → l.length + n ≤ limC o → l.length + n ≤ gN S1 (o + 24) → ∃ S', m_Row_insert_100 g S1 o (nI p) x (nI s) (nI n) = some S' ∧ Fr o S1 S' ∧ Rw S' o (l.take p ++ (seg l2 s n ++ l.drop p)) ov := by
    intro S1 a b hlim hn
    obtain ⟨a0, a1, a2, a3, a4, a5, a6, a7, a8⟩ := a
    obtain ⟨b0, b1, b2, b3, b4, b5, b6, b7, b8⟩ := b
    unfold m_Row_insert_100
    rw [a2, nI_sub hp, nI_add, cpI_at (by omega) (by omega) (by omega) (by omega)]
    show ∃ S', ((cpI (sFF S1 (o + 24) _) (x + 24) (nI s) (o + 24) (nI p) (nI n)).bind _) = some S' ∧ _
    rw [cpI_at (S := sFF S1 (o + 24) (va_cpy (gF S1 (o + 24)) (gF S1 (o + 24)) p (p + n) (l.length - p))) (show s + n ≤ gN S1 (x + 24) by omega) (show p + n ≤ gN S1 (o + 24) by omega) (show gN S1 (x + 24) < 2 ^ 31 by omega) (show gN S1 (o + 24) < 2 ^ 31 by omega)]
    have hL : (l.take p ++ (seg l2 s n ++ l.drop p)).length = l.length + n := by
      rw [List.length_append, List.length_append, List.length_take, List.length_drop, seg_len hs]
      omega
    refine ⟨_, rfl, ⟨fun y k hy => by simp [gI, sI, sFF, hy], rfl, rfl, fun q hq => ⟨rfl, fun j => by simp [gF, sFF, sI, hq]⟩, rfl⟩, a0, ?_, ?_, ?_, by omega, by rw [hL]; exact hn, a6, a7, fun i hi => ?_⟩
    · rw [← a1]
      simp [gI, sI, sFF]
    · rw [hL, ← nI_add, ← a2]
      simp [gI, sI, sFF]
    · rw [← a3]
      simp [gI, sI, sFF]
    · rw [hL] at hi
      rw [ins_get hp, seg_len hs]
      have hxo : ¬ x + 24 = o + 24 := by omega
      have e1 : ∀ j, gF (sFF S1 (o + 24) (va_cpy (gF S1 (o + 24)) (gF S1 (o + 24)) p (p + n) (l.length - p))) (x + 24) j = gF S1 (x + 24) j := fun j => by simp [gF, sFF, hx]
      by_cases h1 : i < p
      · rw [if_pos h1, ← a8 i (by omega)]
        simp [gF, sI, sFF, va_cpy, show ¬ (p ≤ i ∧ i < p + n) by omega, show ¬ (p + n ≤ i ∧ i < p + n + (l.length - p)) by omega]
      · rw [if_neg h1]
        by_cases h2 : i < p + n
        · rw [if_pos h2, seg_get (by omega), ← b8 (s + (i - p)) (by omega), ← e1]
          simp [gF, sI, sFF, va_cpy, show p ≤ i ∧ i < p + n by omega]
        · rw [if_neg h2, ← a8 (i - n) (by omega)]
          have e3 : p + (i - (p + n)) = i - n := by omega
          simp [gF, sI, sFF, va_cpy, show ¬ (p ≤ i ∧ i < p + n) by omega, show p + n ≤ i ∧ i < p + n + (l.length - p) by omega, e3]
  unfold m_Row_insert
  rw [← nI_add, show nI s + nI n - nI s = nI n by rw [Int32.add_comm]; exact Int32.add_sub_cancel _ _]
  rw [lt_d, if_neg (nI_pos (by omega)), u2, if_neg (nI_nlt hp (by omega)), if_neg (nI_pos (by omega)), if_neg (nI_pos (by omega)), v2, nI_add s n, if_pos (nI_le hs (by omega)), u1, nI_sub u4, nI_add l.length n]
  by_cases h1 : l.length + n ≤ limC o
  · rw [if_pos (nI_le (by omega) (by omega)), if_pos h1, if_pos h1]
    by_cases h2 : l.length + n ≤ gN S (o + 24)
    · rw [if_pos (show nI (l.length + n) ≤ Int32.ofNat (gN S (o + 24)) from nI_le h2 (by omega))]
      exact key S wo wx h1 h2
    · rw [if_neg (show ¬ nI (l.length + n) ≤ Int32.ofNat (gN S (o + 24)) from nI_ge (by omega) (by omega))]
      rw [show (2 : Int32) * Int32.ofNat (gN S (o + 24)) = nI (2 * gN S (o + 24)) from nq_clamp2 (by omega), maxI_nI (by omega) (by omega)]
      obtain ⟨S1, e1, f1, r1, n1⟩ := R_gro (n := max (l.length + n) (2 * gN S (o + 24))) wo hk (by omega) (by omega)
      obtain ⟨S2, e2, f2, r2⟩ := key S1 r1 (wx.fr f1 hx) h1 (by omega)
      rw [e1]
      exact ⟨S2, e2, f1.tr f2, r2⟩
  · rw [if_neg (nI_ge (by omega) (by omega)), if_neg h1, if_neg h1]
    refine ⟨_, rfl, ⟨fun x k hx => by simp [gI, sI, hx], rfl, rfl, fun a ha => ⟨rfl, fun i => rfl⟩, rfl⟩, u0, ?_, ?_, ?_, u4, u5, u6, u7, u8⟩
    · rw [← u1]
      simp [gI, sI]
    · rw [← u2]
      simp [gI, sI]
    · simp [gI, sI]
theorem R_remove {g o s t : Nat} {S : St} {l : List Int32} {ov : Int32} (w : Rw S o l ov) (hs : s ≤ t) (ht : t ≤ l.length) : ∃ S', m_Row_remove g S o (nI s) (nI t) = some S' ∧ Fr o S S' ∧ Rw S' o (l.take s ++ l.drop t) ov := by
  obtain ⟨u0, u1, u2, u3, u4, u5, u6, u7, u8⟩ := w
  have hb := lim_b o u0.2 u0.1
  unfold m_Row_remove
  rw [if_neg (nI_pos (by omega)), if_neg (nI_nlt hs (by omega)), u2, if_pos (nI_le ht (by omega)), nI_sub ht, cpI_at (by omega) (by omega) (by omega) (by omega), nI_sub hs]
  have hL : (l.take s ++ l.drop t).length = l.length - (t - s) := by
    rw [List.length_append, List.length_take, List.length_drop]
    omega
  refine ⟨_, rfl, ⟨fun y k hy => by simp [gI, sI, sFF, hy], rfl, rfl, fun q hq => ⟨rfl, fun j => by simp [gF, sFF, sI, hq]⟩, rfl⟩, u0, ?_, ?_, ?_, by omega, by rw [hL]; exact Nat.le_trans (Nat.sub_le _ _) u5, u6, u7, fun i hi => ?_⟩
  · rw [← u1]
    simp [gI, sI, sFF]
  · rw [hL, ← nI_sub (a := l.length) (b := t - s) (by omega), ← u2]
    simp [gI, sI, sFF]
  · rw [← u3]
    simp [gI, sI, sFF]
  · rw [hL] at hi
    have hls : (l.take s).length = s := by rw [List.length_take]; omega
    rw [List.getD_eq_getElem?_getD]
    by_cases h1 : i < s
    · rw [List.getElem?_append_left (by omega), List.getElem?_take, if_pos h1, ← List.getD_eq_getElem?_getD, ← u8 i (by omega)]
      simp [gF, sI, sFF, va_cpy, show ¬ (s ≤ i ∧ i < s + (l.length - t)) by omega]
    · rw [List.getElem?_append_right (by omega), hls, List.getElem?_drop, ← List.getD_eq_getElem?_getD, ← u8 (t + (i - s)) (by omega)]
      simp [gF, sI, sFF, va_cpy, show s ≤ i ∧ i < s + (l.length - t) by omega]
