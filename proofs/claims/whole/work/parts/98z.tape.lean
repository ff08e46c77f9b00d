/-! the TAPE: feed and cut -/
/-- the TAPE on both sides -/
def TpR (S S2 : St) (tp : List Int32) : Prop := Rw S 10 tp 0 ∧ gI S2 0 5 = nI tp.length ∧ tp.length ≤ 3000 ∧ (∀ i, i < tp.length → gF S2 5 i = tp.getD i 0) ∧ ∀ x ∈ tp, ∃ n : Nat, n < 256 ∧ x = nI n
/-- nothing but the TAPE has changed -/
def FTp (S S' : St) : Prop := S'.2.1 = S.2.1 ∧ S'.2.2.1 = S.2.2.1 ∧ S'.2.2.2.1 = S.2.2.2.1 ∧ S'.2.2.2.2.2 = S.2.2.2.2.2 ∧ (∀ k, k ≠ 5 → gI S' 0 k = gI S 0 k) ∧ ∀ a, a ≠ 5 → ∀ i, gF S' a i = gF S a i
theorem FTp.rf {S : St} : FTp S S := ⟨rfl, rfl, rfl, rfl, fun _ _ => rfl, fun _ _ _ => rfl⟩
theorem FTp.tr {S S1 S2 : St} (h1 : FTp S S1) (h2 : FTp S1 S2) : FTp S S2 := ⟨h2.1.trans h1.1, h2.2.1.trans h1.2.1, h2.2.2.1.trans h1.2.2.1, h2.2.2.2.1.trans h1.2.2.2.1, fun k h => (h2.2.2.2.2.1 k h).trans (h1.2.2.2.2.1 k h), fun a h i => (h2.2.2.2.2.2 a h i).trans (h1.2.2.2.2.2 a h i)⟩
theorem LM.tp {S S' : St} (w : LM S) (h : FTp S S') : LM S' := w.of h.2.2.1
theorem by255 (x : Int32) : ∃ n : Nat, n < 256 ∧ x &&& 255 = nI n := by
  refine ⟨(x &&& 255).toNatClampNeg, ?_⟩
  have h1 : (x &&& 255).toBitVec.toNat ≤ 255 := by
    rw [Int32.toBitVec_and, BitVec.toNat_and]
    exact Nat.and_le_right
  have h2 : (x &&& 255).toInt = ((x &&& 255).toBitVec.toNat : Int) := by
    show (x &&& 255).toBitVec.toInt = _
    rw [BitVec.toInt_eq_toNat_cond, if_pos (by omega)]
  have h3 : (x &&& 255).toNatClampNeg = (x &&& 255).toBitVec.toNat := by
    show (x &&& 255).toInt.toNat = _
    rw [h2]
    omega
  refine ⟨by omega, ?_⟩
  apply Int32.toInt_inj.mp
  rw [nI_toInt (by omega), h2, h3]
section TAP
variable {g : Nat}
theorem put1 {S S2 : St} {tp : List Int32} {v : Int32} (h : TpR S S2 tp) (hk : gOK S) (hm : LM S2) (hl : tp.length < 3000) (hv : ∃ n : Nat, n < 256 ∧ v = nI n) : ∃ S', m_Row_add g S 10 v = some S' ∧ Fr 10 S S' ∧ tI S2 5 (gI S2 0 5) v = some (sF S2 5 tp.length v) ∧ TpR S' (sI (sF S2 5 tp.length v) 0 5 (nI (tp.length + 1))) (tp ++ [v]) ∧ FTp S2 (sI (sF S2 5 tp.length v) 0 5 (nI (tp.length + 1))) := by
  obtain ⟨t1, t2, t3, t4, t5⟩ := h
  have h5 : gN S2 5 = 3000 := LMn hm 5
  obtain ⟨S', a1, a2, a3⟩ := R_add (g := g) (v := v) t1 hk
  rw [show limC 10 = 3000 from by decide +kernel, if_pos hl, if_pos hl] at a3
  refine ⟨S', a1, a2, by rw [t2]; exact tI_at (by omega) (by omega), ⟨a3, by rw [sI_g, List.length_append, List.length_singleton], by rw [List.length_append, List.length_singleton]; omega, fun i hi => ?_, fun x hx => ?_⟩, rfl, rfl, rfl, rfl, fun k hk => gI_ne (by omega), fun a ha i => gF_ne ha⟩
  · rw [List.length_append, List.length_singleton] at hi
    show gF (sF S2 5 tp.length v) 5 i = _
    by_cases e : i = tp.length
    · subst e
      rw [gF_sF]
      simp
    · rw [gF_sFi e, t4 i (by omega), List.getD_eq_getElem?_getD, List.getD_eq_getElem?_getD, List.getElem?_append_left (by omega)]
  · rcases List.mem_append.mp hx with h | h
    · exact t5 x h
    · rw [List.mem_singleton] at h
      rw [h]; exact hv
theorem sh_k {x s : Int32} {u : UInt32} {k : Nat} (hk : k ≤ 24) (hs : s.toBitVec.smod 32 = BitVec.ofNat 32 k) (hu : u.toBitVec % 32 = BitVec.ofNat 32 k) : ((x.toUInt32 >>> u).toInt32) &&& 255 = (x >>> s) &&& 255 := by
  apply Int32.toBitVec_inj.mp
  rw [Int32.toBitVec_and, Int32.toBitVec_and]
  have e1 : ((x.toUInt32 >>> u).toInt32).toBitVec = x.toBitVec >>> k := by
    show (x.toUInt32 >>> u).toBitVec = _
    rw [UInt32.toBitVec_shiftRight]
    show x.toBitVec >>> (u.toBitVec % 32) = _
    rw [hu, BitVec.ushiftRight_eq', BitVec.toNat_ofNat, Nat.mod_eq_of_lt (by omega)]
  have e2 : (x >>> s).toBitVec = x.toBitVec.sshiftRight k := by
    rw [Int32.toBitVec_shiftRight, hs, BitVec.sshiftRight_eq', BitVec.toNat_ofNat, Nat.mod_eq_of_lt (by omega)]
  rw [e1, e2]
  apply BitVec.eq_of_getLsbD_eq
  intro i hi
  rw [BitVec.getLsbD_and, BitVec.getLsbD_and]
  by_cases h : i < 8
  · rw [BitVec.getLsbD_ushiftRight, BitVec.getLsbD_sshiftRight]
    have h1 : decide (32 ≤ i) = false := by simp; omega
    rw [h1, if_pos (by omega)]
    simp
  · have : (255 : Int32).toBitVec.getLsbD i = false := by
      have key : ∀ i, i < 32 → ¬ i < 8 → (255 : Int32).toBitVec.getLsbD i = false := by decide +kernel
      exact key i hi h
    rw [this, Bool.and_false, Bool.and_false]
def byt (x : Int32) (k : Int32) : Int32 := (x >>> (k &&& 31)) &&& 255
/-- four bytes -/
theorem put4 {S S2 : St} {tp : List Int32} {x : Int32} (hg : 100000 ≤ g) (h : TpR S S2 tp) (hk : gOK S) (hm : LM S2) (hl : tp.length + 4 ≤ 3000) : ∃ S' S2', m_TL_feedBytes g S x = some S' ∧ m_put g S2 x = some S2' ∧ Fr 10 S S' ∧ FTp S2 S2' ∧ TpR S' S2' (tp ++ [byt x 24] ++ [byt x 16] ++ [byt x 8] ++ [byt x 0]) := by
  obtain ⟨n, rfl⟩ : ∃ n, g = n + 5 := ⟨g - 5, by omega⟩
  obtain ⟨S1, a1, a2, a3, a4, a5⟩ := put1 (g := n + 5) (v := byt x 24) h hk hm (by omega) (by255 _)
  obtain ⟨S3, b1, b2, b3, b4, b5⟩ := put1 (g := n + 5) (v := byt x 16) a4 (hk.fr a2) (hm.tp a5) (by simp; omega) (by255 _)
  have hm2 := (hm.tp a5).tp b5
  obtain ⟨S4, c1, c2, c3, c4, c5⟩ := put1 (g := n + 5) (v := byt x 8) b4 ((hk.fr a2).fr b2) hm2 (by simp; omega) (by255 _)
  have hm3 := hm2.tp c5
  obtain ⟨S5, d1, d2, d3, d4, d5⟩ := put1 (g := n + 5) (v := byt x 0) c4 (((hk.fr a2).fr b2).fr c2) hm3 (by simp; omega) (by255 _)
  have k24 : (x.toUInt32 >>> ((24 : Int32).toUInt32 &&& Int32.toUInt32 31)).toInt32 &&& 255 = byt x 24 := sh_k (k := 24) (by omega) (by decide +kernel) (by decide +kernel)
  have k16 : (x.toUInt32 >>> ((16 : Int32).toUInt32 &&& Int32.toUInt32 31)).toInt32 &&& 255 = byt x 16 := sh_k (k := 16) (by omega) (by decide +kernel) (by decide +kernel)
  have k8 : (x.toUInt32 >>> ((8 : Int32).toUInt32 &&& Int32.toUInt32 31)).toInt32 &&& 255 = byt x 8 := sh_k (k := 8) (by omega) (by decide +kernel) (by decide +kernel)
  have k0 : (x.toUInt32 >>> ((0 : Int32).toUInt32 &&& Int32.toUInt32 31)).toInt32 &&& 255 = byt x 0 := sh_k (k := 0) (by omega) (by decide +kernel) (by decide +kernel)
  refine ⟨S5, _, ?_, ?_, ((a2.tr b2).tr c2).tr d2, ((a5.tr b5).tr c5).tr d5, d4⟩
  · have st : ∀ (m : Nat) (Z Z' : St) (c c' : Int32), ¬ c < 0 → c + (-8 : Int32) = c' → m_Row_add (n + 5) Z 10 ((x.toUInt32 >>> (c.toUInt32 &&& Int32.toUInt32 31)).toInt32 &&& 255) = some Z' → m_TL_feedBytes_3 (n + 5) (m + 1) Z x c = m_TL_feedBytes_3 (n + 5) m Z' x c' := by
      intro m Z Z' c c' h1 h2 h3
      show b_TL_feedBytes_3 (n + 5) (m_TL_feedBytes_3 (n + 5) m) Z x c = _
      unfold b_TL_feedBytes_3 m_TL_feedBytes_21
      rw [if_neg h1, h3, Option.bind_some, lt_d, h2]
    unfold m_TL_feedBytes
    rw [st (n + 4) S S1 24 16 (by decide) (by decide) (by rw [k24]; exact a1), st (n + 3) S1 S3 16 8 (by decide) (by decide) (by rw [k16]; exact b1), st (n + 2) S3 S4 8 0 (by decide) (by decide) (by rw [k8]; exact c1), st (n + 1) S4 S5 0 (-8) (by decide) (by decide) (by rw [k0]; exact d1)]
    show b_TL_feedBytes_3 (n + 5) (m_TL_feedBytes_3 (n + 5) n) S5 x (-8) = _
    unfold b_TL_feedBytes_3
    rw [if_pos (by decide)]
  · have st : ∀ (m : Nat) (Z : St) (tq : List Int32) (c c' : Int32), ¬ c < 0 → c + (-8 : Int32) = c' → gI Z 0 5 = nI tq.length → tI Z 5 (gI Z 0 5) (byt x c) = some (sF Z 5 tq.length (byt x c)) → m_put_3 (n + 5) (m + 1) Z x c = m_put_3 (n + 5) m (sI (sF Z 5 tq.length (byt x c)) 0 5 (nI (tq.length + 1))) x c' := by
      intro m Z tq c c' h1 h2 h3 h4
      show b_put_3 (n + 5) (m_put_3 (n + 5) m) Z x c = _
      unfold b_put_3
      rw [if_neg h1]
      show (tI Z 5 (gI Z 0 5) (byt x c)).bind _ = _
      rw [h4, Option.bind_some, lt_d, lt_d, h2, show gI (sF Z 5 tq.length (byt x c)) 0 5 = nI tq.length from h3, nI_1]
    unfold m_put
    rw [st (n + 4) S2 tp 24 16 (by decide) (by decide) h.2.1 a3, st (n + 3) _ _ 16 8 (by decide) (by decide) a4.2.1 b3, st (n + 2) _ _ 8 0 (by decide) (by decide) b4.2.1 c3, st (n + 1) _ _ 0 (-8) (by decide) (by decide) c4.2.1 d3]
    show b_put_3 (n + 5) (m_put_3 (n + 5) n) _ x (-8) = _
    unfold b_put_3
    rw [if_pos (by decide)]
theorem c_feed {S S2 : St} {tp : List Int32} (hg : 100000 ≤ g) (h : TpR S S2 tp) (hk : gOK S) (hm : LM S2) (x1 x2 x3 x4 x5 : Int32) : ∃ S' S2' r tp', m_TL_feed g S x1 x2 x3 x4 x5 = some (S', r) ∧ m_feed g S2 x1 x2 x3 x4 x5 = some (S2', r) ∧ Fr 10 S S' ∧ FTp S2 S2' ∧ TpR S' S2' tp' := by
  have t3 := h.2.2.1
  unfold m_TL_feed m_feed
  rw [h.1.2.2.1, h.2.1, show nI tp.length + (20 : Int32) = nI (tp.length + 20) from nI_add _ 20]
  by_cases hl : tp.length ≤ 2980
  · rw [if_pos (show nI tp.length ≤ (2980 : Int32) from nI_le (b := 2980) hl (by omega)), if_pos (show nI (tp.length + 20) ≤ (3000 : Int32) from nI_le (b := 3000) (by omega) (by omega))]
    have ln : ∀ (l : List Int32) (x : Int32), (l ++ [byt x 24] ++ [byt x 16] ++ [byt x 8] ++ [byt x 0]).length = l.length + 4 := fun l x => by simp
    obtain ⟨Sa, Ta, a1, a2, a3, a4, a5⟩ := put4 (g := g) (x := x1) hg h hk hm (by omega)
    obtain ⟨Sb, Tb, b1, b2, b3, b4, b5⟩ := put4 (g := g) (x := x2) hg a5 (hk.fr a3) (hm.tp a4) (by rw [ln]; omega)
    obtain ⟨Sc, Tc, c1, c2, c3, c4, c5⟩ := put4 (g := g) (x := x3) hg b5 ((hk.fr a3).fr b3) ((hm.tp a4).tp b4) (by rw [ln, ln]; omega)
    obtain ⟨Sd, Td, d1, d2, d3, d4, d5⟩ := put4 (g := g) (x := x4) hg c5 (((hk.fr a3).fr b3).fr c3) (((hm.tp a4).tp b4).tp c4) (by rw [ln, ln, ln]; omega)
    obtain ⟨Se, Te, e1, e2, e3, e4, e5⟩ := put4 (g := g) (x := x5) hg d5 ((((hk.fr a3).fr b3).fr c3).fr d3) ((((hm.tp a4).tp b4).tp c4).tp d4) (by rw [ln, ln, ln, ln]; omega)
    unfold m_TL_feed_20 m_TL_feed_25 m_TL_feed_30 m_TL_feed_36 m_TL_feed_42
    rw [a1, a2, Option.bind_some, Option.bind_some, b1, b2, Option.bind_some, Option.bind_some, c1, c2, Option.bind_some, Option.bind_some, d1, d2, Option.bind_some, Option.bind_some, e1, e2, Option.bind_some, Option.bind_some, e5.1.2.2.1, e5.2.1]
    exact ⟨_, _, _, _, rfl, rfl, (((a3.tr b3).tr c3).tr d3).tr e3, (((a4.tr b4).tr c4).tr d4).tr e4, e5⟩
  · rw [if_neg (show ¬ nI tp.length ≤ (2980 : Int32) from nI_ge (a := 2980) (by omega) (by omega)), if_neg (show ¬ nI (tp.length + 20) ≤ (3000 : Int32) from nI_ge (a := 3000) (by omega) (by omega))]
    exact ⟨_, _, _, tp, rfl, rfl, Fr.rf, FTp.rf, h⟩
theorem c_cut {S S2 : St} {tp : List Int32} (h : TpR S S2 tp) (x : Int32) : ∃ S' S2' r tp', m_TL_cut g S x = some (S', r) ∧ m_cut g S2 x = some (S2', r) ∧ Fr 10 S S' ∧ FTp S2 S2' ∧ TpR S' S2' tp' := by
  obtain ⟨t1, t2, t3, t4, t5⟩ := h
  unfold m_TL_cut m_cut
  rcases i_or x with hx | ⟨n, hn, rfl⟩
  · rw [if_pos hx, if_pos hx]
    exact ⟨_, _, _, tp, rfl, rfl, Fr.rf, FTp.rf, t1, t2, t3, t4, t5⟩
  · rw [if_neg (nI_pos hn), if_neg (nI_pos hn), t1.2.2.1, t2]
    by_cases hl : n ≤ tp.length
    · rw [if_pos (nI_le hl (by omega)), if_pos (nI_le hl (by omega)), nI_sub hl]
      obtain ⟨S', a1, a2, a3⟩ := R_shorten (g := g) (n := tp.length - n) t1 (by omega)
      rw [a1, Option.bind_some, lt_d, a3.2.2.1, sI_g, List.length_take, show min (tp.length - n) tp.length = tp.length - n by omega]
      refine ⟨_, _, _, tp.take (tp.length - n), rfl, rfl, a2, ⟨rfl, rfl, rfl, rfl, fun k hk => gI_ne (by omega), fun _ _ _ => rfl⟩, a3, by rw [sI_g, List.length_take, show min (tp.length - n) tp.length = tp.length - n by omega], by rw [List.length_take]; omega, fun i hi => ?_, fun y hy => t5 y (List.mem_of_mem_take hy)⟩
      rw [List.length_take] at hi
      show gF S2 5 i = _
      rw [t4 i (by omega), List.getD_eq_getElem?_getD, List.getD_eq_getElem?_getD, List.getElem?_take_of_lt (by omega)]
    · rw [if_neg (nI_ge (by omega) (by omega)), if_neg (nI_ge (by omega) (by omega))]
      exact ⟨_, _, _, tp, rfl, rfl, Fr.rf, FTp.rf, t1, t2, t3, t4, t5⟩
end TAP
