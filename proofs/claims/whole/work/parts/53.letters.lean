/-! Letters: units and digits -/
theorem lit_lt {n k : Nat} (h1 : n < 2 ^ 31) (h2 : k < 2 ^ 31) : (nI n < (OfNat.ofNat k : Int32)) ↔ n < k := nI_ltI h1 h2
theorem lit_gt {n k : Nat} (h1 : n < 2 ^ 31) (h2 : k < 2 ^ 31) : ((OfNat.ofNat k : Int32) < nI n) ↔ k < n := nI_ltI h2 h1
theorem lit_le {n k : Nat} (h1 : n < 2 ^ 31) (h2 : k < 2 ^ 31) : (nI n ≤ (OfNat.ofNat k : Int32)) ↔ n ≤ k := nI_leI h1 h2
theorem lit_ge {n k : Nat} (h1 : n < 2 ^ 31) (h2 : k < 2 ^ 31) : ((OfNat.ofNat k : Int32) ≤ nI n) ↔ k ≤ n := nI_leI h2 h1
theorem lit_eq {n k : Nat} (h1 : n < 2 ^ 31) (h2 : k < 2 ^ 31) : (nI n = (OfNat.ofNat k : Int32)) ↔ n = k := nI_eq h1 h2
def lowU (u : Int32) : Int32 := (m_lower 0 u).getD 0
def upU (u : Int32) : Int32 := (m_upper 0 u).getD 0
def alkU (a b : Int32) : Int32 := (m_alikeUnits 0 a b).getD 0
theorem low_g {g : Nat} {u : Int32} : m_lower g u = m_lower 0 u := rfl
theorem up_g {g : Nat} {u : Int32} : m_upper g u = m_upper 0 u := rfl
theorem lowC_g {g : Nat} {u : Int32} : m_Lt_lower g u = m_Lt_lower 0 u := rfl
theorem upC_g {g : Nat} {u : Int32} : m_Lt_upper g u = m_Lt_upper 0 u := rfl
def isU (u : Int32) : Prop := ∃ n : Nat, n < 65536 ∧ u = nI n
theorem low_sm : ∀ n, n < 400 → m_lower 0 (nI n) = some (lowU (nI n)) ∧ m_Lt_lower 0 (nI n) = some (lowU (nI n)) ∧ (lowU (nI n)).toNatClampNeg < 65536 ∧ nI (lowU (nI n)).toNatClampNeg = lowU (nI n) := by decide +kernel
theorem up_sm : ∀ n, n < 400 → m_upper 0 (nI n) = some (upU (nI n)) ∧ (n ≠ 223 → n ≠ 329 → m_Lt_upper 0 (nI n) = some (upU (nI n))) ∧ (upU (nI n)).toNatClampNeg < 65536 ∧ nI (upU (nI n)).toNatClampNeg = upU (nI n) := by decide +kernel
theorem up_ex : upU 223 = 223 ∧ upU 329 = 329 ∧ m_Lt_upper 0 223 = some 83 ∧ m_Lt_upper 0 329 = some 700 := by decide +kernel
theorem low_bg {n : Nat} (h : 400 ≤ n) (h2 : n < 65536) : m_lower 0 (nI n) = some (nI n) := by
  rw [m_lower, if_neg (show ¬ nI n < (65 : Int32) from nI_nlt (b := 65) (by omega) (by omega)), if_neg (show ¬ nI n ≤ (90 : Int32) from nI_ge (a := 90) (by omega) (by omega)), m_lower_12, if_neg (show ¬ nI n < (192 : Int32) from nI_nlt (b := 192) (by omega) (by omega)), if_pos (show (222 : Int32) < nI n from nI_lt (a := 222) (by omega) (by omega)), m_lower_38, if_neg (show ¬ nI n < (256 : Int32) from nI_nlt (b := 256) (by omega) (by omega)), if_neg (show ¬ nI n ≤ (302 : Int32) from nI_ge (a := 302) (by omega) (by omega)), m_lower_52, if_neg (show ¬ nI n < (306 : Int32) from nI_nlt (b := 306) (by omega) (by omega)), if_neg (show ¬ nI n ≤ (310 : Int32) from nI_ge (a := 310) (by omega) (by omega)), m_lower_66, if_neg (show ¬ nI n < (330 : Int32) from nI_nlt (b := 330) (by omega) (by omega)), if_pos (show (374 : Int32) < nI n from nI_lt (a := 374) (by omega) (by omega)), m_lower_84, m_lower_85, if_neg (show ¬ nI n < (313 : Int32) from nI_nlt (b := 313) (by omega) (by omega)), if_neg (show ¬ nI n ≤ (327 : Int32) from nI_ge (a := 327) (by omega) (by omega)), m_lower_100, if_neg (show ¬ nI n < (377 : Int32) from nI_nlt (b := 377) (by omega) (by omega)), if_pos (show (381 : Int32) < nI n from nI_lt (a := 381) (by omega) (by omega)), m_lower_118, m_lower_119, if_pos rfl, m_lower_131, if_pos rfl, m_lower_146, if_neg (show ¬ nI n = (376 : Int32) from fun q => absurd ((nI_eq (b := 376) (by omega) (by omega)).mp q) (by omega)), if_neg (show ¬ nI n = (304 : Int32) from fun q => absurd ((nI_eq (b := 304) (by omega) (by omega)).mp q) (by omega))]
theorem evn_bg {n : Nat} (h : 399 ≤ n) (h2 : n < 65536) : m_Lt_isEvenCapital 0 (nI n) = some 0 := by
  unfold m_Lt_isEvenCapital m_Lt_isEvenCapital_20 m_Lt_isEvenCapital_34
  rw [if_neg (show ¬ nI n < (256 : Int32) from nI_nlt (b := 256) (by omega) (by omega)), if_neg (show ¬ nI n ≤ (302 : Int32) from nI_ge (a := 302) (by omega) (by omega)), if_neg (show ¬ nI n < (306 : Int32) from nI_nlt (b := 306) (by omega) (by omega)), if_neg (show ¬ nI n ≤ (310 : Int32) from nI_ge (a := 310) (by omega) (by omega)), if_neg (show ¬ nI n < (330 : Int32) from nI_nlt (b := 330) (by omega) (by omega)), if_pos (show (374 : Int32) < nI n from nI_lt (a := 374) (by omega) (by omega))]
  split <;> rfl
theorem odc_bg {n : Nat} (h : 399 ≤ n) (h2 : n < 65536) : m_Lt_isOddCapital 0 (nI n) = some 0 := by
  unfold m_Lt_isOddCapital m_Lt_isOddCapital_21
  rw [if_neg (show ¬ nI n < (313 : Int32) from nI_nlt (b := 313) (by omega) (by omega)), if_neg (show ¬ nI n ≤ (327 : Int32) from nI_ge (a := 327) (by omega) (by omega)), if_neg (show ¬ nI n < (377 : Int32) from nI_nlt (b := 377) (by omega) (by omega)), if_pos (show (381 : Int32) < nI n from nI_lt (a := 381) (by omega) (by omega))]
  split <;> rfl
theorem lowC_bg {n : Nat} (h : 400 ≤ n) (h2 : n < 65536) : m_Lt_lower 0 (nI n) = some (nI n) := by
  rw [m_Lt_lower, if_neg (show ¬ nI n < (65 : Int32) from nI_nlt (b := 65) (by omega) (by omega)), if_neg (show ¬ nI n ≤ (90 : Int32) from nI_ge (a := 90) (by omega) (by omega)), m_Lt_lower_12, if_neg (show ¬ nI n < (192 : Int32) from nI_nlt (b := 192) (by omega) (by omega)), if_pos (show (222 : Int32) < nI n from nI_lt (a := 222) (by omega) (by omega)), m_Lt_lower_38, evn_bg (by omega) h2, Option.bind_some, if_pos rfl, odc_bg (by omega) h2, Option.bind_some, if_pos rfl, if_neg (show ¬ nI n = (376 : Int32) from fun q => absurd ((nI_eq (b := 376) (by omega) (by omega)).mp q) (by omega)), if_neg (show ¬ nI n = (304 : Int32) from fun q => absurd ((nI_eq (b := 304) (by omega) (by omega)).mp q) (by omega))]
theorem up_bg {n : Nat} (h : 400 ≤ n) (h2 : n < 65536) : m_upper 0 (nI n) = some (nI n) := by
  rw [m_upper, if_neg (show ¬ nI n < (97 : Int32) from nI_nlt (b := 97) (by omega) (by omega)), if_neg (show ¬ nI n ≤ (122 : Int32) from nI_ge (a := 122) (by omega) (by omega)), m_upper_12, if_neg (show ¬ nI n < (224 : Int32) from nI_nlt (b := 224) (by omega) (by omega)), if_pos (show (254 : Int32) < nI n from nI_lt (a := 254) (by omega) (by omega)), m_upper_38, if_neg (show ¬ nI n < (257 : Int32) from nI_nlt (b := 257) (by omega) (by omega)), if_neg (show ¬ nI n ≤ (303 : Int32) from nI_ge (a := 303) (by omega) (by omega)), m_upper_52, if_neg (show ¬ nI n < (307 : Int32) from nI_nlt (b := 307) (by omega) (by omega)), if_neg (show ¬ nI n ≤ (311 : Int32) from nI_ge (a := 311) (by omega) (by omega)), m_upper_66, if_neg (show ¬ nI n < (331 : Int32) from nI_nlt (b := 331) (by omega) (by omega)), if_pos (show (375 : Int32) < nI n from nI_lt (a := 375) (by omega) (by omega)), m_upper_84, m_upper_85, if_neg (show ¬ nI n < (314 : Int32) from nI_nlt (b := 314) (by omega) (by omega)), if_neg (show ¬ nI n ≤ (328 : Int32) from nI_ge (a := 328) (by omega) (by omega)), m_upper_100, if_neg (show ¬ nI n < (378 : Int32) from nI_nlt (b := 378) (by omega) (by omega)), if_pos (show (382 : Int32) < nI n from nI_lt (a := 382) (by omega) (by omega)), m_upper_118, m_upper_119, if_pos rfl, m_upper_131, if_pos rfl, m_upper_146, if_neg (show ¬ nI n = (255 : Int32) from fun q => absurd ((nI_eq (b := 255) (by omega) (by omega)).mp q) (by omega)), if_neg (show ¬ nI n = (181 : Int32) from fun q => absurd ((nI_eq (b := 181) (by omega) (by omega)).mp q) (by omega)), if_neg (show ¬ nI n = (305 : Int32) from fun q => absurd ((nI_eq (b := 305) (by omega) (by omega)).mp q) (by omega)), if_neg (show ¬ nI n = (383 : Int32) from fun q => absurd ((nI_eq (b := 383) (by omega) (by omega)).mp q) (by omega))]
theorem upC_bg {n : Nat} (h : 400 ≤ n) (h2 : n < 65536) : m_Lt_upper 0 (nI n) = some (nI n) := by
  have e : nI n - 1 = nI (n - 1) := nI_sub (b := 1) (by omega)
  rw [m_Lt_upper, if_neg (show ¬ nI n < (97 : Int32) from nI_nlt (b := 97) (by omega) (by omega)), if_neg (show ¬ nI n ≤ (122 : Int32) from nI_ge (a := 122) (by omega) (by omega)), m_Lt_upper_12, if_neg (show ¬ nI n < (224 : Int32) from nI_nlt (b := 224) (by omega) (by omega)), if_pos (show (254 : Int32) < nI n from nI_lt (a := 254) (by omega) (by omega)), m_Lt_upper_38, e, evn_bg (by omega) (by omega), Option.bind_some, if_pos rfl, odc_bg (by omega) (by omega), Option.bind_some, if_pos rfl, if_neg (show ¬ nI n = (181 : Int32) from fun q => absurd ((nI_eq (b := 181) (by omega) (by omega)).mp q) (by omega)), if_neg (show ¬ nI n = (223 : Int32) from fun q => absurd ((nI_eq (b := 223) (by omega) (by omega)).mp q) (by omega)), if_neg (show ¬ nI n = (255 : Int32) from fun q => absurd ((nI_eq (b := 255) (by omega) (by omega)).mp q) (by omega)), if_neg (show ¬ nI n = (305 : Int32) from fun q => absurd ((nI_eq (b := 305) (by omega) (by omega)).mp q) (by omega)), if_neg (show ¬ nI n = (329 : Int32) from fun q => absurd ((nI_eq (b := 329) (by omega) (by omega)).mp q) (by omega)), if_neg (show ¬ nI n = (383 : Int32) from fun q => absurd ((nI_eq (b := 383) (by omega) (by omega)).mp q) (by omega))]
theorem U_low {g : Nat} {u : Int32} (h : isU u) : m_lower g u = some (lowU u) ∧ m_Lt_lower g u = some (lowU u) ∧ isU (lowU u) := by
  obtain ⟨n, hn, rfl⟩ := h
  rw [low_g, lowC_g]
  by_cases hs : n < 400
  · obtain ⟨a, b, c, d⟩ := low_sm n hs
    exact ⟨a, b, _, c, d.symm⟩
  · have a := low_bg (by omega) hn
    have e : lowU (nI n) = nI n := by rw [lowU, a]; rfl
    rw [e]
    exact ⟨a, lowC_bg (by omega) hn, n, hn, rfl⟩
theorem U_up {g : Nat} {u : Int32} (h : isU u) : m_upper g u = some (upU u) ∧ (u ≠ 223 → u ≠ 329 → m_Lt_upper g u = some (upU u)) ∧ isU (upU u) := by
  obtain ⟨n, hn, rfl⟩ := h
  rw [up_g, upC_g]
  by_cases hs : n < 400
  · obtain ⟨a, b, c, d⟩ := up_sm n hs
    exact ⟨a, fun h1 h2 => b (fun q => h1 (by rw [q]; rfl)) (fun q => h2 (by rw [q]; rfl)), _, c, d.symm⟩
  · have a := up_bg (by omega) hn
    have e : upU (nI n) = nI n := by rw [upU, a]; rfl
    rw [e]
    exact ⟨a, fun _ _ => upC_bg (by omega) hn, n, hn, rfl⟩
theorem U_alk {g : Nat} {a b : Int32} (ha : isU a) (hb : isU b) : m_alikeUnits g a b = some (alkU a b) ∧ m_Lt_areAlike g a b = some (alkU a b) ∧ (alkU a b = 0 ∨ alkU a b = 1) := by
  obtain ⟨a1, a2, a3⟩ := U_up (g := g) ha
  obtain ⟨b1, b2, b3⟩ := U_up (g := g) hb
  obtain ⟨p1, -, -⟩ := U_up (g := 0) ha
  obtain ⟨q1, -, -⟩ := U_up (g := 0) hb
  obtain ⟨c1, c2, c3⟩ := U_low (g := g) a3
  obtain ⟨d1, d2, d3⟩ := U_low (g := g) b3
  obtain ⟨r1, -, -⟩ := U_low (g := 0) a3
  obtain ⟨t1, -, -⟩ := U_low (g := 0) b3
  have e : alkU a b = if a = b then 1 else if upU a = upU b then 1 else if lowU (upU a) = lowU (upU b) then 1 else 0 := by
    unfold alkU m_alikeUnits
    rw [p1, q1, Option.bind_some, Option.bind_some, r1, t1, Option.bind_some, Option.bind_some]
    split
    · rfl
    · split
      · rfl
      · split <;> rfl
  have k40 : ∀ x y : Int32, isU x → isU y → m_Lt_areAlike_40 g x y = some (if x = y then 1 else if lowU x = lowU y then 1 else 0) := by
    intro x y hx hy
    unfold m_Lt_areAlike_40
    rw [(U_low (g := g) hx).2.1, (U_low (g := g) hy).2.1, Option.bind_some, Option.bind_some]
    split
    · rfl
    · split <;> rfl
  have t23 : ∀ y : Int32, isU y → m_Lt_areAlike_23 g b y = some (if y = upU b then 1 else if lowU y = lowU (upU b) then 1 else 0) := by
    intro y hy
    unfold m_Lt_areAlike_23 m_Lt_upperTail
    by_cases h1 : b = 223
    · rw [if_pos h1, Option.bind_some, if_neg (by decide), k40 y b hy hb, h1, up_ex.1]
    · rw [if_neg h1]
      by_cases h2 : b = 329
      · rw [if_pos h2, Option.bind_some, if_neg (by decide), k40 y b hy hb, h2, up_ex.2.1]
      · rw [if_neg h2, Option.bind_some, if_pos rfl, b2 h1 h2, Option.bind_some, k40 y _ hy b3]
  refine ⟨?_, ?_, ?_⟩
  · rw [e]
    unfold m_alikeUnits
    rw [a1, b1, Option.bind_some, Option.bind_some, c1, d1, Option.bind_some, Option.bind_some]
    split
    · rfl
    · split
      · rfl
      · split <;> rfl
  · rw [e]
    unfold m_Lt_areAlike m_Lt_upperTail
    by_cases h0 : a = b
    · rw [if_pos h0, if_pos h0]
    · rw [if_neg h0, if_neg h0]
      by_cases h1 : a = 223
      · rw [if_pos h1, Option.bind_some, if_neg (by decide), t23 a ha, h1, up_ex.1]
      · rw [if_neg h1]
        by_cases h2 : a = 329
        · rw [if_pos h2, Option.bind_some, if_neg (by decide), t23 a ha, h2, up_ex.2.1]
        · rw [if_neg h2, Option.bind_some, if_pos rfl, a2 h1 h2, Option.bind_some, t23 _ a3]
  · rw [e]
    split
    · exact Or.inr rfl
    · split
      · exact Or.inr rfl
      · split
        · exact Or.inr rfl
        · exact Or.inl rfl
/-- digits -/
def digU (u : Int32) : Int32 := (m_digitOf 0 u).getD 0
theorem dig_g {g : Nat} {u : Int32} : m_digitOf g u = some (digU u) := by
  have e : m_digitOf g u = m_digitOf 0 u := rfl
  rw [e]
  unfold digU m_digitOf m_digitOf_17 m_digitOf_37
  split
  · split
    · split
      · rfl
      · split <;> rfl
    · split
      · split
        · rfl
        · split <;> rfl
      · rfl
  · split
    · split
      · split
        · rfl
        · split <;> rfl
      · split
        · split
          · rfl
          · split <;> rfl
        · rfl
    · rfl
theorem blk_e {g : Nat} {u : Int32} : m_Lt_isBlank g u = m_isBlank g u := rfl
theorem high_e {g : Nat} {u : Int32} : m_Lt_isHigh g u = m_isHigh g u := rfl
theorem lowu_e {g : Nat} {u : Int32} : m_Lt_isLow g u = m_isLow g u := rfl
