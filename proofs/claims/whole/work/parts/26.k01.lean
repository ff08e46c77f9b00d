theorem gkX2_35 : Cond.fieldLink RX2 35 "TextLessons$1" "$SwitchMap$TextLessons$Sort" "[I" ∈ tb := tb5 180 rfl rfl
theorem gkX4_138 : Cond.fieldLink RX4 138 "TextLessons$Sort" "spelling" "Ljava/lang/String;" ∈ tb := tb9 238 rfl rfl
theorem gkX5_86 : Cond.fieldLink RX5 86 "TextLessons$Sort" "words" "Ljava/lang/String;" ∈ tb := tb9 233 rfl rfl
theorem gkX5_89 : Cond.fieldLink RX5 89 "TextLessons$Sort" "least" "I" ∈ tb := tb9 234 rfl rfl
theorem gkX5_70 : Cond.fieldLink RX5 70 "TextLessons$Sort" "spelling" "Ljava/lang/String;" ∈ tb := tb9 230 rfl rfl
theorem gkX11_22 : Cond.fieldLink RX11 22 "TextLessons$1" "$SwitchMap$TextLessons$Sort" "[I" ∈ tb := tb5 49 rfl rfl
theorem gkX7_134 : Cond.fieldLink RX7 134 "TextLessons$Sort" (smN.getD 54 "") "LTextLessons$Sort;" ∈ tb := tb6 6 rfl rfl
theorem gkX7_147 : Cond.fieldLink RX7 147 "TextLessons$Sort" (smN.getD 53 "") "LTextLessons$Sort;" ∈ tb := tb6 10 rfl rfl
theorem gkX9_49 : Cond.fieldLink RX9 49 "TextLessons$1" "$SwitchMap$TextLessons$Sort" "[I" ∈ tb := tb4 50 rfl rfl
theorem gkX7_93 : Cond.fieldLink RX7 93 "TextLessons$Sort" "group" "I" ∈ tb := tb9 236 rfl rfl
theorem gkX7_109 : Cond.fieldLink RX7 109 "TextLessons$Sort" (smN.getD 55 "") "LTextLessons$Sort;" ∈ tb := tb5 236 rfl rfl
theorem so_lt {g : Nat} {S : St} {x0 : Nat} {x1 : Int32} {k : Nat} (h : m_Pg_sortOf g S x0 x1 = some k) : k < 56 := by
  unfold m_Pg_sortOf at h
  obtain ⟨v, hv, h⟩ := bnd h
  exact (eS_some h).2.2

theorem dX1_lacksText_0 : decode cX1_lacksText 0 = .ok (.iconst 0, 1) := by decide +kernel
theorem dX1_lacksText_1 : decode cX1_lacksText 1 = .ok (.istore_n 2, 1) := by decide +kernel
theorem dX1_lacksText_2 : decode cX1_lacksText 2 = .ok (.iload_n 2, 1) := by decide +kernel
theorem dX1_lacksText_3 : decode cX1_lacksText 3 = .ok (.aload_n 0, 1) := by decide +kernel
theorem dX1_lacksText_4 : decode cX1_lacksText 4 = .ok (.getfield 55, 3) := by decide +kernel
theorem dX1_lacksText_7 : decode cX1_lacksText 7 = .ok (.if_icmp .ge 30, 3) := by decide +kernel
theorem dX1_lacksText_10 : decode cX1_lacksText 10 = .ok (.aload_n 1, 1) := by decide +kernel
theorem dX1_lacksText_11 : decode cX1_lacksText 11 = .ok (.iload_n 2, 1) := by decide +kernel
theorem dX1_lacksText_12 : decode cX1_lacksText 12 = .ok (.invokevirtual 125, 3) := by decide +kernel
theorem dX1_lacksText_15 : decode cX1_lacksText 15 = .ok (.bipush 84, 2) := by decide +kernel
theorem dX1_lacksText_17 : decode cX1_lacksText 17 = .ok (.if_icmp .ne 14, 3) := by decide +kernel
theorem dX1_lacksText_20 : decode cX1_lacksText 20 = .ok (.aload_n 0, 1) := by decide +kernel
theorem dX1_lacksText_21 : decode cX1_lacksText 21 = .ok (.iload_n 2, 1) := by decide +kernel
theorem dX1_lacksText_22 : decode cX1_lacksText 22 = .ok (.invokevirtual 131, 3) := by decide +kernel
theorem dX1_lacksText_25 : decode cX1_lacksText 25 = .ok (.iconst (-1), 1) := by decide +kernel
theorem dX1_lacksText_26 : decode cX1_lacksText 26 = .ok (.if_icmp .ne 5, 3) := by decide +kernel
theorem dX1_lacksText_29 : decode cX1_lacksText 29 = .ok (.iconst 1, 1) := by decide +kernel
theorem dX1_lacksText_30 : decode cX1_lacksText 30 = .ok (.ireturn, 1) := by decide +kernel
theorem dX1_lacksText_31 : decode cX1_lacksText 31 = .ok (.iinc 2 1, 3) := by decide +kernel
theorem dX1_lacksText_34 : decode cX1_lacksText 34 = .ok (.goto (-32), 3) := by decide +kernel
theorem dX1_lacksText_37 : decode cX1_lacksText 37 = .ok (.iconst 0, 1) := by decide +kernel
theorem dX1_lacksText_38 : decode cX1_lacksText 38 = .ok (.ireturn, 1) := by decide +kernel
def b_Bn_lacksText_2 (g : Nat) (k2 : St → Nat → Int32 → Option (St × Int32)) (S : St) (x1 : Nat) (x2 : Int32) : Option (St × Int32) :=
if (gI S 4 11) ≤ x2 then (
  some (S, (0 : Int32))
) else (
  if (lett x1 x2) = (84 : Int32) then (
    (m_Bn_textAt g S x2).bind fun v_3 =>
    if v_3 = (-1 : Int32) then (
      some (S, (1 : Int32))
    ) else (
      lt (x2 + (1 : Int32)) fun x2_4 =>
      k2 S x1 x2_4
    )
  ) else (
    lt (x2 + (1 : Int32)) fun x2_2 =>
    k2 S x1 x2_2
  )
)
def m_Bn_lacksText_2 (g : Nat) : Nat → St → Nat → Int32 → Option (St × Int32)
  | 0, _, _, _ => none
  | n + 1, S, x1, x2 => b_Bn_lacksText_2 g (m_Bn_lacksText_2 g n) S x1 x2
def m_Bn_lacksText (g : Nat) (S : St) (x1 : Nat) : Option (St × Int32) :=
m_Bn_lacksText_2 g g S x1 (0 : Int32)
theorem kmb_Bn_lacksText_2 {g : Nat} {S : St} {x1 : Nat} {x2 : Int32} {S' : St} {r : Int32} {k2 : St → Nat → Int32 → Option (St × Int32)} (km2 : ∀ (S : St) (x1 : Nat) (x2 : Int32), k2 S x1 x2 = some (S', r) → kap S ≤ kap S') (h : b_Bn_lacksText_2 g k2 S x1 x2 = some (S', r)) : kap S ≤ kap S' := by
  unfold b_Bn_lacksText_2 at h
  have nn : nq S S := nq_rf
  by_cases hc1 : (gI S 4 11) ≤ x2
  · replace h := ift hc1 h
    obtain ⟨rfl, rfl⟩ := prI h
    have hkn := nq_kap nn
    omega
  · replace h := iff0 hc1 h
    by_cases hc2 : (lett x1 x2) = (84 : Int32)
    · replace h := ift hc2 h
      obtain ⟨v_3, hv_3, h⟩ := bnd h
      by_cases hc3 : v_3 = (-1 : Int32)
      · replace h := ift hc3 h
        obtain ⟨rfl, rfl⟩ := prI h
        have hkn := nq_kap nn
        omega
      · replace h := iff0 hc3 h
        obtain ⟨x2_4, ex2_4, h⟩ := lt_e h
        have hkn := nq_kap nn
        have h2 := km2 _ _ _ h
        omega
    · replace h := iff0 hc2 h
      obtain ⟨x2_2, ex2_2, h⟩ := lt_e h
      have hkn := nq_kap nn
      have h2 := km2 _ _ _ h
      omega
theorem km_Bn_lacksText_2 {g : Nat} {S' : St} {r : Int32} (n : Nat) : ∀ (S : St) (x1 : Nat) (x2 : Int32), m_Bn_lacksText_2 g n S x1 x2 = some (S', r) → kap S ≤ kap S' := by
  induction n with
  | zero => intro S x1 x2 h; exact absurd h (fun q => by cases q)
  | succ n ih => intro S x1 x2 h; exact kmb_Bn_lacksText_2 ih h
theorem km_Bn_lacksText {g : Nat} {S : St} {x1 : Nat} {S' : St} {r : Int32} (h : m_Bn_lacksText g S x1 = some (S', r)) : kap S ≤ kap S' := by
  unfold m_Bn_lacksText at h
  have nn : nq S S := nq_rf
  have hkn := nq_kap nn
  have h2 := km_Bn_lacksText_2 g _ _ _ h
  omega
section S_Bn_lacksText
variable {p : Program} {l : Launch} {e : Env} {s : State} {m : MethodId} {args : Array Value} {below : List Frame} {meth : Method} {c : Code} {H : Heap} {locs : List Loc} {ls : Array Slot} {D : va_G} {T : Cy} {ρ ρ0 : Nat → Nat} {S0 : St} {A : Nat → Prop} {Z : Ad}
set_option maxRecDepth 100000 in
set_option maxHeartbeats 4000000 in
theorem wb_Bn_lacksText_2 {g : Nat} {S : St} {x1 : Nat} {x2 : Int32} (C : CallFix p m c cX1_lacksText 3 s args tb RX1) (hr : meth.sig.returnType = (some .boolean)) (hk : meth.locks = false) (hcn : Kn Z A s s.heap) (hcw : Kw Z s) {S' : St} {r : Int32} {k2 : St → Nat → Int32 → Option (St × Int32)} (kk2 : ∀ (ρ : Nat → Nat) (S : St) (x1 : Nat) (x2 : Int32) (H : Heap) (locs : List Loc) (ls : Array Slot), Ag ρ0 ρ → kap S0 ≤ kap S → Wn Yc D T ρ S A s H locs → lv_has ls 3 [(0, .ref (ρ 4)), (1, .ref (Z.1 x1)), (2, .int x2)] → x1 < 56 → k2 S x1 x2 = some (S', r) → W p l e (rmK 5 106 (kap S' - kap S0)) s m args below meth c H locs (kap S - kap S0) (2 * (kap S - kap S0)) (MQ below (QiM D T ρ0 A S' r) args s (kap S' - kap S0) (2 * (kap S' - kap S0)) A) (F0 m 2 ls [])) (km2 : ∀ (S : St) (x1 : Nat) (x2 : Int32), k2 S x1 x2 = some (S', r) → kap S ≤ kap S') (ha : Ag ρ0 ρ) (hm : kap S0 ≤ kap S) (w : Wn Yc D T ρ S A s H locs) (hl : lv_has ls 3 [(0, .ref (ρ 4)), (1, .ref (Z.1 x1)), (2, .int x2)]) (ho_x1 : x1 < 56) (h : b_Bn_lacksText_2 g k2 S x1 x2 = some (S', r)) : W p l e (rmK 5 106 (kap S' - kap S0)) s m args below meth c H locs (kap S - kap S0) (2 * (kap S - kap S0)) (MQ below (QiM D T ρ0 A S' r) args s (kap S' - kap S0) (2 * (kap S' - kap S0)) A) (F0 m 2 ls []) := by
  have hT := kmb_Bn_lacksText_2 km2 h
  unfold b_Bn_lacksText_2 at h
  have nn : nq S S := nq_rf
  refine lv_iload_n C.1 C.2.1 dX1_lacksText_2 rfl (lv_at hl 2 rfl) ?_
  refine lv_aload_n C.1 C.2.1 dX1_lacksText_3 rfl (lv_at hl 0 rfl) ?_
  refine x_getI C w fX1_55 obC4 dX1_lacksText_4 ?_
  refine lv_icmp_ge (tgt := 37) C.1 C.2.1 dX1_lacksText_7 (by decide) (fun hc => ?_) (fun hc => ?_)
  · replace h := ift hc h
    refine lv_iconst (v := 0) C.1 C.2.1 dX1_lacksText_37 (by decide) ?_
    obtain ⟨rfl, rfl⟩ := prI h
    exact x_zretM C w ha hr hk (by decide) dX1_lacksText_38 (by have := nq_kap nn; omega) (by have := nq_kap nn; omega)
  · replace h := iff0 hc h
    refine lv_aload_n C.1 C.2.1 dX1_lacksText_10 rfl (lv_at hl 1 rfl) ?_
    refine lv_iload_n C.1 C.2.1 dX1_lacksText_11 rfl (lv_at hl 2 rfl) ?_
    refine x_callKi (As := [.int x2]) (rest := []) C w hcn hcw (hcn.1.1 _ (by rw [smN_len]; exact ho_x1)).2.1 (k_So_letter l Z D T ρ H.size S ho_x1) vX1_125 (hRK (by decide) (by decide)) rfl rfl hl.1 (Nat.le_of_ble_eq_true rfl) (hcK hT) dX1_lacksText_12 (fun ρ_1 H locs hag w => ?_)
    replace ha := ha.trans hag
    rw [← hag 4 (by decide)] at hl
    refine lv_bipush (v := 84) C.1 C.2.1 dX1_lacksText_15 (by decide) ?_
    refine lv_icmp_ne (tgt := 31) C.1 C.2.1 dX1_lacksText_17 (by decide) (fun hc => ?_) (fun hc => ?_)
    · replace h := iff0 hc h
      obtain ⟨x2_2, ex2_2, h⟩ := lt_e h
      refine lv_iinc (v := x2_2) (lv' := [(2, .int x2_2), (0, .ref (ρ_1 4)), (1, .ref (Z.1 x1))]) C.1 C.2.1 dX1_lacksText_31 hl (k := 2) rfl (by rw [ex2_2]; rfl) (by decide) rfl (fun ls hl => ?_)
      refine lv_goto (tgt := 2) C.1 C.2.1 dX1_lacksText_34 (by decide) ?_
      have hkn := nq_kap nn
      refine W.widen (k := kap S - kap S0) (n := 2 * (kap S - kap S0)) (by omega) (by omega) ?_
      exact kk2 _ _ _ _ _ _ _ ha (by omega) w (lv_sub hl [1, 2, 0] rfl) ho_x1 h
    · replace h := ift hc h
      refine lv_aload_n C.1 C.2.1 dX1_lacksText_20 rfl (lv_at hl 0 rfl) ?_
      refine lv_iload_n C.1 C.2.1 dX1_lacksText_21 rfl (lv_at hl 2 rfl) ?_
      obtain ⟨v_3, hv_3, h⟩ := bnd h
      refine x_callVi (q := (RX1, TX1, 12)) (As := [.int x2]) (rest := []) C w (k_Bn_textAt l D T ρ_1 g H.size S hv_3) vX1_131 (hRK (by decide) (by decide)) obC4 (by decide) rfl rfl rfl hl.1 (Nat.le_of_ble_eq_true rfl) (hcK hT) dX1_lacksText_22 (fun H locs w => ?_)
      refine lv_iconst (v := (-1)) C.1 C.2.1 dX1_lacksText_25 (by decide) ?_
      refine lv_icmp_ne (tgt := 31) C.1 C.2.1 dX1_lacksText_26 (by decide) (fun hc => ?_) (fun hc => ?_)
      · replace h := iff0 hc h
        obtain ⟨x2_4, ex2_4, h⟩ := lt_e h
        refine lv_iinc (v := x2_4) (lv' := [(2, .int x2_4), (0, .ref (ρ_1 4)), (1, .ref (Z.1 x1))]) C.1 C.2.1 dX1_lacksText_31 hl (k := 2) rfl (by rw [ex2_4]; rfl) (by decide) rfl (fun ls hl => ?_)
        refine lv_goto (tgt := 2) C.1 C.2.1 dX1_lacksText_34 (by decide) ?_
        have hkn := nq_kap nn
        refine W.widen (k := kap S - kap S0) (n := 2 * (kap S - kap S0)) (by omega) (by omega) ?_
        exact kk2 _ _ _ _ _ _ _ ha (by omega) w (lv_sub hl [1, 2, 0] rfl) ho_x1 h
      · replace h := ift hc h
        refine lv_iconst (v := 1) C.1 C.2.1 dX1_lacksText_29 (by decide) ?_
        obtain ⟨rfl, rfl⟩ := prI h
        exact x_zretM C w ha hr hk (by decide) dX1_lacksText_30 (by have := nq_kap nn; omega) (by have := nq_kap nn; omega)
theorem w_Bn_lacksText_2 {g : Nat} (C : CallFix p m c cX1_lacksText 3 s args tb RX1) (hr : meth.sig.returnType = (some .boolean)) (hk : meth.locks = false) (hcn : Kn Z A s s.heap) (hcw : Kw Z s) {S' : St} {r : Int32} (n : Nat) : ∀ (ρ : Nat → Nat) (S : St) (x1 : Nat) (x2 : Int32) (H : Heap) (locs : List Loc) (ls : Array Slot), Ag ρ0 ρ → kap S0 ≤ kap S → Wn Yc D T ρ S A s H locs → lv_has ls 3 [(0, .ref (ρ 4)), (1, .ref (Z.1 x1)), (2, .int x2)] → x1 < 56 → m_Bn_lacksText_2 g n S x1 x2 = some (S', r) → W p l e (rmK 5 106 (kap S' - kap S0)) s m args below meth c H locs (kap S - kap S0) (2 * (kap S - kap S0)) (MQ below (QiM D T ρ0 A S' r) args s (kap S' - kap S0) (2 * (kap S' - kap S0)) A) (F0 m 2 ls []) := by
  induction n with
  | zero => intro ρ S x1 x2 H locs ls ha hm w hl ho_x1 h; exact absurd h (fun q => by cases q)
  | succ n ih => intro ρ S x1 x2 H locs ls ha hm w hl ho_x1 h; exact wb_Bn_lacksText_2 C hr hk hcn hcw ih (km_Bn_lacksText_2 n) ha hm w hl ho_x1 h
set_option maxRecDepth 100000 in
set_option maxHeartbeats 4000000 in
theorem w_Bn_lacksText_0 {g : Nat} {S : St} {x1 : Nat} (C : CallFix p m c cX1_lacksText 3 s args tb RX1) (hr : meth.sig.returnType = (some .boolean)) (hk : meth.locks = false) (hcn : Kn Z A s s.heap) (hcw : Kw Z s) {S' : St} {r : Int32} (ha : Ag ρ0 ρ) (hm : kap S0 ≤ kap S) (w : Wn Yc D T ρ S A s H locs) (hl : lv_has ls 3 [(0, .ref (ρ 4)), (1, .ref (Z.1 x1))]) (ho_x1 : x1 < 56) (h : m_Bn_lacksText g S x1 = some (S', r)) : W p l e (rmK 5 106 (kap S' - kap S0)) s m args below meth c H locs (kap S - kap S0) (2 * (kap S - kap S0)) (MQ below (QiM D T ρ0 A S' r) args s (kap S' - kap S0) (2 * (kap S' - kap S0)) A) (F0 m 0 ls []) := by
  have hT := km_Bn_lacksText h
  unfold m_Bn_lacksText at h
  have nn : nq S S := nq_rf
  refine lv_iconst (v := 0) C.1 C.2.1 dX1_lacksText_0 (by decide) ?_
  refine lv_istore_n (lv' := [(2, .int (0 : Int32)), (0, .ref (ρ 4)), (1, .ref (Z.1 x1))]) C.1 C.2.1 dX1_lacksText_1 rfl hl (by decide) rfl (fun ls hl => ?_)
  have hkn := nq_kap nn
  refine W.widen (k := kap S - kap S0) (n := 2 * (kap S - kap S0)) (by omega) (by omega) ?_
  exact w_Bn_lacksText_2 C hr hk hcn hcw g _ _ _ _ _ _ _ ha (by omega) w (lv_sub hl [1, 2, 0] rfl) ho_x1 h
end S_Bn_lacksText
set_option maxRecDepth 100000 in
theorem k_Bn_lacksText (l : Launch) (Z : Ad) (D : va_G) (T : Cy) (ρ : Nat → Nat) (g sz : Nat) (S : St) {x1 : Nat} (ho_x1 : x1 < 56) {S' : St} {r : Int32} (h : m_Bn_lacksText g S x1 = some (S', r)) : MiC l Z D T ρ yX1_lacksText cX1_lacksText 3 (some .boolean) 5 106 S S' r [.ref (ρ 4), .ref (Z.1 x1)] sz :=
  x_inC (by decide) (Nat.le_of_ble_eq_true rfl) (fun p e s m below meth c ls C hr hk hcn hcw w hl => W.widen (Nat.zero_le _) (Nat.zero_le _) (w_Bn_lacksText_0 C hr hk hcn hcw Ag.rf (Nat.le_refl _) w hl ho_x1 h))

theorem dX6_addChars_0 : decode cX6_addChars 0 = .ok (.iconst 0, 1) := by decide +kernel
theorem dX6_addChars_1 : decode cX6_addChars 1 = .ok (.istore_n 2, 1) := by decide +kernel
theorem dX6_addChars_2 : decode cX6_addChars 2 = .ok (.iload_n 2, 1) := by decide +kernel
theorem dX6_addChars_3 : decode cX6_addChars 3 = .ok (.aload_n 1, 1) := by decide +kernel
theorem dX6_addChars_4 : decode cX6_addChars 4 = .ok (.invokevirtual 32, 3) := by decide +kernel
theorem dX6_addChars_7 : decode cX6_addChars 7 = .ok (.if_icmp .ge 18, 3) := by decide +kernel
theorem dX6_addChars_10 : decode cX6_addChars 10 = .ok (.aload_n 0, 1) := by decide +kernel
theorem dX6_addChars_11 : decode cX6_addChars 11 = .ok (.aload_n 1, 1) := by decide +kernel
theorem dX6_addChars_12 : decode cX6_addChars 12 = .ok (.iload_n 2, 1) := by decide +kernel
theorem dX6_addChars_13 : decode cX6_addChars 13 = .ok (.invokevirtual 38, 3) := by decide +kernel
theorem dX6_addChars_16 : decode cX6_addChars 16 = .ok (.invokevirtual 42, 3) := by decide +kernel
theorem dX6_addChars_19 : decode cX6_addChars 19 = .ok (.iinc 2 1, 3) := by decide +kernel
theorem dX6_addChars_22 : decode cX6_addChars 22 = .ok (.goto (-20), 3) := by decide +kernel
theorem dX6_addChars_25 : decode cX6_addChars 25 = .ok (.return_, 1) := by decide +kernel
def m_Row_addChars_19 (g : Nat) (k2 : St → Nat → Nat → Int32 → Option St) (S : St) (x0 : Nat) (x1 : Nat) (x2 : Int32) : Option St :=
lt (x2 + (1 : Int32)) fun x2_5 =>
k2 S x0 x1 x2_5
def b_Row_addChars_2 (g : Nat) (k2 : St → Nat → Nat → Int32 → Option St) (S : St) (x0 : Nat) (x1 : Nat) (x2 : Int32) : Option St :=
if (sLen x1) ≤ x2 then (
  some S
) else (
  (cC x1 x2).bind fun v_3 =>
  (m_Row_add g S x0 v_3).bind fun S_4 =>
  m_Row_addChars_19 g k2 S_4 x0 x1 x2
)
def m_Row_addChars_2 (g : Nat) : Nat → St → Nat → Nat → Int32 → Option St
  | 0, _, _, _, _ => none
  | n + 1, S, x0, x1, x2 => b_Row_addChars_2 g (m_Row_addChars_2 g n) S x0 x1 x2
def m_Row_addChars (g : Nat) (S : St) (x0 : Nat) (x1 : Nat) : Option St :=
m_Row_addChars_2 g g S x0 x1 (0 : Int32)
theorem km_Row_addChars_19 {g : Nat} {S : St} {x0 : Nat} {x1 : Nat} {x2 : Int32} {S' : St} {k2 : St → Nat → Nat → Int32 → Option St} (km2 : ∀ (S : St) (x0 : Nat) (x1 : Nat) (x2 : Int32), k2 S x0 x1 x2 = some S' → kap S ≤ kap S') (h : m_Row_addChars_19 g k2 S x0 x1 x2 = some S') : kap S ≤ kap S' := by
  unfold m_Row_addChars_19 at h
  have nn : nq S S := nq_rf
  obtain ⟨x2_5, ex2_5, h⟩ := lt_e h
  have hkn := nq_kap nn
  have h2 := km2 _ _ _ _ h
  omega
theorem kmb_Row_addChars_2 {g : Nat} {S : St} {x0 : Nat} {x1 : Nat} {x2 : Int32} {S' : St} {k2 : St → Nat → Nat → Int32 → Option St} (km2 : ∀ (S : St) (x0 : Nat) (x1 : Nat) (x2 : Int32), k2 S x0 x1 x2 = some S' → kap S ≤ kap S') (h : b_Row_addChars_2 g k2 S x0 x1 x2 = some S') : kap S ≤ kap S' := by
  unfold b_Row_addChars_2 at h
  have nn : nq S S := nq_rf
  by_cases hc1 : (sLen x1) ≤ x2
  · replace h := ift hc1 h
    obtain rfl := som h
    have hkn := nq_kap nn
    omega
  · replace h := iff0 hc1 h
    obtain ⟨v_3, hv_3, h⟩ := bnd h
    obtain ⟨S_4, hS_4, h⟩ := bnd h
    have hk1 := km_Row_add hS_4
    have hkn := nq_kap nn
    have h2 := km_Row_addChars_19 km2 h
    omega
theorem km_Row_addChars_2 {g : Nat} {S' : St} (n : Nat) : ∀ (S : St) (x0 : Nat) (x1 : Nat) (x2 : Int32), m_Row_addChars_2 g n S x0 x1 x2 = some S' → kap S ≤ kap S' := by
  induction n with
  | zero => intro S x0 x1 x2 h; exact absurd h (fun q => by cases q)
  | succ n ih => intro S x0 x1 x2 h; exact kmb_Row_addChars_2 ih h
theorem km_Row_addChars {g : Nat} {S : St} {x0 : Nat} {x1 : Nat} {S' : St} (h : m_Row_addChars g S x0 x1 = some S') : kap S ≤ kap S' := by
  unfold m_Row_addChars at h
  have nn : nq S S := nq_rf
  have hkn := nq_kap nn
  have h2 := km_Row_addChars_2 g _ _ _ _ h
  omega
section S_Row_addChars
variable {p : Program} {l : Launch} {e : Env} {s : State} {m : MethodId} {args : Array Value} {below : List Frame} {meth : Method} {c : Code} {H : Heap} {locs : List Loc} {ls : Array Slot} {D : va_G} {T : Cy} {ρ ρ0 : Nat → Nat} {S0 : St} {A : Nat → Prop} {Z : Ad}
set_option maxRecDepth 100000 in
set_option maxHeartbeats 4000000 in
theorem w_Row_addChars_19 {g : Nat} {S : St} {x0 : Nat} {x1 : Nat} {x2 : Int32} (C : CallFix p m c cX6_addChars 3 s args tb RX6) (hr : meth.sig.returnType = none) (hk : meth.locks = false) (hcn : Kn Z A s s.heap) (hcw : Kw Z s) {S' : St} {k2 : St → Nat → Nat → Int32 → Option St} (kk2 : ∀ (ρ : Nat → Nat) (S : St) (x0 : Nat) (x1 : Nat) (x2 : Int32) (H : Heap) (locs : List Loc) (ls : Array Slot), Ag ρ0 ρ → kap S0 ≤ kap S → Wn Yc D T ρ S A s H locs → lv_has ls 3 [(0, .ref (ρ x0)), (1, .ref (Z.2.2.2.1 x1)), (2, .int x2)] → Ob Yc x0 4 → x1 < 101 → k2 S x0 x1 x2 = some S' → W p l e (rmK 4 85 (kap S' - kap S0)) s m args below meth c H locs (kap S - kap S0) (2 * (kap S - kap S0)) (MQ below (QvM D T ρ0 A S') args s (kap S' - kap S0) (2 * (kap S' - kap S0)) A) (F0 m 2 ls [])) (km2 : ∀ (S : St) (x0 : Nat) (x1 : Nat) (x2 : Int32), k2 S x0 x1 x2 = some S' → kap S ≤ kap S') (ha : Ag ρ0 ρ) (hm : kap S0 ≤ kap S) (w : Wn Yc D T ρ S A s H locs) (hl : lv_has ls 3 [(0, .ref (ρ x0)), (1, .ref (Z.2.2.2.1 x1)), (2, .int x2)]) (ho_x0 : Ob Yc x0 4) (ho_x1 : x1 < 101) (h : m_Row_addChars_19 g k2 S x0 x1 x2 = some S') : W p l e (rmK 4 85 (kap S' - kap S0)) s m args below meth c H locs (kap S - kap S0) (2 * (kap S - kap S0)) (MQ below (QvM D T ρ0 A S') args s (kap S' - kap S0) (2 * (kap S' - kap S0)) A) (F0 m 19 ls []) := by
  have hT := km_Row_addChars_19 km2 h
  unfold m_Row_addChars_19 at h
  have nn : nq S S := nq_rf
  obtain ⟨x2_5, ex2_5, h⟩ := lt_e h
  refine lv_iinc (v := x2_5) (lv' := [(2, .int x2_5), (0, .ref (ρ x0)), (1, .ref (Z.2.2.2.1 x1))]) C.1 C.2.1 dX6_addChars_19 hl (k := 2) rfl (by rw [ex2_5]; rfl) (by decide) rfl (fun ls hl => ?_)
  refine lv_goto (tgt := 2) C.1 C.2.1 dX6_addChars_22 (by decide) ?_
  have hkn := nq_kap nn
  refine W.widen (k := kap S - kap S0) (n := 2 * (kap S - kap S0)) (by omega) (by omega) ?_
  exact kk2 _ _ _ _ _ _ _ _ ha (by omega) w (lv_sub hl [1, 2, 0] rfl) ho_x0 ho_x1 h
set_option maxRecDepth 100000 in
set_option maxHeartbeats 4000000 in
theorem wb_Row_addChars_2 {g : Nat} {S : St} {x0 : Nat} {x1 : Nat} {x2 : Int32} (C : CallFix p m c cX6_addChars 3 s args tb RX6) (hr : meth.sig.returnType = none) (hk : meth.locks = false) (hcn : Kn Z A s s.heap) (hcw : Kw Z s) {S' : St} {k2 : St → Nat → Nat → Int32 → Option St} (kk2 : ∀ (ρ : Nat → Nat) (S : St) (x0 : Nat) (x1 : Nat) (x2 : Int32) (H : Heap) (locs : List Loc) (ls : Array Slot), Ag ρ0 ρ → kap S0 ≤ kap S → Wn Yc D T ρ S A s H locs → lv_has ls 3 [(0, .ref (ρ x0)), (1, .ref (Z.2.2.2.1 x1)), (2, .int x2)] → Ob Yc x0 4 → x1 < 101 → k2 S x0 x1 x2 = some S' → W p l e (rmK 4 85 (kap S' - kap S0)) s m args below meth c H locs (kap S - kap S0) (2 * (kap S - kap S0)) (MQ below (QvM D T ρ0 A S') args s (kap S' - kap S0) (2 * (kap S' - kap S0)) A) (F0 m 2 ls [])) (km2 : ∀ (S : St) (x0 : Nat) (x1 : Nat) (x2 : Int32), k2 S x0 x1 x2 = some S' → kap S ≤ kap S') (ha : Ag ρ0 ρ) (hm : kap S0 ≤ kap S) (w : Wn Yc D T ρ S A s H locs) (hl : lv_has ls 3 [(0, .ref (ρ x0)), (1, .ref (Z.2.2.2.1 x1)), (2, .int x2)]) (ho_x0 : Ob Yc x0 4) (ho_x1 : x1 < 101) (h : b_Row_addChars_2 g k2 S x0 x1 x2 = some S') : W p l e (rmK 4 85 (kap S' - kap S0)) s m args below meth c H locs (kap S - kap S0) (2 * (kap S - kap S0)) (MQ below (QvM D T ρ0 A S') args s (kap S' - kap S0) (2 * (kap S' - kap S0)) A) (F0 m 2 ls []) := by
  have hT := kmb_Row_addChars_2 km2 h
  unfold b_Row_addChars_2 at h
  have nn : nq S S := nq_rf
  refine lv_iload_n C.1 C.2.1 dX6_addChars_2 rfl (lv_at hl 2 rfl) ?_
  refine lv_aload_n C.1 C.2.1 dX6_addChars_3 rfl (lv_at hl 1 rfl) ?_
  refine x_callKi (As := []) (rest := [.int x2]) C w hcn hcw (hcn.2.2.2.2.2.2.2.1 _ ho_x1).1 (k_sLength l Z D T ρ H.size S ho_x1) vX6_32 (hRK (by decide) (by decide)) rfl rfl hl.1 (Nat.le_of_ble_eq_true rfl) (hcK hT) dX6_addChars_4 (fun ρ_1 H locs hag w => ?_)
  replace ha := ha.trans hag
  rw [← hag x0 (ncR ho_x0)] at hl
  refine lv_icmp_ge (tgt := 25) C.1 C.2.1 dX6_addChars_7 (by decide) (fun hc => ?_) (fun hc => ?_)
  · replace h := ift hc h
    obtain rfl := som h
    exact x_vretM C w ha hr hk dX6_addChars_25 (by have := nq_kap nn; omega) (by have := nq_kap nn; omega)
  · replace h := iff0 hc h
    refine lv_aload_n C.1 C.2.1 dX6_addChars_10 rfl (lv_at hl 0 rfl) ?_
    refine lv_aload_n C.1 C.2.1 dX6_addChars_11 rfl (lv_at hl 1 rfl) ?_
    refine lv_iload_n C.1 C.2.1 dX6_addChars_12 rfl (lv_at hl 2 rfl) ?_
    obtain ⟨v_3, hv_3, h⟩ := bnd h
    obtain ⟨hiv_3, hev_3⟩ := cC_some hv_3
    refine x_callKi (r := v_3) (As := [.int x2]) (rest := [.ref (ρ_1 x0)]) C w hcn hcw (hcn.2.2.2.2.2.2.2.1 _ ho_x1).1 (hev_3 ▸ k_sCharAt l Z D T ρ_1 H.size S ho_x1 hiv_3) vX6_38 (hRK (by decide) (by decide)) rfl rfl hl.1 (Nat.le_of_ble_eq_true rfl) (hcK hT) dX6_addChars_13 (fun ρ_2 H locs hag w => ?_)
    replace ha := ha.trans hag
    rw [← hag x0 (ncR ho_x0)] at hl
    rw [← hag x0 (ncR ho_x0)]
    obtain ⟨S_4, hS_4, h⟩ := bnd h
    have hkn := nq_kap nn
    have hk1 := km_Row_add hS_4
    have hT2 := km_Row_addChars_19 km2 h
    refine x_callVvM (q := (RX6, TX6, 4)) (As := [.int v_3]) (rest := []) C w (k_Row_add l D T ρ_2 g H.size S ho_x0 hS_4) vX6_42 (hRK (by decide) (by decide)) ho_x0 (by decide) rfl rfl rfl hl.1 (Nat.le_of_ble_eq_true rfl) (hcM hm hkn hk1 hT2) dX6_addChars_16 (fun ρ1 H locs hag w => ?_)
    replace ha := ha.trans hag
    rw [← hag x0 (ncR ho_x0)] at hl
    refine W.widen (k := kap S_4 - kap S0) (n := 2 * (kap S_4 - kap S0)) (by omega) (by omega) ?_
    exact w_Row_addChars_19 C hr hk hcn hcw kk2 km2 ha (by omega) w (lv_sub hl [0, 1, 2] rfl) ho_x0 ho_x1 h
theorem w_Row_addChars_2 {g : Nat} (C : CallFix p m c cX6_addChars 3 s args tb RX6) (hr : meth.sig.returnType = none) (hk : meth.locks = false) (hcn : Kn Z A s s.heap) (hcw : Kw Z s) {S' : St} (n : Nat) : ∀ (ρ : Nat → Nat) (S : St) (x0 : Nat) (x1 : Nat) (x2 : Int32) (H : Heap) (locs : List Loc) (ls : Array Slot), Ag ρ0 ρ → kap S0 ≤ kap S → Wn Yc D T ρ S A s H locs → lv_has ls 3 [(0, .ref (ρ x0)), (1, .ref (Z.2.2.2.1 x1)), (2, .int x2)] → Ob Yc x0 4 → x1 < 101 → m_Row_addChars_2 g n S x0 x1 x2 = some S' → W p l e (rmK 4 85 (kap S' - kap S0)) s m args below meth c H locs (kap S - kap S0) (2 * (kap S - kap S0)) (MQ below (QvM D T ρ0 A S') args s (kap S' - kap S0) (2 * (kap S' - kap S0)) A) (F0 m 2 ls []) := by
  induction n with
  | zero => intro ρ S x0 x1 x2 H locs ls ha hm w hl ho_x0 ho_x1 h; exact absurd h (fun q => by cases q)
  | succ n ih => intro ρ S x0 x1 x2 H locs ls ha hm w hl ho_x0 ho_x1 h; exact wb_Row_addChars_2 C hr hk hcn hcw ih (km_Row_addChars_2 n) ha hm w hl ho_x0 ho_x1 h
set_option maxRecDepth 100000 in
set_option maxHeartbeats 4000000 in
theorem w_Row_addChars_0 {g : Nat} {S : St} {x0 : Nat} {x1 : Nat} (C : CallFix p m c cX6_addChars 3 s args tb RX6) (hr : meth.sig.returnType = none) (hk : meth.locks = false) (hcn : Kn Z A s s.heap) (hcw : Kw Z s) {S' : St} (ha : Ag ρ0 ρ) (hm : kap S0 ≤ kap S) (w : Wn Yc D T ρ S A s H locs) (hl : lv_has ls 3 [(0, .ref (ρ x0)), (1, .ref (Z.2.2.2.1 x1))]) (ho_x0 : Ob Yc x0 4) (ho_x1 : x1 < 101) (h : m_Row_addChars g S x0 x1 = some S') : W p l e (rmK 4 85 (kap S' - kap S0)) s m args below meth c H locs (kap S - kap S0) (2 * (kap S - kap S0)) (MQ below (QvM D T ρ0 A S') args s (kap S' - kap S0) (2 * (kap S' - kap S0)) A) (F0 m 0 ls []) := by
  have hT := km_Row_addChars h
  unfold m_Row_addChars at h
  have nn : nq S S := nq_rf
  refine lv_iconst (v := 0) C.1 C.2.1 dX6_addChars_0 (by decide) ?_
  refine lv_istore_n (lv' := [(2, .int (0 : Int32)), (0, .ref (ρ x0)), (1, .ref (Z.2.2.2.1 x1))]) C.1 C.2.1 dX6_addChars_1 rfl hl (by decide) rfl (fun ls hl => ?_)
  have hkn := nq_kap nn
  refine W.widen (k := kap S - kap S0) (n := 2 * (kap S - kap S0)) (by omega) (by omega) ?_
  exact w_Row_addChars_2 C hr hk hcn hcw g _ _ _ _ _ _ _ _ ha (by omega) w (lv_sub hl [1, 2, 0] rfl) ho_x0 ho_x1 h
end S_Row_addChars
set_option maxRecDepth 100000 in
theorem k_Row_addChars (l : Launch) (Z : Ad) (D : va_G) (T : Cy) (ρ : Nat → Nat) (g sz : Nat) (S : St) {x0 : Nat} {x1 : Nat} (ho_x0 : Ob Yc x0 4) (ho_x1 : x1 < 101) {S' : St} (h : m_Row_addChars g S x0 x1 = some S') : MvC l Z D T ρ yX6_addChars cX6_addChars 3 none 4 85 S S' [.ref (ρ x0), .ref (Z.2.2.2.1 x1)] sz :=
  x_inC (by decide) (Nat.le_of_ble_eq_true rfl) (fun p e s m below meth c ls C hr hk hcn hcw w hl => W.widen (Nat.zero_le _) (Nat.zero_le _) (w_Row_addChars_0 C hr hk hcn hcw Ag.rf (Nat.le_refl _) w hl ho_x0 ho_x1 h))

theorem dX1_addX_0 : decode cX1_addX 0 = .ok (.aload_n 0, 1) := by decide +kernel
theorem dX1_addX_1 : decode cX1_addX 1 = .ok (.iload_n 1, 1) := by decide +kernel
theorem dX1_addX_2 : decode cX1_addX 2 = .ok (.invokevirtual 154, 3) := by decide +kernel
theorem dX1_addX_5 : decode cX1_addX 5 = .ok (.istore_n 2, 1) := by decide +kernel
theorem dX1_addX_6 : decode cX1_addX 6 = .ok (.iload_n 2, 1) := by decide +kernel
theorem dX1_addX_7 : decode cX1_addX 7 = .ok (.bipush 64, 2) := by decide +kernel
theorem dX1_addX_9 : decode cX1_addX 9 = .ok (.if_icmp .ne 32, 3) := by decide +kernel
theorem dX1_addX_12 : decode cX1_addX 12 = .ok (.aload_n 0, 1) := by decide +kernel
theorem dX1_addX_13 : decode cX1_addX 13 = .ok (.iload_n 1, 1) := by decide +kernel
theorem dX1_addX_14 : decode cX1_addX 14 = .ok (.invokevirtual 113, 3) := by decide +kernel
theorem dX1_addX_17 : decode cX1_addX 17 = .ok (.invokestatic 157, 3) := by decide +kernel
theorem dX1_addX_20 : decode cX1_addX 20 = .ok (.ifCond .ne 5, 3) := by decide +kernel
theorem dX1_addX_23 : decode cX1_addX 23 = .ok (.iconst 3, 1) := by decide +kernel
theorem dX1_addX_24 : decode cX1_addX 24 = .ok (.ireturn, 1) := by decide +kernel
theorem dX1_addX_25 : decode cX1_addX 25 = .ok (.aload_n 0, 1) := by decide +kernel
theorem dX1_addX_26 : decode cX1_addX 26 = .ok (.getfield 49, 3) := by decide +kernel
theorem dX1_addX_29 : decode cX1_addX 29 = .ok (.aload_n 0, 1) := by decide +kernel
theorem dX1_addX_30 : decode cX1_addX 30 = .ok (.iload_n 1, 1) := by decide +kernel
theorem dX1_addX_31 : decode cX1_addX 31 = .ok (.invokevirtual 113, 3) := by decide +kernel
theorem dX1_addX_34 : decode cX1_addX 34 = .ok (.l2i, 1) := by decide +kernel
theorem dX1_addX_35 : decode cX1_addX 35 = .ok (.invokevirtual 163, 3) := by decide +kernel
theorem dX1_addX_38 : decode cX1_addX 38 = .ok (.goto 148, 3) := by decide +kernel
theorem dX1_addX_41 : decode cX1_addX 41 = .ok (.iload_n 2, 1) := by decide +kernel
theorem dX1_addX_42 : decode cX1_addX 42 = .ok (.bipush 63, 2) := by decide +kernel
theorem dX1_addX_44 : decode cX1_addX 44 = .ok (.if_icmp .ne 30, 3) := by decide +kernel
theorem dX1_addX_47 : decode cX1_addX 47 = .ok (.aload_n 0, 1) := by decide +kernel
theorem dX1_addX_48 : decode cX1_addX 48 = .ok (.getfield 49, 3) := by decide +kernel
theorem dX1_addX_51 : decode cX1_addX 51 = .ok (.aload_n 0, 1) := by decide +kernel
theorem dX1_addX_52 : decode cX1_addX 52 = .ok (.iload_n 1, 1) := by decide +kernel
theorem dX1_addX_53 : decode cX1_addX 53 = .ok (.invokevirtual 113, 3) := by decide +kernel
theorem dX1_addX_56 : decode cX1_addX 56 = .ok (.lconst 0, 1) := by decide +kernel
theorem dX1_addX_57 : decode cX1_addX 57 = .ok (.lcmp, 1) := by decide +kernel
theorem dX1_addX_58 : decode cX1_addX 58 = .ok (.ifCond .ne 8, 3) := by decide +kernel
theorem dX1_addX_61 : decode cX1_addX 61 = .ok (.ldc 166, 2) := by decide +kernel
theorem dX1_addX_63 : decode cX1_addX 63 = .ok (.goto 5, 3) := by decide +kernel
theorem dX1_addX_66 : decode cX1_addX 66 = .ok (.ldc 168, 2) := by decide +kernel
theorem dX1_addX_68 : decode cX1_addX 68 = .ok (.invokevirtual 170, 3) := by decide +kernel
theorem dX1_addX_71 : decode cX1_addX 71 = .ok (.goto 115, 3) := by decide +kernel
theorem dX1_addX_74 : decode cX1_addX 74 = .ok (.aload_n 0, 1) := by decide +kernel
theorem dX1_addX_75 : decode cX1_addX 75 = .ok (.iload_n 1, 1) := by decide +kernel
theorem dX1_addX_76 : decode cX1_addX 76 = .ok (.invokevirtual 96, 3) := by decide +kernel
theorem dX1_addX_79 : decode cX1_addX 79 = .ok (.bipush 98, 2) := by decide +kernel
theorem dX1_addX_81 : decode cX1_addX 81 = .ok (.if_icmp .ne 37, 3) := by decide +kernel
theorem dX1_addX_84 : decode cX1_addX 84 = .ok (.aload_n 0, 1) := by decide +kernel
theorem dX1_addX_85 : decode cX1_addX 85 = .ok (.getfield 28, 3) := by decide +kernel
theorem dX1_addX_88 : decode cX1_addX 88 = .ok (.aload_n 0, 1) := by decide +kernel
theorem dX1_addX_89 : decode cX1_addX 89 = .ok (.iload_n 1, 1) := by decide +kernel
theorem dX1_addX_90 : decode cX1_addX 90 = .ok (.invokevirtual 174, 3) := by decide +kernel
theorem dX1_addX_93 : decode cX1_addX 93 = .ok (.aaload, 1) := by decide +kernel
theorem dX1_addX_94 : decode cX1_addX 94 = .ok (.astore_n 3, 1) := by decide +kernel
theorem dX1_addX_95 : decode cX1_addX 95 = .ok (.aload_n 0, 1) := by decide +kernel
theorem dX1_addX_96 : decode cX1_addX 96 = .ok (.getfield 49, 3) := by decide +kernel
theorem dX1_addX_99 : decode cX1_addX 99 = .ok (.aload_n 0, 1) := by decide +kernel
theorem dX1_addX_100 : decode cX1_addX 100 = .ok (.getfield 49, 3) := by decide +kernel
theorem dX1_addX_103 : decode cX1_addX 103 = .ok (.getfield 138, 3) := by decide +kernel
theorem dX1_addX_106 : decode cX1_addX 106 = .ok (.aload_n 3, 1) := by decide +kernel
theorem dX1_addX_107 : decode cX1_addX 107 = .ok (.iconst 0, 1) := by decide +kernel
theorem dX1_addX_108 : decode cX1_addX 108 = .ok (.aload_n 3, 1) := by decide +kernel
theorem dX1_addX_109 : decode cX1_addX 109 = .ok (.getfield 138, 3) := by decide +kernel
theorem dX1_addX_112 : decode cX1_addX 112 = .ok (.invokevirtual 150, 3) := by decide +kernel
theorem dX1_addX_115 : decode cX1_addX 115 = .ok (.goto 71, 3) := by decide +kernel
theorem dX1_addX_118 : decode cX1_addX 118 = .ok (.aload_n 0, 1) := by decide +kernel
theorem dX1_addX_119 : decode cX1_addX 119 = .ok (.iload_n 1, 1) := by decide +kernel
theorem dX1_addX_120 : decode cX1_addX 120 = .ok (.invokevirtual 96, 3) := by decide +kernel
theorem dX1_addX_123 : decode cX1_addX 123 = .ok (.bipush 48, 2) := by decide +kernel
theorem dX1_addX_125 : decode cX1_addX 125 = .ok (.if_icmp .eq 13, 3) := by decide +kernel
theorem dX1_addX_128 : decode cX1_addX 128 = .ok (.aload_n 0, 1) := by decide +kernel
theorem dX1_addX_129 : decode cX1_addX 129 = .ok (.iload_n 1, 1) := by decide +kernel
theorem dX1_addX_130 : decode cX1_addX 130 = .ok (.invokevirtual 96, 3) := by decide +kernel
theorem dX1_addX_133 : decode cX1_addX 133 = .ok (.bipush 119, 2) := by decide +kernel
theorem dX1_addX_135 : decode cX1_addX 135 = .ok (.if_icmp .ne 21, 3) := by decide +kernel
theorem dX1_addX_138 : decode cX1_addX 138 = .ok (.aload_n 0, 1) := by decide +kernel
theorem dX1_addX_139 : decode cX1_addX 139 = .ok (.getfield 49, 3) := by decide +kernel
theorem dX1_addX_142 : decode cX1_addX 142 = .ok (.aload_n 0, 1) := by decide +kernel
theorem dX1_addX_143 : decode cX1_addX 143 = .ok (.iload_n 1, 1) := by decide +kernel
theorem dX1_addX_144 : decode cX1_addX 144 = .ok (.invokevirtual 113, 3) := by decide +kernel
theorem dX1_addX_147 : decode cX1_addX 147 = .ok (.ldc2_w 177, 3) := by decide +kernel
theorem dX1_addX_150 : decode cX1_addX 150 = .ok (.invokevirtual 179, 3) := by decide +kernel
theorem dX1_addX_153 : decode cX1_addX 153 = .ok (.goto 33, 3) := by decide +kernel
theorem dX1_addX_156 : decode cX1_addX 156 = .ok (.aload_n 0, 1) := by decide +kernel
theorem dX1_addX_157 : decode cX1_addX 157 = .ok (.iload_n 1, 1) := by decide +kernel
theorem dX1_addX_158 : decode cX1_addX 158 = .ok (.invokevirtual 131, 3) := by decide +kernel
theorem dX1_addX_161 : decode cX1_addX 161 = .ok (.iconst (-1), 1) := by decide +kernel
theorem dX1_addX_162 : decode cX1_addX 162 = .ok (.if_icmp .ne 15, 3) := by decide +kernel
theorem dX1_addX_165 : decode cX1_addX 165 = .ok (.aload_n 0, 1) := by decide +kernel
theorem dX1_addX_166 : decode cX1_addX 166 = .ok (.getfield 49, 3) := by decide +kernel
theorem dX1_addX_169 : decode cX1_addX 169 = .ok (.ldc 183, 2) := by decide +kernel
theorem dX1_addX_171 : decode cX1_addX 171 = .ok (.invokevirtual 170, 3) := by decide +kernel
theorem dX1_addX_174 : decode cX1_addX 174 = .ok (.goto 12, 3) := by decide +kernel
theorem dX1_addX_177 : decode cX1_addX 177 = .ok (.aload_n 0, 1) := by decide +kernel
theorem dX1_addX_178 : decode cX1_addX 178 = .ok (.aload_n 0, 1) := by decide +kernel
theorem dX1_addX_179 : decode cX1_addX 179 = .ok (.iload_n 1, 1) := by decide +kernel
theorem dX1_addX_180 : decode cX1_addX 180 = .ok (.invokevirtual 131, 3) := by decide +kernel
theorem dX1_addX_183 : decode cX1_addX 183 = .ok (.invokevirtual 185, 3) := by decide +kernel
theorem dX1_addX_186 : decode cX1_addX 186 = .ok (.iconst 0, 1) := by decide +kernel
theorem dX1_addX_187 : decode cX1_addX 187 = .ok (.ireturn, 1) := by decide +kernel
def m_Bn_addX_186 (g : Nat) (S : St) : Option (St × Int32) :=
some (S, (0 : Int32))
def m_Bn_addX_153 (g : Nat) (S : St) : Option (St × Int32) :=
m_Bn_addX_186 g S
def m_Bn_addX_138 (g : Nat) (S : St) (x1 : Int32) : Option (St × Int32) :=
(m_Bn_wholeAt g S x1).bind fun v_4 =>
(m_Row_addWhole g S 23 v_4 (10 : Int64)).bind fun S_5 =>
m_Bn_addX_153 g S_5
def m_Bn_addX_174 (g : Nat) (S : St) : Option (St × Int32) :=
m_Bn_addX_186 g S
def m_Bn_addX_115 (g : Nat) (S : St) : Option (St × Int32) :=
m_Bn_addX_186 g S
def m_Bn_addX_71 (g : Nat) (S : St) : Option (St × Int32) :=
m_Bn_addX_186 g S
def m_Bn_addX_68 (g : Nat) (S : St) (y1 : Nat) : Option (St × Int32) :=
(m_Row_addChars g S 23 y1).bind fun S_13 =>
m_Bn_addX_71 g S_13
def m_Bn_addX_38 (g : Nat) (S : St) : Option (St × Int32) :=
m_Bn_addX_186 g S
def m_Bn_addX (g : Nat) (S : St) (x1 : Int32) : Option (St × Int32) :=
(m_Bn_signAt g S x1).bind fun v_1 =>
if v_1 = (64 : Int32) then (
  (m_Bn_wholeAt g S x1).bind fun v_13 =>
  (m_Lt_isPoint g v_13).bind fun v_14 =>
  if v_14 = 0 then (
    some (S, (3 : Int32))
  ) else (
    (m_Bn_wholeAt g S x1).bind fun v_15 =>
    (m_Row_addPoint g S 23 (v_15.toInt32)).bind fun S_16 =>
    m_Bn_addX_38 g S_16
  )
) else (
  if v_1 = (63 : Int32) then (
    (m_Bn_wholeAt g S x1).bind fun v_12 =>
    if v_12 = (0 : Int64) then (
      m_Bn_addX_68 g S 5
    ) else (
      m_Bn_addX_68 g S 6
    )
  ) else (
    (m_Bn_kindAt g S x1).bind fun v_2 =>
    if v_2 = (98 : Int32) then (
      (m_Bn_builderAt g S x1).bind fun v_9 =>
      (bR S v_9).bind fun r_10 =>
      (m_Row_insert g S 23 (gI S 23 2) r_10 (0 : Int32) (gI S r_10 2)).bind fun S_11 =>
      m_Bn_addX_115 g S_11
    ) else (
      (m_Bn_kindAt g S x1).bind fun v_3 =>
      if v_3 = (48 : Int32) then (
        m_Bn_addX_138 g S x1
      ) else (
        (m_Bn_kindAt g S x1).bind fun v_4 =>
        if v_4 = (119 : Int32) then (
          m_Bn_addX_138 g S x1
        ) else (
          (m_Bn_textAt g S x1).bind fun v_5 =>
          if v_5 = (-1 : Int32) then (
            (m_Row_addChars g S 23 7).bind fun S_8 =>
            m_Bn_addX_174 g S_8
          ) else (
            (m_Bn_textAt g S x1).bind fun v_6 =>
            (m_Bn_addText g S v_6).bind fun S_7 =>
            m_Bn_addX_186 g S_7
          )
        )
      )
    )
  )
)
theorem km_Bn_addX_186 {g : Nat} {S : St} {S' : St} {r : Int32} (h : m_Bn_addX_186 g S = some (S', r)) : kap S ≤ kap S' := by
  unfold m_Bn_addX_186 at h
  have nn : nq S S := nq_rf
  obtain ⟨rfl, rfl⟩ := prI h
  have hkn := nq_kap nn
  omega
theorem km_Bn_addX_153 {g : Nat} {S : St} {S' : St} {r : Int32} (h : m_Bn_addX_153 g S = some (S', r)) : kap S ≤ kap S' := by
  unfold m_Bn_addX_153 at h
  have nn : nq S S := nq_rf
  have hkn := nq_kap nn
  have h2 := km_Bn_addX_186 h
  omega
theorem km_Bn_addX_138 {g : Nat} {S : St} {x1 : Int32} {S' : St} {r : Int32} (h : m_Bn_addX_138 g S x1 = some (S', r)) : kap S ≤ kap S' := by
  unfold m_Bn_addX_138 at h
  have nn : nq S S := nq_rf
  obtain ⟨v_4, hv_4, h⟩ := bnd h
  obtain ⟨S_5, hS_5, h⟩ := bnd h
  have hk1 := km_Row_addWhole hS_5
  have hkn := nq_kap nn
  have h2 := km_Bn_addX_153 h
  omega
theorem km_Bn_addX_174 {g : Nat} {S : St} {S' : St} {r : Int32} (h : m_Bn_addX_174 g S = some (S', r)) : kap S ≤ kap S' := by
  unfold m_Bn_addX_174 at h
  have nn : nq S S := nq_rf
  have hkn := nq_kap nn
  have h2 := km_Bn_addX_186 h
  omega
theorem km_Bn_addX_115 {g : Nat} {S : St} {S' : St} {r : Int32} (h : m_Bn_addX_115 g S = some (S', r)) : kap S ≤ kap S' := by
  unfold m_Bn_addX_115 at h
  have nn : nq S S := nq_rf
  have hkn := nq_kap nn
  have h2 := km_Bn_addX_186 h
  omega
theorem km_Bn_addX_71 {g : Nat} {S : St} {S' : St} {r : Int32} (h : m_Bn_addX_71 g S = some (S', r)) : kap S ≤ kap S' := by
  unfold m_Bn_addX_71 at h
  have nn : nq S S := nq_rf
  have hkn := nq_kap nn
  have h2 := km_Bn_addX_186 h
  omega
theorem km_Bn_addX_68 {g : Nat} {S : St} {y1 : Nat} {S' : St} {r : Int32} (h : m_Bn_addX_68 g S y1 = some (S', r)) : kap S ≤ kap S' := by
  unfold m_Bn_addX_68 at h
  have nn : nq S S := nq_rf
  obtain ⟨S_13, hS_13, h⟩ := bnd h
  have hk1 := km_Row_addChars hS_13
  have hkn := nq_kap nn
  have h2 := km_Bn_addX_71 h
  omega
theorem km_Bn_addX_38 {g : Nat} {S : St} {S' : St} {r : Int32} (h : m_Bn_addX_38 g S = some (S', r)) : kap S ≤ kap S' := by
  unfold m_Bn_addX_38 at h
  have nn : nq S S := nq_rf
  have hkn := nq_kap nn
  have h2 := km_Bn_addX_186 h
  omega
theorem km_Bn_addX {g : Nat} {S : St} {x1 : Int32} {S' : St} {r : Int32} (h : m_Bn_addX g S x1 = some (S', r)) : kap S ≤ kap S' := by
  unfold m_Bn_addX at h
  have nn : nq S S := nq_rf
  obtain ⟨v_1, hv_1, h⟩ := bnd h
  by_cases hc1 : v_1 = (64 : Int32)
  · replace h := ift hc1 h
    obtain ⟨v_13, hv_13, h⟩ := bnd h
    obtain ⟨v_14, hv_14, h⟩ := bnd h
    by_cases hc2 : v_14 = 0
    · replace h := ift hc2 h
      obtain ⟨rfl, rfl⟩ := prI h
      have hkn := nq_kap nn
      omega
    · replace h := iff0 hc2 h
      obtain ⟨v_15, hv_15, h⟩ := bnd h
      obtain ⟨S_16, hS_16, h⟩ := bnd h
      have hk1 := km_Row_addPoint hS_16
      have hkn := nq_kap nn
      have h2 := km_Bn_addX_38 h
      omega
  · replace h := iff0 hc1 h
    by_cases hc3 : v_1 = (63 : Int32)
    · replace h := ift hc3 h
      obtain ⟨v_12, hv_12, h⟩ := bnd h
      by_cases hc4 : v_12 = (0 : Int64)
      · replace h := ift hc4 h
        have hkn := nq_kap nn
        have h2 := km_Bn_addX_68 h
        omega
      · replace h := iff0 hc4 h
        have hkn := nq_kap nn
        have h2 := km_Bn_addX_68 h
        omega
    · replace h := iff0 hc3 h
      obtain ⟨v_2, hv_2, h⟩ := bnd h
      by_cases hc5 : v_2 = (98 : Int32)
      · replace h := ift hc5 h
        obtain ⟨v_9, hv_9, h⟩ := bnd h
        obtain ⟨r_10, hr_10, h⟩ := bnd h
        obtain ⟨S_11, hS_11, h⟩ := bnd h
        have hk1 := km_Row_insert hS_11
        have hkn := nq_kap nn
        have h2 := km_Bn_addX_115 h
        omega
      · replace h := iff0 hc5 h
        obtain ⟨v_3, hv_3, h⟩ := bnd h
        by_cases hc6 : v_3 = (48 : Int32)
        · replace h := ift hc6 h
          have hkn := nq_kap nn
          have h2 := km_Bn_addX_138 h
          omega
        · replace h := iff0 hc6 h
          obtain ⟨v_4, hv_4, h⟩ := bnd h
          by_cases hc7 : v_4 = (119 : Int32)
          · replace h := ift hc7 h
            have hkn := nq_kap nn
            have h2 := km_Bn_addX_138 h
            omega
          · replace h := iff0 hc7 h
            obtain ⟨v_5, hv_5, h⟩ := bnd h
            by_cases hc8 : v_5 = (-1 : Int32)
            · replace h := ift hc8 h
              obtain ⟨S_8, hS_8, h⟩ := bnd h
              have hk1 := km_Row_addChars hS_8
              have hkn := nq_kap nn
              have h2 := km_Bn_addX_174 h
              omega
            · replace h := iff0 hc8 h
              obtain ⟨v_6, hv_6, h⟩ := bnd h
              obtain ⟨S_7, hS_7, h⟩ := bnd h
              have hk1 := km_Bn_addText hS_7
              have hkn := nq_kap nn
              have h2 := km_Bn_addX_186 h
              omega
section S_Bn_addX
variable {p : Program} {l : Launch} {e : Env} {s : State} {m : MethodId} {args : Array Value} {below : List Frame} {meth : Method} {c : Code} {H : Heap} {locs : List Loc} {ls : Array Slot} {D : va_G} {T : Cy} {ρ ρ0 : Nat → Nat} {S0 : St} {A : Nat → Prop} {Z : Ad}
set_option maxRecDepth 100000 in
set_option maxHeartbeats 4000000 in
theorem w_Bn_addX_186 {g : Nat} {S : St} (C : CallFix p m c cX1_addX 4 s args tb RX1) (hr : meth.sig.returnType = (some .int)) (hk : meth.locks = false) (hcn : Kn Z A s s.heap) (hcw : Kw Z s) {S' : St} {r : Int32} (ha : Ag ρ0 ρ) (hm : kap S0 ≤ kap S) (w : Wn Yc D T ρ S A s H locs) (hl : lv_has ls 4 []) (h : m_Bn_addX_186 g S = some (S', r)) : W p l e (rmK 5 107 (kap S' - kap S0)) s m args below meth c H locs (kap S - kap S0) (2 * (kap S - kap S0)) (MQ below (QiM D T ρ0 A S' r) args s (kap S' - kap S0) (2 * (kap S' - kap S0)) A) (F0 m 186 ls []) := by
  have hT := km_Bn_addX_186 h
  unfold m_Bn_addX_186 at h
  have nn : nq S S := nq_rf
  refine lv_iconst (v := 0) C.1 C.2.1 dX1_addX_186 (by decide) ?_
  obtain ⟨rfl, rfl⟩ := prI h
  exact x_iretM C w ha hr hk dX1_addX_187 (by have := nq_kap nn; omega) (by have := nq_kap nn; omega)
set_option maxRecDepth 100000 in
set_option maxHeartbeats 4000000 in
theorem w_Bn_addX_153 {g : Nat} {S : St} (C : CallFix p m c cX1_addX 4 s args tb RX1) (hr : meth.sig.returnType = (some .int)) (hk : meth.locks = false) (hcn : Kn Z A s s.heap) (hcw : Kw Z s) {S' : St} {r : Int32} (ha : Ag ρ0 ρ) (hm : kap S0 ≤ kap S) (w : Wn Yc D T ρ S A s H locs) (hl : lv_has ls 4 []) (h : m_Bn_addX_153 g S = some (S', r)) : W p l e (rmK 5 107 (kap S' - kap S0)) s m args below meth c H locs (kap S - kap S0) (2 * (kap S - kap S0)) (MQ below (QiM D T ρ0 A S' r) args s (kap S' - kap S0) (2 * (kap S' - kap S0)) A) (F0 m 153 ls []) := by
  have hT := km_Bn_addX_153 h
  unfold m_Bn_addX_153 at h
  have nn : nq S S := nq_rf
  refine lv_goto (tgt := 186) C.1 C.2.1 dX1_addX_153 (by decide) ?_
  have hkn := nq_kap nn
  refine W.widen (k := kap S - kap S0) (n := 2 * (kap S - kap S0)) (by omega) (by omega) ?_
  exact w_Bn_addX_186 C hr hk hcn hcw ha (by omega) w (lv_sub hl [] rfl) h
set_option maxRecDepth 100000 in
set_option maxHeartbeats 4000000 in
theorem w_Bn_addX_138 {g : Nat} {S : St} {x1 : Int32} (C : CallFix p m c cX1_addX 4 s args tb RX1) (hr : meth.sig.returnType = (some .int)) (hk : meth.locks = false) (hcn : Kn Z A s s.heap) (hcw : Kw Z s) {S' : St} {r : Int32} (ha : Ag ρ0 ρ) (hm : kap S0 ≤ kap S) (w : Wn Yc D T ρ S A s H locs) (hl : lv_has ls 4 [(0, .ref (ρ 4)), (1, .int x1)]) (h : m_Bn_addX_138 g S x1 = some (S', r)) : W p l e (rmK 5 107 (kap S' - kap S0)) s m args below meth c H locs (kap S - kap S0) (2 * (kap S - kap S0)) (MQ below (QiM D T ρ0 A S' r) args s (kap S' - kap S0) (2 * (kap S' - kap S0)) A) (F0 m 138 ls []) := by
  have hT := km_Bn_addX_138 h
  unfold m_Bn_addX_138 at h
  have nn : nq S S := nq_rf
  refine lv_aload_n C.1 C.2.1 dX1_addX_138 rfl (lv_at hl 0 rfl) ?_
  refine x_getC C w 23 fX1_49 obC4 rfl dX1_addX_139 ?_
  refine lv_aload_n C.1 C.2.1 dX1_addX_142 rfl (lv_at hl 0 rfl) ?_
  refine lv_iload_n C.1 C.2.1 dX1_addX_143 rfl (lv_at hl 1 rfl) ?_
  obtain ⟨v_4, hv_4, h⟩ := bnd h
  refine x_callVj (q := (RX1, TX1, 12)) (As := [.int x1]) (rest := [.ref (ρ 23)]) C w (k_Bn_wholeAt l D T ρ g H.size S hv_4) vX1_113 (hRK (by decide) (by decide)) obC4 (by decide) rfl rfl rfl hl.1 (Nat.le_of_ble_eq_true rfl) (hcK hT) dX1_addX_144 (fun H locs w => ?_)
  refine lv_ldc2 C.1 C.2.1 C.2.2.2.1 (C.2.2.2.2 _ nX1_177) dX1_addX_147 ?_
  obtain ⟨S_5, hS_5, h⟩ := bnd h
  have hkn := nq_kap nn
  have hk1 := km_Row_addWhole hS_5
  have hT2 := km_Bn_addX_153 h
  refine x_callVvM (q := (RX6, TX6, 4)) (As := [.long v_4, .long (10 : Int64)]) (rest := []) C w (k_Row_addWhole l D T ρ g H.size S obC23 hS_5) vX1_179 (hRK (by decide) (by decide)) obC23 (by decide) rfl rfl rfl hl.1 (Nat.le_of_ble_eq_true rfl) (hcM hm hkn hk1 hT2) dX1_addX_150 (fun ρ1 H locs hag w => ?_)
  replace ha := ha.trans hag
  rw [← hag 4 (by decide)] at hl
  refine W.widen (k := kap S_5 - kap S0) (n := 2 * (kap S_5 - kap S0)) (by omega) (by omega) ?_
  exact w_Bn_addX_153 C hr hk hcn hcw ha (by omega) w (lv_sub hl [] rfl) h
set_option maxRecDepth 100000 in
set_option maxHeartbeats 4000000 in
theorem w_Bn_addX_174 {g : Nat} {S : St} (C : CallFix p m c cX1_addX 4 s args tb RX1) (hr : meth.sig.returnType = (some .int)) (hk : meth.locks = false) (hcn : Kn Z A s s.heap) (hcw : Kw Z s) {S' : St} {r : Int32} (ha : Ag ρ0 ρ) (hm : kap S0 ≤ kap S) (w : Wn Yc D T ρ S A s H locs) (hl : lv_has ls 4 []) (h : m_Bn_addX_174 g S = some (S', r)) : W p l e (rmK 5 107 (kap S' - kap S0)) s m args below meth c H locs (kap S - kap S0) (2 * (kap S - kap S0)) (MQ below (QiM D T ρ0 A S' r) args s (kap S' - kap S0) (2 * (kap S' - kap S0)) A) (F0 m 174 ls []) := by
  have hT := km_Bn_addX_174 h
  unfold m_Bn_addX_174 at h
  have nn : nq S S := nq_rf
  refine lv_goto (tgt := 186) C.1 C.2.1 dX1_addX_174 (by decide) ?_
  have hkn := nq_kap nn
  refine W.widen (k := kap S - kap S0) (n := 2 * (kap S - kap S0)) (by omega) (by omega) ?_
  exact w_Bn_addX_186 C hr hk hcn hcw ha (by omega) w (lv_sub hl [] rfl) h
set_option maxRecDepth 100000 in
set_option maxHeartbeats 4000000 in
theorem w_Bn_addX_115 {g : Nat} {S : St} (C : CallFix p m c cX1_addX 4 s args tb RX1) (hr : meth.sig.returnType = (some .int)) (hk : meth.locks = false) (hcn : Kn Z A s s.heap) (hcw : Kw Z s) {S' : St} {r : Int32} (ha : Ag ρ0 ρ) (hm : kap S0 ≤ kap S) (w : Wn Yc D T ρ S A s H locs) (hl : lv_has ls 4 []) (h : m_Bn_addX_115 g S = some (S', r)) : W p l e (rmK 5 107 (kap S' - kap S0)) s m args below meth c H locs (kap S - kap S0) (2 * (kap S - kap S0)) (MQ below (QiM D T ρ0 A S' r) args s (kap S' - kap S0) (2 * (kap S' - kap S0)) A) (F0 m 115 ls []) := by
  have hT := km_Bn_addX_115 h
  unfold m_Bn_addX_115 at h
  have nn : nq S S := nq_rf
  refine lv_goto (tgt := 186) C.1 C.2.1 dX1_addX_115 (by decide) ?_
  have hkn := nq_kap nn
  refine W.widen (k := kap S - kap S0) (n := 2 * (kap S - kap S0)) (by omega) (by omega) ?_
  exact w_Bn_addX_186 C hr hk hcn hcw ha (by omega) w (lv_sub hl [] rfl) h
set_option maxRecDepth 100000 in
set_option maxHeartbeats 4000000 in
theorem w_Bn_addX_71 {g : Nat} {S : St} (C : CallFix p m c cX1_addX 4 s args tb RX1) (hr : meth.sig.returnType = (some .int)) (hk : meth.locks = false) (hcn : Kn Z A s s.heap) (hcw : Kw Z s) {S' : St} {r : Int32} (ha : Ag ρ0 ρ) (hm : kap S0 ≤ kap S) (w : Wn Yc D T ρ S A s H locs) (hl : lv_has ls 4 []) (h : m_Bn_addX_71 g S = some (S', r)) : W p l e (rmK 5 107 (kap S' - kap S0)) s m args below meth c H locs (kap S - kap S0) (2 * (kap S - kap S0)) (MQ below (QiM D T ρ0 A S' r) args s (kap S' - kap S0) (2 * (kap S' - kap S0)) A) (F0 m 71 ls []) := by
  have hT := km_Bn_addX_71 h
  unfold m_Bn_addX_71 at h
  have nn : nq S S := nq_rf
  refine lv_goto (tgt := 186) C.1 C.2.1 dX1_addX_71 (by decide) ?_
  have hkn := nq_kap nn
  refine W.widen (k := kap S - kap S0) (n := 2 * (kap S - kap S0)) (by omega) (by omega) ?_
  exact w_Bn_addX_186 C hr hk hcn hcw ha (by omega) w (lv_sub hl [] rfl) h
set_option maxRecDepth 100000 in
set_option maxHeartbeats 4000000 in
theorem w_Bn_addX_68 {g : Nat} {S : St} {y1 : Nat} (C : CallFix p m c cX1_addX 4 s args tb RX1) (hr : meth.sig.returnType = (some .int)) (hk : meth.locks = false) (hcn : Kn Z A s s.heap) (hcw : Kw Z s) {S' : St} {r : Int32} (ha : Ag ρ0 ρ) (hm : kap S0 ≤ kap S) (w : Wn Yc D T ρ S A s H locs) (hl : lv_has ls 4 []) (ho_y1 : y1 < 101) (h : m_Bn_addX_68 g S y1 = some (S', r)) : W p l e (rmK 5 107 (kap S' - kap S0)) s m args below meth c H locs (kap S - kap S0) (2 * (kap S - kap S0)) (MQ below (QiM D T ρ0 A S' r) args s (kap S' - kap S0) (2 * (kap S' - kap S0)) A) (F0 m 68 ls [.ref (Z.2.2.2.1 y1), .ref (ρ 23)]) := by
  have hT := km_Bn_addX_68 h
  unfold m_Bn_addX_68 at h
  have nn : nq S S := nq_rf
  obtain ⟨S_13, hS_13, h⟩ := bnd h
  have hkn := nq_kap nn
  have hk1 := km_Row_addChars hS_13
  have hT2 := km_Bn_addX_71 h
  refine x_callVvC (q := (RX6, TX6, 4)) (As := [.ref (Z.2.2.2.1 y1)]) (rest := []) C w hcn hcw (k_Row_addChars l Z D T ρ g H.size S obC23 ho_y1 hS_13) vX1_170 (hRK (by decide) (by decide)) obC23 (by decide) rfl rfl rfl hl.1 (Nat.le_of_ble_eq_true rfl) (hcM hm hkn hk1 hT2) dX1_addX_68 (fun ρ1 H locs hag w => ?_)
  replace ha := ha.trans hag
  refine W.widen (k := kap S_13 - kap S0) (n := 2 * (kap S_13 - kap S0)) (by omega) (by omega) ?_
  exact w_Bn_addX_71 C hr hk hcn hcw ha (by omega) w (lv_sub hl [] rfl) h
set_option maxRecDepth 100000 in
set_option maxHeartbeats 4000000 in
theorem w_Bn_addX_38 {g : Nat} {S : St} (C : CallFix p m c cX1_addX 4 s args tb RX1) (hr : meth.sig.returnType = (some .int)) (hk : meth.locks = false) (hcn : Kn Z A s s.heap) (hcw : Kw Z s) {S' : St} {r : Int32} (ha : Ag ρ0 ρ) (hm : kap S0 ≤ kap S) (w : Wn Yc D T ρ S A s H locs) (hl : lv_has ls 4 []) (h : m_Bn_addX_38 g S = some (S', r)) : W p l e (rmK 5 107 (kap S' - kap S0)) s m args below meth c H locs (kap S - kap S0) (2 * (kap S - kap S0)) (MQ below (QiM D T ρ0 A S' r) args s (kap S' - kap S0) (2 * (kap S' - kap S0)) A) (F0 m 38 ls []) := by
  have hT := km_Bn_addX_38 h
  unfold m_Bn_addX_38 at h
  have nn : nq S S := nq_rf
  refine lv_goto (tgt := 186) C.1 C.2.1 dX1_addX_38 (by decide) ?_
  have hkn := nq_kap nn
  refine W.widen (k := kap S - kap S0) (n := 2 * (kap S - kap S0)) (by omega) (by omega) ?_
  exact w_Bn_addX_186 C hr hk hcn hcw ha (by omega) w (lv_sub hl [] rfl) h
set_option maxRecDepth 100000 in
set_option maxHeartbeats 4000000 in
theorem w_Bn_addX_0 {g : Nat} {S : St} {x1 : Int32} (C : CallFix p m c cX1_addX 4 s args tb RX1) (hr : meth.sig.returnType = (some .int)) (hk : meth.locks = false) (hcn : Kn Z A s s.heap) (hcw : Kw Z s) {S' : St} {r : Int32} (ha : Ag ρ0 ρ) (hm : kap S0 ≤ kap S) (w : Wn Yc D T ρ S A s H locs) (hl : lv_has ls 4 [(0, .ref (ρ 4)), (1, .int x1)]) (h : m_Bn_addX g S x1 = some (S', r)) : W p l e (rmK 5 107 (kap S' - kap S0)) s m args below meth c H locs (kap S - kap S0) (2 * (kap S - kap S0)) (MQ below (QiM D T ρ0 A S' r) args s (kap S' - kap S0) (2 * (kap S' - kap S0)) A) (F0 m 0 ls []) := by
  have hT := km_Bn_addX h
  unfold m_Bn_addX at h
  have nn : nq S S := nq_rf
  refine lv_aload_n C.1 C.2.1 dX1_addX_0 rfl (lv_at hl 0 rfl) ?_
  refine lv_iload_n C.1 C.2.1 dX1_addX_1 rfl (lv_at hl 1 rfl) ?_
  obtain ⟨v_1, hv_1, h⟩ := bnd h
  refine x_callVi (q := (RX1, TX1, 12)) (As := [.int x1]) (rest := []) C w (k_Bn_signAt l D T ρ g H.size S hv_1) vX1_154 (hRK (by decide) (by decide)) obC4 (by decide) rfl rfl rfl hl.1 (Nat.le_of_ble_eq_true rfl) (hcK hT) dX1_addX_2 (fun H locs w => ?_)
  refine lv_istore_n (lv' := [(2, .int v_1), (0, .ref (ρ 4)), (1, .int x1)]) C.1 C.2.1 dX1_addX_5 rfl hl (by decide) rfl (fun ls hl => ?_)
  refine lv_iload_n C.1 C.2.1 dX1_addX_6 rfl (lv_at hl 0 rfl) ?_
  refine lv_bipush (v := 64) C.1 C.2.1 dX1_addX_7 (by decide) ?_
  refine lv_icmp_ne (tgt := 41) C.1 C.2.1 dX1_addX_9 (by decide) (fun hc => ?_) (fun hc => ?_)
  · replace h := iff0 hc h
    refine lv_iload_n C.1 C.2.1 dX1_addX_41 rfl (lv_at hl 0 rfl) ?_
    refine lv_bipush (v := 63) C.1 C.2.1 dX1_addX_42 (by decide) ?_
    refine lv_icmp_ne (tgt := 74) C.1 C.2.1 dX1_addX_44 (by decide) (fun hc => ?_) (fun hc => ?_)
    · replace h := iff0 hc h
      refine lv_aload_n C.1 C.2.1 dX1_addX_74 rfl (lv_at hl 1 rfl) ?_
      refine lv_iload_n C.1 C.2.1 dX1_addX_75 rfl (lv_at hl 2 rfl) ?_
      obtain ⟨v_2, hv_2, h⟩ := bnd h
      refine x_callVi (q := (RX1, TX1, 12)) (As := [.int x1]) (rest := []) C w (k_Bn_kindAt l D T ρ g H.size S hv_2) vX1_96 (hRK (by decide) (by decide)) obC4 (by decide) rfl rfl rfl hl.1 (Nat.le_of_ble_eq_true rfl) (hcK hT) dX1_addX_76 (fun H locs w => ?_)
      refine lv_bipush (v := 98) C.1 C.2.1 dX1_addX_79 (by decide) ?_
      refine lv_icmp_ne (tgt := 118) C.1 C.2.1 dX1_addX_81 (by decide) (fun hc => ?_) (fun hc => ?_)
      · replace h := iff0 hc h
        refine lv_aload_n C.1 C.2.1 dX1_addX_118 rfl (lv_at hl 1 rfl) ?_
        refine lv_iload_n C.1 C.2.1 dX1_addX_119 rfl (lv_at hl 2 rfl) ?_
        obtain ⟨v_3, hv_3, h⟩ := bnd h
        refine x_callVi (q := (RX1, TX1, 12)) (As := [.int x1]) (rest := []) C w (k_Bn_kindAt l D T ρ g H.size S hv_3) vX1_96 (hRK (by decide) (by decide)) obC4 (by decide) rfl rfl rfl hl.1 (Nat.le_of_ble_eq_true rfl) (hcK hT) dX1_addX_120 (fun H locs w => ?_)
        refine lv_bipush (v := 48) C.1 C.2.1 dX1_addX_123 (by decide) ?_
        refine lv_icmp_eq (tgt := 138) C.1 C.2.1 dX1_addX_125 (by decide) (fun hc => ?_) (fun hc => ?_)
        · replace h := ift hc h
          have hkn := nq_kap nn
          refine W.widen (k := kap S - kap S0) (n := 2 * (kap S - kap S0)) (by omega) (by omega) ?_
          exact w_Bn_addX_138 C hr hk hcn hcw ha (by omega) w (lv_sub hl [1, 2] rfl) h
        · replace h := iff0 hc h
          refine lv_aload_n C.1 C.2.1 dX1_addX_128 rfl (lv_at hl 1 rfl) ?_
          refine lv_iload_n C.1 C.2.1 dX1_addX_129 rfl (lv_at hl 2 rfl) ?_
          obtain ⟨v_4, hv_4, h⟩ := bnd h
          refine x_callVi (q := (RX1, TX1, 12)) (As := [.int x1]) (rest := []) C w (k_Bn_kindAt l D T ρ g H.size S hv_4) vX1_96 (hRK (by decide) (by decide)) obC4 (by decide) rfl rfl rfl hl.1 (Nat.le_of_ble_eq_true rfl) (hcK hT) dX1_addX_130 (fun H locs w => ?_)
          refine lv_bipush (v := 119) C.1 C.2.1 dX1_addX_133 (by decide) ?_
          refine lv_icmp_ne (tgt := 156) C.1 C.2.1 dX1_addX_135 (by decide) (fun hc => ?_) (fun hc => ?_)
          · replace h := iff0 hc h
            refine lv_aload_n C.1 C.2.1 dX1_addX_156 rfl (lv_at hl 1 rfl) ?_
            refine lv_iload_n C.1 C.2.1 dX1_addX_157 rfl (lv_at hl 2 rfl) ?_
            obtain ⟨v_5, hv_5, h⟩ := bnd h
            refine x_callVi (q := (RX1, TX1, 12)) (As := [.int x1]) (rest := []) C w (k_Bn_textAt l D T ρ g H.size S hv_5) vX1_131 (hRK (by decide) (by decide)) obC4 (by decide) rfl rfl rfl hl.1 (Nat.le_of_ble_eq_true rfl) (hcK hT) dX1_addX_158 (fun H locs w => ?_)
            refine lv_iconst (v := (-1)) C.1 C.2.1 dX1_addX_161 (by decide) ?_
            refine lv_icmp_ne (tgt := 177) C.1 C.2.1 dX1_addX_162 (by decide) (fun hc => ?_) (fun hc => ?_)
            · replace h := iff0 hc h
              refine lv_aload_n C.1 C.2.1 dX1_addX_177 rfl (lv_at hl 1 rfl) ?_
              refine lv_aload_n C.1 C.2.1 dX1_addX_178 rfl (lv_at hl 1 rfl) ?_
              refine lv_iload_n C.1 C.2.1 dX1_addX_179 rfl (lv_at hl 2 rfl) ?_
              obtain ⟨v_6, hv_6, h⟩ := bnd h
              refine x_callVi (q := (RX1, TX1, 12)) (As := [.int x1]) (rest := [.ref (ρ 4)]) C w (k_Bn_textAt l D T ρ g H.size S hv_6) vX1_131 (hRK (by decide) (by decide)) obC4 (by decide) rfl rfl rfl hl.1 (Nat.le_of_ble_eq_true rfl) (hcK hT) dX1_addX_180 (fun H locs w => ?_)
              obtain ⟨S_7, hS_7, h⟩ := bnd h
              have hkn := nq_kap nn
              have hk1 := km_Bn_addText hS_7
              have hT2 := km_Bn_addX_186 h
              refine x_callVvM (q := (RX1, TX1, 12)) (As := [.int v_6]) (rest := []) C w (k_Bn_addText l D T ρ g H.size S hS_7) vX1_185 (hRK (by decide) (by decide)) obC4 (by decide) rfl rfl rfl hl.1 (Nat.le_of_ble_eq_true rfl) (hcM hm hkn hk1 hT2) dX1_addX_183 (fun ρ1 H locs hag w => ?_)
              replace ha := ha.trans hag
              rw [← hag 4 (by decide)] at hl
              refine W.widen (k := kap S_7 - kap S0) (n := 2 * (kap S_7 - kap S0)) (by omega) (by omega) ?_
              exact w_Bn_addX_186 C hr hk hcn hcw ha (by omega) w (lv_sub hl [] rfl) h
            · replace h := ift hc h
              refine lv_aload_n C.1 C.2.1 dX1_addX_165 rfl (lv_at hl 1 rfl) ?_
              refine x_getC C w 23 fX1_49 obC4 rfl dX1_addX_166 ?_
              refine x_ldS (j := 7) (tx := "null") C hcw (List.mem_of_getElem? (i := 7) rfl) dX1_addX_169 ?_
              obtain ⟨S_8, hS_8, h⟩ := bnd h
              have hkn := nq_kap nn
              have hk1 := km_Row_addChars hS_8
              have hT2 := km_Bn_addX_174 h
              refine x_callVvC (q := (RX6, TX6, 4)) (As := [.ref (Z.2.2.2.1 7)]) (rest := []) C w hcn hcw (k_Row_addChars l Z D T ρ g H.size S obC23 (by decide) hS_8) vX1_170 (hRK (by decide) (by decide)) obC23 (by decide) rfl rfl rfl hl.1 (Nat.le_of_ble_eq_true rfl) (hcM hm hkn hk1 hT2) dX1_addX_171 (fun ρ1 H locs hag w => ?_)
              replace ha := ha.trans hag
              rw [← hag 4 (by decide)] at hl
              refine W.widen (k := kap S_8 - kap S0) (n := 2 * (kap S_8 - kap S0)) (by omega) (by omega) ?_
              exact w_Bn_addX_174 C hr hk hcn hcw ha (by omega) w (lv_sub hl [] rfl) h
          · replace h := ift hc h
            have hkn := nq_kap nn
            refine W.widen (k := kap S - kap S0) (n := 2 * (kap S - kap S0)) (by omega) (by omega) ?_
            exact w_Bn_addX_138 C hr hk hcn hcw ha (by omega) w (lv_sub hl [1, 2] rfl) h
      · replace h := ift hc h
        refine lv_aload_n C.1 C.2.1 dX1_addX_84 rfl (lv_at hl 1 rfl) ?_
        refine x_getC C w 76 fX1_28 obC4 rfl dX1_addX_85 ?_
        refine lv_aload_n C.1 C.2.1 dX1_addX_88 rfl (lv_at hl 1 rfl) ?_
        refine lv_iload_n C.1 C.2.1 dX1_addX_89 rfl (lv_at hl 2 rfl) ?_
        obtain ⟨v_9, hv_9, h⟩ := bnd h
        refine x_callVi (q := (RX1, TX1, 12)) (As := [.int x1]) (rest := [.ref (ρ 76)]) C w (k_Bn_builderAt l D T ρ g H.size S hv_9) vX1_174 (hRK (by decide) (by decide)) obC4 (by decide) rfl rfl rfl hl.1 (Nat.le_of_ble_eq_true rfl) (hcK hT) dX1_addX_90 (fun H locs w => ?_)
        obtain ⟨r_10, hr_10, h⟩ := bnd h
        refine x_bald C w hr_10 dX1_addX_93 ?_
        refine lv_astore_n (lv' := [(3, .ref (ρ r_10)), (2, .int v_1), (0, .ref (ρ 4)), (1, .int x1)]) C.1 C.2.1 dX1_addX_94 rfl hl (by decide) rfl (fun ls hl => ?_)
        refine lv_aload_n C.1 C.2.1 dX1_addX_95 rfl (lv_at hl 2 rfl) ?_
        refine x_getC C w 23 fX1_49 obC4 rfl dX1_addX_96 ?_
        refine lv_aload_n C.1 C.2.1 dX1_addX_99 rfl (lv_at hl 2 rfl) ?_
        refine x_getC C w 23 fX1_49 obC4 rfl dX1_addX_100 ?_
        refine x_getI C w fX1_138 obC23 dX1_addX_103 ?_
        refine lv_aload_n C.1 C.2.1 dX1_addX_106 rfl (lv_at hl 0 rfl) ?_
        refine lv_iconst (v := 0) C.1 C.2.1 dX1_addX_107 (by decide) ?_
        refine lv_aload_n C.1 C.2.1 dX1_addX_108 rfl (lv_at hl 0 rfl) ?_
        refine x_getI C w fX1_138 (bR_ob hr_10) dX1_addX_109 ?_
        obtain ⟨S_11, hS_11, h⟩ := bnd h
        have hkn := nq_kap nn
        have hk1 := km_Row_insert hS_11
        have hT2 := km_Bn_addX_115 h
        refine x_callVvM (q := (RX6, TX6, 4)) (As := [.int (gI S 23 2), .ref (ρ r_10), .int (0 : Int32), .int (gI S r_10 2)]) (rest := []) C w (k_Row_insert l D T ρ g H.size S obC23 (bR_ob hr_10) hS_11) vX1_150 (hRK (by decide) (by decide)) obC23 (by decide) rfl rfl rfl hl.1 (Nat.le_of_ble_eq_true rfl) (hcM hm hkn hk1 hT2) dX1_addX_112 (fun ρ1 H locs hag w => ?_)
        replace ha := ha.trans hag
        rw [← hag r_10 (ncR (bR_ob hr_10))] at hl
        rw [← hag 4 (by decide)] at hl
        refine W.widen (k := kap S_11 - kap S0) (n := 2 * (kap S_11 - kap S0)) (by omega) (by omega) ?_
        exact w_Bn_addX_115 C hr hk hcn hcw ha (by omega) w (lv_sub hl [] rfl) h
    · replace h := ift hc h
      refine lv_aload_n C.1 C.2.1 dX1_addX_47 rfl (lv_at hl 1 rfl) ?_
      refine x_getC C w 23 fX1_49 obC4 rfl dX1_addX_48 ?_
      refine lv_aload_n C.1 C.2.1 dX1_addX_51 rfl (lv_at hl 1 rfl) ?_
      refine lv_iload_n C.1 C.2.1 dX1_addX_52 rfl (lv_at hl 2 rfl) ?_
      obtain ⟨v_12, hv_12, h⟩ := bnd h
      refine x_callVj (q := (RX1, TX1, 12)) (As := [.int x1]) (rest := [.ref (ρ 23)]) C w (k_Bn_wholeAt l D T ρ g H.size S hv_12) vX1_113 (hRK (by decide) (by decide)) obC4 (by decide) rfl rfl rfl hl.1 (Nat.le_of_ble_eq_true rfl) (hcK hT) dX1_addX_53 (fun H locs w => ?_)
      refine lv_lconst (v := 0) C.1 C.2.1 dX1_addX_56 (by decide) ?_
      refine x_l_ne (tgt := 66) C dX1_addX_57 dX1_addX_58 (by decide) (fun hc => ?_) (fun hc => ?_)
      · replace h := iff0 hc h
        refine x_ldS (j := 6) (tx := "true") C hcw (List.mem_of_getElem? (i := 6) rfl) dX1_addX_66 ?_
        have hkn := nq_kap nn
        refine W.widen (k := kap S - kap S0) (n := 2 * (kap S - kap S0)) (by omega) (by omega) ?_
        exact w_Bn_addX_68 C hr hk hcn hcw ha (by omega) w (lv_sub hl [] rfl) (by decide) h
      · replace h := ift hc h
        refine x_ldS (j := 5) (tx := "false") C hcw (List.mem_of_getElem? (i := 5) rfl) dX1_addX_61 ?_
        refine lv_goto (tgt := 68) C.1 C.2.1 dX1_addX_63 (by decide) ?_
        have hkn := nq_kap nn
        refine W.widen (k := kap S - kap S0) (n := 2 * (kap S - kap S0)) (by omega) (by omega) ?_
        exact w_Bn_addX_68 C hr hk hcn hcw ha (by omega) w (lv_sub hl [] rfl) (by decide) h
  · replace h := ift hc h
    refine lv_aload_n C.1 C.2.1 dX1_addX_12 rfl (lv_at hl 1 rfl) ?_
    refine lv_iload_n C.1 C.2.1 dX1_addX_13 rfl (lv_at hl 2 rfl) ?_
    obtain ⟨v_13, hv_13, h⟩ := bnd h
    refine x_callVj (q := (RX1, TX1, 12)) (As := [.int x1]) (rest := []) C w (k_Bn_wholeAt l D T ρ g H.size S hv_13) vX1_113 (hRK (by decide) (by decide)) obC4 (by decide) rfl rfl rfl hl.1 (Nat.le_of_ble_eq_true rfl) (hcK hT) dX1_addX_14 (fun H locs w => ?_)
    obtain ⟨v_14, hv_14, h⟩ := bnd h
    refine x_callSi (As := [.long v_13]) (rest := []) C w (k_Lt_isPoint l D T ρ g H.size S hv_14) vX1_157 (hRK (by decide) (by decide)) rfl rfl hl.1 (Nat.le_of_ble_eq_true rfl) (hcK hT) dX1_addX_17 (fun H locs w => ?_)
    refine lv_if_ne (tgt := 25) C.1 C.2.1 dX1_addX_20 (by decide) (fun hc => ?_) (fun hc => ?_)
    · replace h := iff0 hc h
      refine lv_aload_n C.1 C.2.1 dX1_addX_25 rfl (lv_at hl 1 rfl) ?_
      refine x_getC C w 23 fX1_49 obC4 rfl dX1_addX_26 ?_
      refine lv_aload_n C.1 C.2.1 dX1_addX_29 rfl (lv_at hl 1 rfl) ?_
      refine lv_iload_n C.1 C.2.1 dX1_addX_30 rfl (lv_at hl 2 rfl) ?_
      obtain ⟨v_15, hv_15, h⟩ := bnd h
      refine x_callVj (q := (RX1, TX1, 12)) (As := [.int x1]) (rest := [.ref (ρ 23)]) C w (k_Bn_wholeAt l D T ρ g H.size S hv_15) vX1_113 (hRK (by decide) (by decide)) obC4 (by decide) rfl rfl rfl hl.1 (Nat.le_of_ble_eq_true rfl) (hcK hT) dX1_addX_31 (fun H locs w => ?_)
      refine lv_l2i C.1 C.2.1 dX1_addX_34 rfl ?_
      obtain ⟨S_16, hS_16, h⟩ := bnd h
      have hkn := nq_kap nn
      have hk1 := km_Row_addPoint hS_16
      have hT2 := km_Bn_addX_38 h
      refine x_callVvM (q := (RX6, TX6, 4)) (As := [.int (v_15.toInt32)]) (rest := []) C w (k_Row_addPoint l D T ρ g H.size S obC23 hS_16) vX1_163 (hRK (by decide) (by decide)) obC23 (by decide) rfl rfl rfl hl.1 (Nat.le_of_ble_eq_true rfl) (hcM hm hkn hk1 hT2) dX1_addX_35 (fun ρ1 H locs hag w => ?_)
      replace ha := ha.trans hag
      rw [← hag 4 (by decide)] at hl
      refine W.widen (k := kap S_16 - kap S0) (n := 2 * (kap S_16 - kap S0)) (by omega) (by omega) ?_
      exact w_Bn_addX_38 C hr hk hcn hcw ha (by omega) w (lv_sub hl [] rfl) h
    · replace h := ift hc h
      refine lv_iconst (v := 3) C.1 C.2.1 dX1_addX_23 (by decide) ?_
      obtain ⟨rfl, rfl⟩ := prI h
      exact x_iretM C w ha hr hk dX1_addX_24 (by have := nq_kap nn; omega) (by have := nq_kap nn; omega)
end S_Bn_addX
set_option maxRecDepth 100000 in
theorem k_Bn_addX (l : Launch) (Z : Ad) (D : va_G) (T : Cy) (ρ : Nat → Nat) (g sz : Nat) (S : St) {x1 : Int32} {S' : St} {r : Int32} (h : m_Bn_addX g S x1 = some (S', r)) : MiC l Z D T ρ yX1_addX cX1_addX 4 (some .int) 5 107 S S' r [.ref (ρ 4), .int x1] sz :=
  x_inC (by decide) (Nat.le_of_ble_eq_true rfl) (fun p e s m below meth c ls C hr hk hcn hcw w hl => W.widen (Nat.zero_le _) (Nat.zero_le _) (w_Bn_addX_0 C hr hk hcn hcw Ag.rf (Nat.le_refl _) w hl h))

theorem dX2_insertX_0 : decode cX2_insertX 0 = .ok (.aload_n 0, 1) := by decide +kernel
theorem dX2_insertX_1 : decode cX2_insertX 1 = .ok (.getfield 9, 3) := by decide +kernel
theorem dX2_insertX_4 : decode cX2_insertX 4 = .ok (.iload_n 3, 1) := by decide +kernel
theorem dX2_insertX_5 : decode cX2_insertX 5 = .ok (.invokevirtual 98, 3) := by decide +kernel
theorem dX2_insertX_8 : decode cX2_insertX 8 = .ok (.istore 4, 2) := by decide +kernel
theorem dX2_insertX_10 : decode cX2_insertX 10 = .ok (.iload 4, 2) := by decide +kernel
theorem dX2_insertX_12 : decode cX2_insertX 12 = .ok (.ifCond .eq 6, 3) := by decide +kernel
theorem dX2_insertX_15 : decode cX2_insertX 15 = .ok (.iload 4, 2) := by decide +kernel
theorem dX2_insertX_17 : decode cX2_insertX 17 = .ok (.ireturn, 1) := by decide +kernel
theorem dX2_insertX_18 : decode cX2_insertX 18 = .ok (.aload_n 0, 1) := by decide +kernel
theorem dX2_insertX_19 : decode cX2_insertX 19 = .ok (.getfield 9, 3) := by decide +kernel
theorem dX2_insertX_22 : decode cX2_insertX 22 = .ok (.getfield 26, 3) := by decide +kernel
theorem dX2_insertX_25 : decode cX2_insertX 25 = .ok (.iload_n 1, 1) := by decide +kernel
theorem dX2_insertX_26 : decode cX2_insertX 26 = .ok (.aaload, 1) := by decide +kernel
theorem dX2_insertX_27 : decode cX2_insertX 27 = .ok (.astore 5, 2) := by decide +kernel
theorem dX2_insertX_29 : decode cX2_insertX 29 = .ok (.aload_n 0, 1) := by decide +kernel
theorem dX2_insertX_30 : decode cX2_insertX 30 = .ok (.getfield 21, 3) := by decide +kernel
theorem dX2_insertX_33 : decode cX2_insertX 33 = .ok (.getfield 101, 3) := by decide +kernel
theorem dX2_insertX_36 : decode cX2_insertX 36 = .ok (.ifCond .ne 22, 3) := by decide +kernel
theorem dX2_insertX_39 : decode cX2_insertX 39 = .ok (.aload_n 0, 1) := by decide +kernel
theorem dX2_insertX_40 : decode cX2_insertX 40 = .ok (.getfield 21, 3) := by decide +kernel
theorem dX2_insertX_43 : decode cX2_insertX 43 = .ok (.getfield 53, 3) := by decide +kernel
theorem dX2_insertX_46 : decode cX2_insertX 46 = .ok (.sipush 400, 3) := by decide +kernel
theorem dX2_insertX_49 : decode cX2_insertX 49 = .ok (.aload 5, 2) := by decide +kernel
theorem dX2_insertX_51 : decode cX2_insertX 51 = .ok (.getfield 53, 3) := by decide +kernel
theorem dX2_insertX_54 : decode cX2_insertX 54 = .ok (.isub, 1) := by decide +kernel
theorem dX2_insertX_55 : decode cX2_insertX 55 = .ok (.if_icmp .le 5, 3) := by decide +kernel
theorem dX2_insertX_58 : decode cX2_insertX 58 = .ok (.iconst 5, 1) := by decide +kernel
theorem dX2_insertX_59 : decode cX2_insertX 59 = .ok (.ireturn, 1) := by decide +kernel
theorem dX2_insertX_60 : decode cX2_insertX 60 = .ok (.aload 5, 2) := by decide +kernel
theorem dX2_insertX_62 : decode cX2_insertX 62 = .ok (.iload_n 2, 1) := by decide +kernel
theorem dX2_insertX_63 : decode cX2_insertX 63 = .ok (.aload_n 0, 1) := by decide +kernel
theorem dX2_insertX_64 : decode cX2_insertX 64 = .ok (.getfield 21, 3) := by decide +kernel
theorem dX2_insertX_67 : decode cX2_insertX 67 = .ok (.iconst 0, 1) := by decide +kernel
theorem dX2_insertX_68 : decode cX2_insertX 68 = .ok (.aload_n 0, 1) := by decide +kernel
theorem dX2_insertX_69 : decode cX2_insertX 69 = .ok (.getfield 21, 3) := by decide +kernel
theorem dX2_insertX_72 : decode cX2_insertX 72 = .ok (.getfield 53, 3) := by decide +kernel
theorem dX2_insertX_75 : decode cX2_insertX 75 = .ok (.invokevirtual 94, 3) := by decide +kernel
theorem dX2_insertX_78 : decode cX2_insertX 78 = .ok (.aload_n 0, 1) := by decide +kernel
theorem dX2_insertX_79 : decode cX2_insertX 79 = .ok (.iload_n 1, 1) := by decide +kernel
theorem dX2_insertX_80 : decode cX2_insertX 80 = .ok (.invokevirtual 105, 3) := by decide +kernel
theorem dX2_insertX_83 : decode cX2_insertX 83 = .ok (.iconst 0, 1) := by decide +kernel
theorem dX2_insertX_84 : decode cX2_insertX 84 = .ok (.ireturn, 1) := by decide +kernel
def m_BS_insertX_78 (g : Nat) (S : St) (x1 : Int32) : Option (St × Int32) :=
(m_BS_makeRoom g S x1).bind fun S_5 =>
some (S_5, (0 : Int32))
def m_BS_insertX_8 (g : Nat) (S : St) (x1 : Int32) (x2 : Int32) (y0 : Int32) : Option (St × Int32) :=
if y0 = 0 then (
  (bR S x1).bind fun r_3 =>
  if (gI S 23 3) = 0 then (
    if (gI S 23 2) ≤ ((400 : Int32) - (gI S r_3 2)) then (
      (m_Row_insert g S r_3 x2 23 (0 : Int32) (gI S 23 2)).bind fun S_4 =>
      m_BS_insertX_78 g S_4 x1
    ) else (
      some (S, (5 : Int32))
    )
  ) else (
    some (S, (5 : Int32))
  )
) else (
  some (S, y0)
)
def m_BS_insertX (g : Nat) (S : St) (x1 : Int32) (x2 : Int32) (x3 : Int32) : Option (St × Int32) :=
(m_Bn_addX g S x3).bind fun (S_1, v_2) =>
m_BS_insertX_8 g S_1 x1 x2 v_2
theorem km_BS_insertX_78 {g : Nat} {S : St} {x1 : Int32} {S' : St} {r : Int32} (h : m_BS_insertX_78 g S x1 = some (S', r)) : kap S ≤ kap S' := by
  unfold m_BS_insertX_78 at h
  have nn : nq S S := nq_rf
  obtain ⟨S_5, hS_5, h⟩ := bnd h
  replace nn : nq S_5 S := nq_tr (kq_BS_makeRoom hS_5) nn
  obtain ⟨rfl, rfl⟩ := prI h
  have hkn := nq_kap nn
  omega
theorem km_BS_insertX_8 {g : Nat} {S : St} {x1 : Int32} {x2 : Int32} {y0 : Int32} {S' : St} {r : Int32} (h : m_BS_insertX_8 g S x1 x2 y0 = some (S', r)) : kap S ≤ kap S' := by
  unfold m_BS_insertX_8 at h
  have nn : nq S S := nq_rf
  by_cases hc1 : y0 = 0
  · replace h := ift hc1 h
    obtain ⟨r_3, hr_3, h⟩ := bnd h
    by_cases hc2 : (gI S 23 3) = 0
    · replace h := ift hc2 h
      by_cases hc3 : (gI S 23 2) ≤ ((400 : Int32) - (gI S r_3 2))
      · replace h := ift hc3 h
        obtain ⟨S_4, hS_4, h⟩ := bnd h
        have hk1 := km_Row_insert hS_4
        have hkn := nq_kap nn
        have h2 := km_BS_insertX_78 h
        omega
      · replace h := iff0 hc3 h
        obtain ⟨rfl, rfl⟩ := prI h
        have hkn := nq_kap nn
        omega
    · replace h := iff0 hc2 h
      obtain ⟨rfl, rfl⟩ := prI h
      have hkn := nq_kap nn
      omega
  · replace h := iff0 hc1 h
    obtain ⟨rfl, rfl⟩ := prI h
    have hkn := nq_kap nn
    omega
theorem km_BS_insertX {g : Nat} {S : St} {x1 : Int32} {x2 : Int32} {x3 : Int32} {S' : St} {r : Int32} (h : m_BS_insertX g S x1 x2 x3 = some (S', r)) : kap S ≤ kap S' := by
  unfold m_BS_insertX at h
  have nn : nq S S := nq_rf
  obtain ⟨⟨S_1, v_2⟩, hv_2, h⟩ := bnd h
  have hk1 := km_Bn_addX hv_2
  have hkn := nq_kap nn
  have h2 := km_BS_insertX_8 h
  omega
section S_BS_insertX
variable {p : Program} {l : Launch} {e : Env} {s : State} {m : MethodId} {args : Array Value} {below : List Frame} {meth : Method} {c : Code} {H : Heap} {locs : List Loc} {ls : Array Slot} {D : va_G} {T : Cy} {ρ ρ0 : Nat → Nat} {S0 : St} {A : Nat → Prop} {Z : Ad}
set_option maxRecDepth 100000 in
set_option maxHeartbeats 4000000 in
theorem w_BS_insertX_78 {g : Nat} {S : St} {x1 : Int32} (C : CallFix p m c cX2_insertX 6 s args tb RX2) (hr : meth.sig.returnType = (some .int)) (hk : meth.locks = false) (hcn : Kn Z A s s.heap) (hcw : Kw Z s) {S' : St} {r : Int32} (ha : Ag ρ0 ρ) (hm : kap S0 ≤ kap S) (w : Wn Yc D T ρ S A s H locs) (hl : lv_has ls 6 [(0, .ref (ρ 9)), (1, .int x1)]) (h : m_BS_insertX_78 g S x1 = some (S', r)) : W p l e (rmK 6 130 (kap S' - kap S0)) s m args below meth c H locs (kap S - kap S0) (2 * (kap S - kap S0)) (MQ below (QiM D T ρ0 A S' r) args s (kap S' - kap S0) (2 * (kap S' - kap S0)) A) (F0 m 78 ls []) := by
  have hT := km_BS_insertX_78 h
  unfold m_BS_insertX_78 at h
  have nn : nq S S := nq_rf
  refine lv_aload_n C.1 C.2.1 dX2_insertX_78 rfl (lv_at hl 0 rfl) ?_
  refine lv_iload_n C.1 C.2.1 dX2_insertX_79 rfl (lv_at hl 1 rfl) ?_
  obtain ⟨S_5, hS_5, h⟩ := bnd h
  replace nn : nq S_5 S := nq_tr (kq_BS_makeRoom hS_5) nn
  refine x_callVv (q := (RX2, TX2, 2)) (As := [.int x1]) (rest := []) C w (k_BS_makeRoom l D T ρ g H.size S hS_5) vX2_105 (hRK (by decide) (by decide)) obC9 (by decide) rfl rfl rfl hl.1 (Nat.le_of_ble_eq_true rfl) (hcK hT) dX2_insertX_80 (fun H locs w => ?_)
  refine lv_iconst (v := 0) C.1 C.2.1 dX2_insertX_83 (by decide) ?_
  obtain ⟨rfl, rfl⟩ := prI h
  exact x_iretM C w ha hr hk dX2_insertX_84 (by have := nq_kap nn; omega) (by have := nq_kap nn; omega)
set_option maxRecDepth 100000 in
set_option maxHeartbeats 4000000 in
theorem w_BS_insertX_8 {g : Nat} {S : St} {x1 : Int32} {x2 : Int32} {y0 : Int32} (C : CallFix p m c cX2_insertX 6 s args tb RX2) (hr : meth.sig.returnType = (some .int)) (hk : meth.locks = false) (hcn : Kn Z A s s.heap) (hcw : Kw Z s) {S' : St} {r : Int32} (ha : Ag ρ0 ρ) (hm : kap S0 ≤ kap S) (w : Wn Yc D T ρ S A s H locs) (hl : lv_has ls 6 [(0, .ref (ρ 9)), (1, .int x1), (2, .int x2)]) (h : m_BS_insertX_8 g S x1 x2 y0 = some (S', r)) : W p l e (rmK 6 130 (kap S' - kap S0)) s m args below meth c H locs (kap S - kap S0) (2 * (kap S - kap S0)) (MQ below (QiM D T ρ0 A S' r) args s (kap S' - kap S0) (2 * (kap S' - kap S0)) A) (F0 m 8 ls [.int y0]) := by
  have hT := km_BS_insertX_8 h
  unfold m_BS_insertX_8 at h
  have nn : nq S S := nq_rf
  refine lv_istore (lv' := [(4, .int y0), (0, .ref (ρ 9)), (1, .int x1), (2, .int x2)]) C.1 C.2.1 dX2_insertX_8 hl (by decide) rfl (fun ls hl => ?_)
  refine lv_iload C.1 C.2.1 dX2_insertX_10 (lv_at hl 0 rfl) ?_
  refine lv_if_eq (tgt := 18) C.1 C.2.1 dX2_insertX_12 (by decide) (fun hc => ?_) (fun hc => ?_)
  · replace h := ift hc h
    refine lv_aload_n C.1 C.2.1 dX2_insertX_18 rfl (lv_at hl 1 rfl) ?_
    refine x_getC C w 4 fX2_9 obC9 rfl dX2_insertX_19 ?_
    refine x_getC C w 76 fX2_26 obC4 rfl dX2_insertX_22 ?_
    refine lv_iload_n C.1 C.2.1 dX2_insertX_25 rfl (lv_at hl 2 rfl) ?_
    obtain ⟨r_3, hr_3, h⟩ := bnd h
    refine x_bald C w hr_3 dX2_insertX_26 ?_
    refine lv_astore (lv' := [(5, .ref (ρ r_3)), (4, .int y0), (0, .ref (ρ 9)), (1, .int x1), (2, .int x2)]) C.1 C.2.1 dX2_insertX_27 hl (by decide) rfl (fun ls hl => ?_)
    refine lv_aload_n C.1 C.2.1 dX2_insertX_29 rfl (lv_at hl 2 rfl) ?_
    refine x_getC C w 23 fX2_21 obC9 rfl dX2_insertX_30 ?_
    refine x_getI C w fX2_101 obC23 dX2_insertX_33 ?_
    refine lv_if_ne (tgt := 58) C.1 C.2.1 dX2_insertX_36 (by decide) (fun hc => ?_) (fun hc => ?_)
    · replace h := iff0 hc h
      refine lv_iconst (v := 5) C.1 C.2.1 dX2_insertX_58 (by decide) ?_
      obtain ⟨rfl, rfl⟩ := prI h
      exact x_iretM C w ha hr hk dX2_insertX_59 (by have := nq_kap nn; omega) (by have := nq_kap nn; omega)
    · replace h := ift hc h
      refine lv_aload_n C.1 C.2.1 dX2_insertX_39 rfl (lv_at hl 2 rfl) ?_
      refine x_getC C w 23 fX2_21 obC9 rfl dX2_insertX_40 ?_
      refine x_getI C w fX2_53 obC23 dX2_insertX_43 ?_
      refine lv_sipush (v := 400) C.1 C.2.1 dX2_insertX_46 (by decide) ?_
      refine lv_aload C.1 C.2.1 dX2_insertX_49 (lv_at hl 0 rfl) ?_
      refine x_getI C w fX2_53 (bR_ob hr_3) dX2_insertX_51 ?_
      refine lv_isub C.1 C.2.1 dX2_insertX_54 ?_
      refine lv_icmp_le (tgt := 60) C.1 C.2.1 dX2_insertX_55 (by decide) (fun hc => ?_) (fun hc => ?_)
      · replace h := ift hc h
        refine lv_aload C.1 C.2.1 dX2_insertX_60 (lv_at hl 0 rfl) ?_
        refine lv_iload_n C.1 C.2.1 dX2_insertX_62 rfl (lv_at hl 4 rfl) ?_
        refine lv_aload_n C.1 C.2.1 dX2_insertX_63 rfl (lv_at hl 2 rfl) ?_
        refine x_getC C w 23 fX2_21 obC9 rfl dX2_insertX_64 ?_
        refine lv_iconst (v := 0) C.1 C.2.1 dX2_insertX_67 (by decide) ?_
        refine lv_aload_n C.1 C.2.1 dX2_insertX_68 rfl (lv_at hl 2 rfl) ?_
        refine x_getC C w 23 fX2_21 obC9 rfl dX2_insertX_69 ?_
        refine x_getI C w fX2_53 obC23 dX2_insertX_72 ?_
        obtain ⟨S_4, hS_4, h⟩ := bnd h
        have hkn := nq_kap nn
        have hk1 := km_Row_insert hS_4
        have hT2 := km_BS_insertX_78 h
        refine x_callVvM (q := (RX6, TX6, 4)) (As := [.int x2, .ref (ρ 23), .int (0 : Int32), .int (gI S 23 2)]) (rest := []) C w (k_Row_insert l D T ρ g H.size S (bR_ob hr_3) obC23 hS_4) vX2_94 (hRK (by decide) (by decide)) (bR_ob hr_3) (by decide) rfl rfl rfl hl.1 (Nat.le_of_ble_eq_true rfl) (hcM hm hkn hk1 hT2) dX2_insertX_75 (fun ρ1 H locs hag w => ?_)
        replace ha := ha.trans hag
        rw [← hag r_3 (ncR (bR_ob hr_3))] at hl
        rw [← hag 9 (by decide)] at hl
        refine W.widen (k := kap S_4 - kap S0) (n := 2 * (kap S_4 - kap S0)) (by omega) (by omega) ?_
        exact w_BS_insertX_78 C hr hk hcn hcw ha (by omega) w (lv_sub hl [2, 3] rfl) h
      · replace h := iff0 hc h
        refine lv_iconst (v := 5) C.1 C.2.1 dX2_insertX_58 (by decide) ?_
        obtain ⟨rfl, rfl⟩ := prI h
        exact x_iretM C w ha hr hk dX2_insertX_59 (by have := nq_kap nn; omega) (by have := nq_kap nn; omega)
  · replace h := iff0 hc h
    refine lv_iload C.1 C.2.1 dX2_insertX_15 (lv_at hl 0 rfl) ?_
    obtain ⟨rfl, rfl⟩ := prI h
    exact x_iretM C w ha hr hk dX2_insertX_17 (by have := nq_kap nn; omega) (by have := nq_kap nn; omega)
set_option maxRecDepth 100000 in
set_option maxHeartbeats 4000000 in
theorem w_BS_insertX_0 {g : Nat} {S : St} {x1 : Int32} {x2 : Int32} {x3 : Int32} (C : CallFix p m c cX2_insertX 6 s args tb RX2) (hr : meth.sig.returnType = (some .int)) (hk : meth.locks = false) (hcn : Kn Z A s s.heap) (hcw : Kw Z s) {S' : St} {r : Int32} (ha : Ag ρ0 ρ) (hm : kap S0 ≤ kap S) (w : Wn Yc D T ρ S A s H locs) (hl : lv_has ls 6 [(0, .ref (ρ 9)), (1, .int x1), (2, .int x2), (3, .int x3)]) (h : m_BS_insertX g S x1 x2 x3 = some (S', r)) : W p l e (rmK 6 130 (kap S' - kap S0)) s m args below meth c H locs (kap S - kap S0) (2 * (kap S - kap S0)) (MQ below (QiM D T ρ0 A S' r) args s (kap S' - kap S0) (2 * (kap S' - kap S0)) A) (F0 m 0 ls []) := by
  have hT := km_BS_insertX h
  unfold m_BS_insertX at h
  have nn : nq S S := nq_rf
  refine lv_aload_n C.1 C.2.1 dX2_insertX_0 rfl (lv_at hl 0 rfl) ?_
  refine x_getC C w 4 fX2_9 obC9 rfl dX2_insertX_1 ?_
  refine lv_iload_n C.1 C.2.1 dX2_insertX_4 rfl (lv_at hl 3 rfl) ?_
  obtain ⟨⟨S_1, v_2⟩, hv_2, h⟩ := bnd h
  have hkn := nq_kap nn
  have hk1 := km_Bn_addX hv_2
  have hT2 := km_BS_insertX_8 h
  refine x_callViC (q := (RX1, TX1, 12)) (As := [.int x3]) (rest := []) C w hcn hcw (k_Bn_addX l Z D T ρ g H.size S hv_2) vX2_98 (hRK (by decide) (by decide)) obC4 (by decide) rfl rfl rfl hl.1 (Nat.le_of_ble_eq_true rfl) (hcM hm hkn hk1 hT2) dX2_insertX_5 (fun ρ1 H locs hag w => ?_)
  replace ha := ha.trans hag
  rw [← hag 9 (by decide)] at hl
  refine W.widen (k := kap S_1 - kap S0) (n := 2 * (kap S_1 - kap S0)) (by omega) (by omega) ?_
  exact w_BS_insertX_8 C hr hk hcn hcw ha (by omega) w (lv_sub hl [0, 1, 2] rfl) h
end S_BS_insertX
set_option maxRecDepth 100000 in
theorem k_BS_insertX (l : Launch) (Z : Ad) (D : va_G) (T : Cy) (ρ : Nat → Nat) (g sz : Nat) (S : St) {x1 : Int32} {x2 : Int32} {x3 : Int32} {S' : St} {r : Int32} (h : m_BS_insertX g S x1 x2 x3 = some (S', r)) : MiC l Z D T ρ yX2_insertX cX2_insertX 6 (some .int) 6 130 S S' r [.ref (ρ 9), .int x1, .int x2, .int x3] sz :=
  x_inC (by decide) (Nat.le_of_ble_eq_true rfl) (fun p e s m below meth c ls C hr hk hcn hcw w hl => W.widen (Nat.zero_le _) (Nat.zero_le _) (w_BS_insertX_0 C hr hk hcn hcw Ag.rf (Nat.le_refl _) w hl h))

theorem dX2_change_0 : decode cX2_change 0 = .ok (.aload_n 0, 1) := by decide +kernel
theorem dX2_change_1 : decode cX2_change 1 = .ok (.getfield 9, 3) := by decide +kernel
theorem dX2_change_4 : decode cX2_change 4 = .ok (.iconst 0, 1) := by decide +kernel
theorem dX2_change_5 : decode cX2_change 5 = .ok (.invokevirtual 22, 3) := by decide +kernel
theorem dX2_change_8 : decode cX2_change 8 = .ok (.istore_n 2, 1) := by decide +kernel
theorem dX2_change_9 : decode cX2_change 9 = .ok (.aload_n 0, 1) := by decide +kernel
theorem dX2_change_10 : decode cX2_change 10 = .ok (.getfield 9, 3) := by decide +kernel
theorem dX2_change_13 : decode cX2_change 13 = .ok (.getfield 26, 3) := by decide +kernel
theorem dX2_change_16 : decode cX2_change 16 = .ok (.iload_n 2, 1) := by decide +kernel
theorem dX2_change_17 : decode cX2_change 17 = .ok (.aaload, 1) := by decide +kernel
theorem dX2_change_18 : decode cX2_change 18 = .ok (.astore_n 3, 1) := by decide +kernel
theorem dX2_change_19 : decode cX2_change 19 = .ok (.aload_n 0, 1) := by decide +kernel
theorem dX2_change_20 : decode cX2_change 20 = .ok (.getfield 21, 3) := by decide +kernel
theorem dX2_change_23 : decode cX2_change 23 = .ok (.invokevirtual 30, 3) := by decide +kernel
theorem dX2_change_26 : decode cX2_change 26 = .ok (.getstatic 35, 3) := by decide +kernel
theorem dX2_change_29 : decode cX2_change 29 = .ok (.aload_n 1, 1) := by decide +kernel
theorem dX2_change_30 : decode cX2_change 30 = .ok (.invokevirtual 41, 3) := by decide +kernel
theorem dX2_change_33 : decode cX2_change 33 = .ok (.iaload, 1) := by decide +kernel
theorem dX2_change_34 : decode cX2_change 34 = .ok (.tableswitch 134 46 53 #[46, 52, 58, 69, 110, 116, 122, 128], 46) := by decide +kernel
theorem dX2_change_80 : decode cX2_change 80 = .ok (.aload_n 0, 1) := by decide +kernel
theorem dX2_change_81 : decode cX2_change 81 = .ok (.iload_n 2, 1) := by decide +kernel
theorem dX2_change_82 : decode cX2_change 82 = .ok (.invokevirtual 47, 3) := by decide +kernel
theorem dX2_change_85 : decode cX2_change 85 = .ok (.ireturn, 1) := by decide +kernel
theorem dX2_change_86 : decode cX2_change 86 = .ok (.aload_n 0, 1) := by decide +kernel
theorem dX2_change_87 : decode cX2_change 87 = .ok (.iload_n 2, 1) := by decide +kernel
theorem dX2_change_88 : decode cX2_change 88 = .ok (.invokevirtual 50, 3) := by decide +kernel
theorem dX2_change_91 : decode cX2_change 91 = .ok (.ireturn, 1) := by decide +kernel
theorem dX2_change_92 : decode cX2_change 92 = .ok (.aload_n 0, 1) := by decide +kernel
theorem dX2_change_93 : decode cX2_change 93 = .ok (.iload_n 2, 1) := by decide +kernel
theorem dX2_change_94 : decode cX2_change 94 = .ok (.aload_n 3, 1) := by decide +kernel
theorem dX2_change_95 : decode cX2_change 95 = .ok (.getfield 53, 3) := by decide +kernel
theorem dX2_change_98 : decode cX2_change 98 = .ok (.iconst 1, 1) := by decide +kernel
theorem dX2_change_99 : decode cX2_change 99 = .ok (.invokevirtual 57, 3) := by decide +kernel
theorem dX2_change_102 : decode cX2_change 102 = .ok (.ireturn, 1) := by decide +kernel
theorem dX2_change_103 : decode cX2_change 103 = .ok (.aload_n 0, 1) := by decide +kernel
theorem dX2_change_104 : decode cX2_change 104 = .ok (.getfield 9, 3) := by decide +kernel
theorem dX2_change_107 : decode cX2_change 107 = .ok (.iconst 1, 1) := by decide +kernel
theorem dX2_change_108 : decode cX2_change 108 = .ok (.aload_n 3, 1) := by decide +kernel
theorem dX2_change_109 : decode cX2_change 109 = .ok (.getfield 53, 3) := by decide +kernel
theorem dX2_change_112 : decode cX2_change 112 = .ok (.invokevirtual 61, 3) := by decide +kernel
theorem dX2_change_115 : decode cX2_change 115 = .ok (.istore 4, 2) := by decide +kernel
theorem dX2_change_117 : decode cX2_change 117 = .ok (.iload 4, 2) := by decide +kernel
theorem dX2_change_119 : decode cX2_change 119 = .ok (.ifCond .lt 12, 3) := by decide +kernel
theorem dX2_change_122 : decode cX2_change 122 = .ok (.iload 4, 2) := by decide +kernel
theorem dX2_change_124 : decode cX2_change 124 = .ok (.aload_n 3, 1) := by decide +kernel
theorem dX2_change_125 : decode cX2_change 125 = .ok (.getfield 53, 3) := by decide +kernel
theorem dX2_change_128 : decode cX2_change 128 = .ok (.if_icmp .le 7, 3) := by decide +kernel
theorem dX2_change_131 : decode cX2_change 131 = .ok (.iconst 1, 1) := by decide +kernel
theorem dX2_change_132 : decode cX2_change 132 = .ok (.goto 11, 3) := by decide +kernel
theorem dX2_change_135 : decode cX2_change 135 = .ok (.aload_n 0, 1) := by decide +kernel
theorem dX2_change_136 : decode cX2_change 136 = .ok (.iload_n 2, 1) := by decide +kernel
theorem dX2_change_137 : decode cX2_change 137 = .ok (.iload 4, 2) := by decide +kernel
theorem dX2_change_139 : decode cX2_change 139 = .ok (.iconst 2, 1) := by decide +kernel
theorem dX2_change_140 : decode cX2_change 140 = .ok (.invokevirtual 57, 3) := by decide +kernel
theorem dX2_change_143 : decode cX2_change 143 = .ok (.ireturn, 1) := by decide +kernel
theorem dX2_change_144 : decode cX2_change 144 = .ok (.aload_n 0, 1) := by decide +kernel
theorem dX2_change_145 : decode cX2_change 145 = .ok (.aload_n 3, 1) := by decide +kernel
theorem dX2_change_146 : decode cX2_change 146 = .ok (.invokevirtual 65, 3) := by decide +kernel
theorem dX2_change_149 : decode cX2_change 149 = .ok (.ireturn, 1) := by decide +kernel
theorem dX2_change_150 : decode cX2_change 150 = .ok (.aload_n 0, 1) := by decide +kernel
theorem dX2_change_151 : decode cX2_change 151 = .ok (.aload_n 3, 1) := by decide +kernel
theorem dX2_change_152 : decode cX2_change 152 = .ok (.invokevirtual 69, 3) := by decide +kernel
theorem dX2_change_155 : decode cX2_change 155 = .ok (.ireturn, 1) := by decide +kernel
theorem dX2_change_156 : decode cX2_change 156 = .ok (.aload_n 0, 1) := by decide +kernel
theorem dX2_change_157 : decode cX2_change 157 = .ok (.aload_n 3, 1) := by decide +kernel
theorem dX2_change_158 : decode cX2_change 158 = .ok (.invokevirtual 72, 3) := by decide +kernel
theorem dX2_change_161 : decode cX2_change 161 = .ok (.ireturn, 1) := by decide +kernel
theorem dX2_change_162 : decode cX2_change 162 = .ok (.aload_n 0, 1) := by decide +kernel
theorem dX2_change_163 : decode cX2_change 163 = .ok (.iload_n 2, 1) := by decide +kernel
theorem dX2_change_164 : decode cX2_change 164 = .ok (.invokevirtual 75, 3) := by decide +kernel
theorem dX2_change_167 : decode cX2_change 167 = .ok (.ireturn, 1) := by decide +kernel
theorem dX2_change_168 : decode cX2_change 168 = .ok (.iconst 0, 1) := by decide +kernel
theorem dX2_change_169 : decode cX2_change 169 = .ok (.ireturn, 1) := by decide +kernel
def m_BS_change_91 (g : Nat) (S : St) (y0 : Int32) : Option (St × Int32) :=
some (S, y0)
def m_BS_change_102 (g : Nat) (S : St) (y0 : Int32) : Option (St × Int32) :=
some (S, y0)
def m_BS_change_143 (g : Nat) (S : St) (y0 : Int32) : Option (St × Int32) :=
some (S, y0)
def m_BS_change_161 (g : Nat) (S : St) (y0 : Int32) : Option (St × Int32) :=
some (S, y0)
def m_BS_change_167 (g : Nat) (S : St) (y0 : Int32) : Option (St × Int32) :=
some (S, y0)
def m_BS_change (g : Nat) (S : St) (x1 : Nat) : Option (St × Int32) :=
(m_Bn_builderAt g S (0 : Int32)).bind fun v_1 =>
(bR S v_1).bind fun r_2 =>
(m_Row_clear g S 23).bind fun S_3 =>
(eS (nI x1)).bind fun e_5 =>
if (swT.getD e_5 0) = (46 : Int32) then (
  (m_BS_makeFresh g S_3 v_1).bind fun (S_6, v_7) =>
  some (S_6, v_7)
) else
if (swT.getD e_5 0) = (47 : Int32) then (
  (m_BS_open g S_3 v_1).bind fun (S_8, v_9) =>
  m_BS_change_91 g S_8 v_9
) else
if (swT.getD e_5 0) = (48 : Int32) then (
  (m_BS_insertX g S_3 v_1 (gI S_3 r_2 2) (1 : Int32)).bind fun (S_10, v_11) =>
  m_BS_change_102 g S_10 v_11
) else
if (swT.getD e_5 0) = (49 : Int32) then (
  (m_Bn_placeAt g S_3 (1 : Int32) (gI S_3 r_2 2)).bind fun v_12 =>
  if v_12 < 0 then (
    m_BS_change_143 g S_3 (1 : Int32)
  ) else (
    if v_12 ≤ (gI S_3 r_2 2) then (
      (m_BS_insertX g S_3 v_1 v_12 (2 : Int32)).bind fun (S_13, v_14) =>
      m_BS_change_143 g S_13 v_14
    ) else (
      m_BS_change_143 g S_3 (1 : Int32)
    )
  )
) else
if (swT.getD e_5 0) = (50 : Int32) then (
  (m_BS_delete g S_3 r_2).bind fun (S_15, v_16) =>
  some (S_15, v_16)
) else
if (swT.getD e_5 0) = (51 : Int32) then (
  (m_BS_put g S_3 r_2).bind fun (S_17, v_18) =>
  some (S_17, v_18)
) else
if (swT.getD e_5 0) = (52 : Int32) then (
  (m_BS_turn g S_3 r_2).bind fun (S_19, v_20) =>
  m_BS_change_161 g S_19 v_20
) else
if (swT.getD e_5 0) = (53 : Int32) then (
  (m_BS_resize g S_3 v_1).bind fun (S_21, v_22) =>
  m_BS_change_167 g S_21 v_22
) else
(
  some (S_3, (0 : Int32))
)
theorem km_BS_change_91 {g : Nat} {S : St} {y0 : Int32} {S' : St} {r : Int32} (h : m_BS_change_91 g S y0 = some (S', r)) : kap S ≤ kap S' := by
  unfold m_BS_change_91 at h
  have nn : nq S S := nq_rf
  obtain ⟨rfl, rfl⟩ := prI h
  have hkn := nq_kap nn
  omega
theorem km_BS_change_102 {g : Nat} {S : St} {y0 : Int32} {S' : St} {r : Int32} (h : m_BS_change_102 g S y0 = some (S', r)) : kap S ≤ kap S' := by
  unfold m_BS_change_102 at h
  have nn : nq S S := nq_rf
  obtain ⟨rfl, rfl⟩ := prI h
  have hkn := nq_kap nn
  omega
theorem km_BS_change_143 {g : Nat} {S : St} {y0 : Int32} {S' : St} {r : Int32} (h : m_BS_change_143 g S y0 = some (S', r)) : kap S ≤ kap S' := by
  unfold m_BS_change_143 at h
  have nn : nq S S := nq_rf
  obtain ⟨rfl, rfl⟩ := prI h
  have hkn := nq_kap nn
  omega
theorem km_BS_change_161 {g : Nat} {S : St} {y0 : Int32} {S' : St} {r : Int32} (h : m_BS_change_161 g S y0 = some (S', r)) : kap S ≤ kap S' := by
  unfold m_BS_change_161 at h
  have nn : nq S S := nq_rf
  obtain ⟨rfl, rfl⟩ := prI h
  have hkn := nq_kap nn
  omega
theorem km_BS_change_167 {g : Nat} {S : St} {y0 : Int32} {S' : St} {r : Int32} (h : m_BS_change_167 g S y0 = some (S', r)) : kap S ≤ kap S' := by
  unfold m_BS_change_167 at h
  have nn : nq S S := nq_rf
  obtain ⟨rfl, rfl⟩ := prI h
  have hkn := nq_kap nn
  omega
theorem km_BS_change {g : Nat} {S : St} {x1 : Nat} {S' : St} {r : Int32} (h : m_BS_change g S x1 = some (S', r)) : kap S ≤ kap S' := by
  unfold m_BS_change at h
  have nn : nq S S := nq_rf
  obtain ⟨v_1, hv_1, h⟩ := bnd h
  obtain ⟨r_2, hr_2, h⟩ := bnd h
  obtain ⟨S_3, hS_3, h⟩ := bnd h
  replace nn : nq S_3 S := nq_tr (kq_Row_clear hS_3) nn
  obtain ⟨e_5, he_5, h⟩ := bnd h
  by_cases hc1 : (swT.getD e_5 0) = (46 : Int32)
  · replace h := ift hc1 h
    obtain ⟨⟨S_6, v_7⟩, hv_7, h⟩ := bnd h
    replace nn : nq S_6 S := nq_tr (kq_BS_makeFresh hv_7) nn
    obtain ⟨rfl, rfl⟩ := prI h
    have hkn := nq_kap nn
    omega
  replace h := iff0 hc1 h
  by_cases hc2 : (swT.getD e_5 0) = (47 : Int32)
  · replace h := ift hc2 h
    obtain ⟨⟨S_8, v_9⟩, hv_9, h⟩ := bnd h
    have hk1 := km_BS_open hv_9
    have hkn := nq_kap nn
    have h2 := km_BS_change_91 h
    omega
  replace h := iff0 hc2 h
  by_cases hc3 : (swT.getD e_5 0) = (48 : Int32)
  · replace h := ift hc3 h
    obtain ⟨⟨S_10, v_11⟩, hv_11, h⟩ := bnd h
    have hk1 := km_BS_insertX hv_11
    have hkn := nq_kap nn
    have h2 := km_BS_change_102 h
    omega
  replace h := iff0 hc3 h
  by_cases hc4 : (swT.getD e_5 0) = (49 : Int32)
  · replace h := ift hc4 h
    obtain ⟨v_12, hv_12, h⟩ := bnd h
    by_cases hc5 : v_12 < 0
    · replace h := ift hc5 h
      have hkn := nq_kap nn
      have h2 := km_BS_change_143 h
      omega
    · replace h := iff0 hc5 h
      by_cases hc6 : v_12 ≤ (gI S_3 r_2 2)
      · replace h := ift hc6 h
        obtain ⟨⟨S_13, v_14⟩, hv_14, h⟩ := bnd h
        have hk1 := km_BS_insertX hv_14
        have hkn := nq_kap nn
        have h2 := km_BS_change_143 h
        omega
      · replace h := iff0 hc6 h
        have hkn := nq_kap nn
        have h2 := km_BS_change_143 h
        omega
  replace h := iff0 hc4 h
  by_cases hc7 : (swT.getD e_5 0) = (50 : Int32)
  · replace h := ift hc7 h
    obtain ⟨⟨S_15, v_16⟩, hv_16, h⟩ := bnd h
    replace nn : nq S_15 S := nq_tr (kq_BS_delete hv_16) nn
    obtain ⟨rfl, rfl⟩ := prI h
    have hkn := nq_kap nn
    omega
  replace h := iff0 hc7 h
  by_cases hc8 : (swT.getD e_5 0) = (51 : Int32)
  · replace h := ift hc8 h
    obtain ⟨⟨S_17, v_18⟩, hv_18, h⟩ := bnd h
    replace nn : nq S_17 S := nq_tr (kq_BS_put hv_18) nn
    obtain ⟨rfl, rfl⟩ := prI h
    have hkn := nq_kap nn
    omega
  replace h := iff0 hc8 h
  by_cases hc9 : (swT.getD e_5 0) = (52 : Int32)
  · replace h := ift hc9 h
    obtain ⟨⟨S_19, v_20⟩, hv_20, h⟩ := bnd h
    have hk1 := km_BS_turn hv_20
    have hkn := nq_kap nn
    have h2 := km_BS_change_161 h
    omega
  replace h := iff0 hc9 h
  by_cases hc10 : (swT.getD e_5 0) = (53 : Int32)
  · replace h := ift hc10 h
    obtain ⟨⟨S_21, v_22⟩, hv_22, h⟩ := bnd h
    have hk1 := km_BS_resize hv_22
    have hkn := nq_kap nn
    have h2 := km_BS_change_167 h
    omega
  replace h := iff0 hc10 h
  obtain ⟨rfl, rfl⟩ := prI h
  have hkn := nq_kap nn
  omega
section S_BS_change
variable {p : Program} {l : Launch} {e : Env} {s : State} {m : MethodId} {args : Array Value} {below : List Frame} {meth : Method} {c : Code} {H : Heap} {locs : List Loc} {ls : Array Slot} {D : va_G} {T : Cy} {ρ ρ0 : Nat → Nat} {S0 : St} {A : Nat → Prop} {Z : Ad}
set_option maxRecDepth 100000 in
set_option maxHeartbeats 4000000 in
theorem w_BS_change_91 {g : Nat} {S : St} {y0 : Int32} (C : CallFix p m c cX2_change 5 s args tb RX2) (hr : meth.sig.returnType = (some .int)) (hk : meth.locks = false) (hcn : Kn Z A s s.heap) (hcw : Kw Z s) {S' : St} {r : Int32} (ha : Ag ρ0 ρ) (hm : kap S0 ≤ kap S) (w : Wn Yc D T ρ S A s H locs) (hl : lv_has ls 5 []) (h : m_BS_change_91 g S y0 = some (S', r)) : W p l e (rmK 7 155 (kap S' - kap S0)) s m args below meth c H locs (kap S - kap S0) (2 * (kap S - kap S0)) (MQ below (QiM D T ρ0 A S' r) args s (kap S' - kap S0) (2 * (kap S' - kap S0)) A) (F0 m 91 ls [.int y0]) := by
  have hT := km_BS_change_91 h
  unfold m_BS_change_91 at h
  have nn : nq S S := nq_rf
  obtain ⟨rfl, rfl⟩ := prI h
  exact x_iretM C w ha hr hk dX2_change_91 (by have := nq_kap nn; omega) (by have := nq_kap nn; omega)
set_option maxRecDepth 100000 in
set_option maxHeartbeats 4000000 in
theorem w_BS_change_102 {g : Nat} {S : St} {y0 : Int32} (C : CallFix p m c cX2_change 5 s args tb RX2) (hr : meth.sig.returnType = (some .int)) (hk : meth.locks = false) (hcn : Kn Z A s s.heap) (hcw : Kw Z s) {S' : St} {r : Int32} (ha : Ag ρ0 ρ) (hm : kap S0 ≤ kap S) (w : Wn Yc D T ρ S A s H locs) (hl : lv_has ls 5 []) (h : m_BS_change_102 g S y0 = some (S', r)) : W p l e (rmK 7 155 (kap S' - kap S0)) s m args below meth c H locs (kap S - kap S0) (2 * (kap S - kap S0)) (MQ below (QiM D T ρ0 A S' r) args s (kap S' - kap S0) (2 * (kap S' - kap S0)) A) (F0 m 102 ls [.int y0]) := by
  have hT := km_BS_change_102 h
  unfold m_BS_change_102 at h
  have nn : nq S S := nq_rf
  obtain ⟨rfl, rfl⟩ := prI h
  exact x_iretM C w ha hr hk dX2_change_102 (by have := nq_kap nn; omega) (by have := nq_kap nn; omega)
set_option maxRecDepth 100000 in
set_option maxHeartbeats 4000000 in
theorem w_BS_change_143 {g : Nat} {S : St} {y0 : Int32} (C : CallFix p m c cX2_change 5 s args tb RX2) (hr : meth.sig.returnType = (some .int)) (hk : meth.locks = false) (hcn : Kn Z A s s.heap) (hcw : Kw Z s) {S' : St} {r : Int32} (ha : Ag ρ0 ρ) (hm : kap S0 ≤ kap S) (w : Wn Yc D T ρ S A s H locs) (hl : lv_has ls 5 []) (h : m_BS_change_143 g S y0 = some (S', r)) : W p l e (rmK 7 155 (kap S' - kap S0)) s m args below meth c H locs (kap S - kap S0) (2 * (kap S - kap S0)) (MQ below (QiM D T ρ0 A S' r) args s (kap S' - kap S0) (2 * (kap S' - kap S0)) A) (F0 m 143 ls [.int y0]) := by
  have hT := km_BS_change_143 h
  unfold m_BS_change_143 at h
  have nn : nq S S := nq_rf
  obtain ⟨rfl, rfl⟩ := prI h
  exact x_iretM C w ha hr hk dX2_change_143 (by have := nq_kap nn; omega) (by have := nq_kap nn; omega)
set_option maxRecDepth 100000 in
set_option maxHeartbeats 4000000 in
theorem w_BS_change_161 {g : Nat} {S : St} {y0 : Int32} (C : CallFix p m c cX2_change 5 s args tb RX2) (hr : meth.sig.returnType = (some .int)) (hk : meth.locks = false) (hcn : Kn Z A s s.heap) (hcw : Kw Z s) {S' : St} {r : Int32} (ha : Ag ρ0 ρ) (hm : kap S0 ≤ kap S) (w : Wn Yc D T ρ S A s H locs) (hl : lv_has ls 5 []) (h : m_BS_change_161 g S y0 = some (S', r)) : W p l e (rmK 7 155 (kap S' - kap S0)) s m args below meth c H locs (kap S - kap S0) (2 * (kap S - kap S0)) (MQ below (QiM D T ρ0 A S' r) args s (kap S' - kap S0) (2 * (kap S' - kap S0)) A) (F0 m 161 ls [.int y0]) := by
  have hT := km_BS_change_161 h
  unfold m_BS_change_161 at h
  have nn : nq S S := nq_rf
  obtain ⟨rfl, rfl⟩ := prI h
  exact x_iretM C w ha hr hk dX2_change_161 (by have := nq_kap nn; omega) (by have := nq_kap nn; omega)
set_option maxRecDepth 100000 in
set_option maxHeartbeats 4000000 in
theorem w_BS_change_167 {g : Nat} {S : St} {y0 : Int32} (C : CallFix p m c cX2_change 5 s args tb RX2) (hr : meth.sig.returnType = (some .int)) (hk : meth.locks = false) (hcn : Kn Z A s s.heap) (hcw : Kw Z s) {S' : St} {r : Int32} (ha : Ag ρ0 ρ) (hm : kap S0 ≤ kap S) (w : Wn Yc D T ρ S A s H locs) (hl : lv_has ls 5 []) (h : m_BS_change_167 g S y0 = some (S', r)) : W p l e (rmK 7 155 (kap S' - kap S0)) s m args below meth c H locs (kap S - kap S0) (2 * (kap S - kap S0)) (MQ below (QiM D T ρ0 A S' r) args s (kap S' - kap S0) (2 * (kap S' - kap S0)) A) (F0 m 167 ls [.int y0]) := by
  have hT := km_BS_change_167 h
  unfold m_BS_change_167 at h
  have nn : nq S S := nq_rf
  obtain ⟨rfl, rfl⟩ := prI h
  exact x_iretM C w ha hr hk dX2_change_167 (by have := nq_kap nn; omega) (by have := nq_kap nn; omega)
set_option maxRecDepth 100000 in
set_option maxHeartbeats 4000000 in
theorem w_BS_change_0 {g : Nat} {S : St} {x1 : Nat} (C : CallFix p m c cX2_change 5 s args tb RX2) (hr : meth.sig.returnType = (some .int)) (hk : meth.locks = false) (hcn : Kn Z A s s.heap) (hcw : Kw Z s) {S' : St} {r : Int32} (ha : Ag ρ0 ρ) (hm : kap S0 ≤ kap S) (w : Wn Yc D T ρ S A s H locs) (hl : lv_has ls 5 [(0, .ref (ρ 9)), (1, .ref (Z.1 x1))]) (ho_x1 : x1 < 56) (h : m_BS_change g S x1 = some (S', r)) : W p l e (rmK 7 155 (kap S' - kap S0)) s m args below meth c H locs (kap S - kap S0) (2 * (kap S - kap S0)) (MQ below (QiM D T ρ0 A S' r) args s (kap S' - kap S0) (2 * (kap S' - kap S0)) A) (F0 m 0 ls []) := by
  have hT := km_BS_change h
  unfold m_BS_change at h
  have nn : nq S S := nq_rf
  refine lv_aload_n C.1 C.2.1 dX2_change_0 rfl (lv_at hl 0 rfl) ?_
  refine x_getC C w 4 fX2_9 obC9 rfl dX2_change_1 ?_
  refine lv_iconst (v := 0) C.1 C.2.1 dX2_change_4 (by decide) ?_
  obtain ⟨v_1, hv_1, h⟩ := bnd h
  refine x_callVi (q := (RX1, TX1, 12)) (As := [.int (0 : Int32)]) (rest := []) C w (k_Bn_builderAt l D T ρ g H.size S hv_1) vX2_22 (hRK (by decide) (by decide)) obC4 (by decide) rfl rfl rfl hl.1 (Nat.le_of_ble_eq_true rfl) (hcK hT) dX2_change_5 (fun H locs w => ?_)
  refine lv_istore_n (lv' := [(2, .int v_1), (0, .ref (ρ 9)), (1, .ref (Z.1 x1))]) C.1 C.2.1 dX2_change_8 rfl hl (by decide) rfl (fun ls hl => ?_)
  refine lv_aload_n C.1 C.2.1 dX2_change_9 rfl (lv_at hl 1 rfl) ?_
  refine x_getC C w 4 fX2_9 obC9 rfl dX2_change_10 ?_
  refine x_getC C w 76 fX2_26 obC4 rfl dX2_change_13 ?_
  refine lv_iload_n C.1 C.2.1 dX2_change_16 rfl (lv_at hl 0 rfl) ?_
  obtain ⟨r_2, hr_2, h⟩ := bnd h
  refine x_bald C w hr_2 dX2_change_17 ?_
  refine lv_astore_n (lv' := [(3, .ref (ρ r_2)), (2, .int v_1), (0, .ref (ρ 9)), (1, .ref (Z.1 x1))]) C.1 C.2.1 dX2_change_18 rfl hl (by decide) rfl (fun ls hl => ?_)
  refine lv_aload_n C.1 C.2.1 dX2_change_19 rfl (lv_at hl 2 rfl) ?_
  refine x_getC C w 23 fX2_21 obC9 rfl dX2_change_20 ?_
  obtain ⟨S_3, hS_3, h⟩ := bnd h
  replace nn : nq S_3 S := nq_tr (kq_Row_clear hS_3) nn
  refine x_callVv (q := (RX6, TX6, 4)) (As := []) (rest := []) C w (k_Row_clear l D T ρ g H.size S obC23 hS_3) vX2_30 (hRK (by decide) (by decide)) obC23 (by decide) rfl rfl rfl hl.1 (Nat.le_of_ble_eq_true rfl) (hcK hT) dX2_change_23 (fun H locs w => ?_)
  refine x_swm C w hcn gkX2_35 dX2_change_26 ?_
  refine lv_aload_n C.1 C.2.1 dX2_change_29 rfl (lv_at hl 3 rfl) ?_
  refine x_ord (rest := [.ref Z.2.2.1]) ho_x1 C w hcn hcw or_2 (hRK (by decide) (by decide)) hl.1 (Nat.le_of_ble_eq_true rfl) (hcK hT) dX2_change_30 (fun ρ_4 H locs hag w => ?_)
  replace ha := ha.trans hag
  rw [← hag r_2 (ncR (bR_ob hr_2))] at hl
  rw [← hag 9 (by decide)] at hl
  obtain ⟨e_5, he_5, h⟩ := bnd h
  refine x_swl C w hcn he_5 dX2_change_33 ?_
  by_cases hz34_0 : (swT.getD e_5 0) = (46 : Int32)
  · replace h := ift hz34_0 h
    refine lv_tableIn (off := 46) (tgt := 80) C.1 C.2.1 dX2_change_34 (by rw [hz34_0]; decide) (by rw [hz34_0]; decide) (by rw [hz34_0]; decide +kernel) (by decide) ?_
    refine lv_aload_n C.1 C.2.1 dX2_change_80 rfl (lv_at hl 2 rfl) ?_
    refine lv_iload_n C.1 C.2.1 dX2_change_81 rfl (lv_at hl 1 rfl) ?_
    obtain ⟨⟨S_6, v_7⟩, hv_7, h⟩ := bnd h
    replace nn : nq S_6 S := nq_tr (kq_BS_makeFresh hv_7) nn
    refine x_callVi (q := (RX2, TX2, 2)) (As := [.int v_1]) (rest := []) C w (k_BS_makeFresh l D T ρ_4 g H.size S_3 hv_7) vX2_47 (hRK (by decide) (by decide)) obC9 (by decide) rfl rfl rfl hl.1 (Nat.le_of_ble_eq_true rfl) (hcK hT) dX2_change_82 (fun H locs w => ?_)
    obtain ⟨rfl, rfl⟩ := prI h
    exact x_iretM C w ha hr hk dX2_change_85 (by have := nq_kap nn; omega) (by have := nq_kap nn; omega)
  replace h := iff0 hz34_0 h
  by_cases hz34_1 : (swT.getD e_5 0) = (47 : Int32)
  · replace h := ift hz34_1 h
    refine lv_tableIn (off := 52) (tgt := 86) C.1 C.2.1 dX2_change_34 (by rw [hz34_1]; decide) (by rw [hz34_1]; decide) (by rw [hz34_1]; decide +kernel) (by decide) ?_
    refine lv_aload_n C.1 C.2.1 dX2_change_86 rfl (lv_at hl 2 rfl) ?_
    refine lv_iload_n C.1 C.2.1 dX2_change_87 rfl (lv_at hl 1 rfl) ?_
    obtain ⟨⟨S_8, v_9⟩, hv_9, h⟩ := bnd h
    have hkn := nq_kap nn
    have hk1 := km_BS_open hv_9
    have hT2 := km_BS_change_91 h
    refine x_callViM (q := (RX2, TX2, 2)) (As := [.int v_1]) (rest := []) C w (k_BS_open l D T ρ_4 g H.size S_3 hv_9) vX2_50 (hRK (by decide) (by decide)) obC9 (by decide) rfl rfl rfl hl.1 (Nat.le_of_ble_eq_true rfl) (hcM hm hkn hk1 hT2) dX2_change_88 (fun ρ1 H locs hag w => ?_)
    replace ha := ha.trans hag
    rw [← hag r_2 (ncR (bR_ob hr_2))] at hl
    rw [← hag 9 (by decide)] at hl
    refine W.widen (k := kap S_8 - kap S0) (n := 2 * (kap S_8 - kap S0)) (by omega) (by omega) ?_
    exact w_BS_change_91 C hr hk hcn hcw ha (by omega) w (lv_sub hl [] rfl) h
  replace h := iff0 hz34_1 h
  by_cases hz34_2 : (swT.getD e_5 0) = (48 : Int32)
  · replace h := ift hz34_2 h
    refine lv_tableIn (off := 58) (tgt := 92) C.1 C.2.1 dX2_change_34 (by rw [hz34_2]; decide) (by rw [hz34_2]; decide) (by rw [hz34_2]; decide +kernel) (by decide) ?_
    refine lv_aload_n C.1 C.2.1 dX2_change_92 rfl (lv_at hl 2 rfl) ?_
    refine lv_iload_n C.1 C.2.1 dX2_change_93 rfl (lv_at hl 1 rfl) ?_
    refine lv_aload_n C.1 C.2.1 dX2_change_94 rfl (lv_at hl 0 rfl) ?_
    refine x_getI C w fX2_53 (bR_ob hr_2) dX2_change_95 ?_
    refine lv_iconst (v := 1) C.1 C.2.1 dX2_change_98 (by decide) ?_
    obtain ⟨⟨S_10, v_11⟩, hv_11, h⟩ := bnd h
    have hkn := nq_kap nn
    have hk1 := km_BS_insertX hv_11
    have hT2 := km_BS_change_102 h
    refine x_callViC (q := (RX2, TX2, 2)) (As := [.int v_1, .int (gI S_3 r_2 2), .int (1 : Int32)]) (rest := []) C w hcn hcw (k_BS_insertX l Z D T ρ_4 g H.size S_3 hv_11) vX2_57 (hRK (by decide) (by decide)) obC9 (by decide) rfl rfl rfl hl.1 (Nat.le_of_ble_eq_true rfl) (hcM hm hkn hk1 hT2) dX2_change_99 (fun ρ1 H locs hag w => ?_)
    replace ha := ha.trans hag
    rw [← hag r_2 (ncR (bR_ob hr_2))] at hl
    rw [← hag 9 (by decide)] at hl
    refine W.widen (k := kap S_10 - kap S0) (n := 2 * (kap S_10 - kap S0)) (by omega) (by omega) ?_
    exact w_BS_change_102 C hr hk hcn hcw ha (by omega) w (lv_sub hl [] rfl) h
  replace h := iff0 hz34_2 h
  by_cases hz34_3 : (swT.getD e_5 0) = (49 : Int32)
  · replace h := ift hz34_3 h
    refine lv_tableIn (off := 69) (tgt := 103) C.1 C.2.1 dX2_change_34 (by rw [hz34_3]; decide) (by rw [hz34_3]; decide) (by rw [hz34_3]; decide +kernel) (by decide) ?_
    refine lv_aload_n C.1 C.2.1 dX2_change_103 rfl (lv_at hl 2 rfl) ?_
    refine x_getC C w 4 fX2_9 obC9 rfl dX2_change_104 ?_
    refine lv_iconst (v := 1) C.1 C.2.1 dX2_change_107 (by decide) ?_
    refine lv_aload_n C.1 C.2.1 dX2_change_108 rfl (lv_at hl 0 rfl) ?_
    refine x_getI C w fX2_53 (bR_ob hr_2) dX2_change_109 ?_
    obtain ⟨v_12, hv_12, h⟩ := bnd h
    refine x_callVi (q := (RX1, TX1, 12)) (As := [.int (1 : Int32), .int (gI S_3 r_2 2)]) (rest := []) C w (k_Bn_placeAt l D T ρ_4 g H.size S_3 hv_12) vX2_61 (hRK (by decide) (by decide)) obC4 (by decide) rfl rfl rfl hl.1 (Nat.le_of_ble_eq_true rfl) (hcK hT) dX2_change_112 (fun H locs w => ?_)
    refine lv_istore (lv' := [(4, .int v_12), (3, .ref (ρ_4 r_2)), (2, .int v_1), (0, .ref (ρ_4 9)), (1, .ref (Z.1 x1))]) C.1 C.2.1 dX2_change_115 hl (by decide) rfl (fun ls hl => ?_)
    refine lv_iload C.1 C.2.1 dX2_change_117 (lv_at hl 0 rfl) ?_
    refine lv_if_lt (tgt := 131) C.1 C.2.1 dX2_change_119 (by decide) (fun hc => ?_) (fun hc => ?_)
    · replace h := ift hc h
      refine lv_iconst (v := 1) C.1 C.2.1 dX2_change_131 (by decide) ?_
      refine lv_goto (tgt := 143) C.1 C.2.1 dX2_change_132 (by decide) ?_
      have hkn := nq_kap nn
      refine W.widen (k := kap S_3 - kap S0) (n := 2 * (kap S_3 - kap S0)) (by omega) (by omega) ?_
      exact w_BS_change_143 C hr hk hcn hcw ha (by omega) w (lv_sub hl [] rfl) h
    · replace h := iff0 hc h
      refine lv_iload C.1 C.2.1 dX2_change_122 (lv_at hl 0 rfl) ?_
      refine lv_aload_n C.1 C.2.1 dX2_change_124 rfl (lv_at hl 1 rfl) ?_
      refine x_getI C w fX2_53 (bR_ob hr_2) dX2_change_125 ?_
      refine lv_icmp_le (tgt := 135) C.1 C.2.1 dX2_change_128 (by decide) (fun hc => ?_) (fun hc => ?_)
      · replace h := ift hc h
        refine lv_aload_n C.1 C.2.1 dX2_change_135 rfl (lv_at hl 3 rfl) ?_
        refine lv_iload_n C.1 C.2.1 dX2_change_136 rfl (lv_at hl 2 rfl) ?_
        refine lv_iload C.1 C.2.1 dX2_change_137 (lv_at hl 0 rfl) ?_
        refine lv_iconst (v := 2) C.1 C.2.1 dX2_change_139 (by decide) ?_
        obtain ⟨⟨S_13, v_14⟩, hv_14, h⟩ := bnd h
        have hkn := nq_kap nn
        have hk1 := km_BS_insertX hv_14
        have hT2 := km_BS_change_143 h
        refine x_callViC (q := (RX2, TX2, 2)) (As := [.int v_1, .int v_12, .int (2 : Int32)]) (rest := []) C w hcn hcw (k_BS_insertX l Z D T ρ_4 g H.size S_3 hv_14) vX2_57 (hRK (by decide) (by decide)) obC9 (by decide) rfl rfl rfl hl.1 (Nat.le_of_ble_eq_true rfl) (hcM hm hkn hk1 hT2) dX2_change_140 (fun ρ1 H locs hag w => ?_)
        replace ha := ha.trans hag
        rw [← hag r_2 (ncR (bR_ob hr_2))] at hl
        rw [← hag 9 (by decide)] at hl
        refine W.widen (k := kap S_13 - kap S0) (n := 2 * (kap S_13 - kap S0)) (by omega) (by omega) ?_
        exact w_BS_change_143 C hr hk hcn hcw ha (by omega) w (lv_sub hl [] rfl) h
      · replace h := iff0 hc h
        refine lv_iconst (v := 1) C.1 C.2.1 dX2_change_131 (by decide) ?_
        refine lv_goto (tgt := 143) C.1 C.2.1 dX2_change_132 (by decide) ?_
        have hkn := nq_kap nn
        refine W.widen (k := kap S_3 - kap S0) (n := 2 * (kap S_3 - kap S0)) (by omega) (by omega) ?_
        exact w_BS_change_143 C hr hk hcn hcw ha (by omega) w (lv_sub hl [] rfl) h
  replace h := iff0 hz34_3 h
  by_cases hz34_4 : (swT.getD e_5 0) = (50 : Int32)
  · replace h := ift hz34_4 h
    refine lv_tableIn (off := 110) (tgt := 144) C.1 C.2.1 dX2_change_34 (by rw [hz34_4]; decide) (by rw [hz34_4]; decide) (by rw [hz34_4]; decide +kernel) (by decide) ?_
    refine lv_aload_n C.1 C.2.1 dX2_change_144 rfl (lv_at hl 2 rfl) ?_
    refine lv_aload_n C.1 C.2.1 dX2_change_145 rfl (lv_at hl 0 rfl) ?_
    obtain ⟨⟨S_15, v_16⟩, hv_16, h⟩ := bnd h
    replace nn : nq S_15 S := nq_tr (kq_BS_delete hv_16) nn
    refine x_callVi (q := (RX2, TX2, 2)) (As := [.ref (ρ_4 r_2)]) (rest := []) C w (k_BS_delete l D T ρ_4 g H.size S_3 (bR_ob hr_2) hv_16) vX2_65 (hRK (by decide) (by decide)) obC9 (by decide) rfl rfl rfl hl.1 (Nat.le_of_ble_eq_true rfl) (hcK hT) dX2_change_146 (fun H locs w => ?_)
    obtain ⟨rfl, rfl⟩ := prI h
    exact x_iretM C w ha hr hk dX2_change_149 (by have := nq_kap nn; omega) (by have := nq_kap nn; omega)
  replace h := iff0 hz34_4 h
  by_cases hz34_5 : (swT.getD e_5 0) = (51 : Int32)
  · replace h := ift hz34_5 h
    refine lv_tableIn (off := 116) (tgt := 150) C.1 C.2.1 dX2_change_34 (by rw [hz34_5]; decide) (by rw [hz34_5]; decide) (by rw [hz34_5]; decide +kernel) (by decide) ?_
    refine lv_aload_n C.1 C.2.1 dX2_change_150 rfl (lv_at hl 2 rfl) ?_
    refine lv_aload_n C.1 C.2.1 dX2_change_151 rfl (lv_at hl 0 rfl) ?_
    obtain ⟨⟨S_17, v_18⟩, hv_18, h⟩ := bnd h
    replace nn : nq S_17 S := nq_tr (kq_BS_put hv_18) nn
    refine x_callVi (q := (RX2, TX2, 2)) (As := [.ref (ρ_4 r_2)]) (rest := []) C w (k_BS_put l D T ρ_4 g H.size S_3 (bR_ob hr_2) hv_18) vX2_69 (hRK (by decide) (by decide)) obC9 (by decide) rfl rfl rfl hl.1 (Nat.le_of_ble_eq_true rfl) (hcK hT) dX2_change_152 (fun H locs w => ?_)
    obtain ⟨rfl, rfl⟩ := prI h
    exact x_iretM C w ha hr hk dX2_change_155 (by have := nq_kap nn; omega) (by have := nq_kap nn; omega)
  replace h := iff0 hz34_5 h
  by_cases hz34_6 : (swT.getD e_5 0) = (52 : Int32)
  · replace h := ift hz34_6 h
    refine lv_tableIn (off := 122) (tgt := 156) C.1 C.2.1 dX2_change_34 (by rw [hz34_6]; decide) (by rw [hz34_6]; decide) (by rw [hz34_6]; decide +kernel) (by decide) ?_
    refine lv_aload_n C.1 C.2.1 dX2_change_156 rfl (lv_at hl 2 rfl) ?_
    refine lv_aload_n C.1 C.2.1 dX2_change_157 rfl (lv_at hl 0 rfl) ?_
    obtain ⟨⟨S_19, v_20⟩, hv_20, h⟩ := bnd h
    have hkn := nq_kap nn
    have hk1 := km_BS_turn hv_20
    have hT2 := km_BS_change_161 h
    refine x_callViM (q := (RX2, TX2, 2)) (As := [.ref (ρ_4 r_2)]) (rest := []) C w (k_BS_turn l D T ρ_4 g H.size S_3 (bR_ob hr_2) hv_20) vX2_72 (hRK (by decide) (by decide)) obC9 (by decide) rfl rfl rfl hl.1 (Nat.le_of_ble_eq_true rfl) (hcM hm hkn hk1 hT2) dX2_change_158 (fun ρ1 H locs hag w => ?_)
    replace ha := ha.trans hag
    rw [← hag r_2 (ncR (bR_ob hr_2))] at hl
    rw [← hag 9 (by decide)] at hl
    refine W.widen (k := kap S_19 - kap S0) (n := 2 * (kap S_19 - kap S0)) (by omega) (by omega) ?_
    exact w_BS_change_161 C hr hk hcn hcw ha (by omega) w (lv_sub hl [] rfl) h
  replace h := iff0 hz34_6 h
  by_cases hz34_7 : (swT.getD e_5 0) = (53 : Int32)
  · replace h := ift hz34_7 h
    refine lv_tableIn (off := 128) (tgt := 162) C.1 C.2.1 dX2_change_34 (by rw [hz34_7]; decide) (by rw [hz34_7]; decide) (by rw [hz34_7]; decide +kernel) (by decide) ?_
    refine lv_aload_n C.1 C.2.1 dX2_change_162 rfl (lv_at hl 2 rfl) ?_
    refine lv_iload_n C.1 C.2.1 dX2_change_163 rfl (lv_at hl 1 rfl) ?_
    obtain ⟨⟨S_21, v_22⟩, hv_22, h⟩ := bnd h
    have hkn := nq_kap nn
    have hk1 := km_BS_resize hv_22
    have hT2 := km_BS_change_167 h
    refine x_callViM (q := (RX2, TX2, 2)) (As := [.int v_1]) (rest := []) C w (k_BS_resize l D T ρ_4 g H.size S_3 hv_22) vX2_75 (hRK (by decide) (by decide)) obC9 (by decide) rfl rfl rfl hl.1 (Nat.le_of_ble_eq_true rfl) (hcM hm hkn hk1 hT2) dX2_change_164 (fun ρ1 H locs hag w => ?_)
    replace ha := ha.trans hag
    rw [← hag r_2 (ncR (bR_ob hr_2))] at hl
    rw [← hag 9 (by decide)] at hl
    refine W.widen (k := kap S_21 - kap S0) (n := 2 * (kap S_21 - kap S0)) (by omega) (by omega) ?_
    exact w_BS_change_167 C hr hk hcn hcw ha (by omega) w (lv_sub hl [] rfl) h
  replace h := iff0 hz34_7 h
  refine lv_tableOut (tgt := 168) C.1 C.2.1 dX2_change_34 (by have g0 := i_ne (v := (46 : Int32)) (k := 46) (by decide) hz34_0; have g1 := i_ne (v := (47 : Int32)) (k := 47) (by decide) hz34_1; have g2 := i_ne (v := (48 : Int32)) (k := 48) (by decide) hz34_2; have g3 := i_ne (v := (49 : Int32)) (k := 49) (by decide) hz34_3; have g4 := i_ne (v := (50 : Int32)) (k := 50) (by decide) hz34_4; have g5 := i_ne (v := (51 : Int32)) (k := 51) (by decide) hz34_5; have g6 := i_ne (v := (52 : Int32)) (k := 52) (by decide) hz34_6; have g7 := i_ne (v := (53 : Int32)) (k := 53) (by decide) hz34_7; omega) (by decide) ?_
  refine lv_iconst (v := 0) C.1 C.2.1 dX2_change_168 (by decide) ?_
  obtain ⟨rfl, rfl⟩ := prI h
  exact x_iretM C w ha hr hk dX2_change_169 (by have := nq_kap nn; omega) (by have := nq_kap nn; omega)
end S_BS_change
set_option maxRecDepth 100000 in
theorem k_BS_change (l : Launch) (Z : Ad) (D : va_G) (T : Cy) (ρ : Nat → Nat) (g sz : Nat) (S : St) {x1 : Nat} (ho_x1 : x1 < 56) {S' : St} {r : Int32} (h : m_BS_change g S x1 = some (S', r)) : MiC l Z D T ρ yX2_change cX2_change 5 (some .int) 7 155 S S' r [.ref (ρ 9), .ref (Z.1 x1)] sz :=
  x_inC (by decide) (Nat.le_of_ble_eq_true rfl) (fun p e s m below meth c ls C hr hk hcn hcw w hl => W.widen (Nat.zero_le _) (Nat.zero_le _) (w_BS_change_0 C hr hk hcn hcw Ag.rf (Nat.le_refl _) w hl ho_x1 h))

theorem dX4_leaveOut_0 : decode cX4_leaveOut 0 = .ok (.iload_n 1, 1) := by decide +kernel
theorem dX4_leaveOut_1 : decode cX4_leaveOut 1 = .ok (.ifCond .lt 11, 3) := by decide +kernel
theorem dX4_leaveOut_4 : decode cX4_leaveOut 4 = .ok (.iload_n 1, 1) := by decide +kernel
theorem dX4_leaveOut_5 : decode cX4_leaveOut 5 = .ok (.aload_n 0, 1) := by decide +kernel
theorem dX4_leaveOut_6 : decode cX4_leaveOut 6 = .ok (.getfield 43, 3) := by decide +kernel
theorem dX4_leaveOut_9 : decode cX4_leaveOut 9 = .ok (.if_icmp .lt 4, 3) := by decide +kernel
theorem dX4_leaveOut_12 : decode cX4_leaveOut 12 = .ok (.return_, 1) := by decide +kernel
theorem dX4_leaveOut_13 : decode cX4_leaveOut 13 = .ok (.iconst 0, 1) := by decide +kernel
theorem dX4_leaveOut_14 : decode cX4_leaveOut 14 = .ok (.istore_n 2, 1) := by decide +kernel
theorem dX4_leaveOut_15 : decode cX4_leaveOut 15 = .ok (.iload_n 2, 1) := by decide +kernel
theorem dX4_leaveOut_16 : decode cX4_leaveOut 16 = .ok (.iload_n 1, 1) := by decide +kernel
theorem dX4_leaveOut_17 : decode cX4_leaveOut 17 = .ok (.if_icmp .ge 46, 3) := by decide +kernel
theorem dX4_leaveOut_20 : decode cX4_leaveOut 20 = .ok (.aload_n 0, 1) := by decide +kernel
theorem dX4_leaveOut_21 : decode cX4_leaveOut 21 = .ok (.iload_n 2, 1) := by decide +kernel
theorem dX4_leaveOut_22 : decode cX4_leaveOut 22 = .ok (.invokevirtual 103, 3) := by decide +kernel
theorem dX4_leaveOut_25 : decode cX4_leaveOut 25 = .ok (.invokevirtual 107, 3) := by decide +kernel
theorem dX4_leaveOut_28 : decode cX4_leaveOut 28 = .ok (.ifCond .eq 29, 3) := by decide +kernel
theorem dX4_leaveOut_31 : decode cX4_leaveOut 31 = .ok (.aload_n 0, 1) := by decide +kernel
theorem dX4_leaveOut_32 : decode cX4_leaveOut 32 = .ok (.iload_n 2, 1) := by decide +kernel
theorem dX4_leaveOut_33 : decode cX4_leaveOut 33 = .ok (.invokevirtual 113, 3) := by decide +kernel
theorem dX4_leaveOut_36 : decode cX4_leaveOut 36 = .ok (.iload_n 1, 1) := by decide +kernel
theorem dX4_leaveOut_37 : decode cX4_leaveOut 37 = .ok (.if_icmp .le 20, 3) := by decide +kernel
theorem dX4_leaveOut_40 : decode cX4_leaveOut 40 = .ok (.aload_n 0, 1) := by decide +kernel
theorem dX4_leaveOut_41 : decode cX4_leaveOut 41 = .ok (.getfield 24, 3) := by decide +kernel
theorem dX4_leaveOut_44 : decode cX4_leaveOut 44 = .ok (.aload_n 0, 1) := by decide +kernel
theorem dX4_leaveOut_45 : decode cX4_leaveOut 45 = .ok (.getfield 15, 3) := by decide +kernel
theorem dX4_leaveOut_48 : decode cX4_leaveOut 48 = .ok (.iload_n 2, 1) := by decide +kernel
theorem dX4_leaveOut_49 : decode cX4_leaveOut 49 = .ok (.iaload, 1) := by decide +kernel
theorem dX4_leaveOut_50 : decode cX4_leaveOut 50 = .ok (.iconst 1, 1) := by decide +kernel
theorem dX4_leaveOut_51 : decode cX4_leaveOut 51 = .ok (.iadd, 1) := by decide +kernel
theorem dX4_leaveOut_52 : decode cX4_leaveOut 52 = .ok (.dup2, 1) := by decide +kernel
theorem dX4_leaveOut_53 : decode cX4_leaveOut 53 = .ok (.laload, 1) := by decide +kernel
theorem dX4_leaveOut_54 : decode cX4_leaveOut 54 = .ok (.lconst 1, 1) := by decide +kernel
theorem dX4_leaveOut_55 : decode cX4_leaveOut 55 = .ok (.lsub, 1) := by decide +kernel
theorem dX4_leaveOut_56 : decode cX4_leaveOut 56 = .ok (.lastore, 1) := by decide +kernel
theorem dX4_leaveOut_57 : decode cX4_leaveOut 57 = .ok (.iinc 2 1, 3) := by decide +kernel
theorem dX4_leaveOut_60 : decode cX4_leaveOut 60 = .ok (.goto (-45), 3) := by decide +kernel
theorem dX4_leaveOut_63 : decode cX4_leaveOut 63 = .ok (.aload_n 0, 1) := by decide +kernel
theorem dX4_leaveOut_64 : decode cX4_leaveOut 64 = .ok (.getfield 15, 3) := by decide +kernel
theorem dX4_leaveOut_67 : decode cX4_leaveOut 67 = .ok (.iload_n 1, 1) := by decide +kernel
theorem dX4_leaveOut_68 : decode cX4_leaveOut 68 = .ok (.iaload, 1) := by decide +kernel
theorem dX4_leaveOut_69 : decode cX4_leaveOut 69 = .ok (.istore_n 2, 1) := by decide +kernel
theorem dX4_leaveOut_70 : decode cX4_leaveOut 70 = .ok (.aload_n 0, 1) := by decide +kernel
theorem dX4_leaveOut_71 : decode cX4_leaveOut 71 = .ok (.getfield 15, 3) := by decide +kernel
theorem dX4_leaveOut_74 : decode cX4_leaveOut 74 = .ok (.iload_n 1, 1) := by decide +kernel
theorem dX4_leaveOut_75 : decode cX4_leaveOut 75 = .ok (.iconst 1, 1) := by decide +kernel
theorem dX4_leaveOut_76 : decode cX4_leaveOut 76 = .ok (.iadd, 1) := by decide +kernel
theorem dX4_leaveOut_77 : decode cX4_leaveOut 77 = .ok (.iaload, 1) := by decide +kernel
theorem dX4_leaveOut_78 : decode cX4_leaveOut 78 = .ok (.istore_n 3, 1) := by decide +kernel
theorem dX4_leaveOut_79 : decode cX4_leaveOut 79 = .ok (.aload_n 0, 1) := by decide +kernel
theorem dX4_leaveOut_80 : decode cX4_leaveOut 80 = .ok (.getfield 15, 3) := by decide +kernel
theorem dX4_leaveOut_83 : decode cX4_leaveOut 83 = .ok (.aload_n 0, 1) := by decide +kernel
theorem dX4_leaveOut_84 : decode cX4_leaveOut 84 = .ok (.getfield 43, 3) := by decide +kernel
theorem dX4_leaveOut_87 : decode cX4_leaveOut 87 = .ok (.iaload, 1) := by decide +kernel
theorem dX4_leaveOut_88 : decode cX4_leaveOut 88 = .ok (.iload_n 3, 1) := by decide +kernel
theorem dX4_leaveOut_89 : decode cX4_leaveOut 89 = .ok (.isub, 1) := by decide +kernel
theorem dX4_leaveOut_90 : decode cX4_leaveOut 90 = .ok (.istore 4, 2) := by decide +kernel
theorem dX4_leaveOut_92 : decode cX4_leaveOut 92 = .ok (.aload_n 0, 1) := by decide +kernel
theorem dX4_leaveOut_93 : decode cX4_leaveOut 93 = .ok (.getfield 18, 3) := by decide +kernel
theorem dX4_leaveOut_96 : decode cX4_leaveOut 96 = .ok (.iload_n 3, 1) := by decide +kernel
theorem dX4_leaveOut_97 : decode cX4_leaveOut 97 = .ok (.aload_n 0, 1) := by decide +kernel
theorem dX4_leaveOut_98 : decode cX4_leaveOut 98 = .ok (.getfield 18, 3) := by decide +kernel
theorem dX4_leaveOut_101 : decode cX4_leaveOut 101 = .ok (.iload_n 2, 1) := by decide +kernel
theorem dX4_leaveOut_102 : decode cX4_leaveOut 102 = .ok (.iload 4, 2) := by decide +kernel
theorem dX4_leaveOut_104 : decode cX4_leaveOut 104 = .ok (.invokestatic 97, 3) := by decide +kernel
theorem dX4_leaveOut_107 : decode cX4_leaveOut 107 = .ok (.aload_n 0, 1) := by decide +kernel
theorem dX4_leaveOut_108 : decode cX4_leaveOut 108 = .ok (.getfield 21, 3) := by decide +kernel
theorem dX4_leaveOut_111 : decode cX4_leaveOut 111 = .ok (.iload_n 3, 1) := by decide +kernel
theorem dX4_leaveOut_112 : decode cX4_leaveOut 112 = .ok (.aload_n 0, 1) := by decide +kernel
theorem dX4_leaveOut_113 : decode cX4_leaveOut 113 = .ok (.getfield 21, 3) := by decide +kernel
theorem dX4_leaveOut_116 : decode cX4_leaveOut 116 = .ok (.iload_n 2, 1) := by decide +kernel
theorem dX4_leaveOut_117 : decode cX4_leaveOut 117 = .ok (.iload 4, 2) := by decide +kernel
theorem dX4_leaveOut_119 : decode cX4_leaveOut 119 = .ok (.invokestatic 97, 3) := by decide +kernel
theorem dX4_leaveOut_122 : decode cX4_leaveOut 122 = .ok (.aload_n 0, 1) := by decide +kernel
theorem dX4_leaveOut_123 : decode cX4_leaveOut 123 = .ok (.getfield 24, 3) := by decide +kernel
theorem dX4_leaveOut_126 : decode cX4_leaveOut 126 = .ok (.iload_n 3, 1) := by decide +kernel
theorem dX4_leaveOut_127 : decode cX4_leaveOut 127 = .ok (.aload_n 0, 1) := by decide +kernel
theorem dX4_leaveOut_128 : decode cX4_leaveOut 128 = .ok (.getfield 24, 3) := by decide +kernel
theorem dX4_leaveOut_131 : decode cX4_leaveOut 131 = .ok (.iload_n 2, 1) := by decide +kernel
theorem dX4_leaveOut_132 : decode cX4_leaveOut 132 = .ok (.iload 4, 2) := by decide +kernel
theorem dX4_leaveOut_134 : decode cX4_leaveOut 134 = .ok (.invokestatic 97, 3) := by decide +kernel
theorem dX4_leaveOut_137 : decode cX4_leaveOut 137 = .ok (.aload_n 0, 1) := by decide +kernel
theorem dX4_leaveOut_138 : decode cX4_leaveOut 138 = .ok (.getfield 28, 3) := by decide +kernel
theorem dX4_leaveOut_141 : decode cX4_leaveOut 141 = .ok (.iload_n 3, 1) := by decide +kernel
theorem dX4_leaveOut_142 : decode cX4_leaveOut 142 = .ok (.aload_n 0, 1) := by decide +kernel
theorem dX4_leaveOut_143 : decode cX4_leaveOut 143 = .ok (.getfield 28, 3) := by decide +kernel
theorem dX4_leaveOut_146 : decode cX4_leaveOut 146 = .ok (.iload_n 2, 1) := by decide +kernel
theorem dX4_leaveOut_147 : decode cX4_leaveOut 147 = .ok (.iload 4, 2) := by decide +kernel
theorem dX4_leaveOut_149 : decode cX4_leaveOut 149 = .ok (.invokestatic 97, 3) := by decide +kernel
theorem dX4_leaveOut_152 : decode cX4_leaveOut 152 = .ok (.iload_n 1, 1) := by decide +kernel
theorem dX4_leaveOut_153 : decode cX4_leaveOut 153 = .ok (.iconst 1, 1) := by decide +kernel
theorem dX4_leaveOut_154 : decode cX4_leaveOut 154 = .ok (.iadd, 1) := by decide +kernel
theorem dX4_leaveOut_155 : decode cX4_leaveOut 155 = .ok (.istore 5, 2) := by decide +kernel
theorem dX4_leaveOut_157 : decode cX4_leaveOut 157 = .ok (.iload 5, 2) := by decide +kernel
theorem dX4_leaveOut_159 : decode cX4_leaveOut 159 = .ok (.aload_n 0, 1) := by decide +kernel
theorem dX4_leaveOut_160 : decode cX4_leaveOut 160 = .ok (.getfield 43, 3) := by decide +kernel
theorem dX4_leaveOut_163 : decode cX4_leaveOut 163 = .ok (.if_icmp .ge 45, 3) := by decide +kernel
theorem dX4_leaveOut_166 : decode cX4_leaveOut 166 = .ok (.aload_n 0, 1) := by decide +kernel
theorem dX4_leaveOut_167 : decode cX4_leaveOut 167 = .ok (.getfield 9, 3) := by decide +kernel
theorem dX4_leaveOut_170 : decode cX4_leaveOut 170 = .ok (.iload 5, 2) := by decide +kernel
theorem dX4_leaveOut_172 : decode cX4_leaveOut 172 = .ok (.iconst 1, 1) := by decide +kernel
theorem dX4_leaveOut_173 : decode cX4_leaveOut 173 = .ok (.isub, 1) := by decide +kernel
theorem dX4_leaveOut_174 : decode cX4_leaveOut 174 = .ok (.aload_n 0, 1) := by decide +kernel
theorem dX4_leaveOut_175 : decode cX4_leaveOut 175 = .ok (.getfield 9, 3) := by decide +kernel
theorem dX4_leaveOut_178 : decode cX4_leaveOut 178 = .ok (.iload 5, 2) := by decide +kernel
theorem dX4_leaveOut_180 : decode cX4_leaveOut 180 = .ok (.iaload, 1) := by decide +kernel
theorem dX4_leaveOut_181 : decode cX4_leaveOut 181 = .ok (.iastore, 1) := by decide +kernel
theorem dX4_leaveOut_182 : decode cX4_leaveOut 182 = .ok (.aload_n 0, 1) := by decide +kernel
theorem dX4_leaveOut_183 : decode cX4_leaveOut 183 = .ok (.getfield 15, 3) := by decide +kernel
theorem dX4_leaveOut_186 : decode cX4_leaveOut 186 = .ok (.iload 5, 2) := by decide +kernel
theorem dX4_leaveOut_188 : decode cX4_leaveOut 188 = .ok (.aload_n 0, 1) := by decide +kernel
theorem dX4_leaveOut_189 : decode cX4_leaveOut 189 = .ok (.getfield 15, 3) := by decide +kernel
theorem dX4_leaveOut_192 : decode cX4_leaveOut 192 = .ok (.iload 5, 2) := by decide +kernel
theorem dX4_leaveOut_194 : decode cX4_leaveOut 194 = .ok (.iconst 1, 1) := by decide +kernel
theorem dX4_leaveOut_195 : decode cX4_leaveOut 195 = .ok (.iadd, 1) := by decide +kernel
theorem dX4_leaveOut_196 : decode cX4_leaveOut 196 = .ok (.iaload, 1) := by decide +kernel
theorem dX4_leaveOut_197 : decode cX4_leaveOut 197 = .ok (.iload_n 3, 1) := by decide +kernel
theorem dX4_leaveOut_198 : decode cX4_leaveOut 198 = .ok (.iload_n 2, 1) := by decide +kernel
theorem dX4_leaveOut_199 : decode cX4_leaveOut 199 = .ok (.isub, 1) := by decide +kernel
theorem dX4_leaveOut_200 : decode cX4_leaveOut 200 = .ok (.isub, 1) := by decide +kernel
theorem dX4_leaveOut_201 : decode cX4_leaveOut 201 = .ok (.iastore, 1) := by decide +kernel
theorem dX4_leaveOut_202 : decode cX4_leaveOut 202 = .ok (.iinc 5 1, 3) := by decide +kernel
theorem dX4_leaveOut_205 : decode cX4_leaveOut 205 = .ok (.goto (-48), 3) := by decide +kernel
theorem dX4_leaveOut_208 : decode cX4_leaveOut 208 = .ok (.aload_n 0, 1) := by decide +kernel
theorem dX4_leaveOut_209 : decode cX4_leaveOut 209 = .ok (.dup, 1) := by decide +kernel
theorem dX4_leaveOut_210 : decode cX4_leaveOut 210 = .ok (.getfield 43, 3) := by decide +kernel
theorem dX4_leaveOut_213 : decode cX4_leaveOut 213 = .ok (.iconst 1, 1) := by decide +kernel
theorem dX4_leaveOut_214 : decode cX4_leaveOut 214 = .ok (.isub, 1) := by decide +kernel
theorem dX4_leaveOut_215 : decode cX4_leaveOut 215 = .ok (.putfield 43, 3) := by decide +kernel
theorem dX4_leaveOut_218 : decode cX4_leaveOut 218 = .ok (.return_, 1) := by decide +kernel
def b_Pg_leaveOut_157 (g : Nat) (k157 : St → Nat → Int32 → Int32 → Int32 → Option St) (S : St) (x0 : Nat) (x2 : Int32) (x3 : Int32) (x5 : Int32) : Option St :=
if (gI S x0 8) ≤ x5 then (
  lt (sI S x0 8 ((gI S x0 8) - (1 : Int32))) fun S_10 =>
  some S_10
) else (
  (aI S (50 + 8 * x0 + 0) x5).bind fun v_11 =>
  (tI S (50 + 8 * x0 + 0) (x5 - (1 : Int32)) v_11).bind fun S_12 =>
  (aI S_12 (50 + 8 * x0 + 1) (x5 + (1 : Int32))).bind fun v_13 =>
  (tI S_12 (50 + 8 * x0 + 1) x5 (v_13 - (x3 - x2))).bind fun S_14 =>
  lt (x5 + (1 : Int32)) fun x5_15 =>
  k157 S_14 x0 x2 x3 x5_15
)
def m_Pg_leaveOut_157 (g : Nat) : Nat → St → Nat → Int32 → Int32 → Int32 → Option St
  | 0, _, _, _, _, _ => none
  | n + 1, S, x0, x2, x3, x5 => b_Pg_leaveOut_157 g (m_Pg_leaveOut_157 g n) S x0 x2 x3 x5
def b_Pg_leaveOut_15 (g : Nat) (k15 : St → Nat → Int32 → Int32 → Option St) (S : St) (x0 : Nat) (x1 : Int32) (x2 : Int32) : Option St :=
if x1 ≤ x2 then (
  (aI S (50 + 8 * x0 + 1) x1).bind fun v_1 =>
  (aI S (50 + 8 * x0 + 1) (x1 + (1 : Int32))).bind fun v_2 =>
  (aI S (50 + 8 * x0 + 1) (gI S x0 8)).bind fun v_3 =>
  lt (v_3 - v_2) fun x4_4 =>
  (cpI S (50 + 8 * x0 + 2) v_2 (50 + 8 * x0 + 2) v_1 x4_4).bind fun S_5 =>
  (cpI S_5 (50 + 8 * x0 + 3) v_2 (50 + 8 * x0 + 3) v_1 x4_4).bind fun S_6 =>
  (cpJ S_6 (50 + 8 * x0 + 4) v_2 (50 + 8 * x0 + 4) v_1 x4_4).bind fun S_7 =>
  (cpI S_7 (50 + 8 * x0 + 5) v_2 (50 + 8 * x0 + 5) v_1 x4_4).bind fun S_8 =>
  lt (x1 + (1 : Int32)) fun x5_9 =>
  m_Pg_leaveOut_157 g g S_8 x0 v_1 v_2 x5_9
) else (
  (m_Pg_sortOf g S x0 x2).bind fun e_11 =>
  if (opn e_11) = 0 then (
    lt (x2 + (1 : Int32)) fun x2_13 =>
    k15 S x0 x1 x2_13
  ) else (
    (m_Pg_rangeEnd g S x0 x2).bind fun v_14 =>
    if v_14 ≤ x1 then (
      lt (x2 + (1 : Int32)) fun x2_15 =>
      k15 S x0 x1 x2_15
    ) else (
      (aI S (50 + 8 * x0 + 1) x2).bind fun v_16 =>
      (aJ S (50 + 8 * x0 + 4) (v_16 + (1 : Int32))).bind fun v_17 =>
      (tJ S (50 + 8 * x0 + 4) (v_16 + (1 : Int32)) (v_17 - (1 : Int64))).bind fun S_18 =>
      lt (x2 + (1 : Int32)) fun x2_19 =>
      k15 S_18 x0 x1 x2_19
    )
  )
)
def m_Pg_leaveOut_15 (g : Nat) : Nat → St → Nat → Int32 → Int32 → Option St
  | 0, _, _, _, _ => none
  | n + 1, S, x0, x1, x2 => b_Pg_leaveOut_15 g (m_Pg_leaveOut_15 g n) S x0 x1 x2
def m_Pg_leaveOut (g : Nat) (S : St) (x0 : Nat) (x1 : Int32) : Option St :=
if x1 < 0 then (
  some S
) else (
  if x1 < (gI S x0 8) then (
    m_Pg_leaveOut_15 g g S x0 x1 (0 : Int32)
  ) else (
    some S
  )
)
theorem kmb_Pg_leaveOut_157 {g : Nat} {S : St} {x0 : Nat} {x2 : Int32} {x3 : Int32} {x5 : Int32} {S' : St} {k157 : St → Nat → Int32 → Int32 → Int32 → Option St} (km157 : ∀ (S : St) (x0 : Nat) (x2 : Int32) (x3 : Int32) (x5 : Int32), k157 S x0 x2 x3 x5 = some S' → kap S ≤ kap S') (h : b_Pg_leaveOut_157 g k157 S x0 x2 x3 x5 = some S') : kap S ≤ kap S' := by
  unfold b_Pg_leaveOut_157 at h
  have nn : nq S S := nq_rf
  by_cases hc1 : (gI S x0 8) ≤ x5
  · replace h := ift hc1 h
    obtain ⟨S_10, eS_10, h⟩ := lt_e h
    replace nn : nq S_10 S := nq_tr (by rw [eS_10]; rfl) nn
    obtain rfl := som h
    have hkn := nq_kap nn
    omega
  · replace h := iff0 hc1 h
    obtain ⟨v_11, hv_11, h⟩ := bnd h
    obtain ⟨S_12, hS_12, h⟩ := bnd h
    replace nn : nq S_12 S := nq_tr (nq_tI hS_12) nn
    obtain ⟨v_13, hv_13, h⟩ := bnd h
    obtain ⟨S_14, hS_14, h⟩ := bnd h
    replace nn : nq S_14 S := nq_tr (nq_tI hS_14) nn
    obtain ⟨x5_15, ex5_15, h⟩ := lt_e h
    have hkn := nq_kap nn
    have h2 := km157 _ _ _ _ _ h
    omega
theorem km_Pg_leaveOut_157 {g : Nat} {S' : St} (n : Nat) : ∀ (S : St) (x0 : Nat) (x2 : Int32) (x3 : Int32) (x5 : Int32), m_Pg_leaveOut_157 g n S x0 x2 x3 x5 = some S' → kap S ≤ kap S' := by
  induction n with
  | zero => intro S x0 x2 x3 x5 h; exact absurd h (fun q => by cases q)
  | succ n ih => intro S x0 x2 x3 x5 h; exact kmb_Pg_leaveOut_157 ih h
theorem kmb_Pg_leaveOut_15 {g : Nat} {S : St} {x0 : Nat} {x1 : Int32} {x2 : Int32} {S' : St} {k15 : St → Nat → Int32 → Int32 → Option St} (km15 : ∀ (S : St) (x0 : Nat) (x1 : Int32) (x2 : Int32), k15 S x0 x1 x2 = some S' → kap S ≤ kap S') (h : b_Pg_leaveOut_15 g k15 S x0 x1 x2 = some S') : kap S ≤ kap S' := by
  unfold b_Pg_leaveOut_15 at h
  have nn : nq S S := nq_rf
  by_cases hc1 : x1 ≤ x2
  · replace h := ift hc1 h
    obtain ⟨v_1, hv_1, h⟩ := bnd h
    obtain ⟨v_2, hv_2, h⟩ := bnd h
    obtain ⟨v_3, hv_3, h⟩ := bnd h
    obtain ⟨x4_4, ex4_4, h⟩ := lt_e h
    obtain ⟨S_5, hS_5, h⟩ := bnd h
    replace nn : nq S_5 S := nq_tr (nq_cpI hS_5) nn
    obtain ⟨S_6, hS_6, h⟩ := bnd h
    replace nn : nq S_6 S := nq_tr (nq_cpI hS_6) nn
    obtain ⟨S_7, hS_7, h⟩ := bnd h
    replace nn : nq S_7 S := nq_tr (nq_cpJ hS_7) nn
    obtain ⟨S_8, hS_8, h⟩ := bnd h
    replace nn : nq S_8 S := nq_tr (nq_cpI hS_8) nn
    obtain ⟨x5_9, ex5_9, h⟩ := lt_e h
    have hkn := nq_kap nn
    have h2 := km_Pg_leaveOut_157 g _ _ _ _ _ h
    omega
  · replace h := iff0 hc1 h
    obtain ⟨e_11, he_11, h⟩ := bnd h
    by_cases hc2 : (opn e_11) = 0
    · replace h := ift hc2 h
      obtain ⟨x2_13, ex2_13, h⟩ := lt_e h
      have hkn := nq_kap nn
      have h2 := km15 _ _ _ _ h
      omega
    · replace h := iff0 hc2 h
      obtain ⟨v_14, hv_14, h⟩ := bnd h
      by_cases hc3 : v_14 ≤ x1
      · replace h := ift hc3 h
        obtain ⟨x2_15, ex2_15, h⟩ := lt_e h
        have hkn := nq_kap nn
        have h2 := km15 _ _ _ _ h
        omega
      · replace h := iff0 hc3 h
        obtain ⟨v_16, hv_16, h⟩ := bnd h
        obtain ⟨v_17, hv_17, h⟩ := bnd h
        obtain ⟨S_18, hS_18, h⟩ := bnd h
        replace nn : nq S_18 S := nq_tr (nq_tJ hS_18) nn
        obtain ⟨x2_19, ex2_19, h⟩ := lt_e h
        have hkn := nq_kap nn
        have h2 := km15 _ _ _ _ h
        omega
theorem km_Pg_leaveOut_15 {g : Nat} {S' : St} (n : Nat) : ∀ (S : St) (x0 : Nat) (x1 : Int32) (x2 : Int32), m_Pg_leaveOut_15 g n S x0 x1 x2 = some S' → kap S ≤ kap S' := by
  induction n with
  | zero => intro S x0 x1 x2 h; exact absurd h (fun q => by cases q)
  | succ n ih => intro S x0 x1 x2 h; exact kmb_Pg_leaveOut_15 ih h
theorem km_Pg_leaveOut {g : Nat} {S : St} {x0 : Nat} {x1 : Int32} {S' : St} (h : m_Pg_leaveOut g S x0 x1 = some S') : kap S ≤ kap S' := by
  unfold m_Pg_leaveOut at h
  have nn : nq S S := nq_rf
  by_cases hc1 : x1 < 0
  · replace h := ift hc1 h
    obtain rfl := som h
    have hkn := nq_kap nn
    omega
  · replace h := iff0 hc1 h
    by_cases hc2 : x1 < (gI S x0 8)
    · replace h := ift hc2 h
      have hkn := nq_kap nn
      have h2 := km_Pg_leaveOut_15 g _ _ _ _ h
      omega
    · replace h := iff0 hc2 h
      obtain rfl := som h
      have hkn := nq_kap nn
      omega
section S_Pg_leaveOut
variable {p : Program} {l : Launch} {e : Env} {s : State} {m : MethodId} {args : Array Value} {below : List Frame} {meth : Method} {c : Code} {H : Heap} {locs : List Loc} {ls : Array Slot} {D : va_G} {T : Cy} {ρ ρ0 : Nat → Nat} {S0 : St} {A : Nat → Prop} {Z : Ad}
set_option maxRecDepth 100000 in
set_option maxHeartbeats 4000000 in
theorem wb_Pg_leaveOut_157 {g : Nat} {S : St} {x0 : Nat} {x2 : Int32} {x3 : Int32} {x5 : Int32} (C : CallFix p m c cX4_leaveOut 6 s args tb RX4) (hr : meth.sig.returnType = none) (hk : meth.locks = false) (hcn : Kn Z A s s.heap) (hcw : Kw Z s) {S' : St} {k157 : St → Nat → Int32 → Int32 → Int32 → Option St} (kk157 : ∀ (ρ : Nat → Nat) (S : St) (x0 : Nat) (x2 : Int32) (x3 : Int32) (x5 : Int32) (H : Heap) (locs : List Loc) (ls : Array Slot), Ag ρ0 ρ → kap S0 ≤ kap S → Wn Yc D T ρ S A s H locs → lv_has ls 6 [(0, .ref (ρ x0)), (2, .int x2), (3, .int x3), (5, .int x5)] → Ob Yc x0 2 → k157 S x0 x2 x3 x5 = some S' → W p l e (rmK 1 26 (kap S' - kap S0)) s m args below meth c H locs (kap S - kap S0) (2 * (kap S - kap S0)) (MQ below (QvM D T ρ0 A S') args s (kap S' - kap S0) (2 * (kap S' - kap S0)) A) (F0 m 157 ls [])) (km157 : ∀ (S : St) (x0 : Nat) (x2 : Int32) (x3 : Int32) (x5 : Int32), k157 S x0 x2 x3 x5 = some S' → kap S ≤ kap S') (ha : Ag ρ0 ρ) (hm : kap S0 ≤ kap S) (w : Wn Yc D T ρ S A s H locs) (hl : lv_has ls 6 [(0, .ref (ρ x0)), (2, .int x2), (3, .int x3), (5, .int x5)]) (ho_x0 : Ob Yc x0 2) (h : b_Pg_leaveOut_157 g k157 S x0 x2 x3 x5 = some S') : W p l e (rmK 1 26 (kap S' - kap S0)) s m args below meth c H locs (kap S - kap S0) (2 * (kap S - kap S0)) (MQ below (QvM D T ρ0 A S') args s (kap S' - kap S0) (2 * (kap S' - kap S0)) A) (F0 m 157 ls []) := by
  have hT := kmb_Pg_leaveOut_157 km157 h
  unfold b_Pg_leaveOut_157 at h
  have nn : nq S S := nq_rf
  refine lv_iload C.1 C.2.1 dX4_leaveOut_157 (lv_at hl 3 rfl) ?_
  refine lv_aload_n C.1 C.2.1 dX4_leaveOut_159 rfl (lv_at hl 0 rfl) ?_
  refine x_getI C w fX4_43 ho_x0 dX4_leaveOut_160 ?_
  refine lv_icmp_ge (tgt := 208) C.1 C.2.1 dX4_leaveOut_163 (by decide) (fun hc => ?_) (fun hc => ?_)
  · replace h := ift hc h
    refine lv_aload_n C.1 C.2.1 dX4_leaveOut_208 rfl (lv_at hl 0 rfl) ?_
    refine lv_dup C.1 C.2.1 dX4_leaveOut_209 rfl ?_
    refine x_getI C w fX4_43 ho_x0 dX4_leaveOut_210 ?_
    refine lv_iconst (v := 1) C.1 C.2.1 dX4_leaveOut_213 (by decide) ?_
    refine lv_isub C.1 C.2.1 dX4_leaveOut_214 ?_
    obtain ⟨S_10, eS_10, h⟩ := lt_e h
    replace nn : nq S_10 S := nq_tr (by rw [eS_10]; rfl) nn
    refine y_putI C w eS_10 fX4_43 pX4_8 ho_x0 dX4_leaveOut_215 (fun H locs w => ?_)
    obtain rfl := som h
    exact x_vretM C w ha hr hk dX4_leaveOut_218 (by have := nq_kap nn; omega) (by have := nq_kap nn; omega)
  · replace h := iff0 hc h
    refine lv_aload_n C.1 C.2.1 dX4_leaveOut_166 rfl (lv_at hl 0 rfl) ?_
    refine x_getC C w (50 + 8 * x0 + 0) fX4_9 ho_x0 (crP0 ho_x0) dX4_leaveOut_167 ?_
    refine lv_iload C.1 C.2.1 dX4_leaveOut_170 (lv_at hl 3 rfl) ?_
    refine lv_iconst (v := 1) C.1 C.2.1 dX4_leaveOut_172 (by decide) ?_
    refine lv_isub C.1 C.2.1 dX4_leaveOut_173 ?_
    refine lv_aload_n C.1 C.2.1 dX4_leaveOut_174 rfl (lv_at hl 0 rfl) ?_
    refine x_getC C w (50 + 8 * x0 + 0) fX4_9 ho_x0 (crP0 ho_x0) dX4_leaveOut_175 ?_
    refine lv_iload C.1 C.2.1 dX4_leaveOut_178 (lv_at hl 3 rfl) ?_
    obtain ⟨v_11, hv_11, h⟩ := bnd h
    refine x_iald C w (obP0 ho_x0) hv_11 dX4_leaveOut_180 ?_
    obtain ⟨S_12, hS_12, h⟩ := bnd h
    replace nn : nq S_12 S := nq_tr (nq_tI hS_12) nn
    refine x_iast C w (obP0 ho_x0) hS_12 dX4_leaveOut_181 (fun H locs w => ?_)
    refine lv_aload_n C.1 C.2.1 dX4_leaveOut_182 rfl (lv_at hl 0 rfl) ?_
    refine x_getC C w (50 + 8 * x0 + 1) fX4_15 ho_x0 (crP1 ho_x0) dX4_leaveOut_183 ?_
    refine lv_iload C.1 C.2.1 dX4_leaveOut_186 (lv_at hl 3 rfl) ?_
    refine lv_aload_n C.1 C.2.1 dX4_leaveOut_188 rfl (lv_at hl 0 rfl) ?_
    refine x_getC C w (50 + 8 * x0 + 1) fX4_15 ho_x0 (crP1 ho_x0) dX4_leaveOut_189 ?_
    refine lv_iload C.1 C.2.1 dX4_leaveOut_192 (lv_at hl 3 rfl) ?_
    refine lv_iconst (v := 1) C.1 C.2.1 dX4_leaveOut_194 (by decide) ?_
    refine lv_iadd C.1 C.2.1 dX4_leaveOut_195 ?_
    obtain ⟨v_13, hv_13, h⟩ := bnd h
    refine x_iald C w (obP1 ho_x0) hv_13 dX4_leaveOut_196 ?_
    refine lv_iload_n C.1 C.2.1 dX4_leaveOut_197 rfl (lv_at hl 2 rfl) ?_
    refine lv_iload_n C.1 C.2.1 dX4_leaveOut_198 rfl (lv_at hl 1 rfl) ?_
    refine lv_isub C.1 C.2.1 dX4_leaveOut_199 ?_
    refine lv_isub C.1 C.2.1 dX4_leaveOut_200 ?_
    obtain ⟨S_14, hS_14, h⟩ := bnd h
    replace nn : nq S_14 S := nq_tr (nq_tI hS_14) nn
    refine x_iast C w (obP1 ho_x0) hS_14 dX4_leaveOut_201 (fun H locs w => ?_)
    obtain ⟨x5_15, ex5_15, h⟩ := lt_e h
    refine lv_iinc (v := x5_15) (lv' := [(5, .int x5_15), (0, .ref (ρ x0)), (2, .int x2), (3, .int x3)]) C.1 C.2.1 dX4_leaveOut_202 hl (k := 3) rfl (by rw [ex5_15]; rfl) (by decide) rfl (fun ls hl => ?_)
    refine lv_goto (tgt := 157) C.1 C.2.1 dX4_leaveOut_205 (by decide) ?_
    have hkn := nq_kap nn
    refine W.widen (k := kap S_14 - kap S0) (n := 2 * (kap S_14 - kap S0)) (by omega) (by omega) ?_
    exact kk157 _ _ _ _ _ _ _ _ _ ha (by omega) w (lv_sub hl [1, 2, 3, 0] rfl) ho_x0 h
theorem w_Pg_leaveOut_157 {g : Nat} (C : CallFix p m c cX4_leaveOut 6 s args tb RX4) (hr : meth.sig.returnType = none) (hk : meth.locks = false) (hcn : Kn Z A s s.heap) (hcw : Kw Z s) {S' : St} (n : Nat) : ∀ (ρ : Nat → Nat) (S : St) (x0 : Nat) (x2 : Int32) (x3 : Int32) (x5 : Int32) (H : Heap) (locs : List Loc) (ls : Array Slot), Ag ρ0 ρ → kap S0 ≤ kap S → Wn Yc D T ρ S A s H locs → lv_has ls 6 [(0, .ref (ρ x0)), (2, .int x2), (3, .int x3), (5, .int x5)] → Ob Yc x0 2 → m_Pg_leaveOut_157 g n S x0 x2 x3 x5 = some S' → W p l e (rmK 1 26 (kap S' - kap S0)) s m args below meth c H locs (kap S - kap S0) (2 * (kap S - kap S0)) (MQ below (QvM D T ρ0 A S') args s (kap S' - kap S0) (2 * (kap S' - kap S0)) A) (F0 m 157 ls []) := by
  induction n with
  | zero => intro ρ S x0 x2 x3 x5 H locs ls ha hm w hl ho_x0 h; exact absurd h (fun q => by cases q)
  | succ n ih => intro ρ S x0 x2 x3 x5 H locs ls ha hm w hl ho_x0 h; exact wb_Pg_leaveOut_157 C hr hk hcn hcw ih (km_Pg_leaveOut_157 n) ha hm w hl ho_x0 h
set_option maxRecDepth 100000 in
set_option maxHeartbeats 4000000 in
theorem wb_Pg_leaveOut_15 {g : Nat} {S : St} {x0 : Nat} {x1 : Int32} {x2 : Int32} (C : CallFix p m c cX4_leaveOut 6 s args tb RX4) (hr : meth.sig.returnType = none) (hk : meth.locks = false) (hcn : Kn Z A s s.heap) (hcw : Kw Z s) {S' : St} {k15 : St → Nat → Int32 → Int32 → Option St} (kk15 : ∀ (ρ : Nat → Nat) (S : St) (x0 : Nat) (x1 : Int32) (x2 : Int32) (H : Heap) (locs : List Loc) (ls : Array Slot), Ag ρ0 ρ → kap S0 ≤ kap S → Wn Yc D T ρ S A s H locs → lv_has ls 6 [(0, .ref (ρ x0)), (1, .int x1), (2, .int x2)] → Ob Yc x0 2 → k15 S x0 x1 x2 = some S' → W p l e (rmK 1 26 (kap S' - kap S0)) s m args below meth c H locs (kap S - kap S0) (2 * (kap S - kap S0)) (MQ below (QvM D T ρ0 A S') args s (kap S' - kap S0) (2 * (kap S' - kap S0)) A) (F0 m 15 ls [])) (km15 : ∀ (S : St) (x0 : Nat) (x1 : Int32) (x2 : Int32), k15 S x0 x1 x2 = some S' → kap S ≤ kap S') (ha : Ag ρ0 ρ) (hm : kap S0 ≤ kap S) (w : Wn Yc D T ρ S A s H locs) (hl : lv_has ls 6 [(0, .ref (ρ x0)), (1, .int x1), (2, .int x2)]) (ho_x0 : Ob Yc x0 2) (h : b_Pg_leaveOut_15 g k15 S x0 x1 x2 = some S') : W p l e (rmK 1 26 (kap S' - kap S0)) s m args below meth c H locs (kap S - kap S0) (2 * (kap S - kap S0)) (MQ below (QvM D T ρ0 A S') args s (kap S' - kap S0) (2 * (kap S' - kap S0)) A) (F0 m 15 ls []) := by
  have hT := kmb_Pg_leaveOut_15 km15 h
  unfold b_Pg_leaveOut_15 at h
  have nn : nq S S := nq_rf
  refine lv_iload_n C.1 C.2.1 dX4_leaveOut_15 rfl (lv_at hl 2 rfl) ?_
  refine lv_iload_n C.1 C.2.1 dX4_leaveOut_16 rfl (lv_at hl 1 rfl) ?_
  refine lv_icmp_ge (tgt := 63) C.1 C.2.1 dX4_leaveOut_17 (by decide) (fun hc => ?_) (fun hc => ?_)
  · replace h := ift hc h
    refine lv_aload_n C.1 C.2.1 dX4_leaveOut_63 rfl (lv_at hl 0 rfl) ?_
    refine x_getC C w (50 + 8 * x0 + 1) fX4_15 ho_x0 (crP1 ho_x0) dX4_leaveOut_64 ?_
    refine lv_iload_n C.1 C.2.1 dX4_leaveOut_67 rfl (lv_at hl 1 rfl) ?_
    obtain ⟨v_1, hv_1, h⟩ := bnd h
    refine x_iald C w (obP1 ho_x0) hv_1 dX4_leaveOut_68 ?_
    refine lv_istore_n (lv' := [(2, .int v_1), (0, .ref (ρ x0)), (1, .int x1)]) C.1 C.2.1 dX4_leaveOut_69 rfl hl (by decide) rfl (fun ls hl => ?_)
    refine lv_aload_n C.1 C.2.1 dX4_leaveOut_70 rfl (lv_at hl 1 rfl) ?_
    refine x_getC C w (50 + 8 * x0 + 1) fX4_15 ho_x0 (crP1 ho_x0) dX4_leaveOut_71 ?_
    refine lv_iload_n C.1 C.2.1 dX4_leaveOut_74 rfl (lv_at hl 2 rfl) ?_
    refine lv_iconst (v := 1) C.1 C.2.1 dX4_leaveOut_75 (by decide) ?_
    refine lv_iadd C.1 C.2.1 dX4_leaveOut_76 ?_
    obtain ⟨v_2, hv_2, h⟩ := bnd h
    refine x_iald C w (obP1 ho_x0) hv_2 dX4_leaveOut_77 ?_
    refine lv_istore_n (lv' := [(3, .int v_2), (2, .int v_1), (0, .ref (ρ x0)), (1, .int x1)]) C.1 C.2.1 dX4_leaveOut_78 rfl hl (by decide) rfl (fun ls hl => ?_)
    refine lv_aload_n C.1 C.2.1 dX4_leaveOut_79 rfl (lv_at hl 2 rfl) ?_
    refine x_getC C w (50 + 8 * x0 + 1) fX4_15 ho_x0 (crP1 ho_x0) dX4_leaveOut_80 ?_
    refine lv_aload_n C.1 C.2.1 dX4_leaveOut_83 rfl (lv_at hl 2 rfl) ?_
    refine x_getI C w fX4_43 ho_x0 dX4_leaveOut_84 ?_
    obtain ⟨v_3, hv_3, h⟩ := bnd h
    refine x_iald C w (obP1 ho_x0) hv_3 dX4_leaveOut_87 ?_
    refine lv_iload_n C.1 C.2.1 dX4_leaveOut_88 rfl (lv_at hl 0 rfl) ?_
    refine lv_isub C.1 C.2.1 dX4_leaveOut_89 ?_
    obtain ⟨x4_4, ex4_4, h⟩ := lt_e h
    refine x_nm ex4_4 ?_
    refine lv_istore (lv' := [(4, .int x4_4), (3, .int v_2), (2, .int v_1), (0, .ref (ρ x0)), (1, .int x1)]) C.1 C.2.1 dX4_leaveOut_90 hl (by decide) rfl (fun ls hl => ?_)
    refine lv_aload_n C.1 C.2.1 dX4_leaveOut_92 rfl (lv_at hl 3 rfl) ?_
    refine x_getC C w (50 + 8 * x0 + 2) fX4_18 ho_x0 (crP2 ho_x0) dX4_leaveOut_93 ?_
    refine lv_iload_n C.1 C.2.1 dX4_leaveOut_96 rfl (lv_at hl 1 rfl) ?_
    refine lv_aload_n C.1 C.2.1 dX4_leaveOut_97 rfl (lv_at hl 3 rfl) ?_
    refine x_getC C w (50 + 8 * x0 + 2) fX4_18 ho_x0 (crP2 ho_x0) dX4_leaveOut_98 ?_
    refine lv_iload_n C.1 C.2.1 dX4_leaveOut_101 rfl (lv_at hl 2 rfl) ?_
    refine lv_iload C.1 C.2.1 dX4_leaveOut_102 (lv_at hl 0 rfl) ?_
    obtain ⟨S_5, hS_5, h⟩ := bnd h
    replace nn : nq S_5 S := nq_tr (nq_cpI hS_5) nn
    refine x_cpI C w hl.1 ac_X4 (obP2 ho_x0) (obP2 ho_x0) hS_5 (hRK (by decide) (by decide)) (Nat.le_of_ble_eq_true rfl) dX4_leaveOut_104 (fun H locs w => ?_)
    refine lv_aload_n C.1 C.2.1 dX4_leaveOut_107 rfl (lv_at hl 3 rfl) ?_
    refine x_getC C w (50 + 8 * x0 + 3) fX4_21 ho_x0 (crP3 ho_x0) dX4_leaveOut_108 ?_
    refine lv_iload_n C.1 C.2.1 dX4_leaveOut_111 rfl (lv_at hl 1 rfl) ?_
    refine lv_aload_n C.1 C.2.1 dX4_leaveOut_112 rfl (lv_at hl 3 rfl) ?_
    refine x_getC C w (50 + 8 * x0 + 3) fX4_21 ho_x0 (crP3 ho_x0) dX4_leaveOut_113 ?_
    refine lv_iload_n C.1 C.2.1 dX4_leaveOut_116 rfl (lv_at hl 2 rfl) ?_
    refine lv_iload C.1 C.2.1 dX4_leaveOut_117 (lv_at hl 0 rfl) ?_
    obtain ⟨S_6, hS_6, h⟩ := bnd h
    replace nn : nq S_6 S := nq_tr (nq_cpI hS_6) nn
    refine x_cpI C w hl.1 ac_X4 (obP3 ho_x0) (obP3 ho_x0) hS_6 (hRK (by decide) (by decide)) (Nat.le_of_ble_eq_true rfl) dX4_leaveOut_119 (fun H locs w => ?_)
    refine lv_aload_n C.1 C.2.1 dX4_leaveOut_122 rfl (lv_at hl 3 rfl) ?_
    refine x_getC C w (50 + 8 * x0 + 4) fX4_24 ho_x0 (crP4 ho_x0) dX4_leaveOut_123 ?_
    refine lv_iload_n C.1 C.2.1 dX4_leaveOut_126 rfl (lv_at hl 1 rfl) ?_
    refine lv_aload_n C.1 C.2.1 dX4_leaveOut_127 rfl (lv_at hl 3 rfl) ?_
    refine x_getC C w (50 + 8 * x0 + 4) fX4_24 ho_x0 (crP4 ho_x0) dX4_leaveOut_128 ?_
    refine lv_iload_n C.1 C.2.1 dX4_leaveOut_131 rfl (lv_at hl 2 rfl) ?_
    refine lv_iload C.1 C.2.1 dX4_leaveOut_132 (lv_at hl 0 rfl) ?_
    obtain ⟨S_7, hS_7, h⟩ := bnd h
    replace nn : nq S_7 S := nq_tr (nq_cpJ hS_7) nn
    refine x_cpJ C w hl.1 ac_X4 (obP4 ho_x0) (obP4 ho_x0) hS_7 (hRK (by decide) (by decide)) (Nat.le_of_ble_eq_true rfl) dX4_leaveOut_134 (fun H locs w => ?_)
    refine lv_aload_n C.1 C.2.1 dX4_leaveOut_137 rfl (lv_at hl 3 rfl) ?_
    refine x_getC C w (50 + 8 * x0 + 5) fX4_28 ho_x0 (crP5 ho_x0) dX4_leaveOut_138 ?_
    refine lv_iload_n C.1 C.2.1 dX4_leaveOut_141 rfl (lv_at hl 1 rfl) ?_
    refine lv_aload_n C.1 C.2.1 dX4_leaveOut_142 rfl (lv_at hl 3 rfl) ?_
    refine x_getC C w (50 + 8 * x0 + 5) fX4_28 ho_x0 (crP5 ho_x0) dX4_leaveOut_143 ?_
    refine lv_iload_n C.1 C.2.1 dX4_leaveOut_146 rfl (lv_at hl 2 rfl) ?_
    refine lv_iload C.1 C.2.1 dX4_leaveOut_147 (lv_at hl 0 rfl) ?_
    obtain ⟨S_8, hS_8, h⟩ := bnd h
    replace nn : nq S_8 S := nq_tr (nq_cpI hS_8) nn
    refine x_cpI C w hl.1 ac_X4 (obP5 ho_x0) (obP5 ho_x0) hS_8 (hRK (by decide) (by decide)) (Nat.le_of_ble_eq_true rfl) dX4_leaveOut_149 (fun H locs w => ?_)
    refine lv_iload_n C.1 C.2.1 dX4_leaveOut_152 rfl (lv_at hl 4 rfl) ?_
    refine lv_iconst (v := 1) C.1 C.2.1 dX4_leaveOut_153 (by decide) ?_
    refine lv_iadd C.1 C.2.1 dX4_leaveOut_154 ?_
    obtain ⟨x5_9, ex5_9, h⟩ := lt_e h
    refine x_nm ex5_9 ?_
    refine lv_istore (lv' := [(5, .int x5_9), (4, .int x4_4), (3, .int v_2), (2, .int v_1), (0, .ref (ρ x0)), (1, .int x1)]) C.1 C.2.1 dX4_leaveOut_155 hl (by decide) rfl (fun ls hl => ?_)
    have hkn := nq_kap nn
    refine W.widen (k := kap S_8 - kap S0) (n := 2 * (kap S_8 - kap S0)) (by omega) (by omega) ?_
    exact w_Pg_leaveOut_157 C hr hk hcn hcw g _ _ _ _ _ _ _ _ _ ha (by omega) w (lv_sub hl [4, 3, 2, 0] rfl) ho_x0 h
  · replace h := iff0 hc h
    refine lv_aload_n C.1 C.2.1 dX4_leaveOut_20 rfl (lv_at hl 0 rfl) ?_
    refine lv_iload_n C.1 C.2.1 dX4_leaveOut_21 rfl (lv_at hl 2 rfl) ?_
    obtain ⟨e_11, he_11, h⟩ := bnd h
    refine x_callVeC (q := (RX4, TX4, 16)) (As := [.int x2]) (rest := []) C w hcn hcw (k_Pg_sortOf l Z D T ρ g H.size S ho_x0 he_11) vX4_103 (hRK (by decide) (by decide)) ho_x0 (by decide) rfl rfl rfl hl.1 (Nat.le_of_ble_eq_true rfl) (hcK hT) dX4_leaveOut_22 (fun ρ_10 H locs hag w => ?_)
    replace ha := ha.trans hag
    rw [← hag x0 (ncP ho_x0)] at hl
    refine x_callKi (As := []) (rest := []) C w hcn hcw (hcn.1.1 _ (by rw [smN_len]; exact (so_lt he_11))).2.1 (k_So_opensRange l Z D T ρ_10 H.size S (so_lt he_11)) vX4_107 (hRK (by decide) (by decide)) rfl rfl hl.1 (Nat.le_of_ble_eq_true rfl) (hcK hT) dX4_leaveOut_25 (fun ρ_12 H locs hag w => ?_)
    replace ha := ha.trans hag
    rw [← hag x0 (ncP ho_x0)] at hl
    refine lv_if_eq (tgt := 57) C.1 C.2.1 dX4_leaveOut_28 (by decide) (fun hc => ?_) (fun hc => ?_)
    · replace h := ift hc h
      obtain ⟨x2_13, ex2_13, h⟩ := lt_e h
      refine lv_iinc (v := x2_13) (lv' := [(2, .int x2_13), (0, .ref (ρ_12 x0)), (1, .int x1)]) C.1 C.2.1 dX4_leaveOut_57 hl (k := 2) rfl (by rw [ex2_13]; rfl) (by decide) rfl (fun ls hl => ?_)
      refine lv_goto (tgt := 15) C.1 C.2.1 dX4_leaveOut_60 (by decide) ?_
      have hkn := nq_kap nn
      refine W.widen (k := kap S - kap S0) (n := 2 * (kap S - kap S0)) (by omega) (by omega) ?_
      exact kk15 _ _ _ _ _ _ _ _ ha (by omega) w (lv_sub hl [1, 2, 0] rfl) ho_x0 h
    · replace h := iff0 hc h
      refine lv_aload_n C.1 C.2.1 dX4_leaveOut_31 rfl (lv_at hl 0 rfl) ?_
      refine lv_iload_n C.1 C.2.1 dX4_leaveOut_32 rfl (lv_at hl 2 rfl) ?_
      obtain ⟨v_14, hv_14, h⟩ := bnd h
      refine x_callVi (q := (RX4, TX4, 16)) (As := [.int x2]) (rest := []) C w (k_Pg_rangeEnd l D T ρ_12 g H.size S ho_x0 hv_14) vX4_113 (hRK (by decide) (by decide)) ho_x0 (by decide) rfl rfl rfl hl.1 (Nat.le_of_ble_eq_true rfl) (hcK hT) dX4_leaveOut_33 (fun H locs w => ?_)
      refine lv_iload_n C.1 C.2.1 dX4_leaveOut_36 rfl (lv_at hl 1 rfl) ?_
      refine lv_icmp_le (tgt := 57) C.1 C.2.1 dX4_leaveOut_37 (by decide) (fun hc => ?_) (fun hc => ?_)
      · replace h := ift hc h
        obtain ⟨x2_15, ex2_15, h⟩ := lt_e h
        refine lv_iinc (v := x2_15) (lv' := [(2, .int x2_15), (0, .ref (ρ_12 x0)), (1, .int x1)]) C.1 C.2.1 dX4_leaveOut_57 hl (k := 2) rfl (by rw [ex2_15]; rfl) (by decide) rfl (fun ls hl => ?_)
        refine lv_goto (tgt := 15) C.1 C.2.1 dX4_leaveOut_60 (by decide) ?_
        have hkn := nq_kap nn
        refine W.widen (k := kap S - kap S0) (n := 2 * (kap S - kap S0)) (by omega) (by omega) ?_
        exact kk15 _ _ _ _ _ _ _ _ ha (by omega) w (lv_sub hl [1, 2, 0] rfl) ho_x0 h
      · replace h := iff0 hc h
        refine lv_aload_n C.1 C.2.1 dX4_leaveOut_40 rfl (lv_at hl 0 rfl) ?_
        refine x_getC C w (50 + 8 * x0 + 4) fX4_24 ho_x0 (crP4 ho_x0) dX4_leaveOut_41 ?_
        refine lv_aload_n C.1 C.2.1 dX4_leaveOut_44 rfl (lv_at hl 0 rfl) ?_
        refine x_getC C w (50 + 8 * x0 + 1) fX4_15 ho_x0 (crP1 ho_x0) dX4_leaveOut_45 ?_
        refine lv_iload_n C.1 C.2.1 dX4_leaveOut_48 rfl (lv_at hl 2 rfl) ?_
        obtain ⟨v_16, hv_16, h⟩ := bnd h
        refine x_iald C w (obP1 ho_x0) hv_16 dX4_leaveOut_49 ?_
        refine lv_iconst (v := 1) C.1 C.2.1 dX4_leaveOut_50 (by decide) ?_
        refine lv_iadd C.1 C.2.1 dX4_leaveOut_51 ?_
        refine lv_dup2_11 C.1 C.2.1 dX4_leaveOut_52 rfl rfl ?_
        obtain ⟨v_17, hv_17, h⟩ := bnd h
        refine x_lald C w (obP4 ho_x0) hv_17 dX4_leaveOut_53 ?_
        refine lv_lconst (v := 1) C.1 C.2.1 dX4_leaveOut_54 (by decide) ?_
        refine lv_lsub C.1 C.2.1 dX4_leaveOut_55 ?_
        obtain ⟨S_18, hS_18, h⟩ := bnd h
        replace nn : nq S_18 S := nq_tr (nq_tJ hS_18) nn
        refine x_last C w (obP4 ho_x0) hS_18 dX4_leaveOut_56 (fun H locs w => ?_)
        obtain ⟨x2_19, ex2_19, h⟩ := lt_e h
        refine lv_iinc (v := x2_19) (lv' := [(2, .int x2_19), (0, .ref (ρ_12 x0)), (1, .int x1)]) C.1 C.2.1 dX4_leaveOut_57 hl (k := 2) rfl (by rw [ex2_19]; rfl) (by decide) rfl (fun ls hl => ?_)
        refine lv_goto (tgt := 15) C.1 C.2.1 dX4_leaveOut_60 (by decide) ?_
        have hkn := nq_kap nn
        refine W.widen (k := kap S_18 - kap S0) (n := 2 * (kap S_18 - kap S0)) (by omega) (by omega) ?_
        exact kk15 _ _ _ _ _ _ _ _ ha (by omega) w (lv_sub hl [1, 2, 0] rfl) ho_x0 h
theorem w_Pg_leaveOut_15 {g : Nat} (C : CallFix p m c cX4_leaveOut 6 s args tb RX4) (hr : meth.sig.returnType = none) (hk : meth.locks = false) (hcn : Kn Z A s s.heap) (hcw : Kw Z s) {S' : St} (n : Nat) : ∀ (ρ : Nat → Nat) (S : St) (x0 : Nat) (x1 : Int32) (x2 : Int32) (H : Heap) (locs : List Loc) (ls : Array Slot), Ag ρ0 ρ → kap S0 ≤ kap S → Wn Yc D T ρ S A s H locs → lv_has ls 6 [(0, .ref (ρ x0)), (1, .int x1), (2, .int x2)] → Ob Yc x0 2 → m_Pg_leaveOut_15 g n S x0 x1 x2 = some S' → W p l e (rmK 1 26 (kap S' - kap S0)) s m args below meth c H locs (kap S - kap S0) (2 * (kap S - kap S0)) (MQ below (QvM D T ρ0 A S') args s (kap S' - kap S0) (2 * (kap S' - kap S0)) A) (F0 m 15 ls []) := by
  induction n with
  | zero => intro ρ S x0 x1 x2 H locs ls ha hm w hl ho_x0 h; exact absurd h (fun q => by cases q)
  | succ n ih => intro ρ S x0 x1 x2 H locs ls ha hm w hl ho_x0 h; exact wb_Pg_leaveOut_15 C hr hk hcn hcw ih (km_Pg_leaveOut_15 n) ha hm w hl ho_x0 h
set_option maxRecDepth 100000 in
set_option maxHeartbeats 4000000 in
theorem w_Pg_leaveOut_0 {g : Nat} {S : St} {x0 : Nat} {x1 : Int32} (C : CallFix p m c cX4_leaveOut 6 s args tb RX4) (hr : meth.sig.returnType = none) (hk : meth.locks = false) (hcn : Kn Z A s s.heap) (hcw : Kw Z s) {S' : St} (ha : Ag ρ0 ρ) (hm : kap S0 ≤ kap S) (w : Wn Yc D T ρ S A s H locs) (hl : lv_has ls 6 [(0, .ref (ρ x0)), (1, .int x1)]) (ho_x0 : Ob Yc x0 2) (h : m_Pg_leaveOut g S x0 x1 = some S') : W p l e (rmK 1 26 (kap S' - kap S0)) s m args below meth c H locs (kap S - kap S0) (2 * (kap S - kap S0)) (MQ below (QvM D T ρ0 A S') args s (kap S' - kap S0) (2 * (kap S' - kap S0)) A) (F0 m 0 ls []) := by
  have hT := km_Pg_leaveOut h
  unfold m_Pg_leaveOut at h
  have nn : nq S S := nq_rf
  refine lv_iload_n C.1 C.2.1 dX4_leaveOut_0 rfl (lv_at hl 1 rfl) ?_
  refine lv_if_lt (tgt := 12) C.1 C.2.1 dX4_leaveOut_1 (by decide) (fun hc => ?_) (fun hc => ?_)
  · replace h := ift hc h
    obtain rfl := som h
    exact x_vretM C w ha hr hk dX4_leaveOut_12 (by have := nq_kap nn; omega) (by have := nq_kap nn; omega)
  · replace h := iff0 hc h
    refine lv_iload_n C.1 C.2.1 dX4_leaveOut_4 rfl (lv_at hl 1 rfl) ?_
    refine lv_aload_n C.1 C.2.1 dX4_leaveOut_5 rfl (lv_at hl 0 rfl) ?_
    refine x_getI C w fX4_43 ho_x0 dX4_leaveOut_6 ?_
    refine lv_icmp_lt (tgt := 13) C.1 C.2.1 dX4_leaveOut_9 (by decide) (fun hc => ?_) (fun hc => ?_)
    · replace h := ift hc h
      refine lv_iconst (v := 0) C.1 C.2.1 dX4_leaveOut_13 (by decide) ?_
      refine lv_istore_n (lv' := [(2, .int (0 : Int32)), (0, .ref (ρ x0)), (1, .int x1)]) C.1 C.2.1 dX4_leaveOut_14 rfl hl (by decide) rfl (fun ls hl => ?_)
      have hkn := nq_kap nn
      refine W.widen (k := kap S - kap S0) (n := 2 * (kap S - kap S0)) (by omega) (by omega) ?_
      exact w_Pg_leaveOut_15 C hr hk hcn hcw g _ _ _ _ _ _ _ _ ha (by omega) w (lv_sub hl [1, 2, 0] rfl) ho_x0 h
    · replace h := iff0 hc h
      obtain rfl := som h
      exact x_vretM C w ha hr hk dX4_leaveOut_12 (by have := nq_kap nn; omega) (by have := nq_kap nn; omega)
end S_Pg_leaveOut
set_option maxRecDepth 100000 in
theorem k_Pg_leaveOut (l : Launch) (Z : Ad) (D : va_G) (T : Cy) (ρ : Nat → Nat) (g sz : Nat) (S : St) {x0 : Nat} {x1 : Int32} (ho_x0 : Ob Yc x0 2) {S' : St} (h : m_Pg_leaveOut g S x0 x1 = some S') : MvC l Z D T ρ yX4_leaveOut cX4_leaveOut 6 none 1 26 S S' [.ref (ρ x0), .int x1] sz :=
  x_inC (by decide) (Nat.le_of_ble_eq_true rfl) (fun p e s m below meth c ls C hr hk hcn hcw w hl => W.widen (Nat.zero_le _) (Nat.zero_le _) (w_Pg_leaveOut_0 C hr hk hcn hcw Ag.rf (Nat.le_refl _) w hl ho_x0 h))
