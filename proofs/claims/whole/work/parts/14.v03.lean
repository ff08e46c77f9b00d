theorem dX9_replace_0 : decode cX9_replace 0 = .ok (.aload_n 0, 1) := by decide +kernel
theorem dX9_replace_1 : decode cX9_replace 1 = .ok (.getfield 23, 3) := by decide +kernel
theorem dX9_replace_4 : decode cX9_replace 4 = .ok (.iconst 2, 1) := by decide +kernel
theorem dX9_replace_5 : decode cX9_replace 5 = .ok (.invokevirtual 42, 3) := by decide +kernel
theorem dX9_replace_8 : decode cX9_replace 8 = .ok (.istore_n 2, 1) := by decide +kernel
theorem dX9_replace_9 : decode cX9_replace 9 = .ok (.aload_n 0, 1) := by decide +kernel
theorem dX9_replace_10 : decode cX9_replace 10 = .ok (.getfield 23, 3) := by decide +kernel
theorem dX9_replace_13 : decode cX9_replace 13 = .ok (.iconst 3, 1) := by decide +kernel
theorem dX9_replace_14 : decode cX9_replace 14 = .ok (.invokevirtual 42, 3) := by decide +kernel
theorem dX9_replace_17 : decode cX9_replace 17 = .ok (.istore_n 3, 1) := by decide +kernel
theorem dX9_replace_18 : decode cX9_replace 18 = .ok (.aload_n 0, 1) := by decide +kernel
theorem dX9_replace_19 : decode cX9_replace 19 = .ok (.getfield 33, 3) := by decide +kernel
theorem dX9_replace_22 : decode cX9_replace 22 = .ok (.iload_n 2, 1) := by decide +kernel
theorem dX9_replace_23 : decode cX9_replace 23 = .ok (.invokevirtual 171, 3) := by decide +kernel
theorem dX9_replace_26 : decode cX9_replace 26 = .ok (.istore 4, 2) := by decide +kernel
theorem dX9_replace_28 : decode cX9_replace 28 = .ok (.aload_n 0, 1) := by decide +kernel
theorem dX9_replace_29 : decode cX9_replace 29 = .ok (.getfield 33, 3) := by decide +kernel
theorem dX9_replace_32 : decode cX9_replace 32 = .ok (.iload_n 1, 1) := by decide +kernel
theorem dX9_replace_33 : decode cX9_replace 33 = .ok (.invokevirtual 171, 3) := by decide +kernel
theorem dX9_replace_36 : decode cX9_replace 36 = .ok (.istore 5, 2) := by decide +kernel
theorem dX9_replace_38 : decode cX9_replace 38 = .ok (.iconst 0, 1) := by decide +kernel
theorem dX9_replace_39 : decode cX9_replace 39 = .ok (.istore 6, 2) := by decide +kernel
theorem dX9_replace_41 : decode cX9_replace 41 = .ok (.iconst 0, 1) := by decide +kernel
theorem dX9_replace_42 : decode cX9_replace 42 = .ok (.istore 7, 2) := by decide +kernel
theorem dX9_replace_44 : decode cX9_replace 44 = .ok (.iconst 0, 1) := by decide +kernel
theorem dX9_replace_45 : decode cX9_replace 45 = .ok (.istore 8, 2) := by decide +kernel
theorem dX9_replace_47 : decode cX9_replace 47 = .ok (.iload 8, 2) := by decide +kernel
theorem dX9_replace_49 : decode cX9_replace 49 = .ok (.iload 5, 2) := by decide +kernel
theorem dX9_replace_51 : decode cX9_replace 51 = .ok (.if_icmp .gt 89, 3) := by decide +kernel
theorem dX9_replace_54 : decode cX9_replace 54 = .ok (.aload_n 0, 1) := by decide +kernel
theorem dX9_replace_55 : decode cX9_replace 55 = .ok (.getfield 37, 3) := by decide +kernel
theorem dX9_replace_58 : decode cX9_replace 58 = .ok (.getfield 139, 3) := by decide +kernel
theorem dX9_replace_61 : decode cX9_replace 61 = .ok (.ifCond .ne 79, 3) := by decide +kernel
theorem dX9_replace_64 : decode cX9_replace 64 = .ok (.iload 8, 2) := by decide +kernel
theorem dX9_replace_66 : decode cX9_replace 66 = .ok (.iload 7, 2) := by decide +kernel
theorem dX9_replace_68 : decode cX9_replace 68 = .ok (.if_icmp .lt 35, 3) := by decide +kernel
theorem dX9_replace_71 : decode cX9_replace 71 = .ok (.aload_n 0, 1) := by decide +kernel
theorem dX9_replace_72 : decode cX9_replace 72 = .ok (.getfield 33, 3) := by decide +kernel
theorem dX9_replace_75 : decode cX9_replace 75 = .ok (.iload_n 2, 1) := by decide +kernel
theorem dX9_replace_76 : decode cX9_replace 76 = .ok (.iload 8, 2) := by decide +kernel
theorem dX9_replace_78 : decode cX9_replace 78 = .ok (.iload_n 1, 1) := by decide +kernel
theorem dX9_replace_79 : decode cX9_replace 79 = .ok (.invokevirtual 201, 3) := by decide +kernel
theorem dX9_replace_82 : decode cX9_replace 82 = .ok (.ifCond .eq 21, 3) := by decide +kernel
theorem dX9_replace_85 : decode cX9_replace 85 = .ok (.aload_n 0, 1) := by decide +kernel
theorem dX9_replace_86 : decode cX9_replace 86 = .ok (.getfield 23, 3) := by decide +kernel
theorem dX9_replace_89 : decode cX9_replace 89 = .ok (.iload_n 3, 1) := by decide +kernel
theorem dX9_replace_90 : decode cX9_replace 90 = .ok (.invokevirtual 64, 3) := by decide +kernel
theorem dX9_replace_93 : decode cX9_replace 93 = .ok (.iconst 1, 1) := by decide +kernel
theorem dX9_replace_94 : decode cX9_replace 94 = .ok (.istore 6, 2) := by decide +kernel
theorem dX9_replace_96 : decode cX9_replace 96 = .ok (.iload 8, 2) := by decide +kernel
theorem dX9_replace_98 : decode cX9_replace 98 = .ok (.iload 4, 2) := by decide +kernel
theorem dX9_replace_100 : decode cX9_replace 100 = .ok (.iadd, 1) := by decide +kernel
theorem dX9_replace_101 : decode cX9_replace 101 = .ok (.istore 7, 2) := by decide +kernel
theorem dX9_replace_103 : decode cX9_replace 103 = .ok (.iload 8, 2) := by decide +kernel
theorem dX9_replace_105 : decode cX9_replace 105 = .ok (.iload 7, 2) := by decide +kernel
theorem dX9_replace_107 : decode cX9_replace 107 = .ok (.if_icmp .lt 27, 3) := by decide +kernel
theorem dX9_replace_110 : decode cX9_replace 110 = .ok (.iload 8, 2) := by decide +kernel
theorem dX9_replace_112 : decode cX9_replace 112 = .ok (.iload 5, 2) := by decide +kernel
theorem dX9_replace_114 : decode cX9_replace 114 = .ok (.if_icmp .ge 20, 3) := by decide +kernel
theorem dX9_replace_117 : decode cX9_replace 117 = .ok (.aload_n 0, 1) := by decide +kernel
theorem dX9_replace_118 : decode cX9_replace 118 = .ok (.getfield 37, 3) := by decide +kernel
theorem dX9_replace_121 : decode cX9_replace 121 = .ok (.aload_n 0, 1) := by decide +kernel
theorem dX9_replace_122 : decode cX9_replace 122 = .ok (.getfield 33, 3) := by decide +kernel
theorem dX9_replace_125 : decode cX9_replace 125 = .ok (.iload_n 1, 1) := by decide +kernel
theorem dX9_replace_126 : decode cX9_replace 126 = .ok (.iload 8, 2) := by decide +kernel
theorem dX9_replace_128 : decode cX9_replace 128 = .ok (.invokevirtual 205, 3) := by decide +kernel
theorem dX9_replace_131 : decode cX9_replace 131 = .ok (.invokevirtual 159, 3) := by decide +kernel
theorem dX9_replace_134 : decode cX9_replace 134 = .ok (.iinc 8 1, 3) := by decide +kernel
theorem dX9_replace_137 : decode cX9_replace 137 = .ok (.goto (-90), 3) := by decide +kernel
theorem dX9_replace_140 : decode cX9_replace 140 = .ok (.aload_n 0, 1) := by decide +kernel
theorem dX9_replace_141 : decode cX9_replace 141 = .ok (.iload_n 1, 1) := by decide +kernel
theorem dX9_replace_142 : decode cX9_replace 142 = .ok (.iload 6, 2) := by decide +kernel
theorem dX9_replace_144 : decode cX9_replace 144 = .ok (.invokevirtual 113, 3) := by decide +kernel
theorem dX9_replace_147 : decode cX9_replace 147 = .ok (.ireturn, 1) := by decide +kernel
def m_TS_replace_147 (g : Nat) (S : St) (y0 : Int32) : Option (St × Int32) :=
some (S, y0)
def m_TS_replace_140 (g : Nat) (S : St) (x1 : Int32) (x6 : Int32) : Option (St × Int32) :=
(m_TS_become g S x1 x6).bind fun (S_5, v_6) =>
m_TS_replace_147 g S_5 v_6
def m_TS_replace_134 (g : Nat) (k47 : St → Int32 → Int32 → Int32 → Int32 → Int32 → Int32 → Int32 → Int32 → Option (St × Int32)) (S : St) (x1 : Int32) (x2 : Int32) (x3 : Int32) (x4 : Int32) (x5 : Int32) (x6 : Int32) (x7 : Int32) (x8 : Int32) : Option (St × Int32) :=
lt (x8 + (1 : Int32)) fun x8_5 =>
k47 S x1 x2 x3 x4 x5 x6 x7 x8_5
def m_TS_replace_103 (g : Nat) (k47 : St → Int32 → Int32 → Int32 → Int32 → Int32 → Int32 → Int32 → Int32 → Option (St × Int32)) (S : St) (x1 : Int32) (x2 : Int32) (x3 : Int32) (x4 : Int32) (x5 : Int32) (x6 : Int32) (x7 : Int32) (x8 : Int32) : Option (St × Int32) :=
if x8 < x7 then (
  m_TS_replace_134 g k47 S x1 x2 x3 x4 x5 x6 x7 x8
) else (
  if x5 ≤ x8 then (
    m_TS_replace_134 g k47 S x1 x2 x3 x4 x5 x6 x7 x8
  ) else (
    (m_Tx_unitOf g S x1 x8).bind fun v_5 =>
    (m_Row_add g S 23 v_5).bind fun S_6 =>
    m_TS_replace_134 g k47 S_6 x1 x2 x3 x4 x5 x6 x7 x8
  )
)
def m_TS_replace_93 (g : Nat) (k47 : St → Int32 → Int32 → Int32 → Int32 → Int32 → Int32 → Int32 → Int32 → Option (St × Int32)) (S : St) (x1 : Int32) (x2 : Int32) (x3 : Int32) (x4 : Int32) (x5 : Int32) (x8 : Int32) : Option (St × Int32) :=
lt (x8 + x4) fun x7_7 =>
m_TS_replace_103 g k47 S x1 x2 x3 x4 x5 (1 : Int32) x7_7 x8
def b_TS_replace_47 (g : Nat) (k47 : St → Int32 → Int32 → Int32 → Int32 → Int32 → Int32 → Int32 → Int32 → Option (St × Int32)) (S : St) (x1 : Int32) (x2 : Int32) (x3 : Int32) (x4 : Int32) (x5 : Int32) (x6 : Int32) (x7 : Int32) (x8 : Int32) : Option (St × Int32) :=
if x5 < x8 then (
  m_TS_replace_140 g S x1 x6
) else (
  if (gI S 23 3) = 0 then (
    if x8 < x7 then (
      m_TS_replace_103 g k47 S x1 x2 x3 x4 x5 x6 x7 x8
    ) else (
      (m_Tx_stands g S x2 x8 x1).bind fun v_5 =>
      if v_5 = 0 then (
        m_TS_replace_103 g k47 S x1 x2 x3 x4 x5 x6 x7 x8
      ) else (
        (m_Bn_addText g S x3).bind fun S_6 =>
        m_TS_replace_93 g k47 S_6 x1 x2 x3 x4 x5 x8
      )
    )
  ) else (
    m_TS_replace_140 g S x1 x6
  )
)
def m_TS_replace_47 (g : Nat) : Nat → St → Int32 → Int32 → Int32 → Int32 → Int32 → Int32 → Int32 → Int32 → Option (St × Int32)
  | 0, _, _, _, _, _, _, _, _, _ => none
  | n + 1, S, x1, x2, x3, x4, x5, x6, x7, x8 => b_TS_replace_47 g (m_TS_replace_47 g n) S x1 x2 x3 x4 x5 x6 x7 x8
def m_TS_replace (g : Nat) (S : St) (x1 : Int32) : Option (St × Int32) :=
(m_Bn_textAt g S (2 : Int32)).bind fun v_1 =>
(m_Bn_textAt g S (3 : Int32)).bind fun v_2 =>
(m_Tx_sizeOf g S v_1).bind fun v_3 =>
(m_Tx_sizeOf g S x1).bind fun v_4 =>
m_TS_replace_47 g g S x1 v_1 v_2 v_3 v_4 (0 : Int32) (0 : Int32) (0 : Int32)
theorem km_TS_replace_147 {g : Nat} {S : St} {y0 : Int32} {S' : St} {r : Int32} (h : m_TS_replace_147 g S y0 = some (S', r)) : kap S ≤ kap S' := by
  unfold m_TS_replace_147 at h
  have nn : nq S S := nq_rf
  obtain ⟨rfl, rfl⟩ := prI h
  have hkn := nq_kap nn
  omega
theorem km_TS_replace_140 {g : Nat} {S : St} {x1 : Int32} {x6 : Int32} {S' : St} {r : Int32} (h : m_TS_replace_140 g S x1 x6 = some (S', r)) : kap S ≤ kap S' := by
  unfold m_TS_replace_140 at h
  have nn : nq S S := nq_rf
  obtain ⟨⟨S_5, v_6⟩, hv_6, h⟩ := bnd h
  have hk1 := km_TS_become hv_6
  have hkn := nq_kap nn
  have h2 := km_TS_replace_147 h
  omega
theorem km_TS_replace_134 {g : Nat} {S : St} {x1 : Int32} {x2 : Int32} {x3 : Int32} {x4 : Int32} {x5 : Int32} {x6 : Int32} {x7 : Int32} {x8 : Int32} {S' : St} {r : Int32} {k47 : St → Int32 → Int32 → Int32 → Int32 → Int32 → Int32 → Int32 → Int32 → Option (St × Int32)} (km47 : ∀ (S : St) (x1 : Int32) (x2 : Int32) (x3 : Int32) (x4 : Int32) (x5 : Int32) (x6 : Int32) (x7 : Int32) (x8 : Int32), k47 S x1 x2 x3 x4 x5 x6 x7 x8 = some (S', r) → kap S ≤ kap S') (h : m_TS_replace_134 g k47 S x1 x2 x3 x4 x5 x6 x7 x8 = some (S', r)) : kap S ≤ kap S' := by
  unfold m_TS_replace_134 at h
  have nn : nq S S := nq_rf
  obtain ⟨x8_5, ex8_5, h⟩ := lt_e h
  have hkn := nq_kap nn
  have h2 := km47 _ _ _ _ _ _ _ _ _ h
  omega
theorem km_TS_replace_103 {g : Nat} {S : St} {x1 : Int32} {x2 : Int32} {x3 : Int32} {x4 : Int32} {x5 : Int32} {x6 : Int32} {x7 : Int32} {x8 : Int32} {S' : St} {r : Int32} {k47 : St → Int32 → Int32 → Int32 → Int32 → Int32 → Int32 → Int32 → Int32 → Option (St × Int32)} (km47 : ∀ (S : St) (x1 : Int32) (x2 : Int32) (x3 : Int32) (x4 : Int32) (x5 : Int32) (x6 : Int32) (x7 : Int32) (x8 : Int32), k47 S x1 x2 x3 x4 x5 x6 x7 x8 = some (S', r) → kap S ≤ kap S') (h : m_TS_replace_103 g k47 S x1 x2 x3 x4 x5 x6 x7 x8 = some (S', r)) : kap S ≤ kap S' := by
  unfold m_TS_replace_103 at h
  have nn : nq S S := nq_rf
  by_cases hc1 : x8 < x7
  · replace h := ift hc1 h
    have hkn := nq_kap nn
    have h2 := km_TS_replace_134 km47 h
    omega
  · replace h := iff0 hc1 h
    by_cases hc2 : x5 ≤ x8
    · replace h := ift hc2 h
      have hkn := nq_kap nn
      have h2 := km_TS_replace_134 km47 h
      omega
    · replace h := iff0 hc2 h
      obtain ⟨v_5, hv_5, h⟩ := bnd h
      obtain ⟨S_6, hS_6, h⟩ := bnd h
      have hk1 := km_Row_add hS_6
      have hkn := nq_kap nn
      have h2 := km_TS_replace_134 km47 h
      omega
theorem km_TS_replace_93 {g : Nat} {S : St} {x1 : Int32} {x2 : Int32} {x3 : Int32} {x4 : Int32} {x5 : Int32} {x8 : Int32} {S' : St} {r : Int32} {k47 : St → Int32 → Int32 → Int32 → Int32 → Int32 → Int32 → Int32 → Int32 → Option (St × Int32)} (km47 : ∀ (S : St) (x1 : Int32) (x2 : Int32) (x3 : Int32) (x4 : Int32) (x5 : Int32) (x6 : Int32) (x7 : Int32) (x8 : Int32), k47 S x1 x2 x3 x4 x5 x6 x7 x8 = some (S', r) → kap S ≤ kap S') (h : m_TS_replace_93 g k47 S x1 x2 x3 x4 x5 x8 = some (S', r)) : kap S ≤ kap S' := by
  unfold m_TS_replace_93 at h
  have nn : nq S S := nq_rf
  obtain ⟨x7_7, ex7_7, h⟩ := lt_e h
  have hkn := nq_kap nn
  have h2 := km_TS_replace_103 km47 h
  omega
theorem kmb_TS_replace_47 {g : Nat} {S : St} {x1 : Int32} {x2 : Int32} {x3 : Int32} {x4 : Int32} {x5 : Int32} {x6 : Int32} {x7 : Int32} {x8 : Int32} {S' : St} {r : Int32} {k47 : St → Int32 → Int32 → Int32 → Int32 → Int32 → Int32 → Int32 → Int32 → Option (St × Int32)} (km47 : ∀ (S : St) (x1 : Int32) (x2 : Int32) (x3 : Int32) (x4 : Int32) (x5 : Int32) (x6 : Int32) (x7 : Int32) (x8 : Int32), k47 S x1 x2 x3 x4 x5 x6 x7 x8 = some (S', r) → kap S ≤ kap S') (h : b_TS_replace_47 g k47 S x1 x2 x3 x4 x5 x6 x7 x8 = some (S', r)) : kap S ≤ kap S' := by
  unfold b_TS_replace_47 at h
  have nn : nq S S := nq_rf
  by_cases hc1 : x5 < x8
  · replace h := ift hc1 h
    have hkn := nq_kap nn
    have h2 := km_TS_replace_140 h
    omega
  · replace h := iff0 hc1 h
    by_cases hc2 : (gI S 23 3) = 0
    · replace h := ift hc2 h
      by_cases hc3 : x8 < x7
      · replace h := ift hc3 h
        have hkn := nq_kap nn
        have h2 := km_TS_replace_103 km47 h
        omega
      · replace h := iff0 hc3 h
        obtain ⟨v_5, hv_5, h⟩ := bnd h
        by_cases hc4 : v_5 = 0
        · replace h := ift hc4 h
          have hkn := nq_kap nn
          have h2 := km_TS_replace_103 km47 h
          omega
        · replace h := iff0 hc4 h
          obtain ⟨S_6, hS_6, h⟩ := bnd h
          have hk1 := km_Bn_addText hS_6
          have hkn := nq_kap nn
          have h2 := km_TS_replace_93 km47 h
          omega
    · replace h := iff0 hc2 h
      have hkn := nq_kap nn
      have h2 := km_TS_replace_140 h
      omega
theorem km_TS_replace_47 {g : Nat} {S' : St} {r : Int32} (n : Nat) : ∀ (S : St) (x1 : Int32) (x2 : Int32) (x3 : Int32) (x4 : Int32) (x5 : Int32) (x6 : Int32) (x7 : Int32) (x8 : Int32), m_TS_replace_47 g n S x1 x2 x3 x4 x5 x6 x7 x8 = some (S', r) → kap S ≤ kap S' := by
  induction n with
  | zero => intro S x1 x2 x3 x4 x5 x6 x7 x8 h; exact absurd h (fun q => by cases q)
  | succ n ih => intro S x1 x2 x3 x4 x5 x6 x7 x8 h; exact kmb_TS_replace_47 ih h
theorem km_TS_replace {g : Nat} {S : St} {x1 : Int32} {S' : St} {r : Int32} (h : m_TS_replace g S x1 = some (S', r)) : kap S ≤ kap S' := by
  unfold m_TS_replace at h
  have nn : nq S S := nq_rf
  obtain ⟨v_1, hv_1, h⟩ := bnd h
  obtain ⟨v_2, hv_2, h⟩ := bnd h
  obtain ⟨v_3, hv_3, h⟩ := bnd h
  obtain ⟨v_4, hv_4, h⟩ := bnd h
  have hkn := nq_kap nn
  have h2 := km_TS_replace_47 g _ _ _ _ _ _ _ _ _ h
  omega
section S_TS_replace
variable {p : Program} {l : Launch} {e : Env} {s : State} {m : MethodId} {args : Array Value} {below : List Frame} {meth : Method} {c : Code} {H : Heap} {locs : List Loc} {ls : Array Slot} {D : va_G} {T : Cy} {ρ ρ0 : Nat → Nat} {S0 : St} {A : Nat → Prop}
set_option maxRecDepth 100000 in
set_option maxHeartbeats 4000000 in
theorem w_TS_replace_147 {g : Nat} {S : St} {y0 : Int32} (C : CallFix p m c cX9_replace 9 s args tb RX9) (hr : meth.sig.returnType = (some .int)) (hk : meth.locks = false) {S' : St} {r : Int32} (ha : Ag ρ0 ρ) (hm : kap S0 ≤ kap S) (w : Wn Yc D T ρ S A s H locs) (hl : lv_has ls 9 []) (h : m_TS_replace_147 g S y0 = some (S', r)) : W p l e (rmK 5 117 (kap S' - kap S0)) s m args below meth c H locs (kap S - kap S0) (2 * (kap S - kap S0)) (MQ below (QiM D T ρ0 A S' r) args s (kap S' - kap S0) (2 * (kap S' - kap S0)) A) (F0 m 147 ls [.int y0]) := by
  have hT := km_TS_replace_147 h
  unfold m_TS_replace_147 at h
  have nn : nq S S := nq_rf
  obtain ⟨rfl, rfl⟩ := prI h
  exact x_iretM C w ha hr hk dX9_replace_147 (by have := nq_kap nn; omega) (by have := nq_kap nn; omega)
set_option maxRecDepth 100000 in
set_option maxHeartbeats 4000000 in
theorem w_TS_replace_140 {g : Nat} {S : St} {x1 : Int32} {x6 : Int32} (C : CallFix p m c cX9_replace 9 s args tb RX9) (hr : meth.sig.returnType = (some .int)) (hk : meth.locks = false) {S' : St} {r : Int32} (ha : Ag ρ0 ρ) (hm : kap S0 ≤ kap S) (w : Wn Yc D T ρ S A s H locs) (hl : lv_has ls 9 [(0, .ref (ρ 7)), (1, .int x1), (6, .int x6)]) (h : m_TS_replace_140 g S x1 x6 = some (S', r)) : W p l e (rmK 5 117 (kap S' - kap S0)) s m args below meth c H locs (kap S - kap S0) (2 * (kap S - kap S0)) (MQ below (QiM D T ρ0 A S' r) args s (kap S' - kap S0) (2 * (kap S' - kap S0)) A) (F0 m 140 ls []) := by
  have hT := km_TS_replace_140 h
  unfold m_TS_replace_140 at h
  have nn : nq S S := nq_rf
  refine lv_aload_n C.1 C.2.1 dX9_replace_140 rfl (lv_at hl 0 rfl) ?_
  refine lv_iload_n C.1 C.2.1 dX9_replace_141 rfl (lv_at hl 1 rfl) ?_
  refine lv_iload C.1 C.2.1 dX9_replace_142 (lv_at hl 2 rfl) ?_
  obtain ⟨⟨S_5, v_6⟩, hv_6, h⟩ := bnd h
  have hkn := nq_kap nn
  have hk1 := km_TS_become hv_6
  have hT2 := km_TS_replace_147 h
  refine x_callViM (q := (RX9, TX9, 6)) (As := [.int x1, .int x6]) (rest := []) C w (k_TS_become l D T ρ g H.size S hv_6) vX9_113 (hRK (by decide) (by decide)) obC7 (by decide) rfl rfl rfl hl.1 (Nat.le_of_ble_eq_true rfl) (hcM hm hkn hk1 hT2) dX9_replace_144 (fun ρ1 H locs hag w => ?_)
  replace ha := ha.trans hag
  rw [← hag 7 (by decide)] at hl
  refine W.widen (k := kap S_5 - kap S0) (n := 2 * (kap S_5 - kap S0)) (by omega) (by omega) ?_
  exact w_TS_replace_147 C hr hk ha (by omega) w (lv_sub hl [] rfl) h
set_option maxRecDepth 100000 in
set_option maxHeartbeats 4000000 in
theorem w_TS_replace_134 {g : Nat} {S : St} {x1 : Int32} {x2 : Int32} {x3 : Int32} {x4 : Int32} {x5 : Int32} {x6 : Int32} {x7 : Int32} {x8 : Int32} (C : CallFix p m c cX9_replace 9 s args tb RX9) (hr : meth.sig.returnType = (some .int)) (hk : meth.locks = false) {S' : St} {r : Int32} {k47 : St → Int32 → Int32 → Int32 → Int32 → Int32 → Int32 → Int32 → Int32 → Option (St × Int32)} (kk47 : ∀ (ρ : Nat → Nat) (S : St) (x1 : Int32) (x2 : Int32) (x3 : Int32) (x4 : Int32) (x5 : Int32) (x6 : Int32) (x7 : Int32) (x8 : Int32) (H : Heap) (locs : List Loc) (ls : Array Slot), Ag ρ0 ρ → kap S0 ≤ kap S → Wn Yc D T ρ S A s H locs → lv_has ls 9 [(0, .ref (ρ 7)), (1, .int x1), (2, .int x2), (3, .int x3), (4, .int x4), (5, .int x5), (6, .int x6), (7, .int x7), (8, .int x8)] → k47 S x1 x2 x3 x4 x5 x6 x7 x8 = some (S', r) → W p l e (rmK 5 117 (kap S' - kap S0)) s m args below meth c H locs (kap S - kap S0) (2 * (kap S - kap S0)) (MQ below (QiM D T ρ0 A S' r) args s (kap S' - kap S0) (2 * (kap S' - kap S0)) A) (F0 m 47 ls [])) (km47 : ∀ (S : St) (x1 : Int32) (x2 : Int32) (x3 : Int32) (x4 : Int32) (x5 : Int32) (x6 : Int32) (x7 : Int32) (x8 : Int32), k47 S x1 x2 x3 x4 x5 x6 x7 x8 = some (S', r) → kap S ≤ kap S') (ha : Ag ρ0 ρ) (hm : kap S0 ≤ kap S) (w : Wn Yc D T ρ S A s H locs) (hl : lv_has ls 9 [(0, .ref (ρ 7)), (1, .int x1), (2, .int x2), (3, .int x3), (4, .int x4), (5, .int x5), (6, .int x6), (7, .int x7), (8, .int x8)]) (h : m_TS_replace_134 g k47 S x1 x2 x3 x4 x5 x6 x7 x8 = some (S', r)) : W p l e (rmK 5 117 (kap S' - kap S0)) s m args below meth c H locs (kap S - kap S0) (2 * (kap S - kap S0)) (MQ below (QiM D T ρ0 A S' r) args s (kap S' - kap S0) (2 * (kap S' - kap S0)) A) (F0 m 134 ls []) := by
  have hT := km_TS_replace_134 km47 h
  unfold m_TS_replace_134 at h
  have nn : nq S S := nq_rf
  obtain ⟨x8_5, ex8_5, h⟩ := lt_e h
  refine lv_iinc (v := x8_5) (lv' := [(8, .int x8_5), (0, .ref (ρ 7)), (1, .int x1), (2, .int x2), (3, .int x3), (4, .int x4), (5, .int x5), (6, .int x6), (7, .int x7)]) C.1 C.2.1 dX9_replace_134 hl (k := 8) rfl (by rw [ex8_5]; rfl) (by decide) rfl (fun ls hl => ?_)
  refine lv_goto (tgt := 47) C.1 C.2.1 dX9_replace_137 (by decide) ?_
  have hkn := nq_kap nn
  refine W.widen (k := kap S - kap S0) (n := 2 * (kap S - kap S0)) (by omega) (by omega) ?_
  exact kk47 _ _ _ _ _ _ _ _ _ _ _ _ _ ha (by omega) w (lv_sub hl [1, 2, 3, 4, 5, 6, 7, 8, 0] rfl) h
set_option maxRecDepth 100000 in
set_option maxHeartbeats 4000000 in
theorem w_TS_replace_103 {g : Nat} {S : St} {x1 : Int32} {x2 : Int32} {x3 : Int32} {x4 : Int32} {x5 : Int32} {x6 : Int32} {x7 : Int32} {x8 : Int32} (C : CallFix p m c cX9_replace 9 s args tb RX9) (hr : meth.sig.returnType = (some .int)) (hk : meth.locks = false) {S' : St} {r : Int32} {k47 : St → Int32 → Int32 → Int32 → Int32 → Int32 → Int32 → Int32 → Int32 → Option (St × Int32)} (kk47 : ∀ (ρ : Nat → Nat) (S : St) (x1 : Int32) (x2 : Int32) (x3 : Int32) (x4 : Int32) (x5 : Int32) (x6 : Int32) (x7 : Int32) (x8 : Int32) (H : Heap) (locs : List Loc) (ls : Array Slot), Ag ρ0 ρ → kap S0 ≤ kap S → Wn Yc D T ρ S A s H locs → lv_has ls 9 [(0, .ref (ρ 7)), (1, .int x1), (2, .int x2), (3, .int x3), (4, .int x4), (5, .int x5), (6, .int x6), (7, .int x7), (8, .int x8)] → k47 S x1 x2 x3 x4 x5 x6 x7 x8 = some (S', r) → W p l e (rmK 5 117 (kap S' - kap S0)) s m args below meth c H locs (kap S - kap S0) (2 * (kap S - kap S0)) (MQ below (QiM D T ρ0 A S' r) args s (kap S' - kap S0) (2 * (kap S' - kap S0)) A) (F0 m 47 ls [])) (km47 : ∀ (S : St) (x1 : Int32) (x2 : Int32) (x3 : Int32) (x4 : Int32) (x5 : Int32) (x6 : Int32) (x7 : Int32) (x8 : Int32), k47 S x1 x2 x3 x4 x5 x6 x7 x8 = some (S', r) → kap S ≤ kap S') (ha : Ag ρ0 ρ) (hm : kap S0 ≤ kap S) (w : Wn Yc D T ρ S A s H locs) (hl : lv_has ls 9 [(0, .ref (ρ 7)), (1, .int x1), (2, .int x2), (3, .int x3), (4, .int x4), (5, .int x5), (6, .int x6), (7, .int x7), (8, .int x8)]) (h : m_TS_replace_103 g k47 S x1 x2 x3 x4 x5 x6 x7 x8 = some (S', r)) : W p l e (rmK 5 117 (kap S' - kap S0)) s m args below meth c H locs (kap S - kap S0) (2 * (kap S - kap S0)) (MQ below (QiM D T ρ0 A S' r) args s (kap S' - kap S0) (2 * (kap S' - kap S0)) A) (F0 m 103 ls []) := by
  have hT := km_TS_replace_103 km47 h
  unfold m_TS_replace_103 at h
  have nn : nq S S := nq_rf
  refine lv_iload C.1 C.2.1 dX9_replace_103 (lv_at hl 8 rfl) ?_
  refine lv_iload C.1 C.2.1 dX9_replace_105 (lv_at hl 7 rfl) ?_
  refine lv_icmp_lt (tgt := 134) C.1 C.2.1 dX9_replace_107 (by decide) (fun hc => ?_) (fun hc => ?_)
  · replace h := ift hc h
    have hkn := nq_kap nn
    refine W.widen (k := kap S - kap S0) (n := 2 * (kap S - kap S0)) (by omega) (by omega) ?_
    exact w_TS_replace_134 C hr hk kk47 km47 ha (by omega) w (lv_sub hl [0, 1, 2, 3, 4, 5, 6, 7, 8] rfl) h
  · replace h := iff0 hc h
    refine lv_iload C.1 C.2.1 dX9_replace_110 (lv_at hl 8 rfl) ?_
    refine lv_iload C.1 C.2.1 dX9_replace_112 (lv_at hl 5 rfl) ?_
    refine lv_icmp_ge (tgt := 134) C.1 C.2.1 dX9_replace_114 (by decide) (fun hc => ?_) (fun hc => ?_)
    · replace h := ift hc h
      have hkn := nq_kap nn
      refine W.widen (k := kap S - kap S0) (n := 2 * (kap S - kap S0)) (by omega) (by omega) ?_
      exact w_TS_replace_134 C hr hk kk47 km47 ha (by omega) w (lv_sub hl [0, 1, 2, 3, 4, 5, 6, 7, 8] rfl) h
    · replace h := iff0 hc h
      refine lv_aload_n C.1 C.2.1 dX9_replace_117 rfl (lv_at hl 0 rfl) ?_
      refine x_getC C w 23 fX9_37 obC7 rfl dX9_replace_118 ?_
      refine lv_aload_n C.1 C.2.1 dX9_replace_121 rfl (lv_at hl 0 rfl) ?_
      refine x_getC C w 5 fX9_33 obC7 rfl dX9_replace_122 ?_
      refine lv_iload_n C.1 C.2.1 dX9_replace_125 rfl (lv_at hl 1 rfl) ?_
      refine lv_iload C.1 C.2.1 dX9_replace_126 (lv_at hl 8 rfl) ?_
      obtain ⟨v_5, hv_5, h⟩ := bnd h
      refine x_callVi (q := (RX10, TX10, 5)) (As := [.int x1, .int x8]) (rest := [.ref (ρ 23)]) C w (k_Tx_unitOf l D T ρ g H.size S hv_5) vX9_205 (hRK (by decide) (by decide)) obC5 (by decide) rfl rfl rfl hl.1 (Nat.le_of_ble_eq_true rfl) (hcK hT) dX9_replace_128 (fun H locs w => ?_)
      obtain ⟨S_6, hS_6, h⟩ := bnd h
      have hkn := nq_kap nn
      have hk1 := km_Row_add hS_6
      have hT2 := km_TS_replace_134 km47 h
      refine x_callVvM (q := (RX6, TX6, 4)) (As := [.int v_5]) (rest := []) C w (k_Row_add l D T ρ g H.size S obC23 hS_6) vX9_159 (hRK (by decide) (by decide)) obC23 (by decide) rfl rfl rfl hl.1 (Nat.le_of_ble_eq_true rfl) (hcM hm hkn hk1 hT2) dX9_replace_131 (fun ρ1 H locs hag w => ?_)
      replace ha := ha.trans hag
      rw [← hag 7 (by decide)] at hl
      refine W.widen (k := kap S_6 - kap S0) (n := 2 * (kap S_6 - kap S0)) (by omega) (by omega) ?_
      exact w_TS_replace_134 C hr hk kk47 km47 ha (by omega) w (lv_sub hl [0, 1, 2, 3, 4, 5, 6, 7, 8] rfl) h
set_option maxRecDepth 100000 in
set_option maxHeartbeats 4000000 in
theorem w_TS_replace_93 {g : Nat} {S : St} {x1 : Int32} {x2 : Int32} {x3 : Int32} {x4 : Int32} {x5 : Int32} {x8 : Int32} (C : CallFix p m c cX9_replace 9 s args tb RX9) (hr : meth.sig.returnType = (some .int)) (hk : meth.locks = false) {S' : St} {r : Int32} {k47 : St → Int32 → Int32 → Int32 → Int32 → Int32 → Int32 → Int32 → Int32 → Option (St × Int32)} (kk47 : ∀ (ρ : Nat → Nat) (S : St) (x1 : Int32) (x2 : Int32) (x3 : Int32) (x4 : Int32) (x5 : Int32) (x6 : Int32) (x7 : Int32) (x8 : Int32) (H : Heap) (locs : List Loc) (ls : Array Slot), Ag ρ0 ρ → kap S0 ≤ kap S → Wn Yc D T ρ S A s H locs → lv_has ls 9 [(0, .ref (ρ 7)), (1, .int x1), (2, .int x2), (3, .int x3), (4, .int x4), (5, .int x5), (6, .int x6), (7, .int x7), (8, .int x8)] → k47 S x1 x2 x3 x4 x5 x6 x7 x8 = some (S', r) → W p l e (rmK 5 117 (kap S' - kap S0)) s m args below meth c H locs (kap S - kap S0) (2 * (kap S - kap S0)) (MQ below (QiM D T ρ0 A S' r) args s (kap S' - kap S0) (2 * (kap S' - kap S0)) A) (F0 m 47 ls [])) (km47 : ∀ (S : St) (x1 : Int32) (x2 : Int32) (x3 : Int32) (x4 : Int32) (x5 : Int32) (x6 : Int32) (x7 : Int32) (x8 : Int32), k47 S x1 x2 x3 x4 x5 x6 x7 x8 = some (S', r) → kap S ≤ kap S') (ha : Ag ρ0 ρ) (hm : kap S0 ≤ kap S) (w : Wn Yc D T ρ S A s H locs) (hl : lv_has ls 9 [(0, .ref (ρ 7)), (1, .int x1), (2, .int x2), (3, .int x3), (4, .int x4), (5, .int x5), (8, .int x8)]) (h : m_TS_replace_93 g k47 S x1 x2 x3 x4 x5 x8 = some (S', r)) : W p l e (rmK 5 117 (kap S' - kap S0)) s m args below meth c H locs (kap S - kap S0) (2 * (kap S - kap S0)) (MQ below (QiM D T ρ0 A S' r) args s (kap S' - kap S0) (2 * (kap S' - kap S0)) A) (F0 m 93 ls []) := by
  have hT := km_TS_replace_93 km47 h
  unfold m_TS_replace_93 at h
  have nn : nq S S := nq_rf
  refine lv_iconst (v := 1) C.1 C.2.1 dX9_replace_93 (by decide) ?_
  refine lv_istore (lv' := [(6, .int (1 : Int32)), (0, .ref (ρ 7)), (1, .int x1), (2, .int x2), (3, .int x3), (4, .int x4), (5, .int x5), (8, .int x8)]) C.1 C.2.1 dX9_replace_94 hl (by decide) rfl (fun ls hl => ?_)
  refine lv_iload C.1 C.2.1 dX9_replace_96 (lv_at hl 7 rfl) ?_
  refine lv_iload C.1 C.2.1 dX9_replace_98 (lv_at hl 5 rfl) ?_
  refine lv_iadd C.1 C.2.1 dX9_replace_100 ?_
  obtain ⟨x7_7, ex7_7, h⟩ := lt_e h
  refine x_nm ex7_7 ?_
  refine lv_istore (lv' := [(7, .int x7_7), (6, .int (1 : Int32)), (0, .ref (ρ 7)), (1, .int x1), (2, .int x2), (3, .int x3), (4, .int x4), (5, .int x5), (8, .int x8)]) C.1 C.2.1 dX9_replace_101 hl (by decide) rfl (fun ls hl => ?_)
  have hkn := nq_kap nn
  refine W.widen (k := kap S - kap S0) (n := 2 * (kap S - kap S0)) (by omega) (by omega) ?_
  exact w_TS_replace_103 C hr hk kk47 km47 ha (by omega) w (lv_sub hl [2, 3, 4, 5, 6, 7, 1, 0, 8] rfl) h
set_option maxRecDepth 100000 in
set_option maxHeartbeats 4000000 in
theorem wb_TS_replace_47 {g : Nat} {S : St} {x1 : Int32} {x2 : Int32} {x3 : Int32} {x4 : Int32} {x5 : Int32} {x6 : Int32} {x7 : Int32} {x8 : Int32} (C : CallFix p m c cX9_replace 9 s args tb RX9) (hr : meth.sig.returnType = (some .int)) (hk : meth.locks = false) {S' : St} {r : Int32} {k47 : St → Int32 → Int32 → Int32 → Int32 → Int32 → Int32 → Int32 → Int32 → Option (St × Int32)} (kk47 : ∀ (ρ : Nat → Nat) (S : St) (x1 : Int32) (x2 : Int32) (x3 : Int32) (x4 : Int32) (x5 : Int32) (x6 : Int32) (x7 : Int32) (x8 : Int32) (H : Heap) (locs : List Loc) (ls : Array Slot), Ag ρ0 ρ → kap S0 ≤ kap S → Wn Yc D T ρ S A s H locs → lv_has ls 9 [(0, .ref (ρ 7)), (1, .int x1), (2, .int x2), (3, .int x3), (4, .int x4), (5, .int x5), (6, .int x6), (7, .int x7), (8, .int x8)] → k47 S x1 x2 x3 x4 x5 x6 x7 x8 = some (S', r) → W p l e (rmK 5 117 (kap S' - kap S0)) s m args below meth c H locs (kap S - kap S0) (2 * (kap S - kap S0)) (MQ below (QiM D T ρ0 A S' r) args s (kap S' - kap S0) (2 * (kap S' - kap S0)) A) (F0 m 47 ls [])) (km47 : ∀ (S : St) (x1 : Int32) (x2 : Int32) (x3 : Int32) (x4 : Int32) (x5 : Int32) (x6 : Int32) (x7 : Int32) (x8 : Int32), k47 S x1 x2 x3 x4 x5 x6 x7 x8 = some (S', r) → kap S ≤ kap S') (ha : Ag ρ0 ρ) (hm : kap S0 ≤ kap S) (w : Wn Yc D T ρ S A s H locs) (hl : lv_has ls 9 [(0, .ref (ρ 7)), (1, .int x1), (2, .int x2), (3, .int x3), (4, .int x4), (5, .int x5), (6, .int x6), (7, .int x7), (8, .int x8)]) (h : b_TS_replace_47 g k47 S x1 x2 x3 x4 x5 x6 x7 x8 = some (S', r)) : W p l e (rmK 5 117 (kap S' - kap S0)) s m args below meth c H locs (kap S - kap S0) (2 * (kap S - kap S0)) (MQ below (QiM D T ρ0 A S' r) args s (kap S' - kap S0) (2 * (kap S' - kap S0)) A) (F0 m 47 ls []) := by
  have hT := kmb_TS_replace_47 km47 h
  unfold b_TS_replace_47 at h
  have nn : nq S S := nq_rf
  refine lv_iload C.1 C.2.1 dX9_replace_47 (lv_at hl 8 rfl) ?_
  refine lv_iload C.1 C.2.1 dX9_replace_49 (lv_at hl 5 rfl) ?_
  refine lv_icmp_gt (tgt := 140) C.1 C.2.1 dX9_replace_51 (by decide) (fun hc => ?_) (fun hc => ?_)
  · replace h := ift hc h
    have hkn := nq_kap nn
    refine W.widen (k := kap S - kap S0) (n := 2 * (kap S - kap S0)) (by omega) (by omega) ?_
    exact w_TS_replace_140 C hr hk ha (by omega) w (lv_sub hl [0, 1, 6] rfl) h
  · replace h := iff0 hc h
    refine lv_aload_n C.1 C.2.1 dX9_replace_54 rfl (lv_at hl 0 rfl) ?_
    refine x_getC C w 23 fX9_37 obC7 rfl dX9_replace_55 ?_
    refine x_getI C w fX9_139 obC23 dX9_replace_58 ?_
    refine lv_if_ne (tgt := 140) C.1 C.2.1 dX9_replace_61 (by decide) (fun hc => ?_) (fun hc => ?_)
    · replace h := iff0 hc h
      have hkn := nq_kap nn
      refine W.widen (k := kap S - kap S0) (n := 2 * (kap S - kap S0)) (by omega) (by omega) ?_
      exact w_TS_replace_140 C hr hk ha (by omega) w (lv_sub hl [0, 1, 6] rfl) h
    · replace h := ift hc h
      refine lv_iload C.1 C.2.1 dX9_replace_64 (lv_at hl 8 rfl) ?_
      refine lv_iload C.1 C.2.1 dX9_replace_66 (lv_at hl 7 rfl) ?_
      refine lv_icmp_lt (tgt := 103) C.1 C.2.1 dX9_replace_68 (by decide) (fun hc => ?_) (fun hc => ?_)
      · replace h := ift hc h
        have hkn := nq_kap nn
        refine W.widen (k := kap S - kap S0) (n := 2 * (kap S - kap S0)) (by omega) (by omega) ?_
        exact w_TS_replace_103 C hr hk kk47 km47 ha (by omega) w (lv_sub hl [0, 1, 2, 3, 4, 5, 6, 7, 8] rfl) h
      · replace h := iff0 hc h
        refine lv_aload_n C.1 C.2.1 dX9_replace_71 rfl (lv_at hl 0 rfl) ?_
        refine x_getC C w 5 fX9_33 obC7 rfl dX9_replace_72 ?_
        refine lv_iload_n C.1 C.2.1 dX9_replace_75 rfl (lv_at hl 2 rfl) ?_
        refine lv_iload C.1 C.2.1 dX9_replace_76 (lv_at hl 8 rfl) ?_
        refine lv_iload_n C.1 C.2.1 dX9_replace_78 rfl (lv_at hl 1 rfl) ?_
        obtain ⟨v_5, hv_5, h⟩ := bnd h
        refine x_callVi (q := (RX10, TX10, 5)) (As := [.int x2, .int x8, .int x1]) (rest := []) C w (k_Tx_stands l D T ρ g H.size S hv_5) vX9_201 (hRK (by decide) (by decide)) obC5 (by decide) rfl rfl rfl hl.1 (Nat.le_of_ble_eq_true rfl) (hcK hT) dX9_replace_79 (fun H locs w => ?_)
        refine lv_if_eq (tgt := 103) C.1 C.2.1 dX9_replace_82 (by decide) (fun hc => ?_) (fun hc => ?_)
        · replace h := ift hc h
          have hkn := nq_kap nn
          refine W.widen (k := kap S - kap S0) (n := 2 * (kap S - kap S0)) (by omega) (by omega) ?_
          exact w_TS_replace_103 C hr hk kk47 km47 ha (by omega) w (lv_sub hl [0, 1, 2, 3, 4, 5, 6, 7, 8] rfl) h
        · replace h := iff0 hc h
          refine lv_aload_n C.1 C.2.1 dX9_replace_85 rfl (lv_at hl 0 rfl) ?_
          refine x_getC C w 4 fX9_23 obC7 rfl dX9_replace_86 ?_
          refine lv_iload_n C.1 C.2.1 dX9_replace_89 rfl (lv_at hl 3 rfl) ?_
          obtain ⟨S_6, hS_6, h⟩ := bnd h
          have hkn := nq_kap nn
          have hk1 := km_Bn_addText hS_6
          have hT2 := km_TS_replace_93 km47 h
          refine x_callVvM (q := (RX1, TX1, 12)) (As := [.int x3]) (rest := []) C w (k_Bn_addText l D T ρ g H.size S hS_6) vX9_64 (hRK (by decide) (by decide)) obC4 (by decide) rfl rfl rfl hl.1 (Nat.le_of_ble_eq_true rfl) (hcM hm hkn hk1 hT2) dX9_replace_90 (fun ρ1 H locs hag w => ?_)
          replace ha := ha.trans hag
          rw [← hag 7 (by decide)] at hl
          refine W.widen (k := kap S_6 - kap S0) (n := 2 * (kap S_6 - kap S0)) (by omega) (by omega) ?_
          exact w_TS_replace_93 C hr hk kk47 km47 ha (by omega) w (lv_sub hl [0, 1, 2, 3, 4, 5, 8] rfl) h
theorem w_TS_replace_47 {g : Nat} (C : CallFix p m c cX9_replace 9 s args tb RX9) (hr : meth.sig.returnType = (some .int)) (hk : meth.locks = false) {S' : St} {r : Int32} (n : Nat) : ∀ (ρ : Nat → Nat) (S : St) (x1 : Int32) (x2 : Int32) (x3 : Int32) (x4 : Int32) (x5 : Int32) (x6 : Int32) (x7 : Int32) (x8 : Int32) (H : Heap) (locs : List Loc) (ls : Array Slot), Ag ρ0 ρ → kap S0 ≤ kap S → Wn Yc D T ρ S A s H locs → lv_has ls 9 [(0, .ref (ρ 7)), (1, .int x1), (2, .int x2), (3, .int x3), (4, .int x4), (5, .int x5), (6, .int x6), (7, .int x7), (8, .int x8)] → m_TS_replace_47 g n S x1 x2 x3 x4 x5 x6 x7 x8 = some (S', r) → W p l e (rmK 5 117 (kap S' - kap S0)) s m args below meth c H locs (kap S - kap S0) (2 * (kap S - kap S0)) (MQ below (QiM D T ρ0 A S' r) args s (kap S' - kap S0) (2 * (kap S' - kap S0)) A) (F0 m 47 ls []) := by
  induction n with
  | zero => intro ρ S x1 x2 x3 x4 x5 x6 x7 x8 H locs ls ha hm w hl h; exact absurd h (fun q => by cases q)
  | succ n ih => intro ρ S x1 x2 x3 x4 x5 x6 x7 x8 H locs ls ha hm w hl h; exact wb_TS_replace_47 C hr hk ih (km_TS_replace_47 n) ha hm w hl h
set_option maxRecDepth 100000 in
set_option maxHeartbeats 4000000 in
theorem w_TS_replace_0 {g : Nat} {S : St} {x1 : Int32} (C : CallFix p m c cX9_replace 9 s args tb RX9) (hr : meth.sig.returnType = (some .int)) (hk : meth.locks = false) {S' : St} {r : Int32} (ha : Ag ρ0 ρ) (hm : kap S0 ≤ kap S) (w : Wn Yc D T ρ S A s H locs) (hl : lv_has ls 9 [(0, .ref (ρ 7)), (1, .int x1)]) (h : m_TS_replace g S x1 = some (S', r)) : W p l e (rmK 5 117 (kap S' - kap S0)) s m args below meth c H locs (kap S - kap S0) (2 * (kap S - kap S0)) (MQ below (QiM D T ρ0 A S' r) args s (kap S' - kap S0) (2 * (kap S' - kap S0)) A) (F0 m 0 ls []) := by
  have hT := km_TS_replace h
  unfold m_TS_replace at h
  have nn : nq S S := nq_rf
  refine lv_aload_n C.1 C.2.1 dX9_replace_0 rfl (lv_at hl 0 rfl) ?_
  refine x_getC C w 4 fX9_23 obC7 rfl dX9_replace_1 ?_
  refine lv_iconst (v := 2) C.1 C.2.1 dX9_replace_4 (by decide) ?_
  obtain ⟨v_1, hv_1, h⟩ := bnd h
  refine x_callVi (q := (RX1, TX1, 12)) (As := [.int (2 : Int32)]) (rest := []) C w (k_Bn_textAt l D T ρ g H.size S hv_1) vX9_42 (hRK (by decide) (by decide)) obC4 (by decide) rfl rfl rfl hl.1 (Nat.le_of_ble_eq_true rfl) (hcK hT) dX9_replace_5 (fun H locs w => ?_)
  refine lv_istore_n (lv' := [(2, .int v_1), (0, .ref (ρ 7)), (1, .int x1)]) C.1 C.2.1 dX9_replace_8 rfl hl (by decide) rfl (fun ls hl => ?_)
  refine lv_aload_n C.1 C.2.1 dX9_replace_9 rfl (lv_at hl 1 rfl) ?_
  refine x_getC C w 4 fX9_23 obC7 rfl dX9_replace_10 ?_
  refine lv_iconst (v := 3) C.1 C.2.1 dX9_replace_13 (by decide) ?_
  obtain ⟨v_2, hv_2, h⟩ := bnd h
  refine x_callVi (q := (RX1, TX1, 12)) (As := [.int (3 : Int32)]) (rest := []) C w (k_Bn_textAt l D T ρ g H.size S hv_2) vX9_42 (hRK (by decide) (by decide)) obC4 (by decide) rfl rfl rfl hl.1 (Nat.le_of_ble_eq_true rfl) (hcK hT) dX9_replace_14 (fun H locs w => ?_)
  refine lv_istore_n (lv' := [(3, .int v_2), (2, .int v_1), (0, .ref (ρ 7)), (1, .int x1)]) C.1 C.2.1 dX9_replace_17 rfl hl (by decide) rfl (fun ls hl => ?_)
  refine lv_aload_n C.1 C.2.1 dX9_replace_18 rfl (lv_at hl 2 rfl) ?_
  refine x_getC C w 5 fX9_33 obC7 rfl dX9_replace_19 ?_
  refine lv_iload_n C.1 C.2.1 dX9_replace_22 rfl (lv_at hl 1 rfl) ?_
  obtain ⟨v_3, hv_3, h⟩ := bnd h
  refine x_callVi (q := (RX10, TX10, 5)) (As := [.int v_1]) (rest := []) C w (k_Tx_sizeOf l D T ρ g H.size S hv_3) vX9_171 (hRK (by decide) (by decide)) obC5 (by decide) rfl rfl rfl hl.1 (Nat.le_of_ble_eq_true rfl) (hcK hT) dX9_replace_23 (fun H locs w => ?_)
  refine lv_istore (lv' := [(4, .int v_3), (3, .int v_2), (2, .int v_1), (0, .ref (ρ 7)), (1, .int x1)]) C.1 C.2.1 dX9_replace_26 hl (by decide) rfl (fun ls hl => ?_)
  refine lv_aload_n C.1 C.2.1 dX9_replace_28 rfl (lv_at hl 3 rfl) ?_
  refine x_getC C w 5 fX9_33 obC7 rfl dX9_replace_29 ?_
  refine lv_iload_n C.1 C.2.1 dX9_replace_32 rfl (lv_at hl 4 rfl) ?_
  obtain ⟨v_4, hv_4, h⟩ := bnd h
  refine x_callVi (q := (RX10, TX10, 5)) (As := [.int x1]) (rest := []) C w (k_Tx_sizeOf l D T ρ g H.size S hv_4) vX9_171 (hRK (by decide) (by decide)) obC5 (by decide) rfl rfl rfl hl.1 (Nat.le_of_ble_eq_true rfl) (hcK hT) dX9_replace_33 (fun H locs w => ?_)
  refine lv_istore (lv' := [(5, .int v_4), (4, .int v_3), (3, .int v_2), (2, .int v_1), (0, .ref (ρ 7)), (1, .int x1)]) C.1 C.2.1 dX9_replace_36 hl (by decide) rfl (fun ls hl => ?_)
  refine lv_iconst (v := 0) C.1 C.2.1 dX9_replace_38 (by decide) ?_
  refine lv_istore (lv' := [(6, .int (0 : Int32)), (5, .int v_4), (4, .int v_3), (3, .int v_2), (2, .int v_1), (0, .ref (ρ 7)), (1, .int x1)]) C.1 C.2.1 dX9_replace_39 hl (by decide) rfl (fun ls hl => ?_)
  refine lv_iconst (v := 0) C.1 C.2.1 dX9_replace_41 (by decide) ?_
  refine lv_istore (lv' := [(7, .int (0 : Int32)), (6, .int (0 : Int32)), (5, .int v_4), (4, .int v_3), (3, .int v_2), (2, .int v_1), (0, .ref (ρ 7)), (1, .int x1)]) C.1 C.2.1 dX9_replace_42 hl (by decide) rfl (fun ls hl => ?_)
  refine lv_iconst (v := 0) C.1 C.2.1 dX9_replace_44 (by decide) ?_
  refine lv_istore (lv' := [(8, .int (0 : Int32)), (7, .int (0 : Int32)), (6, .int (0 : Int32)), (5, .int v_4), (4, .int v_3), (3, .int v_2), (2, .int v_1), (0, .ref (ρ 7)), (1, .int x1)]) C.1 C.2.1 dX9_replace_45 hl (by decide) rfl (fun ls hl => ?_)
  have hkn := nq_kap nn
  refine W.widen (k := kap S - kap S0) (n := 2 * (kap S - kap S0)) (by omega) (by omega) ?_
  exact w_TS_replace_47 C hr hk g _ _ _ _ _ _ _ _ _ _ _ _ _ ha (by omega) w (lv_sub hl [7, 8, 6, 5, 4, 3, 2, 1, 0] rfl) h
end S_TS_replace
set_option maxRecDepth 100000 in
theorem k_TS_replace (l : Launch) (D : va_G) (T : Cy) (ρ : Nat → Nat) (g sz : Nat) (S : St) {x1 : Int32} {S' : St} {r : Int32} (h : m_TS_replace g S x1 = some (S', r)) : MiM l D T ρ yX9_replace cX9_replace 9 (some .int) 5 117 S S' r [.ref (ρ 7), .int x1] sz :=
  x_inR (by decide) (Nat.le_of_ble_eq_true rfl) (fun p e s m below meth c ls C hr hk w hl => W.widen (Nat.zero_le _) (Nat.zero_le _) (w_TS_replace_0 C hr hk Ag.rf (Nat.le_refl _) w hl h))

theorem dX9_changeCase_0 : decode cX9_changeCase 0 = .ok (.iconst 0, 1) := by decide +kernel
theorem dX9_changeCase_1 : decode cX9_changeCase 1 = .ok (.istore_n 3, 1) := by decide +kernel
theorem dX9_changeCase_2 : decode cX9_changeCase 2 = .ok (.aload_n 0, 1) := by decide +kernel
theorem dX9_changeCase_3 : decode cX9_changeCase 3 = .ok (.getfield 33, 3) := by decide +kernel
theorem dX9_changeCase_6 : decode cX9_changeCase 6 = .ok (.iload_n 1, 1) := by decide +kernel
theorem dX9_changeCase_7 : decode cX9_changeCase 7 = .ok (.invokevirtual 149, 3) := by decide +kernel
theorem dX9_changeCase_10 : decode cX9_changeCase 10 = .ok (.istore 4, 2) := by decide +kernel
theorem dX9_changeCase_12 : decode cX9_changeCase 12 = .ok (.aload_n 0, 1) := by decide +kernel
theorem dX9_changeCase_13 : decode cX9_changeCase 13 = .ok (.getfield 33, 3) := by decide +kernel
theorem dX9_changeCase_16 : decode cX9_changeCase 16 = .ok (.iload_n 1, 1) := by decide +kernel
theorem dX9_changeCase_17 : decode cX9_changeCase 17 = .ok (.invokevirtual 146, 3) := by decide +kernel
theorem dX9_changeCase_20 : decode cX9_changeCase 20 = .ok (.istore 5, 2) := by decide +kernel
theorem dX9_changeCase_22 : decode cX9_changeCase 22 = .ok (.iload 5, 2) := by decide +kernel
theorem dX9_changeCase_24 : decode cX9_changeCase 24 = .ok (.iload 4, 2) := by decide +kernel
theorem dX9_changeCase_26 : decode cX9_changeCase 26 = .ok (.if_icmp .ge 102, 3) := by decide +kernel
theorem dX9_changeCase_29 : decode cX9_changeCase 29 = .ok (.aload_n 0, 1) := by decide +kernel
theorem dX9_changeCase_30 : decode cX9_changeCase 30 = .ok (.getfield 33, 3) := by decide +kernel
theorem dX9_changeCase_33 : decode cX9_changeCase 33 = .ok (.getfield 143, 3) := by decide +kernel
theorem dX9_changeCase_36 : decode cX9_changeCase 36 = .ok (.iload 5, 2) := by decide +kernel
theorem dX9_changeCase_38 : decode cX9_changeCase 38 = .ok (.invokevirtual 182, 3) := by decide +kernel
theorem dX9_changeCase_41 : decode cX9_changeCase 41 = .ok (.istore 6, 2) := by decide +kernel
theorem dX9_changeCase_43 : decode cX9_changeCase 43 = .ok (.iload_n 2, 1) := by decide +kernel
theorem dX9_changeCase_44 : decode cX9_changeCase 44 = .ok (.ifCond .eq 11, 3) := by decide +kernel
theorem dX9_changeCase_47 : decode cX9_changeCase 47 = .ok (.iload 6, 2) := by decide +kernel
theorem dX9_changeCase_49 : decode cX9_changeCase 49 = .ok (.invokestatic 208, 3) := by decide +kernel
theorem dX9_changeCase_52 : decode cX9_changeCase 52 = .ok (.goto 8, 3) := by decide +kernel
theorem dX9_changeCase_55 : decode cX9_changeCase 55 = .ok (.iload 6, 2) := by decide +kernel
theorem dX9_changeCase_57 : decode cX9_changeCase 57 = .ok (.invokestatic 211, 3) := by decide +kernel
theorem dX9_changeCase_60 : decode cX9_changeCase 60 = .ok (.istore 7, 2) := by decide +kernel
theorem dX9_changeCase_62 : decode cX9_changeCase 62 = .ok (.iload_n 2, 1) := by decide +kernel
theorem dX9_changeCase_63 : decode cX9_changeCase 63 = .ok (.ifCond .eq 11, 3) := by decide +kernel
theorem dX9_changeCase_66 : decode cX9_changeCase 66 = .ok (.iload 6, 2) := by decide +kernel
theorem dX9_changeCase_68 : decode cX9_changeCase 68 = .ok (.invokestatic 214, 3) := by decide +kernel
theorem dX9_changeCase_71 : decode cX9_changeCase 71 = .ok (.goto 8, 3) := by decide +kernel
theorem dX9_changeCase_74 : decode cX9_changeCase 74 = .ok (.iload 6, 2) := by decide +kernel
theorem dX9_changeCase_76 : decode cX9_changeCase 76 = .ok (.invokestatic 217, 3) := by decide +kernel
theorem dX9_changeCase_79 : decode cX9_changeCase 79 = .ok (.istore 8, 2) := by decide +kernel
theorem dX9_changeCase_81 : decode cX9_changeCase 81 = .ok (.aload_n 0, 1) := by decide +kernel
theorem dX9_changeCase_82 : decode cX9_changeCase 82 = .ok (.getfield 37, 3) := by decide +kernel
theorem dX9_changeCase_85 : decode cX9_changeCase 85 = .ok (.iload 7, 2) := by decide +kernel
theorem dX9_changeCase_87 : decode cX9_changeCase 87 = .ok (.invokevirtual 159, 3) := by decide +kernel
theorem dX9_changeCase_90 : decode cX9_changeCase 90 = .ok (.iload 8, 2) := by decide +kernel
theorem dX9_changeCase_92 : decode cX9_changeCase 92 = .ok (.iconst (-1), 1) := by decide +kernel
theorem dX9_changeCase_93 : decode cX9_changeCase 93 = .ok (.if_icmp .eq 12, 3) := by decide +kernel
theorem dX9_changeCase_96 : decode cX9_changeCase 96 = .ok (.aload_n 0, 1) := by decide +kernel
theorem dX9_changeCase_97 : decode cX9_changeCase 97 = .ok (.getfield 37, 3) := by decide +kernel
theorem dX9_changeCase_100 : decode cX9_changeCase 100 = .ok (.iload 8, 2) := by decide +kernel
theorem dX9_changeCase_102 : decode cX9_changeCase 102 = .ok (.invokevirtual 159, 3) := by decide +kernel
theorem dX9_changeCase_105 : decode cX9_changeCase 105 = .ok (.iload_n 3, 1) := by decide +kernel
theorem dX9_changeCase_106 : decode cX9_changeCase 106 = .ok (.ifCond .ne 10, 3) := by decide +kernel
theorem dX9_changeCase_109 : decode cX9_changeCase 109 = .ok (.iload 7, 2) := by decide +kernel
theorem dX9_changeCase_111 : decode cX9_changeCase 111 = .ok (.iload 6, 2) := by decide +kernel
theorem dX9_changeCase_113 : decode cX9_changeCase 113 = .ok (.if_icmp .eq 7, 3) := by decide +kernel
theorem dX9_changeCase_116 : decode cX9_changeCase 116 = .ok (.iconst 1, 1) := by decide +kernel
theorem dX9_changeCase_117 : decode cX9_changeCase 117 = .ok (.goto 4, 3) := by decide +kernel
theorem dX9_changeCase_120 : decode cX9_changeCase 120 = .ok (.iconst 0, 1) := by decide +kernel
theorem dX9_changeCase_121 : decode cX9_changeCase 121 = .ok (.istore_n 3, 1) := by decide +kernel
theorem dX9_changeCase_122 : decode cX9_changeCase 122 = .ok (.iinc 5 1, 3) := by decide +kernel
theorem dX9_changeCase_125 : decode cX9_changeCase 125 = .ok (.goto (-103), 3) := by decide +kernel
theorem dX9_changeCase_128 : decode cX9_changeCase 128 = .ok (.aload_n 0, 1) := by decide +kernel
theorem dX9_changeCase_129 : decode cX9_changeCase 129 = .ok (.iload_n 1, 1) := by decide +kernel
theorem dX9_changeCase_130 : decode cX9_changeCase 130 = .ok (.iload_n 3, 1) := by decide +kernel
theorem dX9_changeCase_131 : decode cX9_changeCase 131 = .ok (.invokevirtual 113, 3) := by decide +kernel
theorem dX9_changeCase_134 : decode cX9_changeCase 134 = .ok (.ireturn, 1) := by decide +kernel
def m_TS_changeCase_134 (g : Nat) (S : St) (y0 : Int32) : Option (St × Int32) :=
some (S, y0)
def m_TS_changeCase_105 (g : Nat) (k22 : St → Int32 → Int32 → Int32 → Int32 → Int32 → Option (St × Int32)) (S : St) (x1 : Int32) (x2 : Int32) (x3 : Int32) (x4 : Int32) (x5 : Int32) (x6 : Int32) (x7 : Int32) : Option (St × Int32) :=
if x3 = 0 then (
  if x7 = x6 then (
    lt (x5 + (1 : Int32)) fun x5_10 =>
    k22 S x1 x2 (0 : Int32) x4 x5_10
  ) else (
    lt (x5 + (1 : Int32)) fun x5_11 =>
    k22 S x1 x2 (1 : Int32) x4 x5_11
  )
) else (
  lt (x5 + (1 : Int32)) fun x5_9 =>
  k22 S x1 x2 (1 : Int32) x4 x5_9
)
def m_TS_changeCase_90 (g : Nat) (k22 : St → Int32 → Int32 → Int32 → Int32 → Int32 → Option (St × Int32)) (S : St) (x1 : Int32) (x2 : Int32) (x3 : Int32) (x4 : Int32) (x5 : Int32) (x6 : Int32) (x7 : Int32) (x8 : Int32) : Option (St × Int32) :=
if x8 = (-1 : Int32) then (
  m_TS_changeCase_105 g k22 S x1 x2 x3 x4 x5 x6 x7
) else (
  (m_Row_add g S 23 x8).bind fun S_9 =>
  m_TS_changeCase_105 g k22 S_9 x1 x2 x3 x4 x5 x6 x7
)
def m_TS_changeCase_79 (g : Nat) (k22 : St → Int32 → Int32 → Int32 → Int32 → Int32 → Option (St × Int32)) (S : St) (x1 : Int32) (x2 : Int32) (x3 : Int32) (x4 : Int32) (x5 : Int32) (x6 : Int32) (x7 : Int32) (y0 : Int32) : Option (St × Int32) :=
(m_Row_add g S 23 x7).bind fun S_8 =>
m_TS_changeCase_90 g k22 S_8 x1 x2 x3 x4 x5 x6 x7 y0
def m_TS_changeCase_60 (g : Nat) (k22 : St → Int32 → Int32 → Int32 → Int32 → Int32 → Option (St × Int32)) (S : St) (x1 : Int32) (x2 : Int32) (x3 : Int32) (x4 : Int32) (x5 : Int32) (x6 : Int32) (y0 : Int32) : Option (St × Int32) :=
if x2 = 0 then (
  (m_Lt_lowerTail g x6).bind fun v_7 =>
  m_TS_changeCase_79 g k22 S x1 x2 x3 x4 x5 x6 y0 v_7
) else (
  (m_Lt_upperTail g x6).bind fun v_8 =>
  m_TS_changeCase_79 g k22 S x1 x2 x3 x4 x5 x6 y0 v_8
)
def b_TS_changeCase_22 (g : Nat) (k22 : St → Int32 → Int32 → Int32 → Int32 → Int32 → Option (St × Int32)) (S : St) (x1 : Int32) (x2 : Int32) (x3 : Int32) (x4 : Int32) (x5 : Int32) : Option (St × Int32) :=
if x4 ≤ x5 then (
  (m_TS_become g S x1 x3).bind fun (S_3, v_4) =>
  m_TS_changeCase_134 g S_3 v_4
) else (
  (m_Row_at g S 18 x5).bind fun v_5 =>
  if x2 = 0 then (
    (m_Lt_lower g v_5).bind fun v_6 =>
    m_TS_changeCase_60 g k22 S x1 x2 x3 x4 x5 v_5 v_6
  ) else (
    (m_Lt_upper g v_5).bind fun v_7 =>
    m_TS_changeCase_60 g k22 S x1 x2 x3 x4 x5 v_5 v_7
  )
)
def m_TS_changeCase_22 (g : Nat) : Nat → St → Int32 → Int32 → Int32 → Int32 → Int32 → Option (St × Int32)
  | 0, _, _, _, _, _, _ => none
  | n + 1, S, x1, x2, x3, x4, x5 => b_TS_changeCase_22 g (m_TS_changeCase_22 g n) S x1 x2 x3 x4 x5
def m_TS_changeCase (g : Nat) (S : St) (x1 : Int32) (x2 : Int32) : Option (St × Int32) :=
(m_Tx_endOf g S x1).bind fun v_1 =>
(m_Tx_startOf g S x1).bind fun v_2 =>
m_TS_changeCase_22 g g S x1 x2 (0 : Int32) v_1 v_2
theorem km_TS_changeCase_134 {g : Nat} {S : St} {y0 : Int32} {S' : St} {r : Int32} (h : m_TS_changeCase_134 g S y0 = some (S', r)) : kap S ≤ kap S' := by
  unfold m_TS_changeCase_134 at h
  have nn : nq S S := nq_rf
  obtain ⟨rfl, rfl⟩ := prI h
  have hkn := nq_kap nn
  omega
theorem km_TS_changeCase_105 {g : Nat} {S : St} {x1 : Int32} {x2 : Int32} {x3 : Int32} {x4 : Int32} {x5 : Int32} {x6 : Int32} {x7 : Int32} {S' : St} {r : Int32} {k22 : St → Int32 → Int32 → Int32 → Int32 → Int32 → Option (St × Int32)} (km22 : ∀ (S : St) (x1 : Int32) (x2 : Int32) (x3 : Int32) (x4 : Int32) (x5 : Int32), k22 S x1 x2 x3 x4 x5 = some (S', r) → kap S ≤ kap S') (h : m_TS_changeCase_105 g k22 S x1 x2 x3 x4 x5 x6 x7 = some (S', r)) : kap S ≤ kap S' := by
  unfold m_TS_changeCase_105 at h
  have nn : nq S S := nq_rf
  by_cases hc1 : x3 = 0
  · replace h := ift hc1 h
    by_cases hc2 : x7 = x6
    · replace h := ift hc2 h
      obtain ⟨x5_10, ex5_10, h⟩ := lt_e h
      have hkn := nq_kap nn
      have h2 := km22 _ _ _ _ _ _ h
      omega
    · replace h := iff0 hc2 h
      obtain ⟨x5_11, ex5_11, h⟩ := lt_e h
      have hkn := nq_kap nn
      have h2 := km22 _ _ _ _ _ _ h
      omega
  · replace h := iff0 hc1 h
    obtain ⟨x5_9, ex5_9, h⟩ := lt_e h
    have hkn := nq_kap nn
    have h2 := km22 _ _ _ _ _ _ h
    omega
theorem km_TS_changeCase_90 {g : Nat} {S : St} {x1 : Int32} {x2 : Int32} {x3 : Int32} {x4 : Int32} {x5 : Int32} {x6 : Int32} {x7 : Int32} {x8 : Int32} {S' : St} {r : Int32} {k22 : St → Int32 → Int32 → Int32 → Int32 → Int32 → Option (St × Int32)} (km22 : ∀ (S : St) (x1 : Int32) (x2 : Int32) (x3 : Int32) (x4 : Int32) (x5 : Int32), k22 S x1 x2 x3 x4 x5 = some (S', r) → kap S ≤ kap S') (h : m_TS_changeCase_90 g k22 S x1 x2 x3 x4 x5 x6 x7 x8 = some (S', r)) : kap S ≤ kap S' := by
  unfold m_TS_changeCase_90 at h
  have nn : nq S S := nq_rf
  by_cases hc1 : x8 = (-1 : Int32)
  · replace h := ift hc1 h
    have hkn := nq_kap nn
    have h2 := km_TS_changeCase_105 km22 h
    omega
  · replace h := iff0 hc1 h
    obtain ⟨S_9, hS_9, h⟩ := bnd h
    have hk1 := km_Row_add hS_9
    have hkn := nq_kap nn
    have h2 := km_TS_changeCase_105 km22 h
    omega
theorem km_TS_changeCase_79 {g : Nat} {S : St} {x1 : Int32} {x2 : Int32} {x3 : Int32} {x4 : Int32} {x5 : Int32} {x6 : Int32} {x7 : Int32} {y0 : Int32} {S' : St} {r : Int32} {k22 : St → Int32 → Int32 → Int32 → Int32 → Int32 → Option (St × Int32)} (km22 : ∀ (S : St) (x1 : Int32) (x2 : Int32) (x3 : Int32) (x4 : Int32) (x5 : Int32), k22 S x1 x2 x3 x4 x5 = some (S', r) → kap S ≤ kap S') (h : m_TS_changeCase_79 g k22 S x1 x2 x3 x4 x5 x6 x7 y0 = some (S', r)) : kap S ≤ kap S' := by
  unfold m_TS_changeCase_79 at h
  have nn : nq S S := nq_rf
  obtain ⟨S_8, hS_8, h⟩ := bnd h
  have hk1 := km_Row_add hS_8
  have hkn := nq_kap nn
  have h2 := km_TS_changeCase_90 km22 h
  omega
theorem km_TS_changeCase_60 {g : Nat} {S : St} {x1 : Int32} {x2 : Int32} {x3 : Int32} {x4 : Int32} {x5 : Int32} {x6 : Int32} {y0 : Int32} {S' : St} {r : Int32} {k22 : St → Int32 → Int32 → Int32 → Int32 → Int32 → Option (St × Int32)} (km22 : ∀ (S : St) (x1 : Int32) (x2 : Int32) (x3 : Int32) (x4 : Int32) (x5 : Int32), k22 S x1 x2 x3 x4 x5 = some (S', r) → kap S ≤ kap S') (h : m_TS_changeCase_60 g k22 S x1 x2 x3 x4 x5 x6 y0 = some (S', r)) : kap S ≤ kap S' := by
  unfold m_TS_changeCase_60 at h
  have nn : nq S S := nq_rf
  by_cases hc1 : x2 = 0
  · replace h := ift hc1 h
    obtain ⟨v_7, hv_7, h⟩ := bnd h
    have hkn := nq_kap nn
    have h2 := km_TS_changeCase_79 km22 h
    omega
  · replace h := iff0 hc1 h
    obtain ⟨v_8, hv_8, h⟩ := bnd h
    have hkn := nq_kap nn
    have h2 := km_TS_changeCase_79 km22 h
    omega
theorem kmb_TS_changeCase_22 {g : Nat} {S : St} {x1 : Int32} {x2 : Int32} {x3 : Int32} {x4 : Int32} {x5 : Int32} {S' : St} {r : Int32} {k22 : St → Int32 → Int32 → Int32 → Int32 → Int32 → Option (St × Int32)} (km22 : ∀ (S : St) (x1 : Int32) (x2 : Int32) (x3 : Int32) (x4 : Int32) (x5 : Int32), k22 S x1 x2 x3 x4 x5 = some (S', r) → kap S ≤ kap S') (h : b_TS_changeCase_22 g k22 S x1 x2 x3 x4 x5 = some (S', r)) : kap S ≤ kap S' := by
  unfold b_TS_changeCase_22 at h
  have nn : nq S S := nq_rf
  by_cases hc1 : x4 ≤ x5
  · replace h := ift hc1 h
    obtain ⟨⟨S_3, v_4⟩, hv_4, h⟩ := bnd h
    have hk1 := km_TS_become hv_4
    have hkn := nq_kap nn
    have h2 := km_TS_changeCase_134 h
    omega
  · replace h := iff0 hc1 h
    obtain ⟨v_5, hv_5, h⟩ := bnd h
    by_cases hc2 : x2 = 0
    · replace h := ift hc2 h
      obtain ⟨v_6, hv_6, h⟩ := bnd h
      have hkn := nq_kap nn
      have h2 := km_TS_changeCase_60 km22 h
      omega
    · replace h := iff0 hc2 h
      obtain ⟨v_7, hv_7, h⟩ := bnd h
      have hkn := nq_kap nn
      have h2 := km_TS_changeCase_60 km22 h
      omega
theorem km_TS_changeCase_22 {g : Nat} {S' : St} {r : Int32} (n : Nat) : ∀ (S : St) (x1 : Int32) (x2 : Int32) (x3 : Int32) (x4 : Int32) (x5 : Int32), m_TS_changeCase_22 g n S x1 x2 x3 x4 x5 = some (S', r) → kap S ≤ kap S' := by
  induction n with
  | zero => intro S x1 x2 x3 x4 x5 h; exact absurd h (fun q => by cases q)
  | succ n ih => intro S x1 x2 x3 x4 x5 h; exact kmb_TS_changeCase_22 ih h
theorem km_TS_changeCase {g : Nat} {S : St} {x1 : Int32} {x2 : Int32} {S' : St} {r : Int32} (h : m_TS_changeCase g S x1 x2 = some (S', r)) : kap S ≤ kap S' := by
  unfold m_TS_changeCase at h
  have nn : nq S S := nq_rf
  obtain ⟨v_1, hv_1, h⟩ := bnd h
  obtain ⟨v_2, hv_2, h⟩ := bnd h
  have hkn := nq_kap nn
  have h2 := km_TS_changeCase_22 g _ _ _ _ _ _ h
  omega
section S_TS_changeCase
variable {p : Program} {l : Launch} {e : Env} {s : State} {m : MethodId} {args : Array Value} {below : List Frame} {meth : Method} {c : Code} {H : Heap} {locs : List Loc} {ls : Array Slot} {D : va_G} {T : Cy} {ρ ρ0 : Nat → Nat} {S0 : St} {A : Nat → Prop}
set_option maxRecDepth 100000 in
set_option maxHeartbeats 4000000 in
theorem w_TS_changeCase_134 {g : Nat} {S : St} {y0 : Int32} (C : CallFix p m c cX9_changeCase 9 s args tb RX9) (hr : meth.sig.returnType = (some .int)) (hk : meth.locks = false) {S' : St} {r : Int32} (ha : Ag ρ0 ρ) (hm : kap S0 ≤ kap S) (w : Wn Yc D T ρ S A s H locs) (hl : lv_has ls 9 []) (h : m_TS_changeCase_134 g S y0 = some (S', r)) : W p l e (rmK 5 117 (kap S' - kap S0)) s m args below meth c H locs (kap S - kap S0) (2 * (kap S - kap S0)) (MQ below (QiM D T ρ0 A S' r) args s (kap S' - kap S0) (2 * (kap S' - kap S0)) A) (F0 m 134 ls [.int y0]) := by
  have hT := km_TS_changeCase_134 h
  unfold m_TS_changeCase_134 at h
  have nn : nq S S := nq_rf
  obtain ⟨rfl, rfl⟩ := prI h
  exact x_iretM C w ha hr hk dX9_changeCase_134 (by have := nq_kap nn; omega) (by have := nq_kap nn; omega)
set_option maxRecDepth 100000 in
set_option maxHeartbeats 4000000 in
theorem w_TS_changeCase_105 {g : Nat} {S : St} {x1 : Int32} {x2 : Int32} {x3 : Int32} {x4 : Int32} {x5 : Int32} {x6 : Int32} {x7 : Int32} (C : CallFix p m c cX9_changeCase 9 s args tb RX9) (hr : meth.sig.returnType = (some .int)) (hk : meth.locks = false) {S' : St} {r : Int32} {k22 : St → Int32 → Int32 → Int32 → Int32 → Int32 → Option (St × Int32)} (kk22 : ∀ (ρ : Nat → Nat) (S : St) (x1 : Int32) (x2 : Int32) (x3 : Int32) (x4 : Int32) (x5 : Int32) (H : Heap) (locs : List Loc) (ls : Array Slot), Ag ρ0 ρ → kap S0 ≤ kap S → Wn Yc D T ρ S A s H locs → lv_has ls 9 [(0, .ref (ρ 7)), (1, .int x1), (2, .int x2), (3, .int x3), (4, .int x4), (5, .int x5)] → k22 S x1 x2 x3 x4 x5 = some (S', r) → W p l e (rmK 5 117 (kap S' - kap S0)) s m args below meth c H locs (kap S - kap S0) (2 * (kap S - kap S0)) (MQ below (QiM D T ρ0 A S' r) args s (kap S' - kap S0) (2 * (kap S' - kap S0)) A) (F0 m 22 ls [])) (km22 : ∀ (S : St) (x1 : Int32) (x2 : Int32) (x3 : Int32) (x4 : Int32) (x5 : Int32), k22 S x1 x2 x3 x4 x5 = some (S', r) → kap S ≤ kap S') (ha : Ag ρ0 ρ) (hm : kap S0 ≤ kap S) (w : Wn Yc D T ρ S A s H locs) (hl : lv_has ls 9 [(0, .ref (ρ 7)), (1, .int x1), (2, .int x2), (3, .int x3), (4, .int x4), (5, .int x5), (6, .int x6), (7, .int x7)]) (h : m_TS_changeCase_105 g k22 S x1 x2 x3 x4 x5 x6 x7 = some (S', r)) : W p l e (rmK 5 117 (kap S' - kap S0)) s m args below meth c H locs (kap S - kap S0) (2 * (kap S - kap S0)) (MQ below (QiM D T ρ0 A S' r) args s (kap S' - kap S0) (2 * (kap S' - kap S0)) A) (F0 m 105 ls []) := by
  have hT := km_TS_changeCase_105 km22 h
  unfold m_TS_changeCase_105 at h
  have nn : nq S S := nq_rf
  refine lv_iload_n C.1 C.2.1 dX9_changeCase_105 rfl (lv_at hl 3 rfl) ?_
  refine lv_if_ne (tgt := 116) C.1 C.2.1 dX9_changeCase_106 (by decide) (fun hc => ?_) (fun hc => ?_)
  · replace h := iff0 hc h
    refine lv_iconst (v := 1) C.1 C.2.1 dX9_changeCase_116 (by decide) ?_
    refine lv_goto (tgt := 121) C.1 C.2.1 dX9_changeCase_117 (by decide) ?_
    refine lv_istore_n (lv' := [(3, .int (1 : Int32)), (0, .ref (ρ 7)), (1, .int x1), (2, .int x2), (4, .int x4), (5, .int x5), (6, .int x6), (7, .int x7)]) C.1 C.2.1 dX9_changeCase_121 rfl hl (by decide) rfl (fun ls hl => ?_)
    obtain ⟨x5_9, ex5_9, h⟩ := lt_e h
    refine lv_iinc (v := x5_9) (lv' := [(5, .int x5_9), (3, .int (1 : Int32)), (0, .ref (ρ 7)), (1, .int x1), (2, .int x2), (4, .int x4), (6, .int x6), (7, .int x7)]) C.1 C.2.1 dX9_changeCase_122 hl (k := 5) rfl (by rw [ex5_9]; rfl) (by decide) rfl (fun ls hl => ?_)
    refine lv_goto (tgt := 22) C.1 C.2.1 dX9_changeCase_125 (by decide) ?_
    have hkn := nq_kap nn
    refine W.widen (k := kap S - kap S0) (n := 2 * (kap S - kap S0)) (by omega) (by omega) ?_
    exact kk22 _ _ _ _ _ _ _ _ _ _ ha (by omega) w (lv_sub hl [2, 3, 4, 1, 5, 0] rfl) h
  · replace h := ift hc h
    refine lv_iload C.1 C.2.1 dX9_changeCase_109 (lv_at hl 7 rfl) ?_
    refine lv_iload C.1 C.2.1 dX9_changeCase_111 (lv_at hl 6 rfl) ?_
    refine lv_icmp_eq (tgt := 120) C.1 C.2.1 dX9_changeCase_113 (by decide) (fun hc => ?_) (fun hc => ?_)
    · replace h := ift hc h
      refine lv_iconst (v := 0) C.1 C.2.1 dX9_changeCase_120 (by decide) ?_
      refine lv_istore_n (lv' := [(3, .int (0 : Int32)), (0, .ref (ρ 7)), (1, .int x1), (2, .int x2), (4, .int x4), (5, .int x5), (6, .int x6), (7, .int x7)]) C.1 C.2.1 dX9_changeCase_121 rfl hl (by decide) rfl (fun ls hl => ?_)
      obtain ⟨x5_10, ex5_10, h⟩ := lt_e h
      refine lv_iinc (v := x5_10) (lv' := [(5, .int x5_10), (3, .int (0 : Int32)), (0, .ref (ρ 7)), (1, .int x1), (2, .int x2), (4, .int x4), (6, .int x6), (7, .int x7)]) C.1 C.2.1 dX9_changeCase_122 hl (k := 5) rfl (by rw [ex5_10]; rfl) (by decide) rfl (fun ls hl => ?_)
      refine lv_goto (tgt := 22) C.1 C.2.1 dX9_changeCase_125 (by decide) ?_
      have hkn := nq_kap nn
      refine W.widen (k := kap S - kap S0) (n := 2 * (kap S - kap S0)) (by omega) (by omega) ?_
      exact kk22 _ _ _ _ _ _ _ _ _ _ ha (by omega) w (lv_sub hl [2, 3, 4, 1, 5, 0] rfl) h
    · replace h := iff0 hc h
      refine lv_iconst (v := 1) C.1 C.2.1 dX9_changeCase_116 (by decide) ?_
      refine lv_goto (tgt := 121) C.1 C.2.1 dX9_changeCase_117 (by decide) ?_
      refine lv_istore_n (lv' := [(3, .int (1 : Int32)), (0, .ref (ρ 7)), (1, .int x1), (2, .int x2), (4, .int x4), (5, .int x5), (6, .int x6), (7, .int x7)]) C.1 C.2.1 dX9_changeCase_121 rfl hl (by decide) rfl (fun ls hl => ?_)
      obtain ⟨x5_11, ex5_11, h⟩ := lt_e h
      refine lv_iinc (v := x5_11) (lv' := [(5, .int x5_11), (3, .int (1 : Int32)), (0, .ref (ρ 7)), (1, .int x1), (2, .int x2), (4, .int x4), (6, .int x6), (7, .int x7)]) C.1 C.2.1 dX9_changeCase_122 hl (k := 5) rfl (by rw [ex5_11]; rfl) (by decide) rfl (fun ls hl => ?_)
      refine lv_goto (tgt := 22) C.1 C.2.1 dX9_changeCase_125 (by decide) ?_
      have hkn := nq_kap nn
      refine W.widen (k := kap S - kap S0) (n := 2 * (kap S - kap S0)) (by omega) (by omega) ?_
      exact kk22 _ _ _ _ _ _ _ _ _ _ ha (by omega) w (lv_sub hl [2, 3, 4, 1, 5, 0] rfl) h
set_option maxRecDepth 100000 in
set_option maxHeartbeats 4000000 in
theorem w_TS_changeCase_90 {g : Nat} {S : St} {x1 : Int32} {x2 : Int32} {x3 : Int32} {x4 : Int32} {x5 : Int32} {x6 : Int32} {x7 : Int32} {x8 : Int32} (C : CallFix p m c cX9_changeCase 9 s args tb RX9) (hr : meth.sig.returnType = (some .int)) (hk : meth.locks = false) {S' : St} {r : Int32} {k22 : St → Int32 → Int32 → Int32 → Int32 → Int32 → Option (St × Int32)} (kk22 : ∀ (ρ : Nat → Nat) (S : St) (x1 : Int32) (x2 : Int32) (x3 : Int32) (x4 : Int32) (x5 : Int32) (H : Heap) (locs : List Loc) (ls : Array Slot), Ag ρ0 ρ → kap S0 ≤ kap S → Wn Yc D T ρ S A s H locs → lv_has ls 9 [(0, .ref (ρ 7)), (1, .int x1), (2, .int x2), (3, .int x3), (4, .int x4), (5, .int x5)] → k22 S x1 x2 x3 x4 x5 = some (S', r) → W p l e (rmK 5 117 (kap S' - kap S0)) s m args below meth c H locs (kap S - kap S0) (2 * (kap S - kap S0)) (MQ below (QiM D T ρ0 A S' r) args s (kap S' - kap S0) (2 * (kap S' - kap S0)) A) (F0 m 22 ls [])) (km22 : ∀ (S : St) (x1 : Int32) (x2 : Int32) (x3 : Int32) (x4 : Int32) (x5 : Int32), k22 S x1 x2 x3 x4 x5 = some (S', r) → kap S ≤ kap S') (ha : Ag ρ0 ρ) (hm : kap S0 ≤ kap S) (w : Wn Yc D T ρ S A s H locs) (hl : lv_has ls 9 [(0, .ref (ρ 7)), (1, .int x1), (2, .int x2), (3, .int x3), (4, .int x4), (5, .int x5), (6, .int x6), (7, .int x7), (8, .int x8)]) (h : m_TS_changeCase_90 g k22 S x1 x2 x3 x4 x5 x6 x7 x8 = some (S', r)) : W p l e (rmK 5 117 (kap S' - kap S0)) s m args below meth c H locs (kap S - kap S0) (2 * (kap S - kap S0)) (MQ below (QiM D T ρ0 A S' r) args s (kap S' - kap S0) (2 * (kap S' - kap S0)) A) (F0 m 90 ls []) := by
  have hT := km_TS_changeCase_90 km22 h
  unfold m_TS_changeCase_90 at h
  have nn : nq S S := nq_rf
  refine lv_iload C.1 C.2.1 dX9_changeCase_90 (lv_at hl 8 rfl) ?_
  refine lv_iconst (v := (-1)) C.1 C.2.1 dX9_changeCase_92 (by decide) ?_
  refine lv_icmp_eq (tgt := 105) C.1 C.2.1 dX9_changeCase_93 (by decide) (fun hc => ?_) (fun hc => ?_)
  · replace h := ift hc h
    have hkn := nq_kap nn
    refine W.widen (k := kap S - kap S0) (n := 2 * (kap S - kap S0)) (by omega) (by omega) ?_
    exact w_TS_changeCase_105 C hr hk kk22 km22 ha (by omega) w (lv_sub hl [0, 1, 2, 3, 4, 5, 6, 7] rfl) h
  · replace h := iff0 hc h
    refine lv_aload_n C.1 C.2.1 dX9_changeCase_96 rfl (lv_at hl 0 rfl) ?_
    refine x_getC C w 23 fX9_37 obC7 rfl dX9_changeCase_97 ?_
    refine lv_iload C.1 C.2.1 dX9_changeCase_100 (lv_at hl 8 rfl) ?_
    obtain ⟨S_9, hS_9, h⟩ := bnd h
    have hkn := nq_kap nn
    have hk1 := km_Row_add hS_9
    have hT2 := km_TS_changeCase_105 km22 h
    refine x_callVvM (q := (RX6, TX6, 4)) (As := [.int x8]) (rest := []) C w (k_Row_add l D T ρ g H.size S obC23 hS_9) vX9_159 (hRK (by decide) (by decide)) obC23 (by decide) rfl rfl rfl hl.1 (Nat.le_of_ble_eq_true rfl) (hcM hm hkn hk1 hT2) dX9_changeCase_102 (fun ρ1 H locs hag w => ?_)
    replace ha := ha.trans hag
    rw [← hag 7 (by decide)] at hl
    refine W.widen (k := kap S_9 - kap S0) (n := 2 * (kap S_9 - kap S0)) (by omega) (by omega) ?_
    exact w_TS_changeCase_105 C hr hk kk22 km22 ha (by omega) w (lv_sub hl [0, 1, 2, 3, 4, 5, 6, 7] rfl) h
set_option maxRecDepth 100000 in
set_option maxHeartbeats 4000000 in
theorem w_TS_changeCase_79 {g : Nat} {S : St} {x1 : Int32} {x2 : Int32} {x3 : Int32} {x4 : Int32} {x5 : Int32} {x6 : Int32} {x7 : Int32} {y0 : Int32} (C : CallFix p m c cX9_changeCase 9 s args tb RX9) (hr : meth.sig.returnType = (some .int)) (hk : meth.locks = false) {S' : St} {r : Int32} {k22 : St → Int32 → Int32 → Int32 → Int32 → Int32 → Option (St × Int32)} (kk22 : ∀ (ρ : Nat → Nat) (S : St) (x1 : Int32) (x2 : Int32) (x3 : Int32) (x4 : Int32) (x5 : Int32) (H : Heap) (locs : List Loc) (ls : Array Slot), Ag ρ0 ρ → kap S0 ≤ kap S → Wn Yc D T ρ S A s H locs → lv_has ls 9 [(0, .ref (ρ 7)), (1, .int x1), (2, .int x2), (3, .int x3), (4, .int x4), (5, .int x5)] → k22 S x1 x2 x3 x4 x5 = some (S', r) → W p l e (rmK 5 117 (kap S' - kap S0)) s m args below meth c H locs (kap S - kap S0) (2 * (kap S - kap S0)) (MQ below (QiM D T ρ0 A S' r) args s (kap S' - kap S0) (2 * (kap S' - kap S0)) A) (F0 m 22 ls [])) (km22 : ∀ (S : St) (x1 : Int32) (x2 : Int32) (x3 : Int32) (x4 : Int32) (x5 : Int32), k22 S x1 x2 x3 x4 x5 = some (S', r) → kap S ≤ kap S') (ha : Ag ρ0 ρ) (hm : kap S0 ≤ kap S) (w : Wn Yc D T ρ S A s H locs) (hl : lv_has ls 9 [(0, .ref (ρ 7)), (1, .int x1), (2, .int x2), (3, .int x3), (4, .int x4), (5, .int x5), (6, .int x6), (7, .int x7)]) (h : m_TS_changeCase_79 g k22 S x1 x2 x3 x4 x5 x6 x7 y0 = some (S', r)) : W p l e (rmK 5 117 (kap S' - kap S0)) s m args below meth c H locs (kap S - kap S0) (2 * (kap S - kap S0)) (MQ below (QiM D T ρ0 A S' r) args s (kap S' - kap S0) (2 * (kap S' - kap S0)) A) (F0 m 79 ls [.int y0]) := by
  have hT := km_TS_changeCase_79 km22 h
  unfold m_TS_changeCase_79 at h
  have nn : nq S S := nq_rf
  refine lv_istore (lv' := [(8, .int y0), (0, .ref (ρ 7)), (1, .int x1), (2, .int x2), (3, .int x3), (4, .int x4), (5, .int x5), (6, .int x6), (7, .int x7)]) C.1 C.2.1 dX9_changeCase_79 hl (by decide) rfl (fun ls hl => ?_)
  refine lv_aload_n C.1 C.2.1 dX9_changeCase_81 rfl (lv_at hl 1 rfl) ?_
  refine x_getC C w 23 fX9_37 obC7 rfl dX9_changeCase_82 ?_
  refine lv_iload C.1 C.2.1 dX9_changeCase_85 (lv_at hl 8 rfl) ?_
  obtain ⟨S_8, hS_8, h⟩ := bnd h
  have hkn := nq_kap nn
  have hk1 := km_Row_add hS_8
  have hT2 := km_TS_changeCase_90 km22 h
  refine x_callVvM (q := (RX6, TX6, 4)) (As := [.int x7]) (rest := []) C w (k_Row_add l D T ρ g H.size S obC23 hS_8) vX9_159 (hRK (by decide) (by decide)) obC23 (by decide) rfl rfl rfl hl.1 (Nat.le_of_ble_eq_true rfl) (hcM hm hkn hk1 hT2) dX9_changeCase_87 (fun ρ1 H locs hag w => ?_)
  replace ha := ha.trans hag
  rw [← hag 7 (by decide)] at hl
  refine W.widen (k := kap S_8 - kap S0) (n := 2 * (kap S_8 - kap S0)) (by omega) (by omega) ?_
  exact w_TS_changeCase_90 C hr hk kk22 km22 ha (by omega) w (lv_sub hl [1, 2, 3, 4, 5, 6, 7, 8, 0] rfl) h
set_option maxRecDepth 100000 in
set_option maxHeartbeats 4000000 in
theorem w_TS_changeCase_60 {g : Nat} {S : St} {x1 : Int32} {x2 : Int32} {x3 : Int32} {x4 : Int32} {x5 : Int32} {x6 : Int32} {y0 : Int32} (C : CallFix p m c cX9_changeCase 9 s args tb RX9) (hr : meth.sig.returnType = (some .int)) (hk : meth.locks = false) {S' : St} {r : Int32} {k22 : St → Int32 → Int32 → Int32 → Int32 → Int32 → Option (St × Int32)} (kk22 : ∀ (ρ : Nat → Nat) (S : St) (x1 : Int32) (x2 : Int32) (x3 : Int32) (x4 : Int32) (x5 : Int32) (H : Heap) (locs : List Loc) (ls : Array Slot), Ag ρ0 ρ → kap S0 ≤ kap S → Wn Yc D T ρ S A s H locs → lv_has ls 9 [(0, .ref (ρ 7)), (1, .int x1), (2, .int x2), (3, .int x3), (4, .int x4), (5, .int x5)] → k22 S x1 x2 x3 x4 x5 = some (S', r) → W p l e (rmK 5 117 (kap S' - kap S0)) s m args below meth c H locs (kap S - kap S0) (2 * (kap S - kap S0)) (MQ below (QiM D T ρ0 A S' r) args s (kap S' - kap S0) (2 * (kap S' - kap S0)) A) (F0 m 22 ls [])) (km22 : ∀ (S : St) (x1 : Int32) (x2 : Int32) (x3 : Int32) (x4 : Int32) (x5 : Int32), k22 S x1 x2 x3 x4 x5 = some (S', r) → kap S ≤ kap S') (ha : Ag ρ0 ρ) (hm : kap S0 ≤ kap S) (w : Wn Yc D T ρ S A s H locs) (hl : lv_has ls 9 [(0, .ref (ρ 7)), (1, .int x1), (2, .int x2), (3, .int x3), (4, .int x4), (5, .int x5), (6, .int x6)]) (h : m_TS_changeCase_60 g k22 S x1 x2 x3 x4 x5 x6 y0 = some (S', r)) : W p l e (rmK 5 117 (kap S' - kap S0)) s m args below meth c H locs (kap S - kap S0) (2 * (kap S - kap S0)) (MQ below (QiM D T ρ0 A S' r) args s (kap S' - kap S0) (2 * (kap S' - kap S0)) A) (F0 m 60 ls [.int y0]) := by
  have hT := km_TS_changeCase_60 km22 h
  unfold m_TS_changeCase_60 at h
  have nn : nq S S := nq_rf
  refine lv_istore (lv' := [(7, .int y0), (0, .ref (ρ 7)), (1, .int x1), (2, .int x2), (3, .int x3), (4, .int x4), (5, .int x5), (6, .int x6)]) C.1 C.2.1 dX9_changeCase_60 hl (by decide) rfl (fun ls hl => ?_)
  refine lv_iload_n C.1 C.2.1 dX9_changeCase_62 rfl (lv_at hl 3 rfl) ?_
  refine lv_if_eq (tgt := 74) C.1 C.2.1 dX9_changeCase_63 (by decide) (fun hc => ?_) (fun hc => ?_)
  · replace h := ift hc h
    refine lv_iload C.1 C.2.1 dX9_changeCase_74 (lv_at hl 7 rfl) ?_
    obtain ⟨v_7, hv_7, h⟩ := bnd h
    refine x_callSi (As := [.int x6]) (rest := []) C w (k_Lt_lowerTail l D T ρ g H.size S hv_7) vX9_217 (hRK (by decide) (by decide)) rfl rfl hl.1 (Nat.le_of_ble_eq_true rfl) (hcK hT) dX9_changeCase_76 (fun H locs w => ?_)
    have hkn := nq_kap nn
    refine W.widen (k := kap S - kap S0) (n := 2 * (kap S - kap S0)) (by omega) (by omega) ?_
    exact w_TS_changeCase_79 C hr hk kk22 km22 ha (by omega) w (lv_sub hl [1, 2, 3, 4, 5, 6, 7, 0] rfl) h
  · replace h := iff0 hc h
    refine lv_iload C.1 C.2.1 dX9_changeCase_66 (lv_at hl 7 rfl) ?_
    obtain ⟨v_8, hv_8, h⟩ := bnd h
    refine x_callSi (As := [.int x6]) (rest := []) C w (k_Lt_upperTail l D T ρ g H.size S hv_8) vX9_214 (hRK (by decide) (by decide)) rfl rfl hl.1 (Nat.le_of_ble_eq_true rfl) (hcK hT) dX9_changeCase_68 (fun H locs w => ?_)
    refine lv_goto (tgt := 79) C.1 C.2.1 dX9_changeCase_71 (by decide) ?_
    have hkn := nq_kap nn
    refine W.widen (k := kap S - kap S0) (n := 2 * (kap S - kap S0)) (by omega) (by omega) ?_
    exact w_TS_changeCase_79 C hr hk kk22 km22 ha (by omega) w (lv_sub hl [1, 2, 3, 4, 5, 6, 7, 0] rfl) h
set_option maxRecDepth 100000 in
set_option maxHeartbeats 4000000 in
theorem wb_TS_changeCase_22 {g : Nat} {S : St} {x1 : Int32} {x2 : Int32} {x3 : Int32} {x4 : Int32} {x5 : Int32} (C : CallFix p m c cX9_changeCase 9 s args tb RX9) (hr : meth.sig.returnType = (some .int)) (hk : meth.locks = false) {S' : St} {r : Int32} {k22 : St → Int32 → Int32 → Int32 → Int32 → Int32 → Option (St × Int32)} (kk22 : ∀ (ρ : Nat → Nat) (S : St) (x1 : Int32) (x2 : Int32) (x3 : Int32) (x4 : Int32) (x5 : Int32) (H : Heap) (locs : List Loc) (ls : Array Slot), Ag ρ0 ρ → kap S0 ≤ kap S → Wn Yc D T ρ S A s H locs → lv_has ls 9 [(0, .ref (ρ 7)), (1, .int x1), (2, .int x2), (3, .int x3), (4, .int x4), (5, .int x5)] → k22 S x1 x2 x3 x4 x5 = some (S', r) → W p l e (rmK 5 117 (kap S' - kap S0)) s m args below meth c H locs (kap S - kap S0) (2 * (kap S - kap S0)) (MQ below (QiM D T ρ0 A S' r) args s (kap S' - kap S0) (2 * (kap S' - kap S0)) A) (F0 m 22 ls [])) (km22 : ∀ (S : St) (x1 : Int32) (x2 : Int32) (x3 : Int32) (x4 : Int32) (x5 : Int32), k22 S x1 x2 x3 x4 x5 = some (S', r) → kap S ≤ kap S') (ha : Ag ρ0 ρ) (hm : kap S0 ≤ kap S) (w : Wn Yc D T ρ S A s H locs) (hl : lv_has ls 9 [(0, .ref (ρ 7)), (1, .int x1), (2, .int x2), (3, .int x3), (4, .int x4), (5, .int x5)]) (h : b_TS_changeCase_22 g k22 S x1 x2 x3 x4 x5 = some (S', r)) : W p l e (rmK 5 117 (kap S' - kap S0)) s m args below meth c H locs (kap S - kap S0) (2 * (kap S - kap S0)) (MQ below (QiM D T ρ0 A S' r) args s (kap S' - kap S0) (2 * (kap S' - kap S0)) A) (F0 m 22 ls []) := by
  have hT := kmb_TS_changeCase_22 km22 h
  unfold b_TS_changeCase_22 at h
  have nn : nq S S := nq_rf
  refine lv_iload C.1 C.2.1 dX9_changeCase_22 (lv_at hl 5 rfl) ?_
  refine lv_iload C.1 C.2.1 dX9_changeCase_24 (lv_at hl 4 rfl) ?_
  refine lv_icmp_ge (tgt := 128) C.1 C.2.1 dX9_changeCase_26 (by decide) (fun hc => ?_) (fun hc => ?_)
  · replace h := ift hc h
    refine lv_aload_n C.1 C.2.1 dX9_changeCase_128 rfl (lv_at hl 0 rfl) ?_
    refine lv_iload_n C.1 C.2.1 dX9_changeCase_129 rfl (lv_at hl 1 rfl) ?_
    refine lv_iload_n C.1 C.2.1 dX9_changeCase_130 rfl (lv_at hl 3 rfl) ?_
    obtain ⟨⟨S_3, v_4⟩, hv_4, h⟩ := bnd h
    have hkn := nq_kap nn
    have hk1 := km_TS_become hv_4
    have hT2 := km_TS_changeCase_134 h
    refine x_callViM (q := (RX9, TX9, 6)) (As := [.int x1, .int x3]) (rest := []) C w (k_TS_become l D T ρ g H.size S hv_4) vX9_113 (hRK (by decide) (by decide)) obC7 (by decide) rfl rfl rfl hl.1 (Nat.le_of_ble_eq_true rfl) (hcM hm hkn hk1 hT2) dX9_changeCase_131 (fun ρ1 H locs hag w => ?_)
    replace ha := ha.trans hag
    rw [← hag 7 (by decide)] at hl
    refine W.widen (k := kap S_3 - kap S0) (n := 2 * (kap S_3 - kap S0)) (by omega) (by omega) ?_
    exact w_TS_changeCase_134 C hr hk ha (by omega) w (lv_sub hl [] rfl) h
  · replace h := iff0 hc h
    refine lv_aload_n C.1 C.2.1 dX9_changeCase_29 rfl (lv_at hl 0 rfl) ?_
    refine x_getC C w 5 fX9_33 obC7 rfl dX9_changeCase_30 ?_
    refine x_getC C w 18 fX9_143 obC5 rfl dX9_changeCase_33 ?_
    refine lv_iload C.1 C.2.1 dX9_changeCase_36 (lv_at hl 5 rfl) ?_
    obtain ⟨v_5, hv_5, h⟩ := bnd h
    refine x_callVi (q := (RX6, TX6, 4)) (As := [.int x5]) (rest := []) C w (k_Row_at l D T ρ g H.size S obC18 hv_5) vX9_182 (hRK (by decide) (by decide)) obC18 (by decide) rfl rfl rfl hl.1 (Nat.le_of_ble_eq_true rfl) (hcK hT) dX9_changeCase_38 (fun H locs w => ?_)
    refine lv_istore (lv' := [(6, .int v_5), (0, .ref (ρ 7)), (1, .int x1), (2, .int x2), (3, .int x3), (4, .int x4), (5, .int x5)]) C.1 C.2.1 dX9_changeCase_41 hl (by decide) rfl (fun ls hl => ?_)
    refine lv_iload_n C.1 C.2.1 dX9_changeCase_43 rfl (lv_at hl 3 rfl) ?_
    refine lv_if_eq (tgt := 55) C.1 C.2.1 dX9_changeCase_44 (by decide) (fun hc => ?_) (fun hc => ?_)
    · replace h := ift hc h
      refine lv_iload C.1 C.2.1 dX9_changeCase_55 (lv_at hl 0 rfl) ?_
      obtain ⟨v_6, hv_6, h⟩ := bnd h
      refine x_callSi (As := [.int v_5]) (rest := []) C w (k_Lt_lower l D T ρ g H.size S hv_6) vX9_211 (hRK (by decide) (by decide)) rfl rfl hl.1 (Nat.le_of_ble_eq_true rfl) (hcK hT) dX9_changeCase_57 (fun H locs w => ?_)
      have hkn := nq_kap nn
      refine W.widen (k := kap S - kap S0) (n := 2 * (kap S - kap S0)) (by omega) (by omega) ?_
      exact w_TS_changeCase_60 C hr hk kk22 km22 ha (by omega) w (lv_sub hl [1, 2, 3, 4, 5, 6, 0] rfl) h
    · replace h := iff0 hc h
      refine lv_iload C.1 C.2.1 dX9_changeCase_47 (lv_at hl 0 rfl) ?_
      obtain ⟨v_7, hv_7, h⟩ := bnd h
      refine x_callSi (As := [.int v_5]) (rest := []) C w (k_Lt_upper l D T ρ g H.size S hv_7) vX9_208 (hRK (by decide) (by decide)) rfl rfl hl.1 (Nat.le_of_ble_eq_true rfl) (hcK hT) dX9_changeCase_49 (fun H locs w => ?_)
      refine lv_goto (tgt := 60) C.1 C.2.1 dX9_changeCase_52 (by decide) ?_
      have hkn := nq_kap nn
      refine W.widen (k := kap S - kap S0) (n := 2 * (kap S - kap S0)) (by omega) (by omega) ?_
      exact w_TS_changeCase_60 C hr hk kk22 km22 ha (by omega) w (lv_sub hl [1, 2, 3, 4, 5, 6, 0] rfl) h
theorem w_TS_changeCase_22 {g : Nat} (C : CallFix p m c cX9_changeCase 9 s args tb RX9) (hr : meth.sig.returnType = (some .int)) (hk : meth.locks = false) {S' : St} {r : Int32} (n : Nat) : ∀ (ρ : Nat → Nat) (S : St) (x1 : Int32) (x2 : Int32) (x3 : Int32) (x4 : Int32) (x5 : Int32) (H : Heap) (locs : List Loc) (ls : Array Slot), Ag ρ0 ρ → kap S0 ≤ kap S → Wn Yc D T ρ S A s H locs → lv_has ls 9 [(0, .ref (ρ 7)), (1, .int x1), (2, .int x2), (3, .int x3), (4, .int x4), (5, .int x5)] → m_TS_changeCase_22 g n S x1 x2 x3 x4 x5 = some (S', r) → W p l e (rmK 5 117 (kap S' - kap S0)) s m args below meth c H locs (kap S - kap S0) (2 * (kap S - kap S0)) (MQ below (QiM D T ρ0 A S' r) args s (kap S' - kap S0) (2 * (kap S' - kap S0)) A) (F0 m 22 ls []) := by
  induction n with
  | zero => intro ρ S x1 x2 x3 x4 x5 H locs ls ha hm w hl h; exact absurd h (fun q => by cases q)
  | succ n ih => intro ρ S x1 x2 x3 x4 x5 H locs ls ha hm w hl h; exact wb_TS_changeCase_22 C hr hk ih (km_TS_changeCase_22 n) ha hm w hl h
set_option maxRecDepth 100000 in
set_option maxHeartbeats 4000000 in
theorem w_TS_changeCase_0 {g : Nat} {S : St} {x1 : Int32} {x2 : Int32} (C : CallFix p m c cX9_changeCase 9 s args tb RX9) (hr : meth.sig.returnType = (some .int)) (hk : meth.locks = false) {S' : St} {r : Int32} (ha : Ag ρ0 ρ) (hm : kap S0 ≤ kap S) (w : Wn Yc D T ρ S A s H locs) (hl : lv_has ls 9 [(0, .ref (ρ 7)), (1, .int x1), (2, .int x2)]) (h : m_TS_changeCase g S x1 x2 = some (S', r)) : W p l e (rmK 5 117 (kap S' - kap S0)) s m args below meth c H locs (kap S - kap S0) (2 * (kap S - kap S0)) (MQ below (QiM D T ρ0 A S' r) args s (kap S' - kap S0) (2 * (kap S' - kap S0)) A) (F0 m 0 ls []) := by
  have hT := km_TS_changeCase h
  unfold m_TS_changeCase at h
  have nn : nq S S := nq_rf
  refine lv_iconst (v := 0) C.1 C.2.1 dX9_changeCase_0 (by decide) ?_
  refine lv_istore_n (lv' := [(3, .int (0 : Int32)), (0, .ref (ρ 7)), (1, .int x1), (2, .int x2)]) C.1 C.2.1 dX9_changeCase_1 rfl hl (by decide) rfl (fun ls hl => ?_)
  refine lv_aload_n C.1 C.2.1 dX9_changeCase_2 rfl (lv_at hl 1 rfl) ?_
  refine x_getC C w 5 fX9_33 obC7 rfl dX9_changeCase_3 ?_
  refine lv_iload_n C.1 C.2.1 dX9_changeCase_6 rfl (lv_at hl 2 rfl) ?_
  obtain ⟨v_1, hv_1, h⟩ := bnd h
  refine x_callVi (q := (RX10, TX10, 5)) (As := [.int x1]) (rest := []) C w (k_Tx_endOf l D T ρ g H.size S hv_1) vX9_149 (hRK (by decide) (by decide)) obC5 (by decide) rfl rfl rfl hl.1 (Nat.le_of_ble_eq_true rfl) (hcK hT) dX9_changeCase_7 (fun H locs w => ?_)
  refine lv_istore (lv' := [(4, .int v_1), (3, .int (0 : Int32)), (0, .ref (ρ 7)), (1, .int x1), (2, .int x2)]) C.1 C.2.1 dX9_changeCase_10 hl (by decide) rfl (fun ls hl => ?_)
  refine lv_aload_n C.1 C.2.1 dX9_changeCase_12 rfl (lv_at hl 2 rfl) ?_
  refine x_getC C w 5 fX9_33 obC7 rfl dX9_changeCase_13 ?_
  refine lv_iload_n C.1 C.2.1 dX9_changeCase_16 rfl (lv_at hl 3 rfl) ?_
  obtain ⟨v_2, hv_2, h⟩ := bnd h
  refine x_callVi (q := (RX10, TX10, 5)) (As := [.int x1]) (rest := []) C w (k_Tx_startOf l D T ρ g H.size S hv_2) vX9_146 (hRK (by decide) (by decide)) obC5 (by decide) rfl rfl rfl hl.1 (Nat.le_of_ble_eq_true rfl) (hcK hT) dX9_changeCase_17 (fun H locs w => ?_)
  refine lv_istore (lv' := [(5, .int v_2), (4, .int v_1), (3, .int (0 : Int32)), (0, .ref (ρ 7)), (1, .int x1), (2, .int x2)]) C.1 C.2.1 dX9_changeCase_20 hl (by decide) rfl (fun ls hl => ?_)
  have hkn := nq_kap nn
  refine W.widen (k := kap S - kap S0) (n := 2 * (kap S - kap S0)) (by omega) (by omega) ?_
  exact w_TS_changeCase_22 C hr hk g _ _ _ _ _ _ _ _ _ _ ha (by omega) w (lv_sub hl [3, 4, 5, 2, 1, 0] rfl) h
end S_TS_changeCase
set_option maxRecDepth 100000 in
theorem k_TS_changeCase (l : Launch) (D : va_G) (T : Cy) (ρ : Nat → Nat) (g sz : Nat) (S : St) {x1 : Int32} {x2 : Int32} {S' : St} {r : Int32} (h : m_TS_changeCase g S x1 x2 = some (S', r)) : MiM l D T ρ yX9_changeCase cX9_changeCase 9 (some .int) 5 117 S S' r [.ref (ρ 7), .int x1, .int x2] sz :=
  x_inR (by decide) (Nat.le_of_ble_eq_true rfl) (fun p e s m below meth c ls C hr hk w hl => W.widen (Nat.zero_le _) (Nat.zero_le _) (w_TS_changeCase_0 C hr hk Ag.rf (Nat.le_refl _) w hl h))

theorem dX9_from_0 : decode cX9_from 0 = .ok (.iconst 1, 1) := by decide +kernel
theorem dX9_from_1 : decode cX9_from 1 = .ok (.istore_n 1, 1) := by decide +kernel
theorem dX9_from_2 : decode cX9_from 2 = .ok (.iload_n 1, 1) := by decide +kernel
theorem dX9_from_3 : decode cX9_from 3 = .ok (.aload_n 0, 1) := by decide +kernel
theorem dX9_from_4 : decode cX9_from 4 = .ok (.getfield 23, 3) := by decide +kernel
theorem dX9_from_7 : decode cX9_from 7 = .ok (.getfield 162, 3) := by decide +kernel
theorem dX9_from_10 : decode cX9_from 10 = .ok (.if_icmp .ge 36, 3) := by decide +kernel
theorem dX9_from_13 : decode cX9_from 13 = .ok (.aload_n 0, 1) := by decide +kernel
theorem dX9_from_14 : decode cX9_from 14 = .ok (.getfield 23, 3) := by decide +kernel
theorem dX9_from_17 : decode cX9_from 17 = .ok (.iload_n 1, 1) := by decide +kernel
theorem dX9_from_18 : decode cX9_from 18 = .ok (.invokevirtual 119, 3) := by decide +kernel
theorem dX9_from_21 : decode cX9_from 21 = .ok (.lstore_n 2, 1) := by decide +kernel
theorem dX9_from_22 : decode cX9_from 22 = .ok (.lload_n 2, 1) := by decide +kernel
theorem dX9_from_23 : decode cX9_from 23 = .ok (.invokestatic 220, 3) := by decide +kernel
theorem dX9_from_26 : decode cX9_from 26 = .ok (.ifCond .ne 5, 3) := by decide +kernel
theorem dX9_from_29 : decode cX9_from 29 = .ok (.iconst 3, 1) := by decide +kernel
theorem dX9_from_30 : decode cX9_from 30 = .ok (.ireturn, 1) := by decide +kernel
theorem dX9_from_31 : decode cX9_from 31 = .ok (.aload_n 0, 1) := by decide +kernel
theorem dX9_from_32 : decode cX9_from 32 = .ok (.getfield 37, 3) := by decide +kernel
theorem dX9_from_35 : decode cX9_from 35 = .ok (.lload_n 2, 1) := by decide +kernel
theorem dX9_from_36 : decode cX9_from 36 = .ok (.l2i, 1) := by decide +kernel
theorem dX9_from_37 : decode cX9_from 37 = .ok (.invokevirtual 223, 3) := by decide +kernel
theorem dX9_from_40 : decode cX9_from 40 = .ok (.iinc 1 1, 3) := by decide +kernel
theorem dX9_from_43 : decode cX9_from 43 = .ok (.goto (-41), 3) := by decide +kernel
theorem dX9_from_46 : decode cX9_from 46 = .ok (.aload_n 0, 1) := by decide +kernel
theorem dX9_from_47 : decode cX9_from 47 = .ok (.iconst (-1), 1) := by decide +kernel
theorem dX9_from_48 : decode cX9_from 48 = .ok (.iconst 1, 1) := by decide +kernel
theorem dX9_from_49 : decode cX9_from 49 = .ok (.invokevirtual 113, 3) := by decide +kernel
theorem dX9_from_52 : decode cX9_from 52 = .ok (.ireturn, 1) := by decide +kernel
def m_TS_from_52 (g : Nat) (S : St) (y0 : Int32) : Option (St × Int32) :=
some (S, y0)
def m_TS_from_40 (g : Nat) (k2 : St → Int32 → Option (St × Int32)) (S : St) (x1 : Int32) : Option (St × Int32) :=
lt (x1 + (1 : Int32)) fun x1_6 =>
k2 S x1_6
def b_TS_from_2 (g : Nat) (k2 : St → Int32 → Option (St × Int32)) (S : St) (x1 : Int32) : Option (St × Int32) :=
if (gI S 4 11) ≤ x1 then (
  (m_TS_become g S (-1 : Int32) (1 : Int32)).bind fun (S_1, v_2) =>
  m_TS_from_52 g S_1 v_2
) else (
  (m_Bn_wholeAt g S x1).bind fun v_3 =>
  (m_Lt_isPoint g v_3).bind fun v_4 =>
  if v_4 = 0 then (
    some (S, (3 : Int32))
  ) else (
    (m_Row_addPoint g S 23 (v_3.toInt32)).bind fun S_5 =>
    m_TS_from_40 g k2 S_5 x1
  )
)
def m_TS_from_2 (g : Nat) : Nat → St → Int32 → Option (St × Int32)
  | 0, _, _ => none
  | n + 1, S, x1 => b_TS_from_2 g (m_TS_from_2 g n) S x1
def m_TS_from (g : Nat) (S : St) : Option (St × Int32) :=
m_TS_from_2 g g S (1 : Int32)
theorem km_TS_from_52 {g : Nat} {S : St} {y0 : Int32} {S' : St} {r : Int32} (h : m_TS_from_52 g S y0 = some (S', r)) : kap S ≤ kap S' := by
  unfold m_TS_from_52 at h
  have nn : nq S S := nq_rf
  obtain ⟨rfl, rfl⟩ := prI h
  have hkn := nq_kap nn
  omega
theorem km_TS_from_40 {g : Nat} {S : St} {x1 : Int32} {S' : St} {r : Int32} {k2 : St → Int32 → Option (St × Int32)} (km2 : ∀ (S : St) (x1 : Int32), k2 S x1 = some (S', r) → kap S ≤ kap S') (h : m_TS_from_40 g k2 S x1 = some (S', r)) : kap S ≤ kap S' := by
  unfold m_TS_from_40 at h
  have nn : nq S S := nq_rf
  obtain ⟨x1_6, ex1_6, h⟩ := lt_e h
  have hkn := nq_kap nn
  have h2 := km2 _ _ h
  omega
theorem kmb_TS_from_2 {g : Nat} {S : St} {x1 : Int32} {S' : St} {r : Int32} {k2 : St → Int32 → Option (St × Int32)} (km2 : ∀ (S : St) (x1 : Int32), k2 S x1 = some (S', r) → kap S ≤ kap S') (h : b_TS_from_2 g k2 S x1 = some (S', r)) : kap S ≤ kap S' := by
  unfold b_TS_from_2 at h
  have nn : nq S S := nq_rf
  by_cases hc1 : (gI S 4 11) ≤ x1
  · replace h := ift hc1 h
    obtain ⟨⟨S_1, v_2⟩, hv_2, h⟩ := bnd h
    have hk1 := km_TS_become hv_2
    have hkn := nq_kap nn
    have h2 := km_TS_from_52 h
    omega
  · replace h := iff0 hc1 h
    obtain ⟨v_3, hv_3, h⟩ := bnd h
    obtain ⟨v_4, hv_4, h⟩ := bnd h
    by_cases hc2 : v_4 = 0
    · replace h := ift hc2 h
      obtain ⟨rfl, rfl⟩ := prI h
      have hkn := nq_kap nn
      omega
    · replace h := iff0 hc2 h
      obtain ⟨S_5, hS_5, h⟩ := bnd h
      have hk1 := km_Row_addPoint hS_5
      have hkn := nq_kap nn
      have h2 := km_TS_from_40 km2 h
      omega
theorem km_TS_from_2 {g : Nat} {S' : St} {r : Int32} (n : Nat) : ∀ (S : St) (x1 : Int32), m_TS_from_2 g n S x1 = some (S', r) → kap S ≤ kap S' := by
  induction n with
  | zero => intro S x1 h; exact absurd h (fun q => by cases q)
  | succ n ih => intro S x1 h; exact kmb_TS_from_2 ih h
theorem km_TS_from {g : Nat} {S : St} {S' : St} {r : Int32} (h : m_TS_from g S = some (S', r)) : kap S ≤ kap S' := by
  unfold m_TS_from at h
  have nn : nq S S := nq_rf
  have hkn := nq_kap nn
  have h2 := km_TS_from_2 g _ _ h
  omega
section S_TS_from
variable {p : Program} {l : Launch} {e : Env} {s : State} {m : MethodId} {args : Array Value} {below : List Frame} {meth : Method} {c : Code} {H : Heap} {locs : List Loc} {ls : Array Slot} {D : va_G} {T : Cy} {ρ ρ0 : Nat → Nat} {S0 : St} {A : Nat → Prop}
set_option maxRecDepth 100000 in
set_option maxHeartbeats 4000000 in
theorem w_TS_from_52 {g : Nat} {S : St} {y0 : Int32} (C : CallFix p m c cX9_from 4 s args tb RX9) (hr : meth.sig.returnType = (some .int)) (hk : meth.locks = false) {S' : St} {r : Int32} (ha : Ag ρ0 ρ) (hm : kap S0 ≤ kap S) (w : Wn Yc D T ρ S A s H locs) (hl : lv_has ls 4 []) (h : m_TS_from_52 g S y0 = some (S', r)) : W p l e (rmK 5 117 (kap S' - kap S0)) s m args below meth c H locs (kap S - kap S0) (2 * (kap S - kap S0)) (MQ below (QiM D T ρ0 A S' r) args s (kap S' - kap S0) (2 * (kap S' - kap S0)) A) (F0 m 52 ls [.int y0]) := by
  have hT := km_TS_from_52 h
  unfold m_TS_from_52 at h
  have nn : nq S S := nq_rf
  obtain ⟨rfl, rfl⟩ := prI h
  exact x_iretM C w ha hr hk dX9_from_52 (by have := nq_kap nn; omega) (by have := nq_kap nn; omega)
set_option maxRecDepth 100000 in
set_option maxHeartbeats 4000000 in
theorem w_TS_from_40 {g : Nat} {S : St} {x1 : Int32} (C : CallFix p m c cX9_from 4 s args tb RX9) (hr : meth.sig.returnType = (some .int)) (hk : meth.locks = false) {S' : St} {r : Int32} {k2 : St → Int32 → Option (St × Int32)} (kk2 : ∀ (ρ : Nat → Nat) (S : St) (x1 : Int32) (H : Heap) (locs : List Loc) (ls : Array Slot), Ag ρ0 ρ → kap S0 ≤ kap S → Wn Yc D T ρ S A s H locs → lv_has ls 4 [(0, .ref (ρ 7)), (1, .int x1)] → k2 S x1 = some (S', r) → W p l e (rmK 5 117 (kap S' - kap S0)) s m args below meth c H locs (kap S - kap S0) (2 * (kap S - kap S0)) (MQ below (QiM D T ρ0 A S' r) args s (kap S' - kap S0) (2 * (kap S' - kap S0)) A) (F0 m 2 ls [])) (km2 : ∀ (S : St) (x1 : Int32), k2 S x1 = some (S', r) → kap S ≤ kap S') (ha : Ag ρ0 ρ) (hm : kap S0 ≤ kap S) (w : Wn Yc D T ρ S A s H locs) (hl : lv_has ls 4 [(0, .ref (ρ 7)), (1, .int x1)]) (h : m_TS_from_40 g k2 S x1 = some (S', r)) : W p l e (rmK 5 117 (kap S' - kap S0)) s m args below meth c H locs (kap S - kap S0) (2 * (kap S - kap S0)) (MQ below (QiM D T ρ0 A S' r) args s (kap S' - kap S0) (2 * (kap S' - kap S0)) A) (F0 m 40 ls []) := by
  have hT := km_TS_from_40 km2 h
  unfold m_TS_from_40 at h
  have nn : nq S S := nq_rf
  obtain ⟨x1_6, ex1_6, h⟩ := lt_e h
  refine lv_iinc (v := x1_6) (lv' := [(1, .int x1_6), (0, .ref (ρ 7))]) C.1 C.2.1 dX9_from_40 hl (k := 1) rfl (by rw [ex1_6]; rfl) (by decide) rfl (fun ls hl => ?_)
  refine lv_goto (tgt := 2) C.1 C.2.1 dX9_from_43 (by decide) ?_
  have hkn := nq_kap nn
  refine W.widen (k := kap S - kap S0) (n := 2 * (kap S - kap S0)) (by omega) (by omega) ?_
  exact kk2 _ _ _ _ _ _ ha (by omega) w (lv_sub hl [1, 0] rfl) h
set_option maxRecDepth 100000 in
set_option maxHeartbeats 4000000 in
theorem wb_TS_from_2 {g : Nat} {S : St} {x1 : Int32} (C : CallFix p m c cX9_from 4 s args tb RX9) (hr : meth.sig.returnType = (some .int)) (hk : meth.locks = false) {S' : St} {r : Int32} {k2 : St → Int32 → Option (St × Int32)} (kk2 : ∀ (ρ : Nat → Nat) (S : St) (x1 : Int32) (H : Heap) (locs : List Loc) (ls : Array Slot), Ag ρ0 ρ → kap S0 ≤ kap S → Wn Yc D T ρ S A s H locs → lv_has ls 4 [(0, .ref (ρ 7)), (1, .int x1)] → k2 S x1 = some (S', r) → W p l e (rmK 5 117 (kap S' - kap S0)) s m args below meth c H locs (kap S - kap S0) (2 * (kap S - kap S0)) (MQ below (QiM D T ρ0 A S' r) args s (kap S' - kap S0) (2 * (kap S' - kap S0)) A) (F0 m 2 ls [])) (km2 : ∀ (S : St) (x1 : Int32), k2 S x1 = some (S', r) → kap S ≤ kap S') (ha : Ag ρ0 ρ) (hm : kap S0 ≤ kap S) (w : Wn Yc D T ρ S A s H locs) (hl : lv_has ls 4 [(0, .ref (ρ 7)), (1, .int x1)]) (h : b_TS_from_2 g k2 S x1 = some (S', r)) : W p l e (rmK 5 117 (kap S' - kap S0)) s m args below meth c H locs (kap S - kap S0) (2 * (kap S - kap S0)) (MQ below (QiM D T ρ0 A S' r) args s (kap S' - kap S0) (2 * (kap S' - kap S0)) A) (F0 m 2 ls []) := by
  have hT := kmb_TS_from_2 km2 h
  unfold b_TS_from_2 at h
  have nn : nq S S := nq_rf
  refine lv_iload_n C.1 C.2.1 dX9_from_2 rfl (lv_at hl 1 rfl) ?_
  refine lv_aload_n C.1 C.2.1 dX9_from_3 rfl (lv_at hl 0 rfl) ?_
  refine x_getC C w 4 fX9_23 obC7 rfl dX9_from_4 ?_
  refine x_getI C w fX9_162 obC4 dX9_from_7 ?_
  refine lv_icmp_ge (tgt := 46) C.1 C.2.1 dX9_from_10 (by decide) (fun hc => ?_) (fun hc => ?_)
  · replace h := ift hc h
    refine lv_aload_n C.1 C.2.1 dX9_from_46 rfl (lv_at hl 0 rfl) ?_
    refine lv_iconst (v := (-1)) C.1 C.2.1 dX9_from_47 (by decide) ?_
    refine lv_iconst (v := 1) C.1 C.2.1 dX9_from_48 (by decide) ?_
    obtain ⟨⟨S_1, v_2⟩, hv_2, h⟩ := bnd h
    have hkn := nq_kap nn
    have hk1 := km_TS_become hv_2
    have hT2 := km_TS_from_52 h
    refine x_callViM (q := (RX9, TX9, 6)) (As := [.int (-1 : Int32), .int (1 : Int32)]) (rest := []) C w (k_TS_become l D T ρ g H.size S hv_2) vX9_113 (hRK (by decide) (by decide)) obC7 (by decide) rfl rfl rfl hl.1 (Nat.le_of_ble_eq_true rfl) (hcM hm hkn hk1 hT2) dX9_from_49 (fun ρ1 H locs hag w => ?_)
    replace ha := ha.trans hag
    rw [← hag 7 (by decide)] at hl
    refine W.widen (k := kap S_1 - kap S0) (n := 2 * (kap S_1 - kap S0)) (by omega) (by omega) ?_
    exact w_TS_from_52 C hr hk ha (by omega) w (lv_sub hl [] rfl) h
  · replace h := iff0 hc h
    refine lv_aload_n C.1 C.2.1 dX9_from_13 rfl (lv_at hl 0 rfl) ?_
    refine x_getC C w 4 fX9_23 obC7 rfl dX9_from_14 ?_
    refine lv_iload_n C.1 C.2.1 dX9_from_17 rfl (lv_at hl 1 rfl) ?_
    obtain ⟨v_3, hv_3, h⟩ := bnd h
    refine x_callVj (q := (RX1, TX1, 12)) (As := [.int x1]) (rest := []) C w (k_Bn_wholeAt l D T ρ g H.size S hv_3) vX9_119 (hRK (by decide) (by decide)) obC4 (by decide) rfl rfl rfl hl.1 (Nat.le_of_ble_eq_true rfl) (hcK hT) dX9_from_18 (fun H locs w => ?_)
    refine lv_lstore_n (lv' := [(2, .long v_3), (0, .ref (ρ 7)), (1, .int x1)]) C.1 C.2.1 dX9_from_21 rfl hl (by decide) rfl (fun ls hl => ?_)
    refine lv_lload_n C.1 C.2.1 dX9_from_22 rfl (lv_at hl 0 rfl) ?_
    obtain ⟨v_4, hv_4, h⟩ := bnd h
    refine x_callSi (As := [.long v_3]) (rest := []) C w (k_Lt_isPoint l D T ρ g H.size S hv_4) vX9_220 (hRK (by decide) (by decide)) rfl rfl hl.1 (Nat.le_of_ble_eq_true rfl) (hcK hT) dX9_from_23 (fun H locs w => ?_)
    refine lv_if_ne (tgt := 31) C.1 C.2.1 dX9_from_26 (by decide) (fun hc => ?_) (fun hc => ?_)
    · replace h := iff0 hc h
      refine lv_aload_n C.1 C.2.1 dX9_from_31 rfl (lv_at hl 1 rfl) ?_
      refine x_getC C w 23 fX9_37 obC7 rfl dX9_from_32 ?_
      refine lv_lload_n C.1 C.2.1 dX9_from_35 rfl (lv_at hl 0 rfl) ?_
      refine lv_l2i C.1 C.2.1 dX9_from_36 rfl ?_
      obtain ⟨S_5, hS_5, h⟩ := bnd h
      have hkn := nq_kap nn
      have hk1 := km_Row_addPoint hS_5
      have hT2 := km_TS_from_40 km2 h
      refine x_callVvM (q := (RX6, TX6, 4)) (As := [.int (v_3.toInt32)]) (rest := []) C w (k_Row_addPoint l D T ρ g H.size S obC23 hS_5) vX9_223 (hRK (by decide) (by decide)) obC23 (by decide) rfl rfl rfl hl.1 (Nat.le_of_ble_eq_true rfl) (hcM hm hkn hk1 hT2) dX9_from_37 (fun ρ1 H locs hag w => ?_)
      replace ha := ha.trans hag
      rw [← hag 7 (by decide)] at hl
      refine W.widen (k := kap S_5 - kap S0) (n := 2 * (kap S_5 - kap S0)) (by omega) (by omega) ?_
      exact w_TS_from_40 C hr hk kk2 km2 ha (by omega) w (lv_sub hl [1, 2] rfl) h
    · replace h := ift hc h
      refine lv_iconst (v := 3) C.1 C.2.1 dX9_from_29 (by decide) ?_
      obtain ⟨rfl, rfl⟩ := prI h
      exact x_iretM C w ha hr hk dX9_from_30 (by have := nq_kap nn; omega) (by have := nq_kap nn; omega)
theorem w_TS_from_2 {g : Nat} (C : CallFix p m c cX9_from 4 s args tb RX9) (hr : meth.sig.returnType = (some .int)) (hk : meth.locks = false) {S' : St} {r : Int32} (n : Nat) : ∀ (ρ : Nat → Nat) (S : St) (x1 : Int32) (H : Heap) (locs : List Loc) (ls : Array Slot), Ag ρ0 ρ → kap S0 ≤ kap S → Wn Yc D T ρ S A s H locs → lv_has ls 4 [(0, .ref (ρ 7)), (1, .int x1)] → m_TS_from_2 g n S x1 = some (S', r) → W p l e (rmK 5 117 (kap S' - kap S0)) s m args below meth c H locs (kap S - kap S0) (2 * (kap S - kap S0)) (MQ below (QiM D T ρ0 A S' r) args s (kap S' - kap S0) (2 * (kap S' - kap S0)) A) (F0 m 2 ls []) := by
  induction n with
  | zero => intro ρ S x1 H locs ls ha hm w hl h; exact absurd h (fun q => by cases q)
  | succ n ih => intro ρ S x1 H locs ls ha hm w hl h; exact wb_TS_from_2 C hr hk ih (km_TS_from_2 n) ha hm w hl h
set_option maxRecDepth 100000 in
set_option maxHeartbeats 4000000 in
theorem w_TS_from_0 {g : Nat} {S : St} (C : CallFix p m c cX9_from 4 s args tb RX9) (hr : meth.sig.returnType = (some .int)) (hk : meth.locks = false) {S' : St} {r : Int32} (ha : Ag ρ0 ρ) (hm : kap S0 ≤ kap S) (w : Wn Yc D T ρ S A s H locs) (hl : lv_has ls 4 [(0, .ref (ρ 7))]) (h : m_TS_from g S = some (S', r)) : W p l e (rmK 5 117 (kap S' - kap S0)) s m args below meth c H locs (kap S - kap S0) (2 * (kap S - kap S0)) (MQ below (QiM D T ρ0 A S' r) args s (kap S' - kap S0) (2 * (kap S' - kap S0)) A) (F0 m 0 ls []) := by
  have hT := km_TS_from h
  unfold m_TS_from at h
  have nn : nq S S := nq_rf
  refine lv_iconst (v := 1) C.1 C.2.1 dX9_from_0 (by decide) ?_
  refine lv_istore_n (lv' := [(1, .int (1 : Int32)), (0, .ref (ρ 7))]) C.1 C.2.1 dX9_from_1 rfl hl (by decide) rfl (fun ls hl => ?_)
  have hkn := nq_kap nn
  refine W.widen (k := kap S - kap S0) (n := 2 * (kap S - kap S0)) (by omega) (by omega) ?_
  exact w_TS_from_2 C hr hk g _ _ _ _ _ _ ha (by omega) w (lv_sub hl [1, 0] rfl) h
end S_TS_from
set_option maxRecDepth 100000 in
theorem k_TS_from (l : Launch) (D : va_G) (T : Cy) (ρ : Nat → Nat) (g sz : Nat) (S : St) {S' : St} {r : Int32} (h : m_TS_from g S = some (S', r)) : MiM l D T ρ yX9_from cX9_from 4 (some .int) 5 117 S S' r [.ref (ρ 7)] sz :=
  x_inR (by decide) (Nat.le_of_ble_eq_true rfl) (fun p e s m below meth c ls C hr hk w hl => W.widen (Nat.zero_le _) (Nat.zero_le _) (w_TS_from_0 C hr hk Ag.rf (Nat.le_refl _) w hl h))

theorem dX9_addCut_0 : decode cX9_addCut 0 = .ok (.aload_n 0, 1) := by decide +kernel
theorem dX9_addCut_1 : decode cX9_addCut 1 = .ok (.getfield 14, 3) := by decide +kernel
theorem dX9_addCut_4 : decode cX9_addCut 4 = .ok (.iload_n 1, 1) := by decide +kernel
theorem dX9_addCut_5 : decode cX9_addCut 5 = .ok (.invokevirtual 159, 3) := by decide +kernel
theorem dX9_addCut_8 : decode cX9_addCut 8 = .ok (.aload_n 0, 1) := by decide +kernel
theorem dX9_addCut_9 : decode cX9_addCut 9 = .ok (.getfield 20, 3) := by decide +kernel
theorem dX9_addCut_12 : decode cX9_addCut 12 = .ok (.iload_n 2, 1) := by decide +kernel
theorem dX9_addCut_13 : decode cX9_addCut 13 = .ok (.invokevirtual 159, 3) := by decide +kernel
theorem dX9_addCut_16 : decode cX9_addCut 16 = .ok (.return_, 1) := by decide +kernel
def m_TS_addCut_16 (g : Nat) (S : St) : Option St :=
some S
def m_TS_addCut_8 (g : Nat) (S : St) (x2 : Int32) : Option St :=
(m_Row_add g S 31 x2).bind fun S_2 =>
m_TS_addCut_16 g S_2
def m_TS_addCut (g : Nat) (S : St) (x1 : Int32) (x2 : Int32) : Option St :=
(m_Row_add g S 30 x1).bind fun S_1 =>
m_TS_addCut_8 g S_1 x2
theorem km_TS_addCut_16 {g : Nat} {S : St} {S' : St} (h : m_TS_addCut_16 g S = some S') : kap S ≤ kap S' := by
  unfold m_TS_addCut_16 at h
  have nn : nq S S := nq_rf
  obtain rfl := som h
  have hkn := nq_kap nn
  omega
theorem km_TS_addCut_8 {g : Nat} {S : St} {x2 : Int32} {S' : St} (h : m_TS_addCut_8 g S x2 = some S') : kap S ≤ kap S' := by
  unfold m_TS_addCut_8 at h
  have nn : nq S S := nq_rf
  obtain ⟨S_2, hS_2, h⟩ := bnd h
  have hk1 := km_Row_add hS_2
  have hkn := nq_kap nn
  have h2 := km_TS_addCut_16 h
  omega
theorem km_TS_addCut {g : Nat} {S : St} {x1 : Int32} {x2 : Int32} {S' : St} (h : m_TS_addCut g S x1 x2 = some S') : kap S ≤ kap S' := by
  unfold m_TS_addCut at h
  have nn : nq S S := nq_rf
  obtain ⟨S_1, hS_1, h⟩ := bnd h
  have hk1 := km_Row_add hS_1
  have hkn := nq_kap nn
  have h2 := km_TS_addCut_8 h
  omega
section S_TS_addCut
variable {p : Program} {l : Launch} {e : Env} {s : State} {m : MethodId} {args : Array Value} {below : List Frame} {meth : Method} {c : Code} {H : Heap} {locs : List Loc} {ls : Array Slot} {D : va_G} {T : Cy} {ρ ρ0 : Nat → Nat} {S0 : St} {A : Nat → Prop}
set_option maxRecDepth 100000 in
set_option maxHeartbeats 4000000 in
theorem w_TS_addCut_16 {g : Nat} {S : St} (C : CallFix p m c cX9_addCut 3 s args tb RX9) (hr : meth.sig.returnType = none) (hk : meth.locks = false) {S' : St} (ha : Ag ρ0 ρ) (hm : kap S0 ≤ kap S) (w : Wn Yc D T ρ S A s H locs) (hl : lv_has ls 3 []) (h : m_TS_addCut_16 g S = some S') : W p l e (rmK 3 69 (kap S' - kap S0)) s m args below meth c H locs (kap S - kap S0) (2 * (kap S - kap S0)) (MQ below (QvM D T ρ0 A S') args s (kap S' - kap S0) (2 * (kap S' - kap S0)) A) (F0 m 16 ls []) := by
  have hT := km_TS_addCut_16 h
  unfold m_TS_addCut_16 at h
  have nn : nq S S := nq_rf
  obtain rfl := som h
  exact x_vretM C w ha hr hk dX9_addCut_16 (by have := nq_kap nn; omega) (by have := nq_kap nn; omega)
set_option maxRecDepth 100000 in
set_option maxHeartbeats 4000000 in
theorem w_TS_addCut_8 {g : Nat} {S : St} {x2 : Int32} (C : CallFix p m c cX9_addCut 3 s args tb RX9) (hr : meth.sig.returnType = none) (hk : meth.locks = false) {S' : St} (ha : Ag ρ0 ρ) (hm : kap S0 ≤ kap S) (w : Wn Yc D T ρ S A s H locs) (hl : lv_has ls 3 [(0, .ref (ρ 7)), (2, .int x2)]) (h : m_TS_addCut_8 g S x2 = some S') : W p l e (rmK 3 69 (kap S' - kap S0)) s m args below meth c H locs (kap S - kap S0) (2 * (kap S - kap S0)) (MQ below (QvM D T ρ0 A S') args s (kap S' - kap S0) (2 * (kap S' - kap S0)) A) (F0 m 8 ls []) := by
  have hT := km_TS_addCut_8 h
  unfold m_TS_addCut_8 at h
  have nn : nq S S := nq_rf
  refine lv_aload_n C.1 C.2.1 dX9_addCut_8 rfl (lv_at hl 0 rfl) ?_
  refine x_getC C w 31 fX9_20 obC7 rfl dX9_addCut_9 ?_
  refine lv_iload_n C.1 C.2.1 dX9_addCut_12 rfl (lv_at hl 1 rfl) ?_
  obtain ⟨S_2, hS_2, h⟩ := bnd h
  have hkn := nq_kap nn
  have hk1 := km_Row_add hS_2
  have hT2 := km_TS_addCut_16 h
  refine x_callVvM (q := (RX6, TX6, 4)) (As := [.int x2]) (rest := []) C w (k_Row_add l D T ρ g H.size S obC31 hS_2) vX9_159 (hRK (by decide) (by decide)) obC31 (by decide) rfl rfl rfl hl.1 (Nat.le_of_ble_eq_true rfl) (hcM hm hkn hk1 hT2) dX9_addCut_13 (fun ρ1 H locs hag w => ?_)
  replace ha := ha.trans hag
  rw [← hag 7 (by decide)] at hl
  refine W.widen (k := kap S_2 - kap S0) (n := 2 * (kap S_2 - kap S0)) (by omega) (by omega) ?_
  exact w_TS_addCut_16 C hr hk ha (by omega) w (lv_sub hl [] rfl) h
set_option maxRecDepth 100000 in
set_option maxHeartbeats 4000000 in
theorem w_TS_addCut_0 {g : Nat} {S : St} {x1 : Int32} {x2 : Int32} (C : CallFix p m c cX9_addCut 3 s args tb RX9) (hr : meth.sig.returnType = none) (hk : meth.locks = false) {S' : St} (ha : Ag ρ0 ρ) (hm : kap S0 ≤ kap S) (w : Wn Yc D T ρ S A s H locs) (hl : lv_has ls 3 [(0, .ref (ρ 7)), (1, .int x1), (2, .int x2)]) (h : m_TS_addCut g S x1 x2 = some S') : W p l e (rmK 3 69 (kap S' - kap S0)) s m args below meth c H locs (kap S - kap S0) (2 * (kap S - kap S0)) (MQ below (QvM D T ρ0 A S') args s (kap S' - kap S0) (2 * (kap S' - kap S0)) A) (F0 m 0 ls []) := by
  have hT := km_TS_addCut h
  unfold m_TS_addCut at h
  have nn : nq S S := nq_rf
  refine lv_aload_n C.1 C.2.1 dX9_addCut_0 rfl (lv_at hl 0 rfl) ?_
  refine x_getC C w 30 fX9_14 obC7 rfl dX9_addCut_1 ?_
  refine lv_iload_n C.1 C.2.1 dX9_addCut_4 rfl (lv_at hl 1 rfl) ?_
  obtain ⟨S_1, hS_1, h⟩ := bnd h
  have hkn := nq_kap nn
  have hk1 := km_Row_add hS_1
  have hT2 := km_TS_addCut_8 h
  refine x_callVvM (q := (RX6, TX6, 4)) (As := [.int x1]) (rest := []) C w (k_Row_add l D T ρ g H.size S obC30 hS_1) vX9_159 (hRK (by decide) (by decide)) obC30 (by decide) rfl rfl rfl hl.1 (Nat.le_of_ble_eq_true rfl) (hcM hm hkn hk1 hT2) dX9_addCut_5 (fun ρ1 H locs hag w => ?_)
  replace ha := ha.trans hag
  rw [← hag 7 (by decide)] at hl
  refine W.widen (k := kap S_1 - kap S0) (n := 2 * (kap S_1 - kap S0)) (by omega) (by omega) ?_
  exact w_TS_addCut_8 C hr hk ha (by omega) w (lv_sub hl [0, 2] rfl) h
end S_TS_addCut
set_option maxRecDepth 100000 in
theorem k_TS_addCut (l : Launch) (D : va_G) (T : Cy) (ρ : Nat → Nat) (g sz : Nat) (S : St) {x1 : Int32} {x2 : Int32} {S' : St} (h : m_TS_addCut g S x1 x2 = some S') : MvM l D T ρ yX9_addCut cX9_addCut 3 none 3 69 S S' [.ref (ρ 7), .int x1, .int x2] sz :=
  x_inR (by decide) (Nat.le_of_ble_eq_true rfl) (fun p e s m below meth c ls C hr hk w hl => W.widen (Nat.zero_le _) (Nat.zero_le _) (w_TS_addCut_0 C hr hk Ag.rf (Nat.le_refl _) w hl h))

theorem dX9_takeParts_0 : decode cX9_takeParts 0 = .ok (.aload_n 0, 1) := by decide +kernel
theorem dX9_takeParts_1 : decode cX9_takeParts 1 = .ok (.getfield 14, 3) := by decide +kernel
theorem dX9_takeParts_4 : decode cX9_takeParts 4 = .ok (.getfield 105, 3) := by decide +kernel
theorem dX9_takeParts_7 : decode cX9_takeParts 7 = .ok (.bipush 24, 2) := by decide +kernel
theorem dX9_takeParts_9 : decode cX9_takeParts 9 = .ok (.if_icmp .le 5, 3) := by decide +kernel
theorem dX9_takeParts_12 : decode cX9_takeParts 12 = .ok (.iconst 5, 1) := by decide +kernel
theorem dX9_takeParts_13 : decode cX9_takeParts 13 = .ok (.ireturn, 1) := by decide +kernel
theorem dX9_takeParts_14 : decode cX9_takeParts 14 = .ok (.aload_n 0, 1) := by decide +kernel
theorem dX9_takeParts_15 : decode cX9_takeParts 15 = .ok (.getfield 41, 3) := by decide +kernel
theorem dX9_takeParts_18 : decode cX9_takeParts 18 = .ok (.invokevirtual 46, 3) := by decide +kernel
theorem dX9_takeParts_21 : decode cX9_takeParts 21 = .ok (.aload_n 0, 1) := by decide +kernel
theorem dX9_takeParts_22 : decode cX9_takeParts 22 = .ok (.getfield 33, 3) := by decide +kernel
theorem dX9_takeParts_25 : decode cX9_takeParts 25 = .ok (.iload_n 1, 1) := by decide +kernel
theorem dX9_takeParts_26 : decode cX9_takeParts 26 = .ok (.invokevirtual 171, 3) := by decide +kernel
theorem dX9_takeParts_29 : decode cX9_takeParts 29 = .ok (.istore_n 2, 1) := by decide +kernel
theorem dX9_takeParts_30 : decode cX9_takeParts 30 = .ok (.iconst 0, 1) := by decide +kernel
theorem dX9_takeParts_31 : decode cX9_takeParts 31 = .ok (.istore_n 3, 1) := by decide +kernel
theorem dX9_takeParts_32 : decode cX9_takeParts 32 = .ok (.iload_n 3, 1) := by decide +kernel
theorem dX9_takeParts_33 : decode cX9_takeParts 33 = .ok (.aload_n 0, 1) := by decide +kernel
theorem dX9_takeParts_34 : decode cX9_takeParts 34 = .ok (.getfield 14, 3) := by decide +kernel
theorem dX9_takeParts_37 : decode cX9_takeParts 37 = .ok (.getfield 105, 3) := by decide +kernel
theorem dX9_takeParts_40 : decode cX9_takeParts 40 = .ok (.if_icmp .ge 77, 3) := by decide +kernel
theorem dX9_takeParts_43 : decode cX9_takeParts 43 = .ok (.aload_n 0, 1) := by decide +kernel
theorem dX9_takeParts_44 : decode cX9_takeParts 44 = .ok (.getfield 14, 3) := by decide +kernel
theorem dX9_takeParts_47 : decode cX9_takeParts 47 = .ok (.iload_n 3, 1) := by decide +kernel
theorem dX9_takeParts_48 : decode cX9_takeParts 48 = .ok (.invokevirtual 182, 3) := by decide +kernel
theorem dX9_takeParts_51 : decode cX9_takeParts 51 = .ok (.istore 4, 2) := by decide +kernel
theorem dX9_takeParts_53 : decode cX9_takeParts 53 = .ok (.aload_n 0, 1) := by decide +kernel
theorem dX9_takeParts_54 : decode cX9_takeParts 54 = .ok (.getfield 20, 3) := by decide +kernel
theorem dX9_takeParts_57 : decode cX9_takeParts 57 = .ok (.iload_n 3, 1) := by decide +kernel
theorem dX9_takeParts_58 : decode cX9_takeParts 58 = .ok (.invokevirtual 182, 3) := by decide +kernel
theorem dX9_takeParts_61 : decode cX9_takeParts 61 = .ok (.istore 5, 2) := by decide +kernel
theorem dX9_takeParts_63 : decode cX9_takeParts 63 = .ok (.aload_n 0, 1) := by decide +kernel
theorem dX9_takeParts_64 : decode cX9_takeParts 64 = .ok (.getfield 37, 3) := by decide +kernel
theorem dX9_takeParts_67 : decode cX9_takeParts 67 = .ok (.invokevirtual 46, 3) := by decide +kernel
theorem dX9_takeParts_70 : decode cX9_takeParts 70 = .ok (.aload_n 0, 1) := by decide +kernel
theorem dX9_takeParts_71 : decode cX9_takeParts 71 = .ok (.iload_n 1, 1) := by decide +kernel
theorem dX9_takeParts_72 : decode cX9_takeParts 72 = .ok (.iload 4, 2) := by decide +kernel
theorem dX9_takeParts_74 : decode cX9_takeParts 74 = .ok (.iload 5, 2) := by decide +kernel
theorem dX9_takeParts_76 : decode cX9_takeParts 76 = .ok (.invokevirtual 178, 3) := by decide +kernel
theorem dX9_takeParts_79 : decode cX9_takeParts 79 = .ok (.aload_n 0, 1) := by decide +kernel
theorem dX9_takeParts_80 : decode cX9_takeParts 80 = .ok (.getfield 41, 3) := by decide +kernel
theorem dX9_takeParts_83 : decode cX9_takeParts 83 = .ok (.iload 5, 2) := by decide +kernel
theorem dX9_takeParts_85 : decode cX9_takeParts 85 = .ok (.iload 4, 2) := by decide +kernel
theorem dX9_takeParts_87 : decode cX9_takeParts 87 = .ok (.isub, 1) := by decide +kernel
theorem dX9_takeParts_88 : decode cX9_takeParts 88 = .ok (.iload_n 2, 1) := by decide +kernel
theorem dX9_takeParts_89 : decode cX9_takeParts 89 = .ok (.if_icmp .ne 7, 3) := by decide +kernel
theorem dX9_takeParts_92 : decode cX9_takeParts 92 = .ok (.iload_n 1, 1) := by decide +kernel
theorem dX9_takeParts_93 : decode cX9_takeParts 93 = .ok (.goto 15, 3) := by decide +kernel
theorem dX9_takeParts_96 : decode cX9_takeParts 96 = .ok (.aload_n 0, 1) := by decide +kernel
theorem dX9_takeParts_97 : decode cX9_takeParts 97 = .ok (.getfield 33, 3) := by decide +kernel
theorem dX9_takeParts_100 : decode cX9_takeParts 100 = .ok (.aload_n 0, 1) := by decide +kernel
theorem dX9_takeParts_101 : decode cX9_takeParts 101 = .ok (.getfield 37, 3) := by decide +kernel
theorem dX9_takeParts_104 : decode cX9_takeParts 104 = .ok (.iconst 0, 1) := by decide +kernel
theorem dX9_takeParts_105 : decode cX9_takeParts 105 = .ok (.invokevirtual 67, 3) := by decide +kernel
theorem dX9_takeParts_108 : decode cX9_takeParts 108 = .ok (.invokevirtual 159, 3) := by decide +kernel
theorem dX9_takeParts_111 : decode cX9_takeParts 111 = .ok (.iinc 3 1, 3) := by decide +kernel
theorem dX9_takeParts_114 : decode cX9_takeParts 114 = .ok (.goto (-82), 3) := by decide +kernel
theorem dX9_takeParts_117 : decode cX9_takeParts 117 = .ok (.iconst 0, 1) := by decide +kernel
theorem dX9_takeParts_118 : decode cX9_takeParts 118 = .ok (.ireturn, 1) := by decide +kernel
def m_TS_takeParts_111 (g : Nat) (k32 : St → Int32 → Int32 → Int32 → Option (St × Int32)) (S : St) (x1 : Int32) (x2 : Int32) (x3 : Int32) : Option (St × Int32) :=
lt (x3 + (1 : Int32)) fun x3_10 =>
k32 S x1 x2 x3_10
def m_TS_takeParts_108 (g : Nat) (k32 : St → Int32 → Int32 → Int32 → Option (St × Int32)) (S : St) (x1 : Int32) (x2 : Int32) (x3 : Int32) (y1 : Int32) : Option (St × Int32) :=
(m_Row_add g S 22 y1).bind fun S_9 =>
m_TS_takeParts_111 g k32 S_9 x1 x2 x3
def m_TS_takeParts_79 (g : Nat) (k32 : St → Int32 → Int32 → Int32 → Option (St × Int32)) (S : St) (x1 : Int32) (x2 : Int32) (x3 : Int32) (x4 : Int32) (x5 : Int32) : Option (St × Int32) :=
if (x5 - x4) = x2 then (
  m_TS_takeParts_108 g k32 S x1 x2 x3 x1
) else (
  (m_Tx_make g S 23 (0 : Int32)).bind fun (S_7, v_8) =>
  m_TS_takeParts_108 g k32 S_7 x1 x2 x3 v_8
)
def b_TS_takeParts_32 (g : Nat) (k32 : St → Int32 → Int32 → Int32 → Option (St × Int32)) (S : St) (x1 : Int32) (x2 : Int32) (x3 : Int32) : Option (St × Int32) :=
if (gI S 30 2) ≤ x3 then (
  some (S, (0 : Int32))
) else (
  (m_Row_at g S 30 x3).bind fun v_3 =>
  (m_Row_at g S 31 x3).bind fun v_4 =>
  (m_Row_clear g S 23).bind fun S_5 =>
  (m_TS_addStretch g S_5 x1 v_3 v_4).bind fun S_6 =>
  m_TS_takeParts_79 g k32 S_6 x1 x2 x3 v_3 v_4
)
def m_TS_takeParts_32 (g : Nat) : Nat → St → Int32 → Int32 → Int32 → Option (St × Int32)
  | 0, _, _, _, _ => none
  | n + 1, S, x1, x2, x3 => b_TS_takeParts_32 g (m_TS_takeParts_32 g n) S x1 x2 x3
def m_TS_takeParts (g : Nat) (S : St) (x1 : Int32) : Option (St × Int32) :=
if (gI S 30 2) ≤ (24 : Int32) then (
  (m_Row_clear g S 22).bind fun S_1 =>
  (m_Tx_sizeOf g S_1 x1).bind fun v_2 =>
  m_TS_takeParts_32 g g S_1 x1 v_2 (0 : Int32)
) else (
  some (S, (5 : Int32))
)
theorem km_TS_takeParts_111 {g : Nat} {S : St} {x1 : Int32} {x2 : Int32} {x3 : Int32} {S' : St} {r : Int32} {k32 : St → Int32 → Int32 → Int32 → Option (St × Int32)} (km32 : ∀ (S : St) (x1 : Int32) (x2 : Int32) (x3 : Int32), k32 S x1 x2 x3 = some (S', r) → kap S ≤ kap S') (h : m_TS_takeParts_111 g k32 S x1 x2 x3 = some (S', r)) : kap S ≤ kap S' := by
  unfold m_TS_takeParts_111 at h
  have nn : nq S S := nq_rf
  obtain ⟨x3_10, ex3_10, h⟩ := lt_e h
  have hkn := nq_kap nn
  have h2 := km32 _ _ _ _ h
  omega
theorem km_TS_takeParts_108 {g : Nat} {S : St} {x1 : Int32} {x2 : Int32} {x3 : Int32} {y1 : Int32} {S' : St} {r : Int32} {k32 : St → Int32 → Int32 → Int32 → Option (St × Int32)} (km32 : ∀ (S : St) (x1 : Int32) (x2 : Int32) (x3 : Int32), k32 S x1 x2 x3 = some (S', r) → kap S ≤ kap S') (h : m_TS_takeParts_108 g k32 S x1 x2 x3 y1 = some (S', r)) : kap S ≤ kap S' := by
  unfold m_TS_takeParts_108 at h
  have nn : nq S S := nq_rf
  obtain ⟨S_9, hS_9, h⟩ := bnd h
  have hk1 := km_Row_add hS_9
  have hkn := nq_kap nn
  have h2 := km_TS_takeParts_111 km32 h
  omega
theorem km_TS_takeParts_79 {g : Nat} {S : St} {x1 : Int32} {x2 : Int32} {x3 : Int32} {x4 : Int32} {x5 : Int32} {S' : St} {r : Int32} {k32 : St → Int32 → Int32 → Int32 → Option (St × Int32)} (km32 : ∀ (S : St) (x1 : Int32) (x2 : Int32) (x3 : Int32), k32 S x1 x2 x3 = some (S', r) → kap S ≤ kap S') (h : m_TS_takeParts_79 g k32 S x1 x2 x3 x4 x5 = some (S', r)) : kap S ≤ kap S' := by
  unfold m_TS_takeParts_79 at h
  have nn : nq S S := nq_rf
  by_cases hc1 : (x5 - x4) = x2
  · replace h := ift hc1 h
    have hkn := nq_kap nn
    have h2 := km_TS_takeParts_108 km32 h
    omega
  · replace h := iff0 hc1 h
    obtain ⟨⟨S_7, v_8⟩, hv_8, h⟩ := bnd h
    have hk1 := km_Tx_make hv_8
    have hkn := nq_kap nn
    have h2 := km_TS_takeParts_108 km32 h
    omega
theorem kmb_TS_takeParts_32 {g : Nat} {S : St} {x1 : Int32} {x2 : Int32} {x3 : Int32} {S' : St} {r : Int32} {k32 : St → Int32 → Int32 → Int32 → Option (St × Int32)} (km32 : ∀ (S : St) (x1 : Int32) (x2 : Int32) (x3 : Int32), k32 S x1 x2 x3 = some (S', r) → kap S ≤ kap S') (h : b_TS_takeParts_32 g k32 S x1 x2 x3 = some (S', r)) : kap S ≤ kap S' := by
  unfold b_TS_takeParts_32 at h
  have nn : nq S S := nq_rf
  by_cases hc1 : (gI S 30 2) ≤ x3
  · replace h := ift hc1 h
    obtain ⟨rfl, rfl⟩ := prI h
    have hkn := nq_kap nn
    omega
  · replace h := iff0 hc1 h
    obtain ⟨v_3, hv_3, h⟩ := bnd h
    obtain ⟨v_4, hv_4, h⟩ := bnd h
    obtain ⟨S_5, hS_5, h⟩ := bnd h
    replace nn : nq S_5 S := nq_tr (kq_Row_clear hS_5) nn
    obtain ⟨S_6, hS_6, h⟩ := bnd h
    have hk1 := km_TS_addStretch hS_6
    have hkn := nq_kap nn
    have h2 := km_TS_takeParts_79 km32 h
    omega
theorem km_TS_takeParts_32 {g : Nat} {S' : St} {r : Int32} (n : Nat) : ∀ (S : St) (x1 : Int32) (x2 : Int32) (x3 : Int32), m_TS_takeParts_32 g n S x1 x2 x3 = some (S', r) → kap S ≤ kap S' := by
  induction n with
  | zero => intro S x1 x2 x3 h; exact absurd h (fun q => by cases q)
  | succ n ih => intro S x1 x2 x3 h; exact kmb_TS_takeParts_32 ih h
theorem km_TS_takeParts {g : Nat} {S : St} {x1 : Int32} {S' : St} {r : Int32} (h : m_TS_takeParts g S x1 = some (S', r)) : kap S ≤ kap S' := by
  unfold m_TS_takeParts at h
  have nn : nq S S := nq_rf
  by_cases hc1 : (gI S 30 2) ≤ (24 : Int32)
  · replace h := ift hc1 h
    obtain ⟨S_1, hS_1, h⟩ := bnd h
    replace nn : nq S_1 S := nq_tr (kq_Row_clear hS_1) nn
    obtain ⟨v_2, hv_2, h⟩ := bnd h
    have hkn := nq_kap nn
    have h2 := km_TS_takeParts_32 g _ _ _ _ h
    omega
  · replace h := iff0 hc1 h
    obtain ⟨rfl, rfl⟩ := prI h
    have hkn := nq_kap nn
    omega
section S_TS_takeParts
variable {p : Program} {l : Launch} {e : Env} {s : State} {m : MethodId} {args : Array Value} {below : List Frame} {meth : Method} {c : Code} {H : Heap} {locs : List Loc} {ls : Array Slot} {D : va_G} {T : Cy} {ρ ρ0 : Nat → Nat} {S0 : St} {A : Nat → Prop}
set_option maxRecDepth 100000 in
set_option maxHeartbeats 4000000 in
theorem w_TS_takeParts_111 {g : Nat} {S : St} {x1 : Int32} {x2 : Int32} {x3 : Int32} (C : CallFix p m c cX9_takeParts 6 s args tb RX9) (hr : meth.sig.returnType = (some .int)) (hk : meth.locks = false) {S' : St} {r : Int32} {k32 : St → Int32 → Int32 → Int32 → Option (St × Int32)} (kk32 : ∀ (ρ : Nat → Nat) (S : St) (x1 : Int32) (x2 : Int32) (x3 : Int32) (H : Heap) (locs : List Loc) (ls : Array Slot), Ag ρ0 ρ → kap S0 ≤ kap S → Wn Yc D T ρ S A s H locs → lv_has ls 6 [(0, .ref (ρ 7)), (1, .int x1), (2, .int x2), (3, .int x3)] → k32 S x1 x2 x3 = some (S', r) → W p l e (rmK 4 97 (kap S' - kap S0)) s m args below meth c H locs (kap S - kap S0) (2 * (kap S - kap S0)) (MQ below (QiM D T ρ0 A S' r) args s (kap S' - kap S0) (2 * (kap S' - kap S0)) A) (F0 m 32 ls [])) (km32 : ∀ (S : St) (x1 : Int32) (x2 : Int32) (x3 : Int32), k32 S x1 x2 x3 = some (S', r) → kap S ≤ kap S') (ha : Ag ρ0 ρ) (hm : kap S0 ≤ kap S) (w : Wn Yc D T ρ S A s H locs) (hl : lv_has ls 6 [(0, .ref (ρ 7)), (1, .int x1), (2, .int x2), (3, .int x3)]) (h : m_TS_takeParts_111 g k32 S x1 x2 x3 = some (S', r)) : W p l e (rmK 4 97 (kap S' - kap S0)) s m args below meth c H locs (kap S - kap S0) (2 * (kap S - kap S0)) (MQ below (QiM D T ρ0 A S' r) args s (kap S' - kap S0) (2 * (kap S' - kap S0)) A) (F0 m 111 ls []) := by
  have hT := km_TS_takeParts_111 km32 h
  unfold m_TS_takeParts_111 at h
  have nn : nq S S := nq_rf
  obtain ⟨x3_10, ex3_10, h⟩ := lt_e h
  refine lv_iinc (v := x3_10) (lv' := [(3, .int x3_10), (0, .ref (ρ 7)), (1, .int x1), (2, .int x2)]) C.1 C.2.1 dX9_takeParts_111 hl (k := 3) rfl (by rw [ex3_10]; rfl) (by decide) rfl (fun ls hl => ?_)
  refine lv_goto (tgt := 32) C.1 C.2.1 dX9_takeParts_114 (by decide) ?_
  have hkn := nq_kap nn
  refine W.widen (k := kap S - kap S0) (n := 2 * (kap S - kap S0)) (by omega) (by omega) ?_
  exact kk32 _ _ _ _ _ _ _ _ ha (by omega) w (lv_sub hl [1, 2, 3, 0] rfl) h
set_option maxRecDepth 100000 in
set_option maxHeartbeats 4000000 in
theorem w_TS_takeParts_108 {g : Nat} {S : St} {x1 : Int32} {x2 : Int32} {x3 : Int32} {y1 : Int32} (C : CallFix p m c cX9_takeParts 6 s args tb RX9) (hr : meth.sig.returnType = (some .int)) (hk : meth.locks = false) {S' : St} {r : Int32} {k32 : St → Int32 → Int32 → Int32 → Option (St × Int32)} (kk32 : ∀ (ρ : Nat → Nat) (S : St) (x1 : Int32) (x2 : Int32) (x3 : Int32) (H : Heap) (locs : List Loc) (ls : Array Slot), Ag ρ0 ρ → kap S0 ≤ kap S → Wn Yc D T ρ S A s H locs → lv_has ls 6 [(0, .ref (ρ 7)), (1, .int x1), (2, .int x2), (3, .int x3)] → k32 S x1 x2 x3 = some (S', r) → W p l e (rmK 4 97 (kap S' - kap S0)) s m args below meth c H locs (kap S - kap S0) (2 * (kap S - kap S0)) (MQ below (QiM D T ρ0 A S' r) args s (kap S' - kap S0) (2 * (kap S' - kap S0)) A) (F0 m 32 ls [])) (km32 : ∀ (S : St) (x1 : Int32) (x2 : Int32) (x3 : Int32), k32 S x1 x2 x3 = some (S', r) → kap S ≤ kap S') (ha : Ag ρ0 ρ) (hm : kap S0 ≤ kap S) (w : Wn Yc D T ρ S A s H locs) (hl : lv_has ls 6 [(0, .ref (ρ 7)), (1, .int x1), (2, .int x2), (3, .int x3)]) (h : m_TS_takeParts_108 g k32 S x1 x2 x3 y1 = some (S', r)) : W p l e (rmK 4 97 (kap S' - kap S0)) s m args below meth c H locs (kap S - kap S0) (2 * (kap S - kap S0)) (MQ below (QiM D T ρ0 A S' r) args s (kap S' - kap S0) (2 * (kap S' - kap S0)) A) (F0 m 108 ls [.int y1, .ref (ρ 22)]) := by
  have hT := km_TS_takeParts_108 km32 h
  unfold m_TS_takeParts_108 at h
  have nn : nq S S := nq_rf
  obtain ⟨S_9, hS_9, h⟩ := bnd h
  have hkn := nq_kap nn
  have hk1 := km_Row_add hS_9
  have hT2 := km_TS_takeParts_111 km32 h
  refine x_callVvM (q := (RX6, TX6, 4)) (As := [.int y1]) (rest := []) C w (k_Row_add l D T ρ g H.size S obC22 hS_9) vX9_159 (hRK (by decide) (by decide)) obC22 (by decide) rfl rfl rfl hl.1 (Nat.le_of_ble_eq_true rfl) (hcM hm hkn hk1 hT2) dX9_takeParts_108 (fun ρ1 H locs hag w => ?_)
  replace ha := ha.trans hag
  rw [← hag 7 (by decide)] at hl
  refine W.widen (k := kap S_9 - kap S0) (n := 2 * (kap S_9 - kap S0)) (by omega) (by omega) ?_
  exact w_TS_takeParts_111 C hr hk kk32 km32 ha (by omega) w (lv_sub hl [0, 1, 2, 3] rfl) h
set_option maxRecDepth 100000 in
set_option maxHeartbeats 4000000 in
theorem w_TS_takeParts_79 {g : Nat} {S : St} {x1 : Int32} {x2 : Int32} {x3 : Int32} {x4 : Int32} {x5 : Int32} (C : CallFix p m c cX9_takeParts 6 s args tb RX9) (hr : meth.sig.returnType = (some .int)) (hk : meth.locks = false) {S' : St} {r : Int32} {k32 : St → Int32 → Int32 → Int32 → Option (St × Int32)} (kk32 : ∀ (ρ : Nat → Nat) (S : St) (x1 : Int32) (x2 : Int32) (x3 : Int32) (H : Heap) (locs : List Loc) (ls : Array Slot), Ag ρ0 ρ → kap S0 ≤ kap S → Wn Yc D T ρ S A s H locs → lv_has ls 6 [(0, .ref (ρ 7)), (1, .int x1), (2, .int x2), (3, .int x3)] → k32 S x1 x2 x3 = some (S', r) → W p l e (rmK 4 97 (kap S' - kap S0)) s m args below meth c H locs (kap S - kap S0) (2 * (kap S - kap S0)) (MQ below (QiM D T ρ0 A S' r) args s (kap S' - kap S0) (2 * (kap S' - kap S0)) A) (F0 m 32 ls [])) (km32 : ∀ (S : St) (x1 : Int32) (x2 : Int32) (x3 : Int32), k32 S x1 x2 x3 = some (S', r) → kap S ≤ kap S') (ha : Ag ρ0 ρ) (hm : kap S0 ≤ kap S) (w : Wn Yc D T ρ S A s H locs) (hl : lv_has ls 6 [(0, .ref (ρ 7)), (1, .int x1), (2, .int x2), (3, .int x3), (4, .int x4), (5, .int x5)]) (h : m_TS_takeParts_79 g k32 S x1 x2 x3 x4 x5 = some (S', r)) : W p l e (rmK 4 97 (kap S' - kap S0)) s m args below meth c H locs (kap S - kap S0) (2 * (kap S - kap S0)) (MQ below (QiM D T ρ0 A S' r) args s (kap S' - kap S0) (2 * (kap S' - kap S0)) A) (F0 m 79 ls []) := by
  have hT := km_TS_takeParts_79 km32 h
  unfold m_TS_takeParts_79 at h
  have nn : nq S S := nq_rf
  refine lv_aload_n C.1 C.2.1 dX9_takeParts_79 rfl (lv_at hl 0 rfl) ?_
  refine x_getC C w 22 fX9_41 obC7 rfl dX9_takeParts_80 ?_
  refine lv_iload C.1 C.2.1 dX9_takeParts_83 (lv_at hl 5 rfl) ?_
  refine lv_iload C.1 C.2.1 dX9_takeParts_85 (lv_at hl 4 rfl) ?_
  refine lv_isub C.1 C.2.1 dX9_takeParts_87 ?_
  refine lv_iload_n C.1 C.2.1 dX9_takeParts_88 rfl (lv_at hl 2 rfl) ?_
  refine lv_icmp_ne (tgt := 96) C.1 C.2.1 dX9_takeParts_89 (by decide) (fun hc => ?_) (fun hc => ?_)
  · replace h := iff0 hc h
    refine lv_aload_n C.1 C.2.1 dX9_takeParts_96 rfl (lv_at hl 0 rfl) ?_
    refine x_getC C w 5 fX9_33 obC7 rfl dX9_takeParts_97 ?_
    refine lv_aload_n C.1 C.2.1 dX9_takeParts_100 rfl (lv_at hl 0 rfl) ?_
    refine x_getC C w 23 fX9_37 obC7 rfl dX9_takeParts_101 ?_
    refine lv_iconst (v := 0) C.1 C.2.1 dX9_takeParts_104 (by decide) ?_
    obtain ⟨⟨S_7, v_8⟩, hv_8, h⟩ := bnd h
    have hkn := nq_kap nn
    have hk1 := km_Tx_make hv_8
    have hT2 := km_TS_takeParts_108 km32 h
    refine x_callViM (q := (RX10, TX10, 5)) (As := [.ref (ρ 23), .int (0 : Int32)]) (rest := [.ref (ρ 22)]) C w (k_Tx_make l D T ρ g H.size S obC23 hv_8) vX9_67 (hRK (by decide) (by decide)) obC5 (by decide) rfl rfl rfl hl.1 (Nat.le_of_ble_eq_true rfl) (hcM hm hkn hk1 hT2) dX9_takeParts_105 (fun ρ1 H locs hag w => ?_)
    replace ha := ha.trans hag
    rw [← hag 7 (by decide)] at hl
    rw [← hag 22 (by decide)]
    refine W.widen (k := kap S_7 - kap S0) (n := 2 * (kap S_7 - kap S0)) (by omega) (by omega) ?_
    exact w_TS_takeParts_108 C hr hk kk32 km32 ha (by omega) w (lv_sub hl [0, 1, 2, 3] rfl) h
  · replace h := ift hc h
    refine lv_iload_n C.1 C.2.1 dX9_takeParts_92 rfl (lv_at hl 1 rfl) ?_
    refine lv_goto (tgt := 108) C.1 C.2.1 dX9_takeParts_93 (by decide) ?_
    have hkn := nq_kap nn
    refine W.widen (k := kap S - kap S0) (n := 2 * (kap S - kap S0)) (by omega) (by omega) ?_
    exact w_TS_takeParts_108 C hr hk kk32 km32 ha (by omega) w (lv_sub hl [0, 1, 2, 3] rfl) h
set_option maxRecDepth 100000 in
set_option maxHeartbeats 4000000 in
theorem wb_TS_takeParts_32 {g : Nat} {S : St} {x1 : Int32} {x2 : Int32} {x3 : Int32} (C : CallFix p m c cX9_takeParts 6 s args tb RX9) (hr : meth.sig.returnType = (some .int)) (hk : meth.locks = false) {S' : St} {r : Int32} {k32 : St → Int32 → Int32 → Int32 → Option (St × Int32)} (kk32 : ∀ (ρ : Nat → Nat) (S : St) (x1 : Int32) (x2 : Int32) (x3 : Int32) (H : Heap) (locs : List Loc) (ls : Array Slot), Ag ρ0 ρ → kap S0 ≤ kap S → Wn Yc D T ρ S A s H locs → lv_has ls 6 [(0, .ref (ρ 7)), (1, .int x1), (2, .int x2), (3, .int x3)] → k32 S x1 x2 x3 = some (S', r) → W p l e (rmK 4 97 (kap S' - kap S0)) s m args below meth c H locs (kap S - kap S0) (2 * (kap S - kap S0)) (MQ below (QiM D T ρ0 A S' r) args s (kap S' - kap S0) (2 * (kap S' - kap S0)) A) (F0 m 32 ls [])) (km32 : ∀ (S : St) (x1 : Int32) (x2 : Int32) (x3 : Int32), k32 S x1 x2 x3 = some (S', r) → kap S ≤ kap S') (ha : Ag ρ0 ρ) (hm : kap S0 ≤ kap S) (w : Wn Yc D T ρ S A s H locs) (hl : lv_has ls 6 [(0, .ref (ρ 7)), (1, .int x1), (2, .int x2), (3, .int x3)]) (h : b_TS_takeParts_32 g k32 S x1 x2 x3 = some (S', r)) : W p l e (rmK 4 97 (kap S' - kap S0)) s m args below meth c H locs (kap S - kap S0) (2 * (kap S - kap S0)) (MQ below (QiM D T ρ0 A S' r) args s (kap S' - kap S0) (2 * (kap S' - kap S0)) A) (F0 m 32 ls []) := by
  have hT := kmb_TS_takeParts_32 km32 h
  unfold b_TS_takeParts_32 at h
  have nn : nq S S := nq_rf
  refine lv_iload_n C.1 C.2.1 dX9_takeParts_32 rfl (lv_at hl 3 rfl) ?_
  refine lv_aload_n C.1 C.2.1 dX9_takeParts_33 rfl (lv_at hl 0 rfl) ?_
  refine x_getC C w 30 fX9_14 obC7 rfl dX9_takeParts_34 ?_
  refine x_getI C w fX9_105 obC30 dX9_takeParts_37 ?_
  refine lv_icmp_ge (tgt := 117) C.1 C.2.1 dX9_takeParts_40 (by decide) (fun hc => ?_) (fun hc => ?_)
  · replace h := ift hc h
    refine lv_iconst (v := 0) C.1 C.2.1 dX9_takeParts_117 (by decide) ?_
    obtain ⟨rfl, rfl⟩ := prI h
    exact x_iretM C w ha hr hk dX9_takeParts_118 (by have := nq_kap nn; omega) (by have := nq_kap nn; omega)
  · replace h := iff0 hc h
    refine lv_aload_n C.1 C.2.1 dX9_takeParts_43 rfl (lv_at hl 0 rfl) ?_
    refine x_getC C w 30 fX9_14 obC7 rfl dX9_takeParts_44 ?_
    refine lv_iload_n C.1 C.2.1 dX9_takeParts_47 rfl (lv_at hl 3 rfl) ?_
    obtain ⟨v_3, hv_3, h⟩ := bnd h
    refine x_callVi (q := (RX6, TX6, 4)) (As := [.int x3]) (rest := []) C w (k_Row_at l D T ρ g H.size S obC30 hv_3) vX9_182 (hRK (by decide) (by decide)) obC30 (by decide) rfl rfl rfl hl.1 (Nat.le_of_ble_eq_true rfl) (hcK hT) dX9_takeParts_48 (fun H locs w => ?_)
    refine lv_istore (lv' := [(4, .int v_3), (0, .ref (ρ 7)), (1, .int x1), (2, .int x2), (3, .int x3)]) C.1 C.2.1 dX9_takeParts_51 hl (by decide) rfl (fun ls hl => ?_)
    refine lv_aload_n C.1 C.2.1 dX9_takeParts_53 rfl (lv_at hl 1 rfl) ?_
    refine x_getC C w 31 fX9_20 obC7 rfl dX9_takeParts_54 ?_
    refine lv_iload_n C.1 C.2.1 dX9_takeParts_57 rfl (lv_at hl 4 rfl) ?_
    obtain ⟨v_4, hv_4, h⟩ := bnd h
    refine x_callVi (q := (RX6, TX6, 4)) (As := [.int x3]) (rest := []) C w (k_Row_at l D T ρ g H.size S obC31 hv_4) vX9_182 (hRK (by decide) (by decide)) obC31 (by decide) rfl rfl rfl hl.1 (Nat.le_of_ble_eq_true rfl) (hcK hT) dX9_takeParts_58 (fun H locs w => ?_)
    refine lv_istore (lv' := [(5, .int v_4), (4, .int v_3), (0, .ref (ρ 7)), (1, .int x1), (2, .int x2), (3, .int x3)]) C.1 C.2.1 dX9_takeParts_61 hl (by decide) rfl (fun ls hl => ?_)
    refine lv_aload_n C.1 C.2.1 dX9_takeParts_63 rfl (lv_at hl 2 rfl) ?_
    refine x_getC C w 23 fX9_37 obC7 rfl dX9_takeParts_64 ?_
    obtain ⟨S_5, hS_5, h⟩ := bnd h
    replace nn : nq S_5 S := nq_tr (kq_Row_clear hS_5) nn
    refine x_callVv (q := (RX6, TX6, 4)) (As := []) (rest := []) C w (k_Row_clear l D T ρ g H.size S obC23 hS_5) vX9_46 (hRK (by decide) (by decide)) obC23 (by decide) rfl rfl rfl hl.1 (Nat.le_of_ble_eq_true rfl) (hcK hT) dX9_takeParts_67 (fun H locs w => ?_)
    refine lv_aload_n C.1 C.2.1 dX9_takeParts_70 rfl (lv_at hl 2 rfl) ?_
    refine lv_iload_n C.1 C.2.1 dX9_takeParts_71 rfl (lv_at hl 3 rfl) ?_
    refine lv_iload C.1 C.2.1 dX9_takeParts_72 (lv_at hl 1 rfl) ?_
    refine lv_iload C.1 C.2.1 dX9_takeParts_74 (lv_at hl 0 rfl) ?_
    obtain ⟨S_6, hS_6, h⟩ := bnd h
    have hkn := nq_kap nn
    have hk1 := km_TS_addStretch hS_6
    have hT2 := km_TS_takeParts_79 km32 h
    refine x_callVvM (q := (RX9, TX9, 6)) (As := [.int x1, .int v_3, .int v_4]) (rest := []) C w (k_TS_addStretch l D T ρ g H.size S_5 hS_6) vX9_178 (hRK (by decide) (by decide)) obC7 (by decide) rfl rfl rfl hl.1 (Nat.le_of_ble_eq_true rfl) (hcM hm hkn hk1 hT2) dX9_takeParts_76 (fun ρ1 H locs hag w => ?_)
    replace ha := ha.trans hag
    rw [← hag 7 (by decide)] at hl
    refine W.widen (k := kap S_6 - kap S0) (n := 2 * (kap S_6 - kap S0)) (by omega) (by omega) ?_
    exact w_TS_takeParts_79 C hr hk kk32 km32 ha (by omega) w (lv_sub hl [2, 3, 4, 5, 1, 0] rfl) h
theorem w_TS_takeParts_32 {g : Nat} (C : CallFix p m c cX9_takeParts 6 s args tb RX9) (hr : meth.sig.returnType = (some .int)) (hk : meth.locks = false) {S' : St} {r : Int32} (n : Nat) : ∀ (ρ : Nat → Nat) (S : St) (x1 : Int32) (x2 : Int32) (x3 : Int32) (H : Heap) (locs : List Loc) (ls : Array Slot), Ag ρ0 ρ → kap S0 ≤ kap S → Wn Yc D T ρ S A s H locs → lv_has ls 6 [(0, .ref (ρ 7)), (1, .int x1), (2, .int x2), (3, .int x3)] → m_TS_takeParts_32 g n S x1 x2 x3 = some (S', r) → W p l e (rmK 4 97 (kap S' - kap S0)) s m args below meth c H locs (kap S - kap S0) (2 * (kap S - kap S0)) (MQ below (QiM D T ρ0 A S' r) args s (kap S' - kap S0) (2 * (kap S' - kap S0)) A) (F0 m 32 ls []) := by
  induction n with
  | zero => intro ρ S x1 x2 x3 H locs ls ha hm w hl h; exact absurd h (fun q => by cases q)
  | succ n ih => intro ρ S x1 x2 x3 H locs ls ha hm w hl h; exact wb_TS_takeParts_32 C hr hk ih (km_TS_takeParts_32 n) ha hm w hl h
set_option maxRecDepth 100000 in
set_option maxHeartbeats 4000000 in
theorem w_TS_takeParts_0 {g : Nat} {S : St} {x1 : Int32} (C : CallFix p m c cX9_takeParts 6 s args tb RX9) (hr : meth.sig.returnType = (some .int)) (hk : meth.locks = false) {S' : St} {r : Int32} (ha : Ag ρ0 ρ) (hm : kap S0 ≤ kap S) (w : Wn Yc D T ρ S A s H locs) (hl : lv_has ls 6 [(0, .ref (ρ 7)), (1, .int x1)]) (h : m_TS_takeParts g S x1 = some (S', r)) : W p l e (rmK 4 97 (kap S' - kap S0)) s m args below meth c H locs (kap S - kap S0) (2 * (kap S - kap S0)) (MQ below (QiM D T ρ0 A S' r) args s (kap S' - kap S0) (2 * (kap S' - kap S0)) A) (F0 m 0 ls []) := by
  have hT := km_TS_takeParts h
  unfold m_TS_takeParts at h
  have nn : nq S S := nq_rf
  refine lv_aload_n C.1 C.2.1 dX9_takeParts_0 rfl (lv_at hl 0 rfl) ?_
  refine x_getC C w 30 fX9_14 obC7 rfl dX9_takeParts_1 ?_
  refine x_getI C w fX9_105 obC30 dX9_takeParts_4 ?_
  refine lv_bipush (v := 24) C.1 C.2.1 dX9_takeParts_7 (by decide) ?_
  refine lv_icmp_le (tgt := 14) C.1 C.2.1 dX9_takeParts_9 (by decide) (fun hc => ?_) (fun hc => ?_)
  · replace h := ift hc h
    refine lv_aload_n C.1 C.2.1 dX9_takeParts_14 rfl (lv_at hl 0 rfl) ?_
    refine x_getC C w 22 fX9_41 obC7 rfl dX9_takeParts_15 ?_
    obtain ⟨S_1, hS_1, h⟩ := bnd h
    replace nn : nq S_1 S := nq_tr (kq_Row_clear hS_1) nn
    refine x_callVv (q := (RX6, TX6, 4)) (As := []) (rest := []) C w (k_Row_clear l D T ρ g H.size S obC22 hS_1) vX9_46 (hRK (by decide) (by decide)) obC22 (by decide) rfl rfl rfl hl.1 (Nat.le_of_ble_eq_true rfl) (hcK hT) dX9_takeParts_18 (fun H locs w => ?_)
    refine lv_aload_n C.1 C.2.1 dX9_takeParts_21 rfl (lv_at hl 0 rfl) ?_
    refine x_getC C w 5 fX9_33 obC7 rfl dX9_takeParts_22 ?_
    refine lv_iload_n C.1 C.2.1 dX9_takeParts_25 rfl (lv_at hl 1 rfl) ?_
    obtain ⟨v_2, hv_2, h⟩ := bnd h
    refine x_callVi (q := (RX10, TX10, 5)) (As := [.int x1]) (rest := []) C w (k_Tx_sizeOf l D T ρ g H.size S_1 hv_2) vX9_171 (hRK (by decide) (by decide)) obC5 (by decide) rfl rfl rfl hl.1 (Nat.le_of_ble_eq_true rfl) (hcK hT) dX9_takeParts_26 (fun H locs w => ?_)
    refine lv_istore_n (lv' := [(2, .int v_2), (0, .ref (ρ 7)), (1, .int x1)]) C.1 C.2.1 dX9_takeParts_29 rfl hl (by decide) rfl (fun ls hl => ?_)
    refine lv_iconst (v := 0) C.1 C.2.1 dX9_takeParts_30 (by decide) ?_
    refine lv_istore_n (lv' := [(3, .int (0 : Int32)), (2, .int v_2), (0, .ref (ρ 7)), (1, .int x1)]) C.1 C.2.1 dX9_takeParts_31 rfl hl (by decide) rfl (fun ls hl => ?_)
    have hkn := nq_kap nn
    refine W.widen (k := kap S_1 - kap S0) (n := 2 * (kap S_1 - kap S0)) (by omega) (by omega) ?_
    exact w_TS_takeParts_32 C hr hk g _ _ _ _ _ _ _ _ ha (by omega) w (lv_sub hl [2, 3, 1, 0] rfl) h
  · replace h := iff0 hc h
    refine lv_iconst (v := 5) C.1 C.2.1 dX9_takeParts_12 (by decide) ?_
    obtain ⟨rfl, rfl⟩ := prI h
    exact x_iretM C w ha hr hk dX9_takeParts_13 (by have := nq_kap nn; omega) (by have := nq_kap nn; omega)
end S_TS_takeParts
set_option maxRecDepth 100000 in
theorem k_TS_takeParts (l : Launch) (D : va_G) (T : Cy) (ρ : Nat → Nat) (g sz : Nat) (S : St) {x1 : Int32} {S' : St} {r : Int32} (h : m_TS_takeParts g S x1 = some (S', r)) : MiM l D T ρ yX9_takeParts cX9_takeParts 6 (some .int) 4 97 S S' r [.ref (ρ 7), .int x1] sz :=
  x_inR (by decide) (Nat.le_of_ble_eq_true rfl) (fun p e s m below meth c ls C hr hk w hl => W.widen (Nat.zero_le _) (Nat.zero_le _) (w_TS_takeParts_0 C hr hk Ag.rf (Nat.le_refl _) w hl h))

theorem dX9_split_0 : decode cX9_split 0 = .ok (.aload_n 0, 1) := by decide +kernel
theorem dX9_split_1 : decode cX9_split 1 = .ok (.getfield 23, 3) := by decide +kernel
theorem dX9_split_4 : decode cX9_split 4 = .ok (.iconst 1, 1) := by decide +kernel
theorem dX9_split_5 : decode cX9_split 5 = .ok (.invokevirtual 119, 3) := by decide +kernel
theorem dX9_split_8 : decode cX9_split 8 = .ok (.lstore_n 2, 1) := by decide +kernel
theorem dX9_split_9 : decode cX9_split 9 = .ok (.aload_n 0, 1) := by decide +kernel
theorem dX9_split_10 : decode cX9_split 10 = .ok (.getfield 23, 3) := by decide +kernel
theorem dX9_split_13 : decode cX9_split 13 = .ok (.iconst 2, 1) := by decide +kernel
theorem dX9_split_14 : decode cX9_split 14 = .ok (.invokevirtual 119, 3) := by decide +kernel
theorem dX9_split_17 : decode cX9_split 17 = .ok (.lstore 4, 2) := by decide +kernel
theorem dX9_split_19 : decode cX9_split 19 = .ok (.lload_n 2, 1) := by decide +kernel
theorem dX9_split_20 : decode cX9_split 20 = .ok (.invokestatic 197, 3) := by decide +kernel
theorem dX9_split_23 : decode cX9_split 23 = .ok (.ifCond .ne 5, 3) := by decide +kernel
theorem dX9_split_26 : decode cX9_split 26 = .ok (.iconst 3, 1) := by decide +kernel
theorem dX9_split_27 : decode cX9_split 27 = .ok (.ireturn, 1) := by decide +kernel
theorem dX9_split_28 : decode cX9_split 28 = .ok (.aload_n 0, 1) := by decide +kernel
theorem dX9_split_29 : decode cX9_split 29 = .ok (.getfield 14, 3) := by decide +kernel
theorem dX9_split_32 : decode cX9_split 32 = .ok (.invokevirtual 46, 3) := by decide +kernel
theorem dX9_split_35 : decode cX9_split 35 = .ok (.aload_n 0, 1) := by decide +kernel
theorem dX9_split_36 : decode cX9_split 36 = .ok (.getfield 20, 3) := by decide +kernel
theorem dX9_split_39 : decode cX9_split 39 = .ok (.invokevirtual 46, 3) := by decide +kernel
theorem dX9_split_42 : decode cX9_split 42 = .ok (.iconst 0, 1) := by decide +kernel
theorem dX9_split_43 : decode cX9_split 43 = .ok (.istore 6, 2) := by decide +kernel
theorem dX9_split_45 : decode cX9_split 45 = .ok (.aload_n 0, 1) := by decide +kernel
theorem dX9_split_46 : decode cX9_split 46 = .ok (.getfield 33, 3) := by decide +kernel
theorem dX9_split_49 : decode cX9_split 49 = .ok (.iload_n 1, 1) := by decide +kernel
theorem dX9_split_50 : decode cX9_split 50 = .ok (.invokevirtual 171, 3) := by decide +kernel
theorem dX9_split_53 : decode cX9_split 53 = .ok (.istore 7, 2) := by decide +kernel
theorem dX9_split_55 : decode cX9_split 55 = .ok (.iconst 0, 1) := by decide +kernel
theorem dX9_split_56 : decode cX9_split 56 = .ok (.istore 8, 2) := by decide +kernel
theorem dX9_split_58 : decode cX9_split 58 = .ok (.iload 8, 2) := by decide +kernel
theorem dX9_split_60 : decode cX9_split 60 = .ok (.iload 7, 2) := by decide +kernel
theorem dX9_split_62 : decode cX9_split 62 = .ok (.if_icmp .ge 74, 3) := by decide +kernel
theorem dX9_split_65 : decode cX9_split 65 = .ok (.lload 4, 2) := by decide +kernel
theorem dX9_split_67 : decode cX9_split 67 = .ok (.lconst 0, 1) := by decide +kernel
theorem dX9_split_68 : decode cX9_split 68 = .ok (.lcmp, 1) := by decide +kernel
theorem dX9_split_69 : decode cX9_split 69 = .ok (.ifCond .le 19, 3) := by decide +kernel
theorem dX9_split_72 : decode cX9_split 72 = .ok (.aload_n 0, 1) := by decide +kernel
theorem dX9_split_73 : decode cX9_split 73 = .ok (.getfield 14, 3) := by decide +kernel
theorem dX9_split_76 : decode cX9_split 76 = .ok (.getfield 105, 3) := by decide +kernel
theorem dX9_split_79 : decode cX9_split 79 = .ok (.i2l, 1) := by decide +kernel
theorem dX9_split_80 : decode cX9_split 80 = .ok (.lload 4, 2) := by decide +kernel
theorem dX9_split_82 : decode cX9_split 82 = .ok (.lconst 1, 1) := by decide +kernel
theorem dX9_split_83 : decode cX9_split 83 = .ok (.lsub, 1) := by decide +kernel
theorem dX9_split_84 : decode cX9_split 84 = .ok (.lcmp, 1) := by decide +kernel
theorem dX9_split_85 : decode cX9_split 85 = .ok (.ifCond .ge 7, 3) := by decide +kernel
theorem dX9_split_88 : decode cX9_split 88 = .ok (.iconst 1, 1) := by decide +kernel
theorem dX9_split_89 : decode cX9_split 89 = .ok (.goto 4, 3) := by decide +kernel
theorem dX9_split_92 : decode cX9_split 92 = .ok (.iconst 0, 1) := by decide +kernel
theorem dX9_split_93 : decode cX9_split 93 = .ok (.istore 9, 2) := by decide +kernel
theorem dX9_split_95 : decode cX9_split 95 = .ok (.iload 9, 2) := by decide +kernel
theorem dX9_split_97 : decode cX9_split 97 = .ok (.ifCond .eq 33, 3) := by decide +kernel
theorem dX9_split_100 : decode cX9_split 100 = .ok (.aload_n 0, 1) := by decide +kernel
theorem dX9_split_101 : decode cX9_split 101 = .ok (.getfield 33, 3) := by decide +kernel
theorem dX9_split_104 : decode cX9_split 104 = .ok (.iload_n 1, 1) := by decide +kernel
theorem dX9_split_105 : decode cX9_split 105 = .ok (.iload 8, 2) := by decide +kernel
theorem dX9_split_107 : decode cX9_split 107 = .ok (.invokevirtual 205, 3) := by decide +kernel
theorem dX9_split_110 : decode cX9_split 110 = .ok (.i2l, 1) := by decide +kernel
theorem dX9_split_111 : decode cX9_split 111 = .ok (.lload_n 2, 1) := by decide +kernel
theorem dX9_split_112 : decode cX9_split 112 = .ok (.lcmp, 1) := by decide +kernel
theorem dX9_split_113 : decode cX9_split 113 = .ok (.ifCond .ne 17, 3) := by decide +kernel
theorem dX9_split_116 : decode cX9_split 116 = .ok (.aload_n 0, 1) := by decide +kernel
theorem dX9_split_117 : decode cX9_split 117 = .ok (.iload 6, 2) := by decide +kernel
theorem dX9_split_119 : decode cX9_split 119 = .ok (.iload 8, 2) := by decide +kernel
theorem dX9_split_121 : decode cX9_split 121 = .ok (.invokevirtual 226, 3) := by decide +kernel
theorem dX9_split_124 : decode cX9_split 124 = .ok (.iload 8, 2) := by decide +kernel
theorem dX9_split_126 : decode cX9_split 126 = .ok (.iconst 1, 1) := by decide +kernel
theorem dX9_split_127 : decode cX9_split 127 = .ok (.iadd, 1) := by decide +kernel
theorem dX9_split_128 : decode cX9_split 128 = .ok (.istore 6, 2) := by decide +kernel
theorem dX9_split_130 : decode cX9_split 130 = .ok (.iinc 8 1, 3) := by decide +kernel
theorem dX9_split_133 : decode cX9_split 133 = .ok (.goto (-75), 3) := by decide +kernel
theorem dX9_split_136 : decode cX9_split 136 = .ok (.aload_n 0, 1) := by decide +kernel
theorem dX9_split_137 : decode cX9_split 137 = .ok (.getfield 14, 3) := by decide +kernel
theorem dX9_split_140 : decode cX9_split 140 = .ok (.getfield 105, 3) := by decide +kernel
theorem dX9_split_143 : decode cX9_split 143 = .ok (.ifCond .le 7, 3) := by decide +kernel
theorem dX9_split_146 : decode cX9_split 146 = .ok (.iconst 1, 1) := by decide +kernel
theorem dX9_split_147 : decode cX9_split 147 = .ok (.goto 4, 3) := by decide +kernel
theorem dX9_split_150 : decode cX9_split 150 = .ok (.iconst 0, 1) := by decide +kernel
theorem dX9_split_151 : decode cX9_split 151 = .ok (.istore 8, 2) := by decide +kernel
theorem dX9_split_153 : decode cX9_split 153 = .ok (.aload_n 0, 1) := by decide +kernel
theorem dX9_split_154 : decode cX9_split 154 = .ok (.iload 6, 2) := by decide +kernel
theorem dX9_split_156 : decode cX9_split 156 = .ok (.iload 7, 2) := by decide +kernel
theorem dX9_split_158 : decode cX9_split 158 = .ok (.invokevirtual 226, 3) := by decide +kernel
theorem dX9_split_161 : decode cX9_split 161 = .ok (.lload 4, 2) := by decide +kernel
theorem dX9_split_163 : decode cX9_split 163 = .ok (.lconst 0, 1) := by decide +kernel
theorem dX9_split_164 : decode cX9_split 164 = .ok (.lcmp, 1) := by decide +kernel
theorem dX9_split_165 : decode cX9_split 165 = .ok (.ifCond .ne 12, 3) := by decide +kernel
theorem dX9_split_168 : decode cX9_split 168 = .ok (.iload 8, 2) := by decide +kernel
theorem dX9_split_170 : decode cX9_split 170 = .ok (.ifCond .eq 7, 3) := by decide +kernel
theorem dX9_split_173 : decode cX9_split 173 = .ok (.aload_n 0, 1) := by decide +kernel
theorem dX9_split_174 : decode cX9_split 174 = .ok (.invokevirtual 230, 3) := by decide +kernel
theorem dX9_split_177 : decode cX9_split 177 = .ok (.aload_n 0, 1) := by decide +kernel
theorem dX9_split_178 : decode cX9_split 178 = .ok (.iload_n 1, 1) := by decide +kernel
theorem dX9_split_179 : decode cX9_split 179 = .ok (.invokevirtual 233, 3) := by decide +kernel
theorem dX9_split_182 : decode cX9_split 182 = .ok (.ireturn, 1) := by decide +kernel
def m_TS_split_182 (g : Nat) (S : St) (y0 : Int32) : Option (St × Int32) :=
some (S, y0)
def m_TS_split_177 (g : Nat) (S : St) (x1 : Int32) : Option (St × Int32) :=
(m_TS_takeParts g S x1).bind fun (S_8, v_9) =>
m_TS_split_182 g S_8 v_9
def m_TS_split_161 (g : Nat) (S : St) (x1 : Int32) (x4 : Int64) (x8 : Int32) : Option (St × Int32) :=
if x4 = (0 : Int64) then (
  if x8 = 0 then (
    m_TS_split_177 g S x1
  ) else (
    (m_TS_dropEmptyCuts g S).bind fun S_8 =>
    m_TS_split_177 g S_8 x1
  )
) else (
  m_TS_split_177 g S x1
)
def m_TS_split_151 (g : Nat) (S : St) (x1 : Int32) (x4 : Int64) (x6 : Int32) (x7 : Int32) (y0 : Int32) : Option (St × Int32) :=
(m_TS_addCut g S x6 x7).bind fun S_7 =>
m_TS_split_161 g S_7 x1 x4 y0
def m_TS_split_124 (g : Nat) (k58 : St → Int32 → Int64 → Int64 → Int32 → Int32 → Int32 → Option (St × Int32)) (S : St) (x1 : Int32) (x2 : Int64) (x4 : Int64) (x7 : Int32) (x8 : Int32) : Option (St × Int32) :=
lt (x8 + (1 : Int32)) fun x6_11 =>
lt (x8 + (1 : Int32)) fun x8_12 =>
k58 S x1 x2 x4 x6_11 x7 x8_12
def m_TS_split_93 (g : Nat) (k58 : St → Int32 → Int64 → Int64 → Int32 → Int32 → Int32 → Option (St × Int32)) (S : St) (x1 : Int32) (x2 : Int64) (x4 : Int64) (x6 : Int32) (x7 : Int32) (x8 : Int32) (y0 : Int32) : Option (St × Int32) :=
if y0 = 0 then (
  lt (x8 + (1 : Int32)) fun x8_7 =>
  k58 S x1 x2 x4 x6 x7 x8_7
) else (
  (m_Tx_unitOf g S x1 x8).bind fun v_8 =>
  if (v_8.toInt64) = x2 then (
    (m_TS_addCut g S x6 x8).bind fun S_10 =>
    m_TS_split_124 g k58 S_10 x1 x2 x4 x7 x8
  ) else (
    lt (x8 + (1 : Int32)) fun x8_9 =>
    k58 S x1 x2 x4 x6 x7 x8_9
  )
)
def m_TS_split_88 (g : Nat) (k58 : St → Int32 → Int64 → Int64 → Int32 → Int32 → Int32 → Option (St × Int32)) (S : St) (x1 : Int32) (x2 : Int64) (x4 : Int64) (x6 : Int32) (x7 : Int32) (x8 : Int32) : Option (St × Int32) :=
m_TS_split_93 g k58 S x1 x2 x4 x6 x7 x8 (1 : Int32)
def b_TS_split_58 (g : Nat) (k58 : St → Int32 → Int64 → Int64 → Int32 → Int32 → Int32 → Option (St × Int32)) (S : St) (x1 : Int32) (x2 : Int64) (x4 : Int64) (x6 : Int32) (x7 : Int32) (x8 : Int32) : Option (St × Int32) :=
if x7 ≤ x8 then (
  if (gI S 30 2) ≤ 0 then (
    m_TS_split_151 g S x1 x4 x6 x7 (0 : Int32)
  ) else (
    m_TS_split_151 g S x1 x4 x6 x7 (1 : Int32)
  )
) else (
  if (0 : Int64) < x4 then (
    if ((gI S 30 2).toInt64) < (x4 - (1 : Int64)) then (
      m_TS_split_88 g k58 S x1 x2 x4 x6 x7 x8
    ) else (
      m_TS_split_93 g k58 S x1 x2 x4 x6 x7 x8 (0 : Int32)
    )
  ) else (
    m_TS_split_88 g k58 S x1 x2 x4 x6 x7 x8
  )
)
def m_TS_split_58 (g : Nat) : Nat → St → Int32 → Int64 → Int64 → Int32 → Int32 → Int32 → Option (St × Int32)
  | 0, _, _, _, _, _, _, _ => none
  | n + 1, S, x1, x2, x4, x6, x7, x8 => b_TS_split_58 g (m_TS_split_58 g n) S x1 x2 x4 x6 x7 x8
def m_TS_split (g : Nat) (S : St) (x1 : Int32) : Option (St × Int32) :=
(m_Bn_wholeAt g S (1 : Int32)).bind fun v_1 =>
(m_Bn_wholeAt g S (2 : Int32)).bind fun v_2 =>
(m_Lt_isUnit g v_1).bind fun v_3 =>
if v_3 = 0 then (
  some (S, (3 : Int32))
) else (
  (m_Row_clear g S 30).bind fun S_4 =>
  (m_Row_clear g S_4 31).bind fun S_5 =>
  (m_Tx_sizeOf g S_5 x1).bind fun v_6 =>
  m_TS_split_58 g g S_5 x1 v_1 v_2 (0 : Int32) v_6 (0 : Int32)
)
theorem km_TS_split_182 {g : Nat} {S : St} {y0 : Int32} {S' : St} {r : Int32} (h : m_TS_split_182 g S y0 = some (S', r)) : kap S ≤ kap S' := by
  unfold m_TS_split_182 at h
  have nn : nq S S := nq_rf
  obtain ⟨rfl, rfl⟩ := prI h
  have hkn := nq_kap nn
  omega
theorem km_TS_split_177 {g : Nat} {S : St} {x1 : Int32} {S' : St} {r : Int32} (h : m_TS_split_177 g S x1 = some (S', r)) : kap S ≤ kap S' := by
  unfold m_TS_split_177 at h
  have nn : nq S S := nq_rf
  obtain ⟨⟨S_8, v_9⟩, hv_9, h⟩ := bnd h
  have hk1 := km_TS_takeParts hv_9
  have hkn := nq_kap nn
  have h2 := km_TS_split_182 h
  omega
theorem km_TS_split_161 {g : Nat} {S : St} {x1 : Int32} {x4 : Int64} {x8 : Int32} {S' : St} {r : Int32} (h : m_TS_split_161 g S x1 x4 x8 = some (S', r)) : kap S ≤ kap S' := by
  unfold m_TS_split_161 at h
  have nn : nq S S := nq_rf
  by_cases hc1 : x4 = (0 : Int64)
  · replace h := ift hc1 h
    by_cases hc2 : x8 = 0
    · replace h := ift hc2 h
      have hkn := nq_kap nn
      have h2 := km_TS_split_177 h
      omega
    · replace h := iff0 hc2 h
      obtain ⟨S_8, hS_8, h⟩ := bnd h
      replace nn : nq S_8 S := nq_tr (kq_TS_dropEmptyCuts hS_8) nn
      have hkn := nq_kap nn
      have h2 := km_TS_split_177 h
      omega
  · replace h := iff0 hc1 h
    have hkn := nq_kap nn
    have h2 := km_TS_split_177 h
    omega
theorem km_TS_split_151 {g : Nat} {S : St} {x1 : Int32} {x4 : Int64} {x6 : Int32} {x7 : Int32} {y0 : Int32} {S' : St} {r : Int32} (h : m_TS_split_151 g S x1 x4 x6 x7 y0 = some (S', r)) : kap S ≤ kap S' := by
  unfold m_TS_split_151 at h
  have nn : nq S S := nq_rf
  obtain ⟨S_7, hS_7, h⟩ := bnd h
  have hk1 := km_TS_addCut hS_7
  have hkn := nq_kap nn
  have h2 := km_TS_split_161 h
  omega
theorem km_TS_split_124 {g : Nat} {S : St} {x1 : Int32} {x2 : Int64} {x4 : Int64} {x7 : Int32} {x8 : Int32} {S' : St} {r : Int32} {k58 : St → Int32 → Int64 → Int64 → Int32 → Int32 → Int32 → Option (St × Int32)} (km58 : ∀ (S : St) (x1 : Int32) (x2 : Int64) (x4 : Int64) (x6 : Int32) (x7 : Int32) (x8 : Int32), k58 S x1 x2 x4 x6 x7 x8 = some (S', r) → kap S ≤ kap S') (h : m_TS_split_124 g k58 S x1 x2 x4 x7 x8 = some (S', r)) : kap S ≤ kap S' := by
  unfold m_TS_split_124 at h
  have nn : nq S S := nq_rf
  obtain ⟨x6_11, ex6_11, h⟩ := lt_e h
  obtain ⟨x8_12, ex8_12, h⟩ := lt_e h
  have hkn := nq_kap nn
  have h2 := km58 _ _ _ _ _ _ _ h
  omega
theorem km_TS_split_93 {g : Nat} {S : St} {x1 : Int32} {x2 : Int64} {x4 : Int64} {x6 : Int32} {x7 : Int32} {x8 : Int32} {y0 : Int32} {S' : St} {r : Int32} {k58 : St → Int32 → Int64 → Int64 → Int32 → Int32 → Int32 → Option (St × Int32)} (km58 : ∀ (S : St) (x1 : Int32) (x2 : Int64) (x4 : Int64) (x6 : Int32) (x7 : Int32) (x8 : Int32), k58 S x1 x2 x4 x6 x7 x8 = some (S', r) → kap S ≤ kap S') (h : m_TS_split_93 g k58 S x1 x2 x4 x6 x7 x8 y0 = some (S', r)) : kap S ≤ kap S' := by
  unfold m_TS_split_93 at h
  have nn : nq S S := nq_rf
  by_cases hc1 : y0 = 0
  · replace h := ift hc1 h
    obtain ⟨x8_7, ex8_7, h⟩ := lt_e h
    have hkn := nq_kap nn
    have h2 := km58 _ _ _ _ _ _ _ h
    omega
  · replace h := iff0 hc1 h
    obtain ⟨v_8, hv_8, h⟩ := bnd h
    by_cases hc2 : (v_8.toInt64) = x2
    · replace h := ift hc2 h
      obtain ⟨S_10, hS_10, h⟩ := bnd h
      have hk1 := km_TS_addCut hS_10
      have hkn := nq_kap nn
      have h2 := km_TS_split_124 km58 h
      omega
    · replace h := iff0 hc2 h
      obtain ⟨x8_9, ex8_9, h⟩ := lt_e h
      have hkn := nq_kap nn
      have h2 := km58 _ _ _ _ _ _ _ h
      omega
theorem km_TS_split_88 {g : Nat} {S : St} {x1 : Int32} {x2 : Int64} {x4 : Int64} {x6 : Int32} {x7 : Int32} {x8 : Int32} {S' : St} {r : Int32} {k58 : St → Int32 → Int64 → Int64 → Int32 → Int32 → Int32 → Option (St × Int32)} (km58 : ∀ (S : St) (x1 : Int32) (x2 : Int64) (x4 : Int64) (x6 : Int32) (x7 : Int32) (x8 : Int32), k58 S x1 x2 x4 x6 x7 x8 = some (S', r) → kap S ≤ kap S') (h : m_TS_split_88 g k58 S x1 x2 x4 x6 x7 x8 = some (S', r)) : kap S ≤ kap S' := by
  unfold m_TS_split_88 at h
  have nn : nq S S := nq_rf
  have hkn := nq_kap nn
  have h2 := km_TS_split_93 km58 h
  omega
theorem kmb_TS_split_58 {g : Nat} {S : St} {x1 : Int32} {x2 : Int64} {x4 : Int64} {x6 : Int32} {x7 : Int32} {x8 : Int32} {S' : St} {r : Int32} {k58 : St → Int32 → Int64 → Int64 → Int32 → Int32 → Int32 → Option (St × Int32)} (km58 : ∀ (S : St) (x1 : Int32) (x2 : Int64) (x4 : Int64) (x6 : Int32) (x7 : Int32) (x8 : Int32), k58 S x1 x2 x4 x6 x7 x8 = some (S', r) → kap S ≤ kap S') (h : b_TS_split_58 g k58 S x1 x2 x4 x6 x7 x8 = some (S', r)) : kap S ≤ kap S' := by
  unfold b_TS_split_58 at h
  have nn : nq S S := nq_rf
  by_cases hc1 : x7 ≤ x8
  · replace h := ift hc1 h
    by_cases hc2 : (gI S 30 2) ≤ 0
    · replace h := ift hc2 h
      have hkn := nq_kap nn
      have h2 := km_TS_split_151 h
      omega
    · replace h := iff0 hc2 h
      have hkn := nq_kap nn
      have h2 := km_TS_split_151 h
      omega
  · replace h := iff0 hc1 h
    by_cases hc3 : (0 : Int64) < x4
    · replace h := ift hc3 h
      by_cases hc4 : ((gI S 30 2).toInt64) < (x4 - (1 : Int64))
      · replace h := ift hc4 h
        have hkn := nq_kap nn
        have h2 := km_TS_split_88 km58 h
        omega
      · replace h := iff0 hc4 h
        have hkn := nq_kap nn
        have h2 := km_TS_split_93 km58 h
        omega
    · replace h := iff0 hc3 h
      have hkn := nq_kap nn
      have h2 := km_TS_split_88 km58 h
      omega
theorem km_TS_split_58 {g : Nat} {S' : St} {r : Int32} (n : Nat) : ∀ (S : St) (x1 : Int32) (x2 : Int64) (x4 : Int64) (x6 : Int32) (x7 : Int32) (x8 : Int32), m_TS_split_58 g n S x1 x2 x4 x6 x7 x8 = some (S', r) → kap S ≤ kap S' := by
  induction n with
  | zero => intro S x1 x2 x4 x6 x7 x8 h; exact absurd h (fun q => by cases q)
  | succ n ih => intro S x1 x2 x4 x6 x7 x8 h; exact kmb_TS_split_58 ih h
theorem km_TS_split {g : Nat} {S : St} {x1 : Int32} {S' : St} {r : Int32} (h : m_TS_split g S x1 = some (S', r)) : kap S ≤ kap S' := by
  unfold m_TS_split at h
  have nn : nq S S := nq_rf
  obtain ⟨v_1, hv_1, h⟩ := bnd h
  obtain ⟨v_2, hv_2, h⟩ := bnd h
  obtain ⟨v_3, hv_3, h⟩ := bnd h
  by_cases hc1 : v_3 = 0
  · replace h := ift hc1 h
    obtain ⟨rfl, rfl⟩ := prI h
    have hkn := nq_kap nn
    omega
  · replace h := iff0 hc1 h
    obtain ⟨S_4, hS_4, h⟩ := bnd h
    replace nn : nq S_4 S := nq_tr (kq_Row_clear hS_4) nn
    obtain ⟨S_5, hS_5, h⟩ := bnd h
    replace nn : nq S_5 S := nq_tr (kq_Row_clear hS_5) nn
    obtain ⟨v_6, hv_6, h⟩ := bnd h
    have hkn := nq_kap nn
    have h2 := km_TS_split_58 g _ _ _ _ _ _ _ h
    omega
section S_TS_split
variable {p : Program} {l : Launch} {e : Env} {s : State} {m : MethodId} {args : Array Value} {below : List Frame} {meth : Method} {c : Code} {H : Heap} {locs : List Loc} {ls : Array Slot} {D : va_G} {T : Cy} {ρ ρ0 : Nat → Nat} {S0 : St} {A : Nat → Prop}
set_option maxRecDepth 100000 in
set_option maxHeartbeats 4000000 in
theorem w_TS_split_182 {g : Nat} {S : St} {y0 : Int32} (C : CallFix p m c cX9_split 10 s args tb RX9) (hr : meth.sig.returnType = (some .int)) (hk : meth.locks = false) {S' : St} {r : Int32} (ha : Ag ρ0 ρ) (hm : kap S0 ≤ kap S) (w : Wn Yc D T ρ S A s H locs) (hl : lv_has ls 10 []) (h : m_TS_split_182 g S y0 = some (S', r)) : W p l e (rmK 5 122 (kap S' - kap S0)) s m args below meth c H locs (kap S - kap S0) (2 * (kap S - kap S0)) (MQ below (QiM D T ρ0 A S' r) args s (kap S' - kap S0) (2 * (kap S' - kap S0)) A) (F0 m 182 ls [.int y0]) := by
  have hT := km_TS_split_182 h
  unfold m_TS_split_182 at h
  have nn : nq S S := nq_rf
  obtain ⟨rfl, rfl⟩ := prI h
  exact x_iretM C w ha hr hk dX9_split_182 (by have := nq_kap nn; omega) (by have := nq_kap nn; omega)
set_option maxRecDepth 100000 in
set_option maxHeartbeats 4000000 in
theorem w_TS_split_177 {g : Nat} {S : St} {x1 : Int32} (C : CallFix p m c cX9_split 10 s args tb RX9) (hr : meth.sig.returnType = (some .int)) (hk : meth.locks = false) {S' : St} {r : Int32} (ha : Ag ρ0 ρ) (hm : kap S0 ≤ kap S) (w : Wn Yc D T ρ S A s H locs) (hl : lv_has ls 10 [(0, .ref (ρ 7)), (1, .int x1)]) (h : m_TS_split_177 g S x1 = some (S', r)) : W p l e (rmK 5 122 (kap S' - kap S0)) s m args below meth c H locs (kap S - kap S0) (2 * (kap S - kap S0)) (MQ below (QiM D T ρ0 A S' r) args s (kap S' - kap S0) (2 * (kap S' - kap S0)) A) (F0 m 177 ls []) := by
  have hT := km_TS_split_177 h
  unfold m_TS_split_177 at h
  have nn : nq S S := nq_rf
  refine lv_aload_n C.1 C.2.1 dX9_split_177 rfl (lv_at hl 0 rfl) ?_
  refine lv_iload_n C.1 C.2.1 dX9_split_178 rfl (lv_at hl 1 rfl) ?_
  obtain ⟨⟨S_8, v_9⟩, hv_9, h⟩ := bnd h
  have hkn := nq_kap nn
  have hk1 := km_TS_takeParts hv_9
  have hT2 := km_TS_split_182 h
  refine x_callViM (q := (RX9, TX9, 6)) (As := [.int x1]) (rest := []) C w (k_TS_takeParts l D T ρ g H.size S hv_9) vX9_233 (hRK (by decide) (by decide)) obC7 (by decide) rfl rfl rfl hl.1 (Nat.le_of_ble_eq_true rfl) (hcM hm hkn hk1 hT2) dX9_split_179 (fun ρ1 H locs hag w => ?_)
  replace ha := ha.trans hag
  rw [← hag 7 (by decide)] at hl
  refine W.widen (k := kap S_8 - kap S0) (n := 2 * (kap S_8 - kap S0)) (by omega) (by omega) ?_
  exact w_TS_split_182 C hr hk ha (by omega) w (lv_sub hl [] rfl) h
set_option maxRecDepth 100000 in
set_option maxHeartbeats 4000000 in
theorem w_TS_split_161 {g : Nat} {S : St} {x1 : Int32} {x4 : Int64} {x8 : Int32} (C : CallFix p m c cX9_split 10 s args tb RX9) (hr : meth.sig.returnType = (some .int)) (hk : meth.locks = false) {S' : St} {r : Int32} (ha : Ag ρ0 ρ) (hm : kap S0 ≤ kap S) (w : Wn Yc D T ρ S A s H locs) (hl : lv_has ls 10 [(0, .ref (ρ 7)), (1, .int x1), (4, .long x4), (8, .int x8)]) (h : m_TS_split_161 g S x1 x4 x8 = some (S', r)) : W p l e (rmK 5 122 (kap S' - kap S0)) s m args below meth c H locs (kap S - kap S0) (2 * (kap S - kap S0)) (MQ below (QiM D T ρ0 A S' r) args s (kap S' - kap S0) (2 * (kap S' - kap S0)) A) (F0 m 161 ls []) := by
  have hT := km_TS_split_161 h
  unfold m_TS_split_161 at h
  have nn : nq S S := nq_rf
  refine lv_lload C.1 C.2.1 dX9_split_161 (lv_at hl 2 rfl) ?_
  refine lv_lconst (v := 0) C.1 C.2.1 dX9_split_163 (by decide) ?_
  refine x_l_ne (tgt := 177) C dX9_split_164 dX9_split_165 (by decide) (fun hc => ?_) (fun hc => ?_)
  · replace h := iff0 hc h
    have hkn := nq_kap nn
    refine W.widen (k := kap S - kap S0) (n := 2 * (kap S - kap S0)) (by omega) (by omega) ?_
    exact w_TS_split_177 C hr hk ha (by omega) w (lv_sub hl [0, 1] rfl) h
  · replace h := ift hc h
    refine lv_iload C.1 C.2.1 dX9_split_168 (lv_at hl 3 rfl) ?_
    refine lv_if_eq (tgt := 177) C.1 C.2.1 dX9_split_170 (by decide) (fun hc => ?_) (fun hc => ?_)
    · replace h := ift hc h
      have hkn := nq_kap nn
      refine W.widen (k := kap S - kap S0) (n := 2 * (kap S - kap S0)) (by omega) (by omega) ?_
      exact w_TS_split_177 C hr hk ha (by omega) w (lv_sub hl [0, 1] rfl) h
    · replace h := iff0 hc h
      refine lv_aload_n C.1 C.2.1 dX9_split_173 rfl (lv_at hl 0 rfl) ?_
      obtain ⟨S_8, hS_8, h⟩ := bnd h
      replace nn : nq S_8 S := nq_tr (kq_TS_dropEmptyCuts hS_8) nn
      refine x_callVv (q := (RX9, TX9, 6)) (As := []) (rest := []) C w (k_TS_dropEmptyCuts l D T ρ g H.size S hS_8) vX9_230 (hRK (by decide) (by decide)) obC7 (by decide) rfl rfl rfl hl.1 (Nat.le_of_ble_eq_true rfl) (hcK hT) dX9_split_174 (fun H locs w => ?_)
      have hkn := nq_kap nn
      refine W.widen (k := kap S_8 - kap S0) (n := 2 * (kap S_8 - kap S0)) (by omega) (by omega) ?_
      exact w_TS_split_177 C hr hk ha (by omega) w (lv_sub hl [0, 1] rfl) h
set_option maxRecDepth 100000 in
set_option maxHeartbeats 4000000 in
theorem w_TS_split_151 {g : Nat} {S : St} {x1 : Int32} {x4 : Int64} {x6 : Int32} {x7 : Int32} {y0 : Int32} (C : CallFix p m c cX9_split 10 s args tb RX9) (hr : meth.sig.returnType = (some .int)) (hk : meth.locks = false) {S' : St} {r : Int32} (ha : Ag ρ0 ρ) (hm : kap S0 ≤ kap S) (w : Wn Yc D T ρ S A s H locs) (hl : lv_has ls 10 [(0, .ref (ρ 7)), (1, .int x1), (4, .long x4), (6, .int x6), (7, .int x7)]) (h : m_TS_split_151 g S x1 x4 x6 x7 y0 = some (S', r)) : W p l e (rmK 5 122 (kap S' - kap S0)) s m args below meth c H locs (kap S - kap S0) (2 * (kap S - kap S0)) (MQ below (QiM D T ρ0 A S' r) args s (kap S' - kap S0) (2 * (kap S' - kap S0)) A) (F0 m 151 ls [.int y0]) := by
  have hT := km_TS_split_151 h
  unfold m_TS_split_151 at h
  have nn : nq S S := nq_rf
  refine lv_istore (lv' := [(8, .int y0), (0, .ref (ρ 7)), (1, .int x1), (4, .long x4), (6, .int x6), (7, .int x7)]) C.1 C.2.1 dX9_split_151 hl (by decide) rfl (fun ls hl => ?_)
  refine lv_aload_n C.1 C.2.1 dX9_split_153 rfl (lv_at hl 1 rfl) ?_
  refine lv_iload C.1 C.2.1 dX9_split_154 (lv_at hl 4 rfl) ?_
  refine lv_iload C.1 C.2.1 dX9_split_156 (lv_at hl 5 rfl) ?_
  obtain ⟨S_7, hS_7, h⟩ := bnd h
  have hkn := nq_kap nn
  have hk1 := km_TS_addCut hS_7
  have hT2 := km_TS_split_161 h
  refine x_callVvM (q := (RX9, TX9, 6)) (As := [.int x6, .int x7]) (rest := []) C w (k_TS_addCut l D T ρ g H.size S hS_7) vX9_226 (hRK (by decide) (by decide)) obC7 (by decide) rfl rfl rfl hl.1 (Nat.le_of_ble_eq_true rfl) (hcM hm hkn hk1 hT2) dX9_split_158 (fun ρ1 H locs hag w => ?_)
  replace ha := ha.trans hag
  rw [← hag 7 (by decide)] at hl
  refine W.widen (k := kap S_7 - kap S0) (n := 2 * (kap S_7 - kap S0)) (by omega) (by omega) ?_
  exact w_TS_split_161 C hr hk ha (by omega) w (lv_sub hl [1, 2, 3, 0] rfl) h
set_option maxRecDepth 100000 in
set_option maxHeartbeats 4000000 in
theorem w_TS_split_124 {g : Nat} {S : St} {x1 : Int32} {x2 : Int64} {x4 : Int64} {x7 : Int32} {x8 : Int32} (C : CallFix p m c cX9_split 10 s args tb RX9) (hr : meth.sig.returnType = (some .int)) (hk : meth.locks = false) {S' : St} {r : Int32} {k58 : St → Int32 → Int64 → Int64 → Int32 → Int32 → Int32 → Option (St × Int32)} (kk58 : ∀ (ρ : Nat → Nat) (S : St) (x1 : Int32) (x2 : Int64) (x4 : Int64) (x6 : Int32) (x7 : Int32) (x8 : Int32) (H : Heap) (locs : List Loc) (ls : Array Slot), Ag ρ0 ρ → kap S0 ≤ kap S → Wn Yc D T ρ S A s H locs → lv_has ls 10 [(0, .ref (ρ 7)), (1, .int x1), (2, .long x2), (4, .long x4), (6, .int x6), (7, .int x7), (8, .int x8)] → k58 S x1 x2 x4 x6 x7 x8 = some (S', r) → W p l e (rmK 5 122 (kap S' - kap S0)) s m args below meth c H locs (kap S - kap S0) (2 * (kap S - kap S0)) (MQ below (QiM D T ρ0 A S' r) args s (kap S' - kap S0) (2 * (kap S' - kap S0)) A) (F0 m 58 ls [])) (km58 : ∀ (S : St) (x1 : Int32) (x2 : Int64) (x4 : Int64) (x6 : Int32) (x7 : Int32) (x8 : Int32), k58 S x1 x2 x4 x6 x7 x8 = some (S', r) → kap S ≤ kap S') (ha : Ag ρ0 ρ) (hm : kap S0 ≤ kap S) (w : Wn Yc D T ρ S A s H locs) (hl : lv_has ls 10 [(0, .ref (ρ 7)), (1, .int x1), (2, .long x2), (4, .long x4), (7, .int x7), (8, .int x8)]) (h : m_TS_split_124 g k58 S x1 x2 x4 x7 x8 = some (S', r)) : W p l e (rmK 5 122 (kap S' - kap S0)) s m args below meth c H locs (kap S - kap S0) (2 * (kap S - kap S0)) (MQ below (QiM D T ρ0 A S' r) args s (kap S' - kap S0) (2 * (kap S' - kap S0)) A) (F0 m 124 ls []) := by
  have hT := km_TS_split_124 km58 h
  unfold m_TS_split_124 at h
  have nn : nq S S := nq_rf
  refine lv_iload C.1 C.2.1 dX9_split_124 (lv_at hl 5 rfl) ?_
  refine lv_iconst (v := 1) C.1 C.2.1 dX9_split_126 (by decide) ?_
  refine lv_iadd C.1 C.2.1 dX9_split_127 ?_
  obtain ⟨x6_11, ex6_11, h⟩ := lt_e h
  refine x_nm ex6_11 ?_
  refine lv_istore (lv' := [(6, .int x6_11), (0, .ref (ρ 7)), (1, .int x1), (2, .long x2), (4, .long x4), (7, .int x7), (8, .int x8)]) C.1 C.2.1 dX9_split_128 hl (by decide) rfl (fun ls hl => ?_)
  obtain ⟨x8_12, ex8_12, h⟩ := lt_e h
  refine lv_iinc (v := x8_12) (lv' := [(8, .int x8_12), (6, .int x6_11), (0, .ref (ρ 7)), (1, .int x1), (2, .long x2), (4, .long x4), (7, .int x7)]) C.1 C.2.1 dX9_split_130 hl (k := 6) rfl (by rw [ex8_12]; rfl) (by decide) rfl (fun ls hl => ?_)
  refine lv_goto (tgt := 58) C.1 C.2.1 dX9_split_133 (by decide) ?_
  have hkn := nq_kap nn
  refine W.widen (k := kap S - kap S0) (n := 2 * (kap S - kap S0)) (by omega) (by omega) ?_
  exact kk58 _ _ _ _ _ _ _ _ _ _ _ ha (by omega) w (lv_sub hl [2, 3, 4, 5, 1, 6, 0] rfl) h
set_option maxRecDepth 100000 in
set_option maxHeartbeats 4000000 in
theorem w_TS_split_93 {g : Nat} {S : St} {x1 : Int32} {x2 : Int64} {x4 : Int64} {x6 : Int32} {x7 : Int32} {x8 : Int32} {y0 : Int32} (C : CallFix p m c cX9_split 10 s args tb RX9) (hr : meth.sig.returnType = (some .int)) (hk : meth.locks = false) {S' : St} {r : Int32} {k58 : St → Int32 → Int64 → Int64 → Int32 → Int32 → Int32 → Option (St × Int32)} (kk58 : ∀ (ρ : Nat → Nat) (S : St) (x1 : Int32) (x2 : Int64) (x4 : Int64) (x6 : Int32) (x7 : Int32) (x8 : Int32) (H : Heap) (locs : List Loc) (ls : Array Slot), Ag ρ0 ρ → kap S0 ≤ kap S → Wn Yc D T ρ S A s H locs → lv_has ls 10 [(0, .ref (ρ 7)), (1, .int x1), (2, .long x2), (4, .long x4), (6, .int x6), (7, .int x7), (8, .int x8)] → k58 S x1 x2 x4 x6 x7 x8 = some (S', r) → W p l e (rmK 5 122 (kap S' - kap S0)) s m args below meth c H locs (kap S - kap S0) (2 * (kap S - kap S0)) (MQ below (QiM D T ρ0 A S' r) args s (kap S' - kap S0) (2 * (kap S' - kap S0)) A) (F0 m 58 ls [])) (km58 : ∀ (S : St) (x1 : Int32) (x2 : Int64) (x4 : Int64) (x6 : Int32) (x7 : Int32) (x8 : Int32), k58 S x1 x2 x4 x6 x7 x8 = some (S', r) → kap S ≤ kap S') (ha : Ag ρ0 ρ) (hm : kap S0 ≤ kap S) (w : Wn Yc D T ρ S A s H locs) (hl : lv_has ls 10 [(0, .ref (ρ 7)), (1, .int x1), (2, .long x2), (4, .long x4), (6, .int x6), (7, .int x7), (8, .int x8)]) (h : m_TS_split_93 g k58 S x1 x2 x4 x6 x7 x8 y0 = some (S', r)) : W p l e (rmK 5 122 (kap S' - kap S0)) s m args below meth c H locs (kap S - kap S0) (2 * (kap S - kap S0)) (MQ below (QiM D T ρ0 A S' r) args s (kap S' - kap S0) (2 * (kap S' - kap S0)) A) (F0 m 93 ls [.int y0]) := by
  have hT := km_TS_split_93 km58 h
  unfold m_TS_split_93 at h
  have nn : nq S S := nq_rf
  refine lv_istore (lv' := [(9, .int y0), (0, .ref (ρ 7)), (1, .int x1), (2, .long x2), (4, .long x4), (6, .int x6), (7, .int x7), (8, .int x8)]) C.1 C.2.1 dX9_split_93 hl (by decide) rfl (fun ls hl => ?_)
  refine lv_iload C.1 C.2.1 dX9_split_95 (lv_at hl 0 rfl) ?_
  refine lv_if_eq (tgt := 130) C.1 C.2.1 dX9_split_97 (by decide) (fun hc => ?_) (fun hc => ?_)
  · replace h := ift hc h
    obtain ⟨x8_7, ex8_7, h⟩ := lt_e h
    refine lv_iinc (v := x8_7) (lv' := [(8, .int x8_7), (9, .int y0), (0, .ref (ρ 7)), (1, .int x1), (2, .long x2), (4, .long x4), (6, .int x6), (7, .int x7)]) C.1 C.2.1 dX9_split_130 hl (k := 7) rfl (by rw [ex8_7]; rfl) (by decide) rfl (fun ls hl => ?_)
    refine lv_goto (tgt := 58) C.1 C.2.1 dX9_split_133 (by decide) ?_
    have hkn := nq_kap nn
    refine W.widen (k := kap S - kap S0) (n := 2 * (kap S - kap S0)) (by omega) (by omega) ?_
    exact kk58 _ _ _ _ _ _ _ _ _ _ _ ha (by omega) w (lv_sub hl [2, 3, 4, 5, 6, 7, 0] rfl) h
  · replace h := iff0 hc h
    refine lv_aload_n C.1 C.2.1 dX9_split_100 rfl (lv_at hl 1 rfl) ?_
    refine x_getC C w 5 fX9_33 obC7 rfl dX9_split_101 ?_
    refine lv_iload_n C.1 C.2.1 dX9_split_104 rfl (lv_at hl 2 rfl) ?_
    refine lv_iload C.1 C.2.1 dX9_split_105 (lv_at hl 7 rfl) ?_
    obtain ⟨v_8, hv_8, h⟩ := bnd h
    refine x_callVi (q := (RX10, TX10, 5)) (As := [.int x1, .int x8]) (rest := []) C w (k_Tx_unitOf l D T ρ g H.size S hv_8) vX9_205 (hRK (by decide) (by decide)) obC5 (by decide) rfl rfl rfl hl.1 (Nat.le_of_ble_eq_true rfl) (hcK hT) dX9_split_107 (fun H locs w => ?_)
    refine lv_i2l C.1 C.2.1 dX9_split_110 rfl ?_
    refine lv_lload_n C.1 C.2.1 dX9_split_111 rfl (lv_at hl 3 rfl) ?_
    refine x_l_ne (tgt := 130) C dX9_split_112 dX9_split_113 (by decide) (fun hc => ?_) (fun hc => ?_)
    · replace h := iff0 hc h
      obtain ⟨x8_9, ex8_9, h⟩ := lt_e h
      refine lv_iinc (v := x8_9) (lv' := [(8, .int x8_9), (9, .int y0), (0, .ref (ρ 7)), (1, .int x1), (2, .long x2), (4, .long x4), (6, .int x6), (7, .int x7)]) C.1 C.2.1 dX9_split_130 hl (k := 7) rfl (by rw [ex8_9]; rfl) (by decide) rfl (fun ls hl => ?_)
      refine lv_goto (tgt := 58) C.1 C.2.1 dX9_split_133 (by decide) ?_
      have hkn := nq_kap nn
      refine W.widen (k := kap S - kap S0) (n := 2 * (kap S - kap S0)) (by omega) (by omega) ?_
      exact kk58 _ _ _ _ _ _ _ _ _ _ _ ha (by omega) w (lv_sub hl [2, 3, 4, 5, 6, 7, 0] rfl) h
    · replace h := ift hc h
      refine lv_aload_n C.1 C.2.1 dX9_split_116 rfl (lv_at hl 1 rfl) ?_
      refine lv_iload C.1 C.2.1 dX9_split_117 (lv_at hl 5 rfl) ?_
      refine lv_iload C.1 C.2.1 dX9_split_119 (lv_at hl 7 rfl) ?_
      obtain ⟨S_10, hS_10, h⟩ := bnd h
      have hkn := nq_kap nn
      have hk1 := km_TS_addCut hS_10
      have hT2 := km_TS_split_124 km58 h
      refine x_callVvM (q := (RX9, TX9, 6)) (As := [.int x6, .int x8]) (rest := []) C w (k_TS_addCut l D T ρ g H.size S hS_10) vX9_226 (hRK (by decide) (by decide)) obC7 (by decide) rfl rfl rfl hl.1 (Nat.le_of_ble_eq_true rfl) (hcM hm hkn hk1 hT2) dX9_split_121 (fun ρ1 H locs hag w => ?_)
      replace ha := ha.trans hag
      rw [← hag 7 (by decide)] at hl
      refine W.widen (k := kap S_10 - kap S0) (n := 2 * (kap S_10 - kap S0)) (by omega) (by omega) ?_
      exact w_TS_split_124 C hr hk kk58 km58 ha (by omega) w (lv_sub hl [1, 2, 3, 4, 6, 7] rfl) h
set_option maxRecDepth 100000 in
set_option maxHeartbeats 4000000 in
theorem w_TS_split_88 {g : Nat} {S : St} {x1 : Int32} {x2 : Int64} {x4 : Int64} {x6 : Int32} {x7 : Int32} {x8 : Int32} (C : CallFix p m c cX9_split 10 s args tb RX9) (hr : meth.sig.returnType = (some .int)) (hk : meth.locks = false) {S' : St} {r : Int32} {k58 : St → Int32 → Int64 → Int64 → Int32 → Int32 → Int32 → Option (St × Int32)} (kk58 : ∀ (ρ : Nat → Nat) (S : St) (x1 : Int32) (x2 : Int64) (x4 : Int64) (x6 : Int32) (x7 : Int32) (x8 : Int32) (H : Heap) (locs : List Loc) (ls : Array Slot), Ag ρ0 ρ → kap S0 ≤ kap S → Wn Yc D T ρ S A s H locs → lv_has ls 10 [(0, .ref (ρ 7)), (1, .int x1), (2, .long x2), (4, .long x4), (6, .int x6), (7, .int x7), (8, .int x8)] → k58 S x1 x2 x4 x6 x7 x8 = some (S', r) → W p l e (rmK 5 122 (kap S' - kap S0)) s m args below meth c H locs (kap S - kap S0) (2 * (kap S - kap S0)) (MQ below (QiM D T ρ0 A S' r) args s (kap S' - kap S0) (2 * (kap S' - kap S0)) A) (F0 m 58 ls [])) (km58 : ∀ (S : St) (x1 : Int32) (x2 : Int64) (x4 : Int64) (x6 : Int32) (x7 : Int32) (x8 : Int32), k58 S x1 x2 x4 x6 x7 x8 = some (S', r) → kap S ≤ kap S') (ha : Ag ρ0 ρ) (hm : kap S0 ≤ kap S) (w : Wn Yc D T ρ S A s H locs) (hl : lv_has ls 10 [(0, .ref (ρ 7)), (1, .int x1), (2, .long x2), (4, .long x4), (6, .int x6), (7, .int x7), (8, .int x8)]) (h : m_TS_split_88 g k58 S x1 x2 x4 x6 x7 x8 = some (S', r)) : W p l e (rmK 5 122 (kap S' - kap S0)) s m args below meth c H locs (kap S - kap S0) (2 * (kap S - kap S0)) (MQ below (QiM D T ρ0 A S' r) args s (kap S' - kap S0) (2 * (kap S' - kap S0)) A) (F0 m 88 ls []) := by
  have hT := km_TS_split_88 km58 h
  unfold m_TS_split_88 at h
  have nn : nq S S := nq_rf
  refine lv_iconst (v := 1) C.1 C.2.1 dX9_split_88 (by decide) ?_
  refine lv_goto (tgt := 93) C.1 C.2.1 dX9_split_89 (by decide) ?_
  have hkn := nq_kap nn
  refine W.widen (k := kap S - kap S0) (n := 2 * (kap S - kap S0)) (by omega) (by omega) ?_
  exact w_TS_split_93 C hr hk kk58 km58 ha (by omega) w (lv_sub hl [0, 1, 2, 3, 4, 5, 6] rfl) h
set_option maxRecDepth 100000 in
set_option maxHeartbeats 4000000 in
theorem wb_TS_split_58 {g : Nat} {S : St} {x1 : Int32} {x2 : Int64} {x4 : Int64} {x6 : Int32} {x7 : Int32} {x8 : Int32} (C : CallFix p m c cX9_split 10 s args tb RX9) (hr : meth.sig.returnType = (some .int)) (hk : meth.locks = false) {S' : St} {r : Int32} {k58 : St → Int32 → Int64 → Int64 → Int32 → Int32 → Int32 → Option (St × Int32)} (kk58 : ∀ (ρ : Nat → Nat) (S : St) (x1 : Int32) (x2 : Int64) (x4 : Int64) (x6 : Int32) (x7 : Int32) (x8 : Int32) (H : Heap) (locs : List Loc) (ls : Array Slot), Ag ρ0 ρ → kap S0 ≤ kap S → Wn Yc D T ρ S A s H locs → lv_has ls 10 [(0, .ref (ρ 7)), (1, .int x1), (2, .long x2), (4, .long x4), (6, .int x6), (7, .int x7), (8, .int x8)] → k58 S x1 x2 x4 x6 x7 x8 = some (S', r) → W p l e (rmK 5 122 (kap S' - kap S0)) s m args below meth c H locs (kap S - kap S0) (2 * (kap S - kap S0)) (MQ below (QiM D T ρ0 A S' r) args s (kap S' - kap S0) (2 * (kap S' - kap S0)) A) (F0 m 58 ls [])) (km58 : ∀ (S : St) (x1 : Int32) (x2 : Int64) (x4 : Int64) (x6 : Int32) (x7 : Int32) (x8 : Int32), k58 S x1 x2 x4 x6 x7 x8 = some (S', r) → kap S ≤ kap S') (ha : Ag ρ0 ρ) (hm : kap S0 ≤ kap S) (w : Wn Yc D T ρ S A s H locs) (hl : lv_has ls 10 [(0, .ref (ρ 7)), (1, .int x1), (2, .long x2), (4, .long x4), (6, .int x6), (7, .int x7), (8, .int x8)]) (h : b_TS_split_58 g k58 S x1 x2 x4 x6 x7 x8 = some (S', r)) : W p l e (rmK 5 122 (kap S' - kap S0)) s m args below meth c H locs (kap S - kap S0) (2 * (kap S - kap S0)) (MQ below (QiM D T ρ0 A S' r) args s (kap S' - kap S0) (2 * (kap S' - kap S0)) A) (F0 m 58 ls []) := by
  have hT := kmb_TS_split_58 km58 h
  unfold b_TS_split_58 at h
  have nn : nq S S := nq_rf
  refine lv_iload C.1 C.2.1 dX9_split_58 (lv_at hl 6 rfl) ?_
  refine lv_iload C.1 C.2.1 dX9_split_60 (lv_at hl 5 rfl) ?_
  refine lv_icmp_ge (tgt := 136) C.1 C.2.1 dX9_split_62 (by decide) (fun hc => ?_) (fun hc => ?_)
  · replace h := ift hc h
    refine lv_aload_n C.1 C.2.1 dX9_split_136 rfl (lv_at hl 0 rfl) ?_
    refine x_getC C w 30 fX9_14 obC7 rfl dX9_split_137 ?_
    refine x_getI C w fX9_105 obC30 dX9_split_140 ?_
    refine lv_if_le (tgt := 150) C.1 C.2.1 dX9_split_143 (by decide) (fun hc => ?_) (fun hc => ?_)
    · replace h := ift hc h
      refine lv_iconst (v := 0) C.1 C.2.1 dX9_split_150 (by decide) ?_
      have hkn := nq_kap nn
      refine W.widen (k := kap S - kap S0) (n := 2 * (kap S - kap S0)) (by omega) (by omega) ?_
      exact w_TS_split_151 C hr hk ha (by omega) w (lv_sub hl [0, 1, 3, 4, 5] rfl) h
    · replace h := iff0 hc h
      refine lv_iconst (v := 1) C.1 C.2.1 dX9_split_146 (by decide) ?_
      refine lv_goto (tgt := 151) C.1 C.2.1 dX9_split_147 (by decide) ?_
      have hkn := nq_kap nn
      refine W.widen (k := kap S - kap S0) (n := 2 * (kap S - kap S0)) (by omega) (by omega) ?_
      exact w_TS_split_151 C hr hk ha (by omega) w (lv_sub hl [0, 1, 3, 4, 5] rfl) h
  · replace h := iff0 hc h
    refine lv_lload C.1 C.2.1 dX9_split_65 (lv_at hl 3 rfl) ?_
    refine lv_lconst (v := 0) C.1 C.2.1 dX9_split_67 (by decide) ?_
    refine x_l_le (tgt := 88) C dX9_split_68 dX9_split_69 (by decide) (fun hc => ?_) (fun hc => ?_)
    · replace h := iff0 hc h
      have hkn := nq_kap nn
      refine W.widen (k := kap S - kap S0) (n := 2 * (kap S - kap S0)) (by omega) (by omega) ?_
      exact w_TS_split_88 C hr hk kk58 km58 ha (by omega) w (lv_sub hl [0, 1, 2, 3, 4, 5, 6] rfl) h
    · replace h := ift hc h
      refine lv_aload_n C.1 C.2.1 dX9_split_72 rfl (lv_at hl 0 rfl) ?_
      refine x_getC C w 30 fX9_14 obC7 rfl dX9_split_73 ?_
      refine x_getI C w fX9_105 obC30 dX9_split_76 ?_
      refine lv_i2l C.1 C.2.1 dX9_split_79 rfl ?_
      refine lv_lload C.1 C.2.1 dX9_split_80 (lv_at hl 3 rfl) ?_
      refine lv_lconst (v := 1) C.1 C.2.1 dX9_split_82 (by decide) ?_
      refine lv_lsub C.1 C.2.1 dX9_split_83 ?_
      refine x_l_ge (tgt := 92) C dX9_split_84 dX9_split_85 (by decide) (fun hc => ?_) (fun hc => ?_)
      · replace h := iff0 hc h
        refine lv_iconst (v := 0) C.1 C.2.1 dX9_split_92 (by decide) ?_
        have hkn := nq_kap nn
        refine W.widen (k := kap S - kap S0) (n := 2 * (kap S - kap S0)) (by omega) (by omega) ?_
        exact w_TS_split_93 C hr hk kk58 km58 ha (by omega) w (lv_sub hl [0, 1, 2, 3, 4, 5, 6] rfl) h
      · replace h := ift hc h
        have hkn := nq_kap nn
        refine W.widen (k := kap S - kap S0) (n := 2 * (kap S - kap S0)) (by omega) (by omega) ?_
        exact w_TS_split_88 C hr hk kk58 km58 ha (by omega) w (lv_sub hl [0, 1, 2, 3, 4, 5, 6] rfl) h
theorem w_TS_split_58 {g : Nat} (C : CallFix p m c cX9_split 10 s args tb RX9) (hr : meth.sig.returnType = (some .int)) (hk : meth.locks = false) {S' : St} {r : Int32} (n : Nat) : ∀ (ρ : Nat → Nat) (S : St) (x1 : Int32) (x2 : Int64) (x4 : Int64) (x6 : Int32) (x7 : Int32) (x8 : Int32) (H : Heap) (locs : List Loc) (ls : Array Slot), Ag ρ0 ρ → kap S0 ≤ kap S → Wn Yc D T ρ S A s H locs → lv_has ls 10 [(0, .ref (ρ 7)), (1, .int x1), (2, .long x2), (4, .long x4), (6, .int x6), (7, .int x7), (8, .int x8)] → m_TS_split_58 g n S x1 x2 x4 x6 x7 x8 = some (S', r) → W p l e (rmK 5 122 (kap S' - kap S0)) s m args below meth c H locs (kap S - kap S0) (2 * (kap S - kap S0)) (MQ below (QiM D T ρ0 A S' r) args s (kap S' - kap S0) (2 * (kap S' - kap S0)) A) (F0 m 58 ls []) := by
  induction n with
  | zero => intro ρ S x1 x2 x4 x6 x7 x8 H locs ls ha hm w hl h; exact absurd h (fun q => by cases q)
  | succ n ih => intro ρ S x1 x2 x4 x6 x7 x8 H locs ls ha hm w hl h; exact wb_TS_split_58 C hr hk ih (km_TS_split_58 n) ha hm w hl h
set_option maxRecDepth 100000 in
set_option maxHeartbeats 4000000 in
theorem w_TS_split_0 {g : Nat} {S : St} {x1 : Int32} (C : CallFix p m c cX9_split 10 s args tb RX9) (hr : meth.sig.returnType = (some .int)) (hk : meth.locks = false) {S' : St} {r : Int32} (ha : Ag ρ0 ρ) (hm : kap S0 ≤ kap S) (w : Wn Yc D T ρ S A s H locs) (hl : lv_has ls 10 [(0, .ref (ρ 7)), (1, .int x1)]) (h : m_TS_split g S x1 = some (S', r)) : W p l e (rmK 5 122 (kap S' - kap S0)) s m args below meth c H locs (kap S - kap S0) (2 * (kap S - kap S0)) (MQ below (QiM D T ρ0 A S' r) args s (kap S' - kap S0) (2 * (kap S' - kap S0)) A) (F0 m 0 ls []) := by
  have hT := km_TS_split h
  unfold m_TS_split at h
  have nn : nq S S := nq_rf
  refine lv_aload_n C.1 C.2.1 dX9_split_0 rfl (lv_at hl 0 rfl) ?_
  refine x_getC C w 4 fX9_23 obC7 rfl dX9_split_1 ?_
  refine lv_iconst (v := 1) C.1 C.2.1 dX9_split_4 (by decide) ?_
  obtain ⟨v_1, hv_1, h⟩ := bnd h
  refine x_callVj (q := (RX1, TX1, 12)) (As := [.int (1 : Int32)]) (rest := []) C w (k_Bn_wholeAt l D T ρ g H.size S hv_1) vX9_119 (hRK (by decide) (by decide)) obC4 (by decide) rfl rfl rfl hl.1 (Nat.le_of_ble_eq_true rfl) (hcK hT) dX9_split_5 (fun H locs w => ?_)
  refine lv_lstore_n (lv' := [(2, .long v_1), (0, .ref (ρ 7)), (1, .int x1)]) C.1 C.2.1 dX9_split_8 rfl hl (by decide) rfl (fun ls hl => ?_)
  refine lv_aload_n C.1 C.2.1 dX9_split_9 rfl (lv_at hl 1 rfl) ?_
  refine x_getC C w 4 fX9_23 obC7 rfl dX9_split_10 ?_
  refine lv_iconst (v := 2) C.1 C.2.1 dX9_split_13 (by decide) ?_
  obtain ⟨v_2, hv_2, h⟩ := bnd h
  refine x_callVj (q := (RX1, TX1, 12)) (As := [.int (2 : Int32)]) (rest := []) C w (k_Bn_wholeAt l D T ρ g H.size S hv_2) vX9_119 (hRK (by decide) (by decide)) obC4 (by decide) rfl rfl rfl hl.1 (Nat.le_of_ble_eq_true rfl) (hcK hT) dX9_split_14 (fun H locs w => ?_)
  refine lv_lstore (lv' := [(4, .long v_2), (2, .long v_1), (0, .ref (ρ 7)), (1, .int x1)]) C.1 C.2.1 dX9_split_17 hl (by decide) rfl (fun ls hl => ?_)
  refine lv_lload_n C.1 C.2.1 dX9_split_19 rfl (lv_at hl 1 rfl) ?_
  obtain ⟨v_3, hv_3, h⟩ := bnd h
  refine x_callSi (As := [.long v_1]) (rest := []) C w (k_Lt_isUnit l D T ρ g H.size S hv_3) vX9_197 (hRK (by decide) (by decide)) rfl rfl hl.1 (Nat.le_of_ble_eq_true rfl) (hcK hT) dX9_split_20 (fun H locs w => ?_)
  refine lv_if_ne (tgt := 28) C.1 C.2.1 dX9_split_23 (by decide) (fun hc => ?_) (fun hc => ?_)
  · replace h := iff0 hc h
    refine lv_aload_n C.1 C.2.1 dX9_split_28 rfl (lv_at hl 2 rfl) ?_
    refine x_getC C w 30 fX9_14 obC7 rfl dX9_split_29 ?_
    obtain ⟨S_4, hS_4, h⟩ := bnd h
    replace nn : nq S_4 S := nq_tr (kq_Row_clear hS_4) nn
    refine x_callVv (q := (RX6, TX6, 4)) (As := []) (rest := []) C w (k_Row_clear l D T ρ g H.size S obC30 hS_4) vX9_46 (hRK (by decide) (by decide)) obC30 (by decide) rfl rfl rfl hl.1 (Nat.le_of_ble_eq_true rfl) (hcK hT) dX9_split_32 (fun H locs w => ?_)
    refine lv_aload_n C.1 C.2.1 dX9_split_35 rfl (lv_at hl 2 rfl) ?_
    refine x_getC C w 31 fX9_20 obC7 rfl dX9_split_36 ?_
    obtain ⟨S_5, hS_5, h⟩ := bnd h
    replace nn : nq S_5 S := nq_tr (kq_Row_clear hS_5) nn
    refine x_callVv (q := (RX6, TX6, 4)) (As := []) (rest := []) C w (k_Row_clear l D T ρ g H.size S_4 obC31 hS_5) vX9_46 (hRK (by decide) (by decide)) obC31 (by decide) rfl rfl rfl hl.1 (Nat.le_of_ble_eq_true rfl) (hcK hT) dX9_split_39 (fun H locs w => ?_)
    refine lv_iconst (v := 0) C.1 C.2.1 dX9_split_42 (by decide) ?_
    refine lv_istore (lv' := [(6, .int (0 : Int32)), (4, .long v_2), (2, .long v_1), (0, .ref (ρ 7)), (1, .int x1)]) C.1 C.2.1 dX9_split_43 hl (by decide) rfl (fun ls hl => ?_)
    refine lv_aload_n C.1 C.2.1 dX9_split_45 rfl (lv_at hl 3 rfl) ?_
    refine x_getC C w 5 fX9_33 obC7 rfl dX9_split_46 ?_
    refine lv_iload_n C.1 C.2.1 dX9_split_49 rfl (lv_at hl 4 rfl) ?_
    obtain ⟨v_6, hv_6, h⟩ := bnd h
    refine x_callVi (q := (RX10, TX10, 5)) (As := [.int x1]) (rest := []) C w (k_Tx_sizeOf l D T ρ g H.size S_5 hv_6) vX9_171 (hRK (by decide) (by decide)) obC5 (by decide) rfl rfl rfl hl.1 (Nat.le_of_ble_eq_true rfl) (hcK hT) dX9_split_50 (fun H locs w => ?_)
    refine lv_istore (lv' := [(7, .int v_6), (6, .int (0 : Int32)), (4, .long v_2), (2, .long v_1), (0, .ref (ρ 7)), (1, .int x1)]) C.1 C.2.1 dX9_split_53 hl (by decide) rfl (fun ls hl => ?_)
    refine lv_iconst (v := 0) C.1 C.2.1 dX9_split_55 (by decide) ?_
    refine lv_istore (lv' := [(8, .int (0 : Int32)), (7, .int v_6), (6, .int (0 : Int32)), (4, .long v_2), (2, .long v_1), (0, .ref (ρ 7)), (1, .int x1)]) C.1 C.2.1 dX9_split_56 hl (by decide) rfl (fun ls hl => ?_)
    have hkn := nq_kap nn
    refine W.widen (k := kap S_5 - kap S0) (n := 2 * (kap S_5 - kap S0)) (by omega) (by omega) ?_
    exact w_TS_split_58 C hr hk g _ _ _ _ _ _ _ _ _ _ _ ha (by omega) w (lv_sub hl [5, 6, 4, 3, 2, 1, 0] rfl) h
  · replace h := ift hc h
    refine lv_iconst (v := 3) C.1 C.2.1 dX9_split_26 (by decide) ?_
    obtain ⟨rfl, rfl⟩ := prI h
    exact x_iretM C w ha hr hk dX9_split_27 (by have := nq_kap nn; omega) (by have := nq_kap nn; omega)
end S_TS_split
set_option maxRecDepth 100000 in
theorem k_TS_split (l : Launch) (D : va_G) (T : Cy) (ρ : Nat → Nat) (g sz : Nat) (S : St) {x1 : Int32} {S' : St} {r : Int32} (h : m_TS_split g S x1 = some (S', r)) : MiM l D T ρ yX9_split cX9_split 10 (some .int) 5 122 S S' r [.ref (ρ 7), .int x1] sz :=
  x_inR (by decide) (Nat.le_of_ble_eq_true rfl) (fun p e s m below meth c ls C hr hk w hl => W.widen (Nat.zero_le _) (Nat.zero_le _) (w_TS_split_0 C hr hk Ag.rf (Nat.le_refl _) w hl h))

theorem dX9_lines_0 : decode cX9_lines 0 = .ok (.aload_n 0, 1) := by decide +kernel
theorem dX9_lines_1 : decode cX9_lines 1 = .ok (.getfield 14, 3) := by decide +kernel
theorem dX9_lines_4 : decode cX9_lines 4 = .ok (.invokevirtual 46, 3) := by decide +kernel
theorem dX9_lines_7 : decode cX9_lines 7 = .ok (.aload_n 0, 1) := by decide +kernel
theorem dX9_lines_8 : decode cX9_lines 8 = .ok (.getfield 20, 3) := by decide +kernel
theorem dX9_lines_11 : decode cX9_lines 11 = .ok (.invokevirtual 46, 3) := by decide +kernel
theorem dX9_lines_14 : decode cX9_lines 14 = .ok (.iconst 0, 1) := by decide +kernel
theorem dX9_lines_15 : decode cX9_lines 15 = .ok (.istore_n 2, 1) := by decide +kernel
theorem dX9_lines_16 : decode cX9_lines 16 = .ok (.aload_n 0, 1) := by decide +kernel
theorem dX9_lines_17 : decode cX9_lines 17 = .ok (.getfield 33, 3) := by decide +kernel
theorem dX9_lines_20 : decode cX9_lines 20 = .ok (.iload_n 1, 1) := by decide +kernel
theorem dX9_lines_21 : decode cX9_lines 21 = .ok (.invokevirtual 171, 3) := by decide +kernel
theorem dX9_lines_24 : decode cX9_lines 24 = .ok (.istore_n 3, 1) := by decide +kernel
theorem dX9_lines_25 : decode cX9_lines 25 = .ok (.iconst 0, 1) := by decide +kernel
theorem dX9_lines_26 : decode cX9_lines 26 = .ok (.istore 4, 2) := by decide +kernel
theorem dX9_lines_28 : decode cX9_lines 28 = .ok (.iload 4, 2) := by decide +kernel
theorem dX9_lines_30 : decode cX9_lines 30 = .ok (.iload_n 3, 1) := by decide +kernel
theorem dX9_lines_31 : decode cX9_lines 31 = .ok (.if_icmp .ge 74, 3) := by decide +kernel
theorem dX9_lines_34 : decode cX9_lines 34 = .ok (.aload_n 0, 1) := by decide +kernel
theorem dX9_lines_35 : decode cX9_lines 35 = .ok (.getfield 33, 3) := by decide +kernel
theorem dX9_lines_38 : decode cX9_lines 38 = .ok (.iload_n 1, 1) := by decide +kernel
theorem dX9_lines_39 : decode cX9_lines 39 = .ok (.iload 4, 2) := by decide +kernel
theorem dX9_lines_41 : decode cX9_lines 41 = .ok (.invokevirtual 205, 3) := by decide +kernel
theorem dX9_lines_44 : decode cX9_lines 44 = .ok (.istore 5, 2) := by decide +kernel
theorem dX9_lines_46 : decode cX9_lines 46 = .ok (.iload 5, 2) := by decide +kernel
theorem dX9_lines_48 : decode cX9_lines 48 = .ok (.bipush 10, 2) := by decide +kernel
theorem dX9_lines_50 : decode cX9_lines 50 = .ok (.if_icmp .eq 10, 3) := by decide +kernel
theorem dX9_lines_53 : decode cX9_lines 53 = .ok (.iload 5, 2) := by decide +kernel
theorem dX9_lines_55 : decode cX9_lines 55 = .ok (.bipush 13, 2) := by decide +kernel
theorem dX9_lines_57 : decode cX9_lines 57 = .ok (.if_icmp .ne 42, 3) := by decide +kernel
theorem dX9_lines_60 : decode cX9_lines 60 = .ok (.aload_n 0, 1) := by decide +kernel
theorem dX9_lines_61 : decode cX9_lines 61 = .ok (.iload_n 2, 1) := by decide +kernel
theorem dX9_lines_62 : decode cX9_lines 62 = .ok (.iload 4, 2) := by decide +kernel
theorem dX9_lines_64 : decode cX9_lines 64 = .ok (.invokevirtual 226, 3) := by decide +kernel
theorem dX9_lines_67 : decode cX9_lines 67 = .ok (.iload 5, 2) := by decide +kernel
theorem dX9_lines_69 : decode cX9_lines 69 = .ok (.bipush 13, 2) := by decide +kernel
theorem dX9_lines_71 : decode cX9_lines 71 = .ok (.if_icmp .ne 23, 3) := by decide +kernel
theorem dX9_lines_74 : decode cX9_lines 74 = .ok (.aload_n 0, 1) := by decide +kernel
theorem dX9_lines_75 : decode cX9_lines 75 = .ok (.getfield 33, 3) := by decide +kernel
theorem dX9_lines_78 : decode cX9_lines 78 = .ok (.iload_n 1, 1) := by decide +kernel
theorem dX9_lines_79 : decode cX9_lines 79 = .ok (.iload 4, 2) := by decide +kernel
theorem dX9_lines_81 : decode cX9_lines 81 = .ok (.iconst 1, 1) := by decide +kernel
theorem dX9_lines_82 : decode cX9_lines 82 = .ok (.iadd, 1) := by decide +kernel
theorem dX9_lines_83 : decode cX9_lines 83 = .ok (.invokevirtual 205, 3) := by decide +kernel
theorem dX9_lines_86 : decode cX9_lines 86 = .ok (.bipush 10, 2) := by decide +kernel
theorem dX9_lines_88 : decode cX9_lines 88 = .ok (.if_icmp .ne 6, 3) := by decide +kernel
theorem dX9_lines_91 : decode cX9_lines 91 = .ok (.iinc 4 1, 3) := by decide +kernel
theorem dX9_lines_94 : decode cX9_lines 94 = .ok (.iload 4, 2) := by decide +kernel
theorem dX9_lines_96 : decode cX9_lines 96 = .ok (.iconst 1, 1) := by decide +kernel
theorem dX9_lines_97 : decode cX9_lines 97 = .ok (.iadd, 1) := by decide +kernel
theorem dX9_lines_98 : decode cX9_lines 98 = .ok (.istore_n 2, 1) := by decide +kernel
theorem dX9_lines_99 : decode cX9_lines 99 = .ok (.iinc 4 1, 3) := by decide +kernel
theorem dX9_lines_102 : decode cX9_lines 102 = .ok (.goto (-74), 3) := by decide +kernel
theorem dX9_lines_105 : decode cX9_lines 105 = .ok (.iload_n 2, 1) := by decide +kernel
theorem dX9_lines_106 : decode cX9_lines 106 = .ok (.iload_n 3, 1) := by decide +kernel
theorem dX9_lines_107 : decode cX9_lines 107 = .ok (.if_icmp .ge 9, 3) := by decide +kernel
theorem dX9_lines_110 : decode cX9_lines 110 = .ok (.aload_n 0, 1) := by decide +kernel
theorem dX9_lines_111 : decode cX9_lines 111 = .ok (.iload_n 2, 1) := by decide +kernel
theorem dX9_lines_112 : decode cX9_lines 112 = .ok (.iload_n 3, 1) := by decide +kernel
theorem dX9_lines_113 : decode cX9_lines 113 = .ok (.invokevirtual 226, 3) := by decide +kernel
theorem dX9_lines_116 : decode cX9_lines 116 = .ok (.aload_n 0, 1) := by decide +kernel
theorem dX9_lines_117 : decode cX9_lines 117 = .ok (.iload_n 1, 1) := by decide +kernel
theorem dX9_lines_118 : decode cX9_lines 118 = .ok (.invokevirtual 233, 3) := by decide +kernel
theorem dX9_lines_121 : decode cX9_lines 121 = .ok (.ireturn, 1) := by decide +kernel
def m_TS_lines_121 (g : Nat) (S : St) (y0 : Int32) : Option (St × Int32) :=
some (S, y0)
def m_TS_lines_116 (g : Nat) (S : St) (x1 : Int32) : Option (St × Int32) :=
(m_TS_takeParts g S x1).bind fun (S_4, v_5) =>
m_TS_lines_121 g S_4 v_5
def m_TS_lines_67 (g : Nat) (k28 : St → Int32 → Int32 → Int32 → Int32 → Option (St × Int32)) (S : St) (x1 : Int32) (x3 : Int32) (x4 : Int32) (x5 : Int32) : Option (St × Int32) :=
if x5 = (13 : Int32) then (
  (m_Tx_unitOf g S x1 (x4 + (1 : Int32))).bind fun v_9 =>
  if v_9 = (10 : Int32) then (
    lt (x4 + (1 : Int32)) fun x4_12 =>
    lt (x4_12 + (1 : Int32)) fun x2_13 =>
    lt (x4_12 + (1 : Int32)) fun x4_14 =>
    k28 S x1 x2_13 x3 x4_14
  ) else (
    lt (x4 + (1 : Int32)) fun x2_10 =>
    lt (x4 + (1 : Int32)) fun x4_11 =>
    k28 S x1 x2_10 x3 x4_11
  )
) else (
  lt (x4 + (1 : Int32)) fun x2_7 =>
  lt (x4 + (1 : Int32)) fun x4_8 =>
  k28 S x1 x2_7 x3 x4_8
)
def m_TS_lines_60 (g : Nat) (k28 : St → Int32 → Int32 → Int32 → Int32 → Option (St × Int32)) (S : St) (x1 : Int32) (x2 : Int32) (x3 : Int32) (x4 : Int32) (x5 : Int32) : Option (St × Int32) :=
(m_TS_addCut g S x2 x4).bind fun S_6 =>
m_TS_lines_67 g k28 S_6 x1 x3 x4 x5
def b_TS_lines_28 (g : Nat) (k28 : St → Int32 → Int32 → Int32 → Int32 → Option (St × Int32)) (S : St) (x1 : Int32) (x2 : Int32) (x3 : Int32) (x4 : Int32) : Option (St × Int32) :=
if x3 ≤ x4 then (
  if x3 ≤ x2 then (
    m_TS_lines_116 g S x1
  ) else (
    (m_TS_addCut g S x2 x3).bind fun S_4 =>
    m_TS_lines_116 g S_4 x1
  )
) else (
  (m_Tx_unitOf g S x1 x4).bind fun v_5 =>
  if v_5 = (10 : Int32) then (
    m_TS_lines_60 g k28 S x1 x2 x3 x4 v_5
  ) else (
    if v_5 = (13 : Int32) then (
      m_TS_lines_60 g k28 S x1 x2 x3 x4 v_5
    ) else (
      lt (x4 + (1 : Int32)) fun x4_6 =>
      k28 S x1 x2 x3 x4_6
    )
  )
)
def m_TS_lines_28 (g : Nat) : Nat → St → Int32 → Int32 → Int32 → Int32 → Option (St × Int32)
  | 0, _, _, _, _, _ => none
  | n + 1, S, x1, x2, x3, x4 => b_TS_lines_28 g (m_TS_lines_28 g n) S x1 x2 x3 x4
def m_TS_lines (g : Nat) (S : St) (x1 : Int32) : Option (St × Int32) :=
(m_Row_clear g S 30).bind fun S_1 =>
(m_Row_clear g S_1 31).bind fun S_2 =>
(m_Tx_sizeOf g S_2 x1).bind fun v_3 =>
m_TS_lines_28 g g S_2 x1 (0 : Int32) v_3 (0 : Int32)
theorem km_TS_lines_121 {g : Nat} {S : St} {y0 : Int32} {S' : St} {r : Int32} (h : m_TS_lines_121 g S y0 = some (S', r)) : kap S ≤ kap S' := by
  unfold m_TS_lines_121 at h
  have nn : nq S S := nq_rf
  obtain ⟨rfl, rfl⟩ := prI h
  have hkn := nq_kap nn
  omega
theorem km_TS_lines_116 {g : Nat} {S : St} {x1 : Int32} {S' : St} {r : Int32} (h : m_TS_lines_116 g S x1 = some (S', r)) : kap S ≤ kap S' := by
  unfold m_TS_lines_116 at h
  have nn : nq S S := nq_rf
  obtain ⟨⟨S_4, v_5⟩, hv_5, h⟩ := bnd h
  have hk1 := km_TS_takeParts hv_5
  have hkn := nq_kap nn
  have h2 := km_TS_lines_121 h
  omega
theorem km_TS_lines_67 {g : Nat} {S : St} {x1 : Int32} {x3 : Int32} {x4 : Int32} {x5 : Int32} {S' : St} {r : Int32} {k28 : St → Int32 → Int32 → Int32 → Int32 → Option (St × Int32)} (km28 : ∀ (S : St) (x1 : Int32) (x2 : Int32) (x3 : Int32) (x4 : Int32), k28 S x1 x2 x3 x4 = some (S', r) → kap S ≤ kap S') (h : m_TS_lines_67 g k28 S x1 x3 x4 x5 = some (S', r)) : kap S ≤ kap S' := by
  unfold m_TS_lines_67 at h
  have nn : nq S S := nq_rf
  by_cases hc1 : x5 = (13 : Int32)
  · replace h := ift hc1 h
    obtain ⟨v_9, hv_9, h⟩ := bnd h
    by_cases hc2 : v_9 = (10 : Int32)
    · replace h := ift hc2 h
      obtain ⟨x4_12, ex4_12, h⟩ := lt_e h
      obtain ⟨x2_13, ex2_13, h⟩ := lt_e h
      obtain ⟨x4_14, ex4_14, h⟩ := lt_e h
      have hkn := nq_kap nn
      have h2 := km28 _ _ _ _ _ h
      omega
    · replace h := iff0 hc2 h
      obtain ⟨x2_10, ex2_10, h⟩ := lt_e h
      obtain ⟨x4_11, ex4_11, h⟩ := lt_e h
      have hkn := nq_kap nn
      have h2 := km28 _ _ _ _ _ h
      omega
  · replace h := iff0 hc1 h
    obtain ⟨x2_7, ex2_7, h⟩ := lt_e h
    obtain ⟨x4_8, ex4_8, h⟩ := lt_e h
    have hkn := nq_kap nn
    have h2 := km28 _ _ _ _ _ h
    omega
theorem km_TS_lines_60 {g : Nat} {S : St} {x1 : Int32} {x2 : Int32} {x3 : Int32} {x4 : Int32} {x5 : Int32} {S' : St} {r : Int32} {k28 : St → Int32 → Int32 → Int32 → Int32 → Option (St × Int32)} (km28 : ∀ (S : St) (x1 : Int32) (x2 : Int32) (x3 : Int32) (x4 : Int32), k28 S x1 x2 x3 x4 = some (S', r) → kap S ≤ kap S') (h : m_TS_lines_60 g k28 S x1 x2 x3 x4 x5 = some (S', r)) : kap S ≤ kap S' := by
  unfold m_TS_lines_60 at h
  have nn : nq S S := nq_rf
  obtain ⟨S_6, hS_6, h⟩ := bnd h
  have hk1 := km_TS_addCut hS_6
  have hkn := nq_kap nn
  have h2 := km_TS_lines_67 km28 h
  omega
theorem kmb_TS_lines_28 {g : Nat} {S : St} {x1 : Int32} {x2 : Int32} {x3 : Int32} {x4 : Int32} {S' : St} {r : Int32} {k28 : St → Int32 → Int32 → Int32 → Int32 → Option (St × Int32)} (km28 : ∀ (S : St) (x1 : Int32) (x2 : Int32) (x3 : Int32) (x4 : Int32), k28 S x1 x2 x3 x4 = some (S', r) → kap S ≤ kap S') (h : b_TS_lines_28 g k28 S x1 x2 x3 x4 = some (S', r)) : kap S ≤ kap S' := by
  unfold b_TS_lines_28 at h
  have nn : nq S S := nq_rf
  by_cases hc1 : x3 ≤ x4
  · replace h := ift hc1 h
    by_cases hc2 : x3 ≤ x2
    · replace h := ift hc2 h
      have hkn := nq_kap nn
      have h2 := km_TS_lines_116 h
      omega
    · replace h := iff0 hc2 h
      obtain ⟨S_4, hS_4, h⟩ := bnd h
      have hk1 := km_TS_addCut hS_4
      have hkn := nq_kap nn
      have h2 := km_TS_lines_116 h
      omega
  · replace h := iff0 hc1 h
    obtain ⟨v_5, hv_5, h⟩ := bnd h
    by_cases hc3 : v_5 = (10 : Int32)
    · replace h := ift hc3 h
      have hkn := nq_kap nn
      have h2 := km_TS_lines_60 km28 h
      omega
    · replace h := iff0 hc3 h
      by_cases hc4 : v_5 = (13 : Int32)
      · replace h := ift hc4 h
        have hkn := nq_kap nn
        have h2 := km_TS_lines_60 km28 h
        omega
      · replace h := iff0 hc4 h
        obtain ⟨x4_6, ex4_6, h⟩ := lt_e h
        have hkn := nq_kap nn
        have h2 := km28 _ _ _ _ _ h
        omega
theorem km_TS_lines_28 {g : Nat} {S' : St} {r : Int32} (n : Nat) : ∀ (S : St) (x1 : Int32) (x2 : Int32) (x3 : Int32) (x4 : Int32), m_TS_lines_28 g n S x1 x2 x3 x4 = some (S', r) → kap S ≤ kap S' := by
  induction n with
  | zero => intro S x1 x2 x3 x4 h; exact absurd h (fun q => by cases q)
  | succ n ih => intro S x1 x2 x3 x4 h; exact kmb_TS_lines_28 ih h
theorem km_TS_lines {g : Nat} {S : St} {x1 : Int32} {S' : St} {r : Int32} (h : m_TS_lines g S x1 = some (S', r)) : kap S ≤ kap S' := by
  unfold m_TS_lines at h
  have nn : nq S S := nq_rf
  obtain ⟨S_1, hS_1, h⟩ := bnd h
  replace nn : nq S_1 S := nq_tr (kq_Row_clear hS_1) nn
  obtain ⟨S_2, hS_2, h⟩ := bnd h
  replace nn : nq S_2 S := nq_tr (kq_Row_clear hS_2) nn
  obtain ⟨v_3, hv_3, h⟩ := bnd h
  have hkn := nq_kap nn
  have h2 := km_TS_lines_28 g _ _ _ _ _ h
  omega
section S_TS_lines
variable {p : Program} {l : Launch} {e : Env} {s : State} {m : MethodId} {args : Array Value} {below : List Frame} {meth : Method} {c : Code} {H : Heap} {locs : List Loc} {ls : Array Slot} {D : va_G} {T : Cy} {ρ ρ0 : Nat → Nat} {S0 : St} {A : Nat → Prop}
set_option maxRecDepth 100000 in
set_option maxHeartbeats 4000000 in
theorem w_TS_lines_121 {g : Nat} {S : St} {y0 : Int32} (C : CallFix p m c cX9_lines 6 s args tb RX9) (hr : meth.sig.returnType = (some .int)) (hk : meth.locks = false) {S' : St} {r : Int32} (ha : Ag ρ0 ρ) (hm : kap S0 ≤ kap S) (w : Wn Yc D T ρ S A s H locs) (hl : lv_has ls 6 []) (h : m_TS_lines_121 g S y0 = some (S', r)) : W p l e (rmK 5 122 (kap S' - kap S0)) s m args below meth c H locs (kap S - kap S0) (2 * (kap S - kap S0)) (MQ below (QiM D T ρ0 A S' r) args s (kap S' - kap S0) (2 * (kap S' - kap S0)) A) (F0 m 121 ls [.int y0]) := by
  have hT := km_TS_lines_121 h
  unfold m_TS_lines_121 at h
  have nn : nq S S := nq_rf
  obtain ⟨rfl, rfl⟩ := prI h
  exact x_iretM C w ha hr hk dX9_lines_121 (by have := nq_kap nn; omega) (by have := nq_kap nn; omega)
set_option maxRecDepth 100000 in
set_option maxHeartbeats 4000000 in
theorem w_TS_lines_116 {g : Nat} {S : St} {x1 : Int32} (C : CallFix p m c cX9_lines 6 s args tb RX9) (hr : meth.sig.returnType = (some .int)) (hk : meth.locks = false) {S' : St} {r : Int32} (ha : Ag ρ0 ρ) (hm : kap S0 ≤ kap S) (w : Wn Yc D T ρ S A s H locs) (hl : lv_has ls 6 [(0, .ref (ρ 7)), (1, .int x1)]) (h : m_TS_lines_116 g S x1 = some (S', r)) : W p l e (rmK 5 122 (kap S' - kap S0)) s m args below meth c H locs (kap S - kap S0) (2 * (kap S - kap S0)) (MQ below (QiM D T ρ0 A S' r) args s (kap S' - kap S0) (2 * (kap S' - kap S0)) A) (F0 m 116 ls []) := by
  have hT := km_TS_lines_116 h
  unfold m_TS_lines_116 at h
  have nn : nq S S := nq_rf
  refine lv_aload_n C.1 C.2.1 dX9_lines_116 rfl (lv_at hl 0 rfl) ?_
  refine lv_iload_n C.1 C.2.1 dX9_lines_117 rfl (lv_at hl 1 rfl) ?_
  obtain ⟨⟨S_4, v_5⟩, hv_5, h⟩ := bnd h
  have hkn := nq_kap nn
  have hk1 := km_TS_takeParts hv_5
  have hT2 := km_TS_lines_121 h
  refine x_callViM (q := (RX9, TX9, 6)) (As := [.int x1]) (rest := []) C w (k_TS_takeParts l D T ρ g H.size S hv_5) vX9_233 (hRK (by decide) (by decide)) obC7 (by decide) rfl rfl rfl hl.1 (Nat.le_of_ble_eq_true rfl) (hcM hm hkn hk1 hT2) dX9_lines_118 (fun ρ1 H locs hag w => ?_)
  replace ha := ha.trans hag
  rw [← hag 7 (by decide)] at hl
  refine W.widen (k := kap S_4 - kap S0) (n := 2 * (kap S_4 - kap S0)) (by omega) (by omega) ?_
  exact w_TS_lines_121 C hr hk ha (by omega) w (lv_sub hl [] rfl) h
set_option maxRecDepth 100000 in
set_option maxHeartbeats 4000000 in
theorem w_TS_lines_67 {g : Nat} {S : St} {x1 : Int32} {x3 : Int32} {x4 : Int32} {x5 : Int32} (C : CallFix p m c cX9_lines 6 s args tb RX9) (hr : meth.sig.returnType = (some .int)) (hk : meth.locks = false) {S' : St} {r : Int32} {k28 : St → Int32 → Int32 → Int32 → Int32 → Option (St × Int32)} (kk28 : ∀ (ρ : Nat → Nat) (S : St) (x1 : Int32) (x2 : Int32) (x3 : Int32) (x4 : Int32) (H : Heap) (locs : List Loc) (ls : Array Slot), Ag ρ0 ρ → kap S0 ≤ kap S → Wn Yc D T ρ S A s H locs → lv_has ls 6 [(0, .ref (ρ 7)), (1, .int x1), (2, .int x2), (3, .int x3), (4, .int x4)] → k28 S x1 x2 x3 x4 = some (S', r) → W p l e (rmK 5 122 (kap S' - kap S0)) s m args below meth c H locs (kap S - kap S0) (2 * (kap S - kap S0)) (MQ below (QiM D T ρ0 A S' r) args s (kap S' - kap S0) (2 * (kap S' - kap S0)) A) (F0 m 28 ls [])) (km28 : ∀ (S : St) (x1 : Int32) (x2 : Int32) (x3 : Int32) (x4 : Int32), k28 S x1 x2 x3 x4 = some (S', r) → kap S ≤ kap S') (ha : Ag ρ0 ρ) (hm : kap S0 ≤ kap S) (w : Wn Yc D T ρ S A s H locs) (hl : lv_has ls 6 [(0, .ref (ρ 7)), (1, .int x1), (3, .int x3), (4, .int x4), (5, .int x5)]) (h : m_TS_lines_67 g k28 S x1 x3 x4 x5 = some (S', r)) : W p l e (rmK 5 122 (kap S' - kap S0)) s m args below meth c H locs (kap S - kap S0) (2 * (kap S - kap S0)) (MQ below (QiM D T ρ0 A S' r) args s (kap S' - kap S0) (2 * (kap S' - kap S0)) A) (F0 m 67 ls []) := by
  have hT := km_TS_lines_67 km28 h
  unfold m_TS_lines_67 at h
  have nn : nq S S := nq_rf
  refine lv_iload C.1 C.2.1 dX9_lines_67 (lv_at hl 4 rfl) ?_
  refine lv_bipush (v := 13) C.1 C.2.1 dX9_lines_69 (by decide) ?_
  refine lv_icmp_ne (tgt := 94) C.1 C.2.1 dX9_lines_71 (by decide) (fun hc => ?_) (fun hc => ?_)
  · replace h := iff0 hc h
    refine lv_iload C.1 C.2.1 dX9_lines_94 (lv_at hl 3 rfl) ?_
    refine lv_iconst (v := 1) C.1 C.2.1 dX9_lines_96 (by decide) ?_
    refine lv_iadd C.1 C.2.1 dX9_lines_97 ?_
    obtain ⟨x2_7, ex2_7, h⟩ := lt_e h
    refine x_nm ex2_7 ?_
    refine lv_istore_n (lv' := [(2, .int x2_7), (0, .ref (ρ 7)), (1, .int x1), (3, .int x3), (4, .int x4), (5, .int x5)]) C.1 C.2.1 dX9_lines_98 rfl hl (by decide) rfl (fun ls hl => ?_)
    obtain ⟨x4_8, ex4_8, h⟩ := lt_e h
    refine lv_iinc (v := x4_8) (lv' := [(4, .int x4_8), (2, .int x2_7), (0, .ref (ρ 7)), (1, .int x1), (3, .int x3), (5, .int x5)]) C.1 C.2.1 dX9_lines_99 hl (k := 4) rfl (by rw [ex4_8]; rfl) (by decide) rfl (fun ls hl => ?_)
    refine lv_goto (tgt := 28) C.1 C.2.1 dX9_lines_102 (by decide) ?_
    have hkn := nq_kap nn
    refine W.widen (k := kap S - kap S0) (n := 2 * (kap S - kap S0)) (by omega) (by omega) ?_
    exact kk28 _ _ _ _ _ _ _ _ _ ha (by omega) w (lv_sub hl [2, 3, 1, 4, 0] rfl) h
  · replace h := ift hc h
    refine lv_aload_n C.1 C.2.1 dX9_lines_74 rfl (lv_at hl 0 rfl) ?_
    refine x_getC C w 5 fX9_33 obC7 rfl dX9_lines_75 ?_
    refine lv_iload_n C.1 C.2.1 dX9_lines_78 rfl (lv_at hl 1 rfl) ?_
    refine lv_iload C.1 C.2.1 dX9_lines_79 (lv_at hl 3 rfl) ?_
    refine lv_iconst (v := 1) C.1 C.2.1 dX9_lines_81 (by decide) ?_
    refine lv_iadd C.1 C.2.1 dX9_lines_82 ?_
    obtain ⟨v_9, hv_9, h⟩ := bnd h
    refine x_callVi (q := (RX10, TX10, 5)) (As := [.int x1, .int (x4 + (1 : Int32))]) (rest := []) C w (k_Tx_unitOf l D T ρ g H.size S hv_9) vX9_205 (hRK (by decide) (by decide)) obC5 (by decide) rfl rfl rfl hl.1 (Nat.le_of_ble_eq_true rfl) (hcK hT) dX9_lines_83 (fun H locs w => ?_)
    refine lv_bipush (v := 10) C.1 C.2.1 dX9_lines_86 (by decide) ?_
    refine lv_icmp_ne (tgt := 94) C.1 C.2.1 dX9_lines_88 (by decide) (fun hc => ?_) (fun hc => ?_)
    · replace h := iff0 hc h
      refine lv_iload C.1 C.2.1 dX9_lines_94 (lv_at hl 3 rfl) ?_
      refine lv_iconst (v := 1) C.1 C.2.1 dX9_lines_96 (by decide) ?_
      refine lv_iadd C.1 C.2.1 dX9_lines_97 ?_
      obtain ⟨x2_10, ex2_10, h⟩ := lt_e h
      refine x_nm ex2_10 ?_
      refine lv_istore_n (lv' := [(2, .int x2_10), (0, .ref (ρ 7)), (1, .int x1), (3, .int x3), (4, .int x4), (5, .int x5)]) C.1 C.2.1 dX9_lines_98 rfl hl (by decide) rfl (fun ls hl => ?_)
      obtain ⟨x4_11, ex4_11, h⟩ := lt_e h
      refine lv_iinc (v := x4_11) (lv' := [(4, .int x4_11), (2, .int x2_10), (0, .ref (ρ 7)), (1, .int x1), (3, .int x3), (5, .int x5)]) C.1 C.2.1 dX9_lines_99 hl (k := 4) rfl (by rw [ex4_11]; rfl) (by decide) rfl (fun ls hl => ?_)
      refine lv_goto (tgt := 28) C.1 C.2.1 dX9_lines_102 (by decide) ?_
      have hkn := nq_kap nn
      refine W.widen (k := kap S - kap S0) (n := 2 * (kap S - kap S0)) (by omega) (by omega) ?_
      exact kk28 _ _ _ _ _ _ _ _ _ ha (by omega) w (lv_sub hl [2, 3, 1, 4, 0] rfl) h
    · replace h := ift hc h
      obtain ⟨x4_12, ex4_12, h⟩ := lt_e h
      refine lv_iinc (v := x4_12) (lv' := [(4, .int x4_12), (0, .ref (ρ 7)), (1, .int x1), (3, .int x3), (5, .int x5)]) C.1 C.2.1 dX9_lines_91 hl (k := 3) rfl (by rw [ex4_12]; rfl) (by decide) rfl (fun ls hl => ?_)
      refine lv_iload C.1 C.2.1 dX9_lines_94 (lv_at hl 0 rfl) ?_
      refine lv_iconst (v := 1) C.1 C.2.1 dX9_lines_96 (by decide) ?_
      refine lv_iadd C.1 C.2.1 dX9_lines_97 ?_
      obtain ⟨x2_13, ex2_13, h⟩ := lt_e h
      refine x_nm ex2_13 ?_
      refine lv_istore_n (lv' := [(2, .int x2_13), (4, .int x4_12), (0, .ref (ρ 7)), (1, .int x1), (3, .int x3), (5, .int x5)]) C.1 C.2.1 dX9_lines_98 rfl hl (by decide) rfl (fun ls hl => ?_)
      obtain ⟨x4_14, ex4_14, h⟩ := lt_e h
      refine lv_iinc (v := x4_14) (lv' := [(4, .int x4_14), (2, .int x2_13), (0, .ref (ρ 7)), (1, .int x1), (3, .int x3), (5, .int x5)]) C.1 C.2.1 dX9_lines_99 hl (k := 1) rfl (by rw [ex4_14]; rfl) (by decide) rfl (fun ls hl => ?_)
      refine lv_goto (tgt := 28) C.1 C.2.1 dX9_lines_102 (by decide) ?_
      have hkn := nq_kap nn
      refine W.widen (k := kap S - kap S0) (n := 2 * (kap S - kap S0)) (by omega) (by omega) ?_
      exact kk28 _ _ _ _ _ _ _ _ _ ha (by omega) w (lv_sub hl [2, 3, 1, 4, 0] rfl) h
set_option maxRecDepth 100000 in
set_option maxHeartbeats 4000000 in
theorem w_TS_lines_60 {g : Nat} {S : St} {x1 : Int32} {x2 : Int32} {x3 : Int32} {x4 : Int32} {x5 : Int32} (C : CallFix p m c cX9_lines 6 s args tb RX9) (hr : meth.sig.returnType = (some .int)) (hk : meth.locks = false) {S' : St} {r : Int32} {k28 : St → Int32 → Int32 → Int32 → Int32 → Option (St × Int32)} (kk28 : ∀ (ρ : Nat → Nat) (S : St) (x1 : Int32) (x2 : Int32) (x3 : Int32) (x4 : Int32) (H : Heap) (locs : List Loc) (ls : Array Slot), Ag ρ0 ρ → kap S0 ≤ kap S → Wn Yc D T ρ S A s H locs → lv_has ls 6 [(0, .ref (ρ 7)), (1, .int x1), (2, .int x2), (3, .int x3), (4, .int x4)] → k28 S x1 x2 x3 x4 = some (S', r) → W p l e (rmK 5 122 (kap S' - kap S0)) s m args below meth c H locs (kap S - kap S0) (2 * (kap S - kap S0)) (MQ below (QiM D T ρ0 A S' r) args s (kap S' - kap S0) (2 * (kap S' - kap S0)) A) (F0 m 28 ls [])) (km28 : ∀ (S : St) (x1 : Int32) (x2 : Int32) (x3 : Int32) (x4 : Int32), k28 S x1 x2 x3 x4 = some (S', r) → kap S ≤ kap S') (ha : Ag ρ0 ρ) (hm : kap S0 ≤ kap S) (w : Wn Yc D T ρ S A s H locs) (hl : lv_has ls 6 [(0, .ref (ρ 7)), (1, .int x1), (2, .int x2), (3, .int x3), (4, .int x4), (5, .int x5)]) (h : m_TS_lines_60 g k28 S x1 x2 x3 x4 x5 = some (S', r)) : W p l e (rmK 5 122 (kap S' - kap S0)) s m args below meth c H locs (kap S - kap S0) (2 * (kap S - kap S0)) (MQ below (QiM D T ρ0 A S' r) args s (kap S' - kap S0) (2 * (kap S' - kap S0)) A) (F0 m 60 ls []) := by
  have hT := km_TS_lines_60 km28 h
  unfold m_TS_lines_60 at h
  have nn : nq S S := nq_rf
  refine lv_aload_n C.1 C.2.1 dX9_lines_60 rfl (lv_at hl 0 rfl) ?_
  refine lv_iload_n C.1 C.2.1 dX9_lines_61 rfl (lv_at hl 2 rfl) ?_
  refine lv_iload C.1 C.2.1 dX9_lines_62 (lv_at hl 4 rfl) ?_
  obtain ⟨S_6, hS_6, h⟩ := bnd h
  have hkn := nq_kap nn
  have hk1 := km_TS_addCut hS_6
  have hT2 := km_TS_lines_67 km28 h
  refine x_callVvM (q := (RX9, TX9, 6)) (As := [.int x2, .int x4]) (rest := []) C w (k_TS_addCut l D T ρ g H.size S hS_6) vX9_226 (hRK (by decide) (by decide)) obC7 (by decide) rfl rfl rfl hl.1 (Nat.le_of_ble_eq_true rfl) (hcM hm hkn hk1 hT2) dX9_lines_64 (fun ρ1 H locs hag w => ?_)
  replace ha := ha.trans hag
  rw [← hag 7 (by decide)] at hl
  refine W.widen (k := kap S_6 - kap S0) (n := 2 * (kap S_6 - kap S0)) (by omega) (by omega) ?_
  exact w_TS_lines_67 C hr hk kk28 km28 ha (by omega) w (lv_sub hl [0, 1, 3, 4, 5] rfl) h
set_option maxRecDepth 100000 in
set_option maxHeartbeats 4000000 in
theorem wb_TS_lines_28 {g : Nat} {S : St} {x1 : Int32} {x2 : Int32} {x3 : Int32} {x4 : Int32} (C : CallFix p m c cX9_lines 6 s args tb RX9) (hr : meth.sig.returnType = (some .int)) (hk : meth.locks = false) {S' : St} {r : Int32} {k28 : St → Int32 → Int32 → Int32 → Int32 → Option (St × Int32)} (kk28 : ∀ (ρ : Nat → Nat) (S : St) (x1 : Int32) (x2 : Int32) (x3 : Int32) (x4 : Int32) (H : Heap) (locs : List Loc) (ls : Array Slot), Ag ρ0 ρ → kap S0 ≤ kap S → Wn Yc D T ρ S A s H locs → lv_has ls 6 [(0, .ref (ρ 7)), (1, .int x1), (2, .int x2), (3, .int x3), (4, .int x4)] → k28 S x1 x2 x3 x4 = some (S', r) → W p l e (rmK 5 122 (kap S' - kap S0)) s m args below meth c H locs (kap S - kap S0) (2 * (kap S - kap S0)) (MQ below (QiM D T ρ0 A S' r) args s (kap S' - kap S0) (2 * (kap S' - kap S0)) A) (F0 m 28 ls [])) (km28 : ∀ (S : St) (x1 : Int32) (x2 : Int32) (x3 : Int32) (x4 : Int32), k28 S x1 x2 x3 x4 = some (S', r) → kap S ≤ kap S') (ha : Ag ρ0 ρ) (hm : kap S0 ≤ kap S) (w : Wn Yc D T ρ S A s H locs) (hl : lv_has ls 6 [(0, .ref (ρ 7)), (1, .int x1), (2, .int x2), (3, .int x3), (4, .int x4)]) (h : b_TS_lines_28 g k28 S x1 x2 x3 x4 = some (S', r)) : W p l e (rmK 5 122 (kap S' - kap S0)) s m args below meth c H locs (kap S - kap S0) (2 * (kap S - kap S0)) (MQ below (QiM D T ρ0 A S' r) args s (kap S' - kap S0) (2 * (kap S' - kap S0)) A) (F0 m 28 ls []) := by
  have hT := kmb_TS_lines_28 km28 h
  unfold b_TS_lines_28 at h
  have nn : nq S S := nq_rf
  refine lv_iload C.1 C.2.1 dX9_lines_28 (lv_at hl 4 rfl) ?_
  refine lv_iload_n C.1 C.2.1 dX9_lines_30 rfl (lv_at hl 3 rfl) ?_
  refine lv_icmp_ge (tgt := 105) C.1 C.2.1 dX9_lines_31 (by decide) (fun hc => ?_) (fun hc => ?_)
  · replace h := ift hc h
    refine lv_iload_n C.1 C.2.1 dX9_lines_105 rfl (lv_at hl 2 rfl) ?_
    refine lv_iload_n C.1 C.2.1 dX9_lines_106 rfl (lv_at hl 3 rfl) ?_
    refine lv_icmp_ge (tgt := 116) C.1 C.2.1 dX9_lines_107 (by decide) (fun hc => ?_) (fun hc => ?_)
    · replace h := ift hc h
      have hkn := nq_kap nn
      refine W.widen (k := kap S - kap S0) (n := 2 * (kap S - kap S0)) (by omega) (by omega) ?_
      exact w_TS_lines_116 C hr hk ha (by omega) w (lv_sub hl [0, 1] rfl) h
    · replace h := iff0 hc h
      refine lv_aload_n C.1 C.2.1 dX9_lines_110 rfl (lv_at hl 0 rfl) ?_
      refine lv_iload_n C.1 C.2.1 dX9_lines_111 rfl (lv_at hl 2 rfl) ?_
      refine lv_iload_n C.1 C.2.1 dX9_lines_112 rfl (lv_at hl 3 rfl) ?_
      obtain ⟨S_4, hS_4, h⟩ := bnd h
      have hkn := nq_kap nn
      have hk1 := km_TS_addCut hS_4
      have hT2 := km_TS_lines_116 h
      refine x_callVvM (q := (RX9, TX9, 6)) (As := [.int x2, .int x3]) (rest := []) C w (k_TS_addCut l D T ρ g H.size S hS_4) vX9_226 (hRK (by decide) (by decide)) obC7 (by decide) rfl rfl rfl hl.1 (Nat.le_of_ble_eq_true rfl) (hcM hm hkn hk1 hT2) dX9_lines_113 (fun ρ1 H locs hag w => ?_)
      replace ha := ha.trans hag
      rw [← hag 7 (by decide)] at hl
      refine W.widen (k := kap S_4 - kap S0) (n := 2 * (kap S_4 - kap S0)) (by omega) (by omega) ?_
      exact w_TS_lines_116 C hr hk ha (by omega) w (lv_sub hl [0, 1] rfl) h
  · replace h := iff0 hc h
    refine lv_aload_n C.1 C.2.1 dX9_lines_34 rfl (lv_at hl 0 rfl) ?_
    refine x_getC C w 5 fX9_33 obC7 rfl dX9_lines_35 ?_
    refine lv_iload_n C.1 C.2.1 dX9_lines_38 rfl (lv_at hl 1 rfl) ?_
    refine lv_iload C.1 C.2.1 dX9_lines_39 (lv_at hl 4 rfl) ?_
    obtain ⟨v_5, hv_5, h⟩ := bnd h
    refine x_callVi (q := (RX10, TX10, 5)) (As := [.int x1, .int x4]) (rest := []) C w (k_Tx_unitOf l D T ρ g H.size S hv_5) vX9_205 (hRK (by decide) (by decide)) obC5 (by decide) rfl rfl rfl hl.1 (Nat.le_of_ble_eq_true rfl) (hcK hT) dX9_lines_41 (fun H locs w => ?_)
    refine lv_istore (lv' := [(5, .int v_5), (0, .ref (ρ 7)), (1, .int x1), (2, .int x2), (3, .int x3), (4, .int x4)]) C.1 C.2.1 dX9_lines_44 hl (by decide) rfl (fun ls hl => ?_)
    refine lv_iload C.1 C.2.1 dX9_lines_46 (lv_at hl 0 rfl) ?_
    refine lv_bipush (v := 10) C.1 C.2.1 dX9_lines_48 (by decide) ?_
    refine lv_icmp_eq (tgt := 60) C.1 C.2.1 dX9_lines_50 (by decide) (fun hc => ?_) (fun hc => ?_)
    · replace h := ift hc h
      have hkn := nq_kap nn
      refine W.widen (k := kap S - kap S0) (n := 2 * (kap S - kap S0)) (by omega) (by omega) ?_
      exact w_TS_lines_60 C hr hk kk28 km28 ha (by omega) w (lv_sub hl [1, 2, 3, 4, 5, 0] rfl) h
    · replace h := iff0 hc h
      refine lv_iload C.1 C.2.1 dX9_lines_53 (lv_at hl 0 rfl) ?_
      refine lv_bipush (v := 13) C.1 C.2.1 dX9_lines_55 (by decide) ?_
      refine lv_icmp_ne (tgt := 99) C.1 C.2.1 dX9_lines_57 (by decide) (fun hc => ?_) (fun hc => ?_)
      · replace h := iff0 hc h
        obtain ⟨x4_6, ex4_6, h⟩ := lt_e h
        refine lv_iinc (v := x4_6) (lv' := [(4, .int x4_6), (5, .int v_5), (0, .ref (ρ 7)), (1, .int x1), (2, .int x2), (3, .int x3)]) C.1 C.2.1 dX9_lines_99 hl (k := 5) rfl (by rw [ex4_6]; rfl) (by decide) rfl (fun ls hl => ?_)
        refine lv_goto (tgt := 28) C.1 C.2.1 dX9_lines_102 (by decide) ?_
        have hkn := nq_kap nn
        refine W.widen (k := kap S - kap S0) (n := 2 * (kap S - kap S0)) (by omega) (by omega) ?_
        exact kk28 _ _ _ _ _ _ _ _ _ ha (by omega) w (lv_sub hl [2, 3, 4, 5, 0] rfl) h
      · replace h := ift hc h
        have hkn := nq_kap nn
        refine W.widen (k := kap S - kap S0) (n := 2 * (kap S - kap S0)) (by omega) (by omega) ?_
        exact w_TS_lines_60 C hr hk kk28 km28 ha (by omega) w (lv_sub hl [1, 2, 3, 4, 5, 0] rfl) h
theorem w_TS_lines_28 {g : Nat} (C : CallFix p m c cX9_lines 6 s args tb RX9) (hr : meth.sig.returnType = (some .int)) (hk : meth.locks = false) {S' : St} {r : Int32} (n : Nat) : ∀ (ρ : Nat → Nat) (S : St) (x1 : Int32) (x2 : Int32) (x3 : Int32) (x4 : Int32) (H : Heap) (locs : List Loc) (ls : Array Slot), Ag ρ0 ρ → kap S0 ≤ kap S → Wn Yc D T ρ S A s H locs → lv_has ls 6 [(0, .ref (ρ 7)), (1, .int x1), (2, .int x2), (3, .int x3), (4, .int x4)] → m_TS_lines_28 g n S x1 x2 x3 x4 = some (S', r) → W p l e (rmK 5 122 (kap S' - kap S0)) s m args below meth c H locs (kap S - kap S0) (2 * (kap S - kap S0)) (MQ below (QiM D T ρ0 A S' r) args s (kap S' - kap S0) (2 * (kap S' - kap S0)) A) (F0 m 28 ls []) := by
  induction n with
  | zero => intro ρ S x1 x2 x3 x4 H locs ls ha hm w hl h; exact absurd h (fun q => by cases q)
  | succ n ih => intro ρ S x1 x2 x3 x4 H locs ls ha hm w hl h; exact wb_TS_lines_28 C hr hk ih (km_TS_lines_28 n) ha hm w hl h
set_option maxRecDepth 100000 in
set_option maxHeartbeats 4000000 in
theorem w_TS_lines_0 {g : Nat} {S : St} {x1 : Int32} (C : CallFix p m c cX9_lines 6 s args tb RX9) (hr : meth.sig.returnType = (some .int)) (hk : meth.locks = false) {S' : St} {r : Int32} (ha : Ag ρ0 ρ) (hm : kap S0 ≤ kap S) (w : Wn Yc D T ρ S A s H locs) (hl : lv_has ls 6 [(0, .ref (ρ 7)), (1, .int x1)]) (h : m_TS_lines g S x1 = some (S', r)) : W p l e (rmK 5 122 (kap S' - kap S0)) s m args below meth c H locs (kap S - kap S0) (2 * (kap S - kap S0)) (MQ below (QiM D T ρ0 A S' r) args s (kap S' - kap S0) (2 * (kap S' - kap S0)) A) (F0 m 0 ls []) := by
  have hT := km_TS_lines h
  unfold m_TS_lines at h
  have nn : nq S S := nq_rf
  refine lv_aload_n C.1 C.2.1 dX9_lines_0 rfl (lv_at hl 0 rfl) ?_
  refine x_getC C w 30 fX9_14 obC7 rfl dX9_lines_1 ?_
  obtain ⟨S_1, hS_1, h⟩ := bnd h
  replace nn : nq S_1 S := nq_tr (kq_Row_clear hS_1) nn
  refine x_callVv (q := (RX6, TX6, 4)) (As := []) (rest := []) C w (k_Row_clear l D T ρ g H.size S obC30 hS_1) vX9_46 (hRK (by decide) (by decide)) obC30 (by decide) rfl rfl rfl hl.1 (Nat.le_of_ble_eq_true rfl) (hcK hT) dX9_lines_4 (fun H locs w => ?_)
  refine lv_aload_n C.1 C.2.1 dX9_lines_7 rfl (lv_at hl 0 rfl) ?_
  refine x_getC C w 31 fX9_20 obC7 rfl dX9_lines_8 ?_
  obtain ⟨S_2, hS_2, h⟩ := bnd h
  replace nn : nq S_2 S := nq_tr (kq_Row_clear hS_2) nn
  refine x_callVv (q := (RX6, TX6, 4)) (As := []) (rest := []) C w (k_Row_clear l D T ρ g H.size S_1 obC31 hS_2) vX9_46 (hRK (by decide) (by decide)) obC31 (by decide) rfl rfl rfl hl.1 (Nat.le_of_ble_eq_true rfl) (hcK hT) dX9_lines_11 (fun H locs w => ?_)
  refine lv_iconst (v := 0) C.1 C.2.1 dX9_lines_14 (by decide) ?_
  refine lv_istore_n (lv' := [(2, .int (0 : Int32)), (0, .ref (ρ 7)), (1, .int x1)]) C.1 C.2.1 dX9_lines_15 rfl hl (by decide) rfl (fun ls hl => ?_)
  refine lv_aload_n C.1 C.2.1 dX9_lines_16 rfl (lv_at hl 1 rfl) ?_
  refine x_getC C w 5 fX9_33 obC7 rfl dX9_lines_17 ?_
  refine lv_iload_n C.1 C.2.1 dX9_lines_20 rfl (lv_at hl 2 rfl) ?_
  obtain ⟨v_3, hv_3, h⟩ := bnd h
  refine x_callVi (q := (RX10, TX10, 5)) (As := [.int x1]) (rest := []) C w (k_Tx_sizeOf l D T ρ g H.size S_2 hv_3) vX9_171 (hRK (by decide) (by decide)) obC5 (by decide) rfl rfl rfl hl.1 (Nat.le_of_ble_eq_true rfl) (hcK hT) dX9_lines_21 (fun H locs w => ?_)
  refine lv_istore_n (lv' := [(3, .int v_3), (2, .int (0 : Int32)), (0, .ref (ρ 7)), (1, .int x1)]) C.1 C.2.1 dX9_lines_24 rfl hl (by decide) rfl (fun ls hl => ?_)
  refine lv_iconst (v := 0) C.1 C.2.1 dX9_lines_25 (by decide) ?_
  refine lv_istore (lv' := [(4, .int (0 : Int32)), (3, .int v_3), (2, .int (0 : Int32)), (0, .ref (ρ 7)), (1, .int x1)]) C.1 C.2.1 dX9_lines_26 hl (by decide) rfl (fun ls hl => ?_)
  have hkn := nq_kap nn
  refine W.widen (k := kap S_2 - kap S0) (n := 2 * (kap S_2 - kap S0)) (by omega) (by omega) ?_
  exact w_TS_lines_28 C hr hk g _ _ _ _ _ _ _ _ _ ha (by omega) w (lv_sub hl [3, 4, 2, 1, 0] rfl) h
end S_TS_lines
set_option maxRecDepth 100000 in
theorem k_TS_lines (l : Launch) (D : va_G) (T : Cy) (ρ : Nat → Nat) (g sz : Nat) (S : St) {x1 : Int32} {S' : St} {r : Int32} (h : m_TS_lines g S x1 = some (S', r)) : MiM l D T ρ yX9_lines cX9_lines 6 (some .int) 5 122 S S' r [.ref (ρ 7), .int x1] sz :=
  x_inR (by decide) (Nat.le_of_ble_eq_true rfl) (fun p e s m below meth c ls C hr hk w hl => W.widen (Nat.zero_le _) (Nat.zero_le _) (w_TS_lines_0 C hr hk Ag.rf (Nat.le_refl _) w hl h))

theorem dX9_weave_0 : decode cX9_weave 0 = .ok (.iconst 0, 1) := by decide +kernel
theorem dX9_weave_1 : decode cX9_weave 1 = .ok (.istore_n 2, 1) := by decide +kernel
theorem dX9_weave_2 : decode cX9_weave 2 = .ok (.iload_n 2, 1) := by decide +kernel
theorem dX9_weave_3 : decode cX9_weave 3 = .ok (.aload_n 0, 1) := by decide +kernel
theorem dX9_weave_4 : decode cX9_weave 4 = .ok (.getfield 41, 3) := by decide +kernel
theorem dX9_weave_7 : decode cX9_weave 7 = .ok (.getfield 105, 3) := by decide +kernel
theorem dX9_weave_10 : decode cX9_weave 10 = .ok (.if_icmp .ge 36, 3) := by decide +kernel
theorem dX9_weave_13 : decode cX9_weave 13 = .ok (.iload_n 2, 1) := by decide +kernel
theorem dX9_weave_14 : decode cX9_weave 14 = .ok (.ifCond .le 11, 3) := by decide +kernel
theorem dX9_weave_17 : decode cX9_weave 17 = .ok (.aload_n 0, 1) := by decide +kernel
theorem dX9_weave_18 : decode cX9_weave 18 = .ok (.getfield 23, 3) := by decide +kernel
theorem dX9_weave_21 : decode cX9_weave 21 = .ok (.iload_n 1, 1) := by decide +kernel
theorem dX9_weave_22 : decode cX9_weave 22 = .ok (.invokevirtual 64, 3) := by decide +kernel
theorem dX9_weave_25 : decode cX9_weave 25 = .ok (.aload_n 0, 1) := by decide +kernel
theorem dX9_weave_26 : decode cX9_weave 26 = .ok (.getfield 23, 3) := by decide +kernel
theorem dX9_weave_29 : decode cX9_weave 29 = .ok (.aload_n 0, 1) := by decide +kernel
theorem dX9_weave_30 : decode cX9_weave 30 = .ok (.getfield 41, 3) := by decide +kernel
theorem dX9_weave_33 : decode cX9_weave 33 = .ok (.iload_n 2, 1) := by decide +kernel
theorem dX9_weave_34 : decode cX9_weave 34 = .ok (.invokevirtual 182, 3) := by decide +kernel
theorem dX9_weave_37 : decode cX9_weave 37 = .ok (.invokevirtual 64, 3) := by decide +kernel
theorem dX9_weave_40 : decode cX9_weave 40 = .ok (.iinc 2 1, 3) := by decide +kernel
theorem dX9_weave_43 : decode cX9_weave 43 = .ok (.goto (-41), 3) := by decide +kernel
theorem dX9_weave_46 : decode cX9_weave 46 = .ok (.aload_n 0, 1) := by decide +kernel
theorem dX9_weave_47 : decode cX9_weave 47 = .ok (.iconst (-1), 1) := by decide +kernel
theorem dX9_weave_48 : decode cX9_weave 48 = .ok (.iconst 1, 1) := by decide +kernel
theorem dX9_weave_49 : decode cX9_weave 49 = .ok (.invokevirtual 113, 3) := by decide +kernel
theorem dX9_weave_52 : decode cX9_weave 52 = .ok (.ireturn, 1) := by decide +kernel
def m_TS_weave_52 (g : Nat) (S : St) (y0 : Int32) : Option (St × Int32) :=
some (S, y0)
def m_TS_weave_40 (g : Nat) (k2 : St → Int32 → Int32 → Option (St × Int32)) (S : St) (x1 : Int32) (x2 : Int32) : Option (St × Int32) :=
lt (x2 + (1 : Int32)) fun x2_5 =>
k2 S x1 x2_5
def m_TS_weave_25 (g : Nat) (k2 : St → Int32 → Int32 → Option (St × Int32)) (S : St) (x1 : Int32) (x2 : Int32) : Option (St × Int32) :=
(m_Row_at g S 22 x2).bind fun v_3 =>
(m_Bn_addText g S v_3).bind fun S_4 =>
m_TS_weave_40 g k2 S_4 x1 x2
def b_TS_weave_2 (g : Nat) (k2 : St → Int32 → Int32 → Option (St × Int32)) (S : St) (x1 : Int32) (x2 : Int32) : Option (St × Int32) :=
if (gI S 22 2) ≤ x2 then (
  (m_TS_become g S (-1 : Int32) (1 : Int32)).bind fun (S_1, v_2) =>
  m_TS_weave_52 g S_1 v_2
) else (
  if x2 ≤ 0 then (
    m_TS_weave_25 g k2 S x1 x2
  ) else (
    (m_Bn_addText g S x1).bind fun S_3 =>
    m_TS_weave_25 g k2 S_3 x1 x2
  )
)
def m_TS_weave_2 (g : Nat) : Nat → St → Int32 → Int32 → Option (St × Int32)
  | 0, _, _, _ => none
  | n + 1, S, x1, x2 => b_TS_weave_2 g (m_TS_weave_2 g n) S x1 x2
def m_TS_weave (g : Nat) (S : St) (x1 : Int32) : Option (St × Int32) :=
m_TS_weave_2 g g S x1 (0 : Int32)
theorem km_TS_weave_52 {g : Nat} {S : St} {y0 : Int32} {S' : St} {r : Int32} (h : m_TS_weave_52 g S y0 = some (S', r)) : kap S ≤ kap S' := by
  unfold m_TS_weave_52 at h
  have nn : nq S S := nq_rf
  obtain ⟨rfl, rfl⟩ := prI h
  have hkn := nq_kap nn
  omega
theorem km_TS_weave_40 {g : Nat} {S : St} {x1 : Int32} {x2 : Int32} {S' : St} {r : Int32} {k2 : St → Int32 → Int32 → Option (St × Int32)} (km2 : ∀ (S : St) (x1 : Int32) (x2 : Int32), k2 S x1 x2 = some (S', r) → kap S ≤ kap S') (h : m_TS_weave_40 g k2 S x1 x2 = some (S', r)) : kap S ≤ kap S' := by
  unfold m_TS_weave_40 at h
  have nn : nq S S := nq_rf
  obtain ⟨x2_5, ex2_5, h⟩ := lt_e h
  have hkn := nq_kap nn
  have h2 := km2 _ _ _ h
  omega
theorem km_TS_weave_25 {g : Nat} {S : St} {x1 : Int32} {x2 : Int32} {S' : St} {r : Int32} {k2 : St → Int32 → Int32 → Option (St × Int32)} (km2 : ∀ (S : St) (x1 : Int32) (x2 : Int32), k2 S x1 x2 = some (S', r) → kap S ≤ kap S') (h : m_TS_weave_25 g k2 S x1 x2 = some (S', r)) : kap S ≤ kap S' := by
  unfold m_TS_weave_25 at h
  have nn : nq S S := nq_rf
  obtain ⟨v_3, hv_3, h⟩ := bnd h
  obtain ⟨S_4, hS_4, h⟩ := bnd h
  have hk1 := km_Bn_addText hS_4
  have hkn := nq_kap nn
  have h2 := km_TS_weave_40 km2 h
  omega
theorem kmb_TS_weave_2 {g : Nat} {S : St} {x1 : Int32} {x2 : Int32} {S' : St} {r : Int32} {k2 : St → Int32 → Int32 → Option (St × Int32)} (km2 : ∀ (S : St) (x1 : Int32) (x2 : Int32), k2 S x1 x2 = some (S', r) → kap S ≤ kap S') (h : b_TS_weave_2 g k2 S x1 x2 = some (S', r)) : kap S ≤ kap S' := by
  unfold b_TS_weave_2 at h
  have nn : nq S S := nq_rf
  by_cases hc1 : (gI S 22 2) ≤ x2
  · replace h := ift hc1 h
    obtain ⟨⟨S_1, v_2⟩, hv_2, h⟩ := bnd h
    have hk1 := km_TS_become hv_2
    have hkn := nq_kap nn
    have h2 := km_TS_weave_52 h
    omega
  · replace h := iff0 hc1 h
    by_cases hc2 : x2 ≤ 0
    · replace h := ift hc2 h
      have hkn := nq_kap nn
      have h2 := km_TS_weave_25 km2 h
      omega
    · replace h := iff0 hc2 h
      obtain ⟨S_3, hS_3, h⟩ := bnd h
      have hk1 := km_Bn_addText hS_3
      have hkn := nq_kap nn
      have h2 := km_TS_weave_25 km2 h
      omega
theorem km_TS_weave_2 {g : Nat} {S' : St} {r : Int32} (n : Nat) : ∀ (S : St) (x1 : Int32) (x2 : Int32), m_TS_weave_2 g n S x1 x2 = some (S', r) → kap S ≤ kap S' := by
  induction n with
  | zero => intro S x1 x2 h; exact absurd h (fun q => by cases q)
  | succ n ih => intro S x1 x2 h; exact kmb_TS_weave_2 ih h
theorem km_TS_weave {g : Nat} {S : St} {x1 : Int32} {S' : St} {r : Int32} (h : m_TS_weave g S x1 = some (S', r)) : kap S ≤ kap S' := by
  unfold m_TS_weave at h
  have nn : nq S S := nq_rf
  have hkn := nq_kap nn
  have h2 := km_TS_weave_2 g _ _ _ h
  omega
section S_TS_weave
variable {p : Program} {l : Launch} {e : Env} {s : State} {m : MethodId} {args : Array Value} {below : List Frame} {meth : Method} {c : Code} {H : Heap} {locs : List Loc} {ls : Array Slot} {D : va_G} {T : Cy} {ρ ρ0 : Nat → Nat} {S0 : St} {A : Nat → Prop}
set_option maxRecDepth 100000 in
set_option maxHeartbeats 4000000 in
theorem w_TS_weave_52 {g : Nat} {S : St} {y0 : Int32} (C : CallFix p m c cX9_weave 3 s args tb RX9) (hr : meth.sig.returnType = (some .int)) (hk : meth.locks = false) {S' : St} {r : Int32} (ha : Ag ρ0 ρ) (hm : kap S0 ≤ kap S) (w : Wn Yc D T ρ S A s H locs) (hl : lv_has ls 3 []) (h : m_TS_weave_52 g S y0 = some (S', r)) : W p l e (rmK 5 117 (kap S' - kap S0)) s m args below meth c H locs (kap S - kap S0) (2 * (kap S - kap S0)) (MQ below (QiM D T ρ0 A S' r) args s (kap S' - kap S0) (2 * (kap S' - kap S0)) A) (F0 m 52 ls [.int y0]) := by
  have hT := km_TS_weave_52 h
  unfold m_TS_weave_52 at h
  have nn : nq S S := nq_rf
  obtain ⟨rfl, rfl⟩ := prI h
  exact x_iretM C w ha hr hk dX9_weave_52 (by have := nq_kap nn; omega) (by have := nq_kap nn; omega)
set_option maxRecDepth 100000 in
set_option maxHeartbeats 4000000 in
theorem w_TS_weave_40 {g : Nat} {S : St} {x1 : Int32} {x2 : Int32} (C : CallFix p m c cX9_weave 3 s args tb RX9) (hr : meth.sig.returnType = (some .int)) (hk : meth.locks = false) {S' : St} {r : Int32} {k2 : St → Int32 → Int32 → Option (St × Int32)} (kk2 : ∀ (ρ : Nat → Nat) (S : St) (x1 : Int32) (x2 : Int32) (H : Heap) (locs : List Loc) (ls : Array Slot), Ag ρ0 ρ → kap S0 ≤ kap S → Wn Yc D T ρ S A s H locs → lv_has ls 3 [(0, .ref (ρ 7)), (1, .int x1), (2, .int x2)] → k2 S x1 x2 = some (S', r) → W p l e (rmK 5 117 (kap S' - kap S0)) s m args below meth c H locs (kap S - kap S0) (2 * (kap S - kap S0)) (MQ below (QiM D T ρ0 A S' r) args s (kap S' - kap S0) (2 * (kap S' - kap S0)) A) (F0 m 2 ls [])) (km2 : ∀ (S : St) (x1 : Int32) (x2 : Int32), k2 S x1 x2 = some (S', r) → kap S ≤ kap S') (ha : Ag ρ0 ρ) (hm : kap S0 ≤ kap S) (w : Wn Yc D T ρ S A s H locs) (hl : lv_has ls 3 [(0, .ref (ρ 7)), (1, .int x1), (2, .int x2)]) (h : m_TS_weave_40 g k2 S x1 x2 = some (S', r)) : W p l e (rmK 5 117 (kap S' - kap S0)) s m args below meth c H locs (kap S - kap S0) (2 * (kap S - kap S0)) (MQ below (QiM D T ρ0 A S' r) args s (kap S' - kap S0) (2 * (kap S' - kap S0)) A) (F0 m 40 ls []) := by
  have hT := km_TS_weave_40 km2 h
  unfold m_TS_weave_40 at h
  have nn : nq S S := nq_rf
  obtain ⟨x2_5, ex2_5, h⟩ := lt_e h
  refine lv_iinc (v := x2_5) (lv' := [(2, .int x2_5), (0, .ref (ρ 7)), (1, .int x1)]) C.1 C.2.1 dX9_weave_40 hl (k := 2) rfl (by rw [ex2_5]; rfl) (by decide) rfl (fun ls hl => ?_)
  refine lv_goto (tgt := 2) C.1 C.2.1 dX9_weave_43 (by decide) ?_
  have hkn := nq_kap nn
  refine W.widen (k := kap S - kap S0) (n := 2 * (kap S - kap S0)) (by omega) (by omega) ?_
  exact kk2 _ _ _ _ _ _ _ ha (by omega) w (lv_sub hl [1, 2, 0] rfl) h
set_option maxRecDepth 100000 in
set_option maxHeartbeats 4000000 in
theorem w_TS_weave_25 {g : Nat} {S : St} {x1 : Int32} {x2 : Int32} (C : CallFix p m c cX9_weave 3 s args tb RX9) (hr : meth.sig.returnType = (some .int)) (hk : meth.locks = false) {S' : St} {r : Int32} {k2 : St → Int32 → Int32 → Option (St × Int32)} (kk2 : ∀ (ρ : Nat → Nat) (S : St) (x1 : Int32) (x2 : Int32) (H : Heap) (locs : List Loc) (ls : Array Slot), Ag ρ0 ρ → kap S0 ≤ kap S → Wn Yc D T ρ S A s H locs → lv_has ls 3 [(0, .ref (ρ 7)), (1, .int x1), (2, .int x2)] → k2 S x1 x2 = some (S', r) → W p l e (rmK 5 117 (kap S' - kap S0)) s m args below meth c H locs (kap S - kap S0) (2 * (kap S - kap S0)) (MQ below (QiM D T ρ0 A S' r) args s (kap S' - kap S0) (2 * (kap S' - kap S0)) A) (F0 m 2 ls [])) (km2 : ∀ (S : St) (x1 : Int32) (x2 : Int32), k2 S x1 x2 = some (S', r) → kap S ≤ kap S') (ha : Ag ρ0 ρ) (hm : kap S0 ≤ kap S) (w : Wn Yc D T ρ S A s H locs) (hl : lv_has ls 3 [(0, .ref (ρ 7)), (1, .int x1), (2, .int x2)]) (h : m_TS_weave_25 g k2 S x1 x2 = some (S', r)) : W p l e (rmK 5 117 (kap S' - kap S0)) s m args below meth c H locs (kap S - kap S0) (2 * (kap S - kap S0)) (MQ below (QiM D T ρ0 A S' r) args s (kap S' - kap S0) (2 * (kap S' - kap S0)) A) (F0 m 25 ls []) := by
  have hT := km_TS_weave_25 km2 h
  unfold m_TS_weave_25 at h
  have nn : nq S S := nq_rf
  refine lv_aload_n C.1 C.2.1 dX9_weave_25 rfl (lv_at hl 0 rfl) ?_
  refine x_getC C w 4 fX9_23 obC7 rfl dX9_weave_26 ?_
  refine lv_aload_n C.1 C.2.1 dX9_weave_29 rfl (lv_at hl 0 rfl) ?_
  refine x_getC C w 22 fX9_41 obC7 rfl dX9_weave_30 ?_
  refine lv_iload_n C.1 C.2.1 dX9_weave_33 rfl (lv_at hl 2 rfl) ?_
  obtain ⟨v_3, hv_3, h⟩ := bnd h
  refine x_callVi (q := (RX6, TX6, 4)) (As := [.int x2]) (rest := [.ref (ρ 4)]) C w (k_Row_at l D T ρ g H.size S obC22 hv_3) vX9_182 (hRK (by decide) (by decide)) obC22 (by decide) rfl rfl rfl hl.1 (Nat.le_of_ble_eq_true rfl) (hcK hT) dX9_weave_34 (fun H locs w => ?_)
  obtain ⟨S_4, hS_4, h⟩ := bnd h
  have hkn := nq_kap nn
  have hk1 := km_Bn_addText hS_4
  have hT2 := km_TS_weave_40 km2 h
  refine x_callVvM (q := (RX1, TX1, 12)) (As := [.int v_3]) (rest := []) C w (k_Bn_addText l D T ρ g H.size S hS_4) vX9_64 (hRK (by decide) (by decide)) obC4 (by decide) rfl rfl rfl hl.1 (Nat.le_of_ble_eq_true rfl) (hcM hm hkn hk1 hT2) dX9_weave_37 (fun ρ1 H locs hag w => ?_)
  replace ha := ha.trans hag
  rw [← hag 7 (by decide)] at hl
  refine W.widen (k := kap S_4 - kap S0) (n := 2 * (kap S_4 - kap S0)) (by omega) (by omega) ?_
  exact w_TS_weave_40 C hr hk kk2 km2 ha (by omega) w (lv_sub hl [0, 1, 2] rfl) h
set_option maxRecDepth 100000 in
set_option maxHeartbeats 4000000 in
theorem wb_TS_weave_2 {g : Nat} {S : St} {x1 : Int32} {x2 : Int32} (C : CallFix p m c cX9_weave 3 s args tb RX9) (hr : meth.sig.returnType = (some .int)) (hk : meth.locks = false) {S' : St} {r : Int32} {k2 : St → Int32 → Int32 → Option (St × Int32)} (kk2 : ∀ (ρ : Nat → Nat) (S : St) (x1 : Int32) (x2 : Int32) (H : Heap) (locs : List Loc) (ls : Array Slot), Ag ρ0 ρ → kap S0 ≤ kap S → Wn Yc D T ρ S A s H locs → lv_has ls 3 [(0, .ref (ρ 7)), (1, .int x1), (2, .int x2)] → k2 S x1 x2 = some (S', r) → W p l e (rmK 5 117 (kap S' - kap S0)) s m args below meth c H locs (kap S - kap S0) (2 * (kap S - kap S0)) (MQ below (QiM D T ρ0 A S' r) args s (kap S' - kap S0) (2 * (kap S' - kap S0)) A) (F0 m 2 ls [])) (km2 : ∀ (S : St) (x1 : Int32) (x2 : Int32), k2 S x1 x2 = some (S', r) → kap S ≤ kap S') (ha : Ag ρ0 ρ) (hm : kap S0 ≤ kap S) (w : Wn Yc D T ρ S A s H locs) (hl : lv_has ls 3 [(0, .ref (ρ 7)), (1, .int x1), (2, .int x2)]) (h : b_TS_weave_2 g k2 S x1 x2 = some (S', r)) : W p l e (rmK 5 117 (kap S' - kap S0)) s m args below meth c H locs (kap S - kap S0) (2 * (kap S - kap S0)) (MQ below (QiM D T ρ0 A S' r) args s (kap S' - kap S0) (2 * (kap S' - kap S0)) A) (F0 m 2 ls []) := by
  have hT := kmb_TS_weave_2 km2 h
  unfold b_TS_weave_2 at h
  have nn : nq S S := nq_rf
  refine lv_iload_n C.1 C.2.1 dX9_weave_2 rfl (lv_at hl 2 rfl) ?_
  refine lv_aload_n C.1 C.2.1 dX9_weave_3 rfl (lv_at hl 0 rfl) ?_
  refine x_getC C w 22 fX9_41 obC7 rfl dX9_weave_4 ?_
  refine x_getI C w fX9_105 obC22 dX9_weave_7 ?_
  refine lv_icmp_ge (tgt := 46) C.1 C.2.1 dX9_weave_10 (by decide) (fun hc => ?_) (fun hc => ?_)
  · replace h := ift hc h
    refine lv_aload_n C.1 C.2.1 dX9_weave_46 rfl (lv_at hl 0 rfl) ?_
    refine lv_iconst (v := (-1)) C.1 C.2.1 dX9_weave_47 (by decide) ?_
    refine lv_iconst (v := 1) C.1 C.2.1 dX9_weave_48 (by decide) ?_
    obtain ⟨⟨S_1, v_2⟩, hv_2, h⟩ := bnd h
    have hkn := nq_kap nn
    have hk1 := km_TS_become hv_2
    have hT2 := km_TS_weave_52 h
    refine x_callViM (q := (RX9, TX9, 6)) (As := [.int (-1 : Int32), .int (1 : Int32)]) (rest := []) C w (k_TS_become l D T ρ g H.size S hv_2) vX9_113 (hRK (by decide) (by decide)) obC7 (by decide) rfl rfl rfl hl.1 (Nat.le_of_ble_eq_true rfl) (hcM hm hkn hk1 hT2) dX9_weave_49 (fun ρ1 H locs hag w => ?_)
    replace ha := ha.trans hag
    rw [← hag 7 (by decide)] at hl
    refine W.widen (k := kap S_1 - kap S0) (n := 2 * (kap S_1 - kap S0)) (by omega) (by omega) ?_
    exact w_TS_weave_52 C hr hk ha (by omega) w (lv_sub hl [] rfl) h
  · replace h := iff0 hc h
    refine lv_iload_n C.1 C.2.1 dX9_weave_13 rfl (lv_at hl 2 rfl) ?_
    refine lv_if_le (tgt := 25) C.1 C.2.1 dX9_weave_14 (by decide) (fun hc => ?_) (fun hc => ?_)
    · replace h := ift hc h
      have hkn := nq_kap nn
      refine W.widen (k := kap S - kap S0) (n := 2 * (kap S - kap S0)) (by omega) (by omega) ?_
      exact w_TS_weave_25 C hr hk kk2 km2 ha (by omega) w (lv_sub hl [0, 1, 2] rfl) h
    · replace h := iff0 hc h
      refine lv_aload_n C.1 C.2.1 dX9_weave_17 rfl (lv_at hl 0 rfl) ?_
      refine x_getC C w 4 fX9_23 obC7 rfl dX9_weave_18 ?_
      refine lv_iload_n C.1 C.2.1 dX9_weave_21 rfl (lv_at hl 1 rfl) ?_
      obtain ⟨S_3, hS_3, h⟩ := bnd h
      have hkn := nq_kap nn
      have hk1 := km_Bn_addText hS_3
      have hT2 := km_TS_weave_25 km2 h
      refine x_callVvM (q := (RX1, TX1, 12)) (As := [.int x1]) (rest := []) C w (k_Bn_addText l D T ρ g H.size S hS_3) vX9_64 (hRK (by decide) (by decide)) obC4 (by decide) rfl rfl rfl hl.1 (Nat.le_of_ble_eq_true rfl) (hcM hm hkn hk1 hT2) dX9_weave_22 (fun ρ1 H locs hag w => ?_)
      replace ha := ha.trans hag
      rw [← hag 7 (by decide)] at hl
      refine W.widen (k := kap S_3 - kap S0) (n := 2 * (kap S_3 - kap S0)) (by omega) (by omega) ?_
      exact w_TS_weave_25 C hr hk kk2 km2 ha (by omega) w (lv_sub hl [0, 1, 2] rfl) h
theorem w_TS_weave_2 {g : Nat} (C : CallFix p m c cX9_weave 3 s args tb RX9) (hr : meth.sig.returnType = (some .int)) (hk : meth.locks = false) {S' : St} {r : Int32} (n : Nat) : ∀ (ρ : Nat → Nat) (S : St) (x1 : Int32) (x2 : Int32) (H : Heap) (locs : List Loc) (ls : Array Slot), Ag ρ0 ρ → kap S0 ≤ kap S → Wn Yc D T ρ S A s H locs → lv_has ls 3 [(0, .ref (ρ 7)), (1, .int x1), (2, .int x2)] → m_TS_weave_2 g n S x1 x2 = some (S', r) → W p l e (rmK 5 117 (kap S' - kap S0)) s m args below meth c H locs (kap S - kap S0) (2 * (kap S - kap S0)) (MQ below (QiM D T ρ0 A S' r) args s (kap S' - kap S0) (2 * (kap S' - kap S0)) A) (F0 m 2 ls []) := by
  induction n with
  | zero => intro ρ S x1 x2 H locs ls ha hm w hl h; exact absurd h (fun q => by cases q)
  | succ n ih => intro ρ S x1 x2 H locs ls ha hm w hl h; exact wb_TS_weave_2 C hr hk ih (km_TS_weave_2 n) ha hm w hl h
set_option maxRecDepth 100000 in
set_option maxHeartbeats 4000000 in
theorem w_TS_weave_0 {g : Nat} {S : St} {x1 : Int32} (C : CallFix p m c cX9_weave 3 s args tb RX9) (hr : meth.sig.returnType = (some .int)) (hk : meth.locks = false) {S' : St} {r : Int32} (ha : Ag ρ0 ρ) (hm : kap S0 ≤ kap S) (w : Wn Yc D T ρ S A s H locs) (hl : lv_has ls 3 [(0, .ref (ρ 7)), (1, .int x1)]) (h : m_TS_weave g S x1 = some (S', r)) : W p l e (rmK 5 117 (kap S' - kap S0)) s m args below meth c H locs (kap S - kap S0) (2 * (kap S - kap S0)) (MQ below (QiM D T ρ0 A S' r) args s (kap S' - kap S0) (2 * (kap S' - kap S0)) A) (F0 m 0 ls []) := by
  have hT := km_TS_weave h
  unfold m_TS_weave at h
  have nn : nq S S := nq_rf
  refine lv_iconst (v := 0) C.1 C.2.1 dX9_weave_0 (by decide) ?_
  refine lv_istore_n (lv' := [(2, .int (0 : Int32)), (0, .ref (ρ 7)), (1, .int x1)]) C.1 C.2.1 dX9_weave_1 rfl hl (by decide) rfl (fun ls hl => ?_)
  have hkn := nq_kap nn
  refine W.widen (k := kap S - kap S0) (n := 2 * (kap S - kap S0)) (by omega) (by omega) ?_
  exact w_TS_weave_2 C hr hk g _ _ _ _ _ _ _ ha (by omega) w (lv_sub hl [1, 2, 0] rfl) h
end S_TS_weave
set_option maxRecDepth 100000 in
theorem k_TS_weave (l : Launch) (D : va_G) (T : Cy) (ρ : Nat → Nat) (g sz : Nat) (S : St) {x1 : Int32} {S' : St} {r : Int32} (h : m_TS_weave g S x1 = some (S', r)) : MiM l D T ρ yX9_weave cX9_weave 3 (some .int) 5 117 S S' r [.ref (ρ 7), .int x1] sz :=
  x_inR (by decide) (Nat.le_of_ble_eq_true rfl) (fun p e s m below meth c ls C hr hk w hl => W.widen (Nat.zero_le _) (Nat.zero_le _) (w_TS_weave_0 C hr hk Ag.rf (Nat.le_refl _) w hl h))

theorem dX10_load_0 : decode cX10_load 0 = .ok (.aload_n 0, 1) := by decide +kernel
theorem dX10_load_1 : decode cX10_load 1 = .ok (.getfield 14, 3) := by decide +kernel
theorem dX10_load_4 : decode cX10_load 4 = .ok (.invokevirtual 36, 3) := by decide +kernel
theorem dX10_load_7 : decode cX10_load 7 = .ok (.aload_n 0, 1) := by decide +kernel
theorem dX10_load_8 : decode cX10_load 8 = .ok (.getfield 20, 3) := by decide +kernel
theorem dX10_load_11 : decode cX10_load 11 = .ok (.invokevirtual 36, 3) := by decide +kernel
theorem dX10_load_14 : decode cX10_load 14 = .ok (.aload_n 0, 1) := by decide +kernel
theorem dX10_load_15 : decode cX10_load 15 = .ok (.getfield 20, 3) := by decide +kernel
theorem dX10_load_18 : decode cX10_load 18 = .ok (.iconst 0, 1) := by decide +kernel
theorem dX10_load_19 : decode cX10_load 19 = .ok (.invokevirtual 33, 3) := by decide +kernel
theorem dX10_load_22 : decode cX10_load 22 = .ok (.aload_n 0, 1) := by decide +kernel
theorem dX10_load_23 : decode cX10_load 23 = .ok (.getfield 26, 3) := by decide +kernel
theorem dX10_load_26 : decode cX10_load 26 = .ok (.invokevirtual 36, 3) := by decide +kernel
theorem dX10_load_29 : decode cX10_load 29 = .ok (.iconst 0, 1) := by decide +kernel
theorem dX10_load_30 : decode cX10_load 30 = .ok (.istore_n 2, 1) := by decide +kernel
theorem dX10_load_31 : decode cX10_load 31 = .ok (.iload_n 2, 1) := by decide +kernel
theorem dX10_load_32 : decode cX10_load 32 = .ok (.aload_n 1, 1) := by decide +kernel
theorem dX10_load_33 : decode cX10_load 33 = .ok (.getfield 39, 3) := by decide +kernel
theorem dX10_load_36 : decode cX10_load 36 = .ok (.getfield 44, 3) := by decide +kernel
theorem dX10_load_39 : decode cX10_load 39 = .ok (.if_icmp .ge 91, 3) := by decide +kernel
theorem dX10_load_42 : decode cX10_load 42 = .ok (.aload_n 1, 1) := by decide +kernel
theorem dX10_load_43 : decode cX10_load 43 = .ok (.iload_n 2, 1) := by decide +kernel
theorem dX10_load_44 : decode cX10_load 44 = .ok (.invokevirtual 47, 3) := by decide +kernel
theorem dX10_load_47 : decode cX10_load 47 = .ok (.istore_n 3, 1) := by decide +kernel
theorem dX10_load_48 : decode cX10_load 48 = .ok (.aload_n 1, 1) := by decide +kernel
theorem dX10_load_49 : decode cX10_load 49 = .ok (.getfield 39, 3) := by decide +kernel
theorem dX10_load_52 : decode cX10_load 52 = .ok (.iload_n 2, 1) := by decide +kernel
theorem dX10_load_53 : decode cX10_load 53 = .ok (.invokevirtual 51, 3) := by decide +kernel
theorem dX10_load_56 : decode cX10_load 56 = .ok (.istore 4, 2) := by decide +kernel
theorem dX10_load_58 : decode cX10_load 58 = .ok (.iload_n 3, 1) := by decide +kernel
theorem dX10_load_59 : decode cX10_load 59 = .ok (.iload 4, 2) := by decide +kernel
theorem dX10_load_61 : decode cX10_load 61 = .ok (.if_icmp .ne 14, 3) := by decide +kernel
theorem dX10_load_64 : decode cX10_load 64 = .ok (.aload_n 0, 1) := by decide +kernel
theorem dX10_load_65 : decode cX10_load 65 = .ok (.getfield 26, 3) := by decide +kernel
theorem dX10_load_68 : decode cX10_load 68 = .ok (.iconst 0, 1) := by decide +kernel
theorem dX10_load_69 : decode cX10_load 69 = .ok (.invokevirtual 33, 3) := by decide +kernel
theorem dX10_load_72 : decode cX10_load 72 = .ok (.goto 52, 3) := by decide +kernel
theorem dX10_load_75 : decode cX10_load 75 = .ok (.aload_n 0, 1) := by decide +kernel
theorem dX10_load_76 : decode cX10_load 76 = .ok (.getfield 26, 3) := by decide +kernel
theorem dX10_load_79 : decode cX10_load 79 = .ok (.aload_n 0, 1) := by decide +kernel
theorem dX10_load_80 : decode cX10_load 80 = .ok (.getfield 20, 3) := by decide +kernel
theorem dX10_load_83 : decode cX10_load 83 = .ok (.getfield 44, 3) := by decide +kernel
theorem dX10_load_86 : decode cX10_load 86 = .ok (.invokevirtual 33, 3) := by decide +kernel
theorem dX10_load_89 : decode cX10_load 89 = .ok (.aload_n 0, 1) := by decide +kernel
theorem dX10_load_90 : decode cX10_load 90 = .ok (.getfield 14, 3) := by decide +kernel
theorem dX10_load_93 : decode cX10_load 93 = .ok (.aload_n 0, 1) := by decide +kernel
theorem dX10_load_94 : decode cX10_load 94 = .ok (.getfield 14, 3) := by decide +kernel
theorem dX10_load_97 : decode cX10_load 97 = .ok (.getfield 44, 3) := by decide +kernel
theorem dX10_load_100 : decode cX10_load 100 = .ok (.aload_n 1, 1) := by decide +kernel
theorem dX10_load_101 : decode cX10_load 101 = .ok (.getfield 54, 3) := by decide +kernel
theorem dX10_load_104 : decode cX10_load 104 = .ok (.iload_n 3, 1) := by decide +kernel
theorem dX10_load_105 : decode cX10_load 105 = .ok (.iload 4, 2) := by decide +kernel
theorem dX10_load_107 : decode cX10_load 107 = .ok (.invokevirtual 57, 3) := by decide +kernel
theorem dX10_load_110 : decode cX10_load 110 = .ok (.aload_n 0, 1) := by decide +kernel
theorem dX10_load_111 : decode cX10_load 111 = .ok (.getfield 20, 3) := by decide +kernel
theorem dX10_load_114 : decode cX10_load 114 = .ok (.aload_n 0, 1) := by decide +kernel
theorem dX10_load_115 : decode cX10_load 115 = .ok (.getfield 14, 3) := by decide +kernel
theorem dX10_load_118 : decode cX10_load 118 = .ok (.getfield 44, 3) := by decide +kernel
theorem dX10_load_121 : decode cX10_load 121 = .ok (.invokevirtual 33, 3) := by decide +kernel
theorem dX10_load_124 : decode cX10_load 124 = .ok (.iinc 2 1, 3) := by decide +kernel
theorem dX10_load_127 : decode cX10_load 127 = .ok (.goto (-96), 3) := by decide +kernel
theorem dX10_load_130 : decode cX10_load 130 = .ok (.aload_n 0, 1) := by decide +kernel
theorem dX10_load_131 : decode cX10_load 131 = .ok (.aload_n 0, 1) := by decide +kernel
theorem dX10_load_132 : decode cX10_load 132 = .ok (.getfield 20, 3) := by decide +kernel
theorem dX10_load_135 : decode cX10_load 135 = .ok (.getfield 44, 3) := by decide +kernel
theorem dX10_load_138 : decode cX10_load 138 = .ok (.putfield 29, 3) := by decide +kernel
theorem dX10_load_141 : decode cX10_load 141 = .ok (.return_, 1) := by decide +kernel
def m_Tx_load_124 (g : Nat) (k31 : St → Nat → Int32 → Option St) (S : St) (x1 : Nat) (x2 : Int32) : Option St :=
lt (x2 + (1 : Int32)) fun x2_11 =>
k31 S x1 x2_11
def m_Tx_load_110 (g : Nat) (k31 : St → Nat → Int32 → Option St) (S : St) (x1 : Nat) (x2 : Int32) : Option St :=
(m_Row_add g S 19 (gI S 18 2)).bind fun S_10 =>
m_Tx_load_124 g k31 S_10 x1 x2
def m_Tx_load_89 (g : Nat) (k31 : St → Nat → Int32 → Option St) (S : St) (x1 : Nat) (x2 : Int32) (x3 : Int32) (x4 : Int32) : Option St :=
(m_Row_insert g S 18 (gI S 18 2) (8 + 3 * x1 + 0) x3 x4).bind fun S_9 =>
m_Tx_load_110 g k31 S_9 x1 x2
def m_Tx_load_72 (g : Nat) (k31 : St → Nat → Int32 → Option St) (S : St) (x1 : Nat) (x2 : Int32) : Option St :=
m_Tx_load_124 g k31 S x1 x2
def b_Tx_load_31 (g : Nat) (k31 : St → Nat → Int32 → Option St) (S : St) (x1 : Nat) (x2 : Int32) : Option St :=
if (gI S (8 + 3 * x1 + 1) 2) ≤ x2 then (
  lt (sI S 5 4 (gI S 19 2)) fun S_5 =>
  some S_5
) else (
  (m_Pg_literalStart g S x1 x2).bind fun v_6 =>
  (m_Row_at g S (8 + 3 * x1 + 1) x2).bind fun v_7 =>
  if v_6 = v_7 then (
    (m_Row_add g S 21 (0 : Int32)).bind fun S_9 =>
    m_Tx_load_72 g k31 S_9 x1 x2
  ) else (
    (m_Row_add g S 21 (gI S 19 2)).bind fun S_8 =>
    m_Tx_load_89 g k31 S_8 x1 x2 v_6 v_7
  )
)
def m_Tx_load_31 (g : Nat) : Nat → St → Nat → Int32 → Option St
  | 0, _, _, _ => none
  | n + 1, S, x1, x2 => b_Tx_load_31 g (m_Tx_load_31 g n) S x1 x2
def m_Tx_load_22 (g : Nat) (S : St) (x1 : Nat) : Option St :=
(m_Row_clear g S 21).bind fun S_4 =>
m_Tx_load_31 g g S_4 x1 (0 : Int32)
def m_Tx_load (g : Nat) (S : St) (x1 : Nat) : Option St :=
(m_Row_clear g S 18).bind fun S_1 =>
(m_Row_clear g S_1 19).bind fun S_2 =>
(m_Row_add g S_2 19 (0 : Int32)).bind fun S_3 =>
m_Tx_load_22 g S_3 x1
theorem km_Tx_load_124 {g : Nat} {S : St} {x1 : Nat} {x2 : Int32} {S' : St} {k31 : St → Nat → Int32 → Option St} (km31 : ∀ (S : St) (x1 : Nat) (x2 : Int32), k31 S x1 x2 = some S' → kap S ≤ kap S') (h : m_Tx_load_124 g k31 S x1 x2 = some S') : kap S ≤ kap S' := by
  unfold m_Tx_load_124 at h
  have nn : nq S S := nq_rf
  obtain ⟨x2_11, ex2_11, h⟩ := lt_e h
  have hkn := nq_kap nn
  have h2 := km31 _ _ _ h
  omega
theorem km_Tx_load_110 {g : Nat} {S : St} {x1 : Nat} {x2 : Int32} {S' : St} {k31 : St → Nat → Int32 → Option St} (km31 : ∀ (S : St) (x1 : Nat) (x2 : Int32), k31 S x1 x2 = some S' → kap S ≤ kap S') (h : m_Tx_load_110 g k31 S x1 x2 = some S') : kap S ≤ kap S' := by
  unfold m_Tx_load_110 at h
  have nn : nq S S := nq_rf
  obtain ⟨S_10, hS_10, h⟩ := bnd h
  have hk1 := km_Row_add hS_10
  have hkn := nq_kap nn
  have h2 := km_Tx_load_124 km31 h
  omega
theorem km_Tx_load_89 {g : Nat} {S : St} {x1 : Nat} {x2 : Int32} {x3 : Int32} {x4 : Int32} {S' : St} {k31 : St → Nat → Int32 → Option St} (km31 : ∀ (S : St) (x1 : Nat) (x2 : Int32), k31 S x1 x2 = some S' → kap S ≤ kap S') (h : m_Tx_load_89 g k31 S x1 x2 x3 x4 = some S') : kap S ≤ kap S' := by
  unfold m_Tx_load_89 at h
  have nn : nq S S := nq_rf
  obtain ⟨S_9, hS_9, h⟩ := bnd h
  have hk1 := km_Row_insert hS_9
  have hkn := nq_kap nn
  have h2 := km_Tx_load_110 km31 h
  omega
theorem km_Tx_load_72 {g : Nat} {S : St} {x1 : Nat} {x2 : Int32} {S' : St} {k31 : St → Nat → Int32 → Option St} (km31 : ∀ (S : St) (x1 : Nat) (x2 : Int32), k31 S x1 x2 = some S' → kap S ≤ kap S') (h : m_Tx_load_72 g k31 S x1 x2 = some S') : kap S ≤ kap S' := by
  unfold m_Tx_load_72 at h
  have nn : nq S S := nq_rf
  have hkn := nq_kap nn
  have h2 := km_Tx_load_124 km31 h
  omega
theorem kmb_Tx_load_31 {g : Nat} {S : St} {x1 : Nat} {x2 : Int32} {S' : St} {k31 : St → Nat → Int32 → Option St} (km31 : ∀ (S : St) (x1 : Nat) (x2 : Int32), k31 S x1 x2 = some S' → kap S ≤ kap S') (h : b_Tx_load_31 g k31 S x1 x2 = some S') : kap S ≤ kap S' := by
  unfold b_Tx_load_31 at h
  have nn : nq S S := nq_rf
  by_cases hc1 : (gI S (8 + 3 * x1 + 1) 2) ≤ x2
  · replace h := ift hc1 h
    obtain ⟨S_5, eS_5, h⟩ := lt_e h
    replace nn : nq S_5 S := nq_tr (by rw [eS_5]; rfl) nn
    obtain rfl := som h
    have hkn := nq_kap nn
    omega
  · replace h := iff0 hc1 h
    obtain ⟨v_6, hv_6, h⟩ := bnd h
    obtain ⟨v_7, hv_7, h⟩ := bnd h
    by_cases hc2 : v_6 = v_7
    · replace h := ift hc2 h
      obtain ⟨S_9, hS_9, h⟩ := bnd h
      have hk1 := km_Row_add hS_9
      have hkn := nq_kap nn
      have h2 := km_Tx_load_72 km31 h
      omega
    · replace h := iff0 hc2 h
      obtain ⟨S_8, hS_8, h⟩ := bnd h
      have hk1 := km_Row_add hS_8
      have hkn := nq_kap nn
      have h2 := km_Tx_load_89 km31 h
      omega
theorem km_Tx_load_31 {g : Nat} {S' : St} (n : Nat) : ∀ (S : St) (x1 : Nat) (x2 : Int32), m_Tx_load_31 g n S x1 x2 = some S' → kap S ≤ kap S' := by
  induction n with
  | zero => intro S x1 x2 h; exact absurd h (fun q => by cases q)
  | succ n ih => intro S x1 x2 h; exact kmb_Tx_load_31 ih h
theorem km_Tx_load_22 {g : Nat} {S : St} {x1 : Nat} {S' : St} (h : m_Tx_load_22 g S x1 = some S') : kap S ≤ kap S' := by
  unfold m_Tx_load_22 at h
  have nn : nq S S := nq_rf
  obtain ⟨S_4, hS_4, h⟩ := bnd h
  replace nn : nq S_4 S := nq_tr (kq_Row_clear hS_4) nn
  have hkn := nq_kap nn
  have h2 := km_Tx_load_31 g _ _ _ h
  omega
theorem km_Tx_load {g : Nat} {S : St} {x1 : Nat} {S' : St} (h : m_Tx_load g S x1 = some S') : kap S ≤ kap S' := by
  unfold m_Tx_load at h
  have nn : nq S S := nq_rf
  obtain ⟨S_1, hS_1, h⟩ := bnd h
  replace nn : nq S_1 S := nq_tr (kq_Row_clear hS_1) nn
  obtain ⟨S_2, hS_2, h⟩ := bnd h
  replace nn : nq S_2 S := nq_tr (kq_Row_clear hS_2) nn
  obtain ⟨S_3, hS_3, h⟩ := bnd h
  have hk1 := km_Row_add hS_3
  have hkn := nq_kap nn
  have h2 := km_Tx_load_22 h
  omega
section S_Tx_load
variable {p : Program} {l : Launch} {e : Env} {s : State} {m : MethodId} {args : Array Value} {below : List Frame} {meth : Method} {c : Code} {H : Heap} {locs : List Loc} {ls : Array Slot} {D : va_G} {T : Cy} {ρ ρ0 : Nat → Nat} {S0 : St} {A : Nat → Prop}
set_option maxRecDepth 100000 in
set_option maxHeartbeats 4000000 in
theorem w_Tx_load_124 {g : Nat} {S : St} {x1 : Nat} {x2 : Int32} (C : CallFix p m c cX10_load 5 s args tb RX10) (hr : meth.sig.returnType = none) (hk : meth.locks = false) {S' : St} {k31 : St → Nat → Int32 → Option St} (kk31 : ∀ (ρ : Nat → Nat) (S : St) (x1 : Nat) (x2 : Int32) (H : Heap) (locs : List Loc) (ls : Array Slot), Ag ρ0 ρ → kap S0 ≤ kap S → Wn Yc D T ρ S A s H locs → lv_has ls 5 [(0, .ref (ρ 5)), (1, .ref (ρ x1)), (2, .int x2)] → Ob Yc x1 2 → k31 S x1 x2 = some S' → W p l e (rmK 3 73 (kap S' - kap S0)) s m args below meth c H locs (kap S - kap S0) (2 * (kap S - kap S0)) (MQ below (QvM D T ρ0 A S') args s (kap S' - kap S0) (2 * (kap S' - kap S0)) A) (F0 m 31 ls [])) (km31 : ∀ (S : St) (x1 : Nat) (x2 : Int32), k31 S x1 x2 = some S' → kap S ≤ kap S') (ha : Ag ρ0 ρ) (hm : kap S0 ≤ kap S) (w : Wn Yc D T ρ S A s H locs) (hl : lv_has ls 5 [(0, .ref (ρ 5)), (1, .ref (ρ x1)), (2, .int x2)]) (ho_x1 : Ob Yc x1 2) (h : m_Tx_load_124 g k31 S x1 x2 = some S') : W p l e (rmK 3 73 (kap S' - kap S0)) s m args below meth c H locs (kap S - kap S0) (2 * (kap S - kap S0)) (MQ below (QvM D T ρ0 A S') args s (kap S' - kap S0) (2 * (kap S' - kap S0)) A) (F0 m 124 ls []) := by
  have hT := km_Tx_load_124 km31 h
  unfold m_Tx_load_124 at h
  have nn : nq S S := nq_rf
  obtain ⟨x2_11, ex2_11, h⟩ := lt_e h
  refine lv_iinc (v := x2_11) (lv' := [(2, .int x2_11), (0, .ref (ρ 5)), (1, .ref (ρ x1))]) C.1 C.2.1 dX10_load_124 hl (k := 2) rfl (by rw [ex2_11]; rfl) (by decide) rfl (fun ls hl => ?_)
  refine lv_goto (tgt := 31) C.1 C.2.1 dX10_load_127 (by decide) ?_
  have hkn := nq_kap nn
  refine W.widen (k := kap S - kap S0) (n := 2 * (kap S - kap S0)) (by omega) (by omega) ?_
  exact kk31 _ _ _ _ _ _ _ ha (by omega) w (lv_sub hl [1, 2, 0] rfl) ho_x1 h
set_option maxRecDepth 100000 in
set_option maxHeartbeats 4000000 in
theorem w_Tx_load_110 {g : Nat} {S : St} {x1 : Nat} {x2 : Int32} (C : CallFix p m c cX10_load 5 s args tb RX10) (hr : meth.sig.returnType = none) (hk : meth.locks = false) {S' : St} {k31 : St → Nat → Int32 → Option St} (kk31 : ∀ (ρ : Nat → Nat) (S : St) (x1 : Nat) (x2 : Int32) (H : Heap) (locs : List Loc) (ls : Array Slot), Ag ρ0 ρ → kap S0 ≤ kap S → Wn Yc D T ρ S A s H locs → lv_has ls 5 [(0, .ref (ρ 5)), (1, .ref (ρ x1)), (2, .int x2)] → Ob Yc x1 2 → k31 S x1 x2 = some S' → W p l e (rmK 3 73 (kap S' - kap S0)) s m args below meth c H locs (kap S - kap S0) (2 * (kap S - kap S0)) (MQ below (QvM D T ρ0 A S') args s (kap S' - kap S0) (2 * (kap S' - kap S0)) A) (F0 m 31 ls [])) (km31 : ∀ (S : St) (x1 : Nat) (x2 : Int32), k31 S x1 x2 = some S' → kap S ≤ kap S') (ha : Ag ρ0 ρ) (hm : kap S0 ≤ kap S) (w : Wn Yc D T ρ S A s H locs) (hl : lv_has ls 5 [(0, .ref (ρ 5)), (1, .ref (ρ x1)), (2, .int x2)]) (ho_x1 : Ob Yc x1 2) (h : m_Tx_load_110 g k31 S x1 x2 = some S') : W p l e (rmK 3 73 (kap S' - kap S0)) s m args below meth c H locs (kap S - kap S0) (2 * (kap S - kap S0)) (MQ below (QvM D T ρ0 A S') args s (kap S' - kap S0) (2 * (kap S' - kap S0)) A) (F0 m 110 ls []) := by
  have hT := km_Tx_load_110 km31 h
  unfold m_Tx_load_110 at h
  have nn : nq S S := nq_rf
  refine lv_aload_n C.1 C.2.1 dX10_load_110 rfl (lv_at hl 0 rfl) ?_
  refine x_getC C w 19 fX10_20 obC5 rfl dX10_load_111 ?_
  refine lv_aload_n C.1 C.2.1 dX10_load_114 rfl (lv_at hl 0 rfl) ?_
  refine x_getC C w 18 fX10_14 obC5 rfl dX10_load_115 ?_
  refine x_getI C w fX10_44 obC18 dX10_load_118 ?_
  obtain ⟨S_10, hS_10, h⟩ := bnd h
  have hkn := nq_kap nn
  have hk1 := km_Row_add hS_10
  have hT2 := km_Tx_load_124 km31 h
  refine x_callVvM (q := (RX6, TX6, 4)) (As := [.int (gI S 18 2)]) (rest := []) C w (k_Row_add l D T ρ g H.size S obC19 hS_10) vX10_33 (hRK (by decide) (by decide)) obC19 (by decide) rfl rfl rfl hl.1 (Nat.le_of_ble_eq_true rfl) (hcM hm hkn hk1 hT2) dX10_load_121 (fun ρ1 H locs hag w => ?_)
  replace ha := ha.trans hag
  rw [← hag 5 (by decide)] at hl
  rw [← hag x1 (ncP ho_x1)] at hl
  refine W.widen (k := kap S_10 - kap S0) (n := 2 * (kap S_10 - kap S0)) (by omega) (by omega) ?_
  exact w_Tx_load_124 C hr hk kk31 km31 ha (by omega) w (lv_sub hl [0, 1, 2] rfl) ho_x1 h
set_option maxRecDepth 100000 in
set_option maxHeartbeats 4000000 in
theorem w_Tx_load_89 {g : Nat} {S : St} {x1 : Nat} {x2 : Int32} {x3 : Int32} {x4 : Int32} (C : CallFix p m c cX10_load 5 s args tb RX10) (hr : meth.sig.returnType = none) (hk : meth.locks = false) {S' : St} {k31 : St → Nat → Int32 → Option St} (kk31 : ∀ (ρ : Nat → Nat) (S : St) (x1 : Nat) (x2 : Int32) (H : Heap) (locs : List Loc) (ls : Array Slot), Ag ρ0 ρ → kap S0 ≤ kap S → Wn Yc D T ρ S A s H locs → lv_has ls 5 [(0, .ref (ρ 5)), (1, .ref (ρ x1)), (2, .int x2)] → Ob Yc x1 2 → k31 S x1 x2 = some S' → W p l e (rmK 3 73 (kap S' - kap S0)) s m args below meth c H locs (kap S - kap S0) (2 * (kap S - kap S0)) (MQ below (QvM D T ρ0 A S') args s (kap S' - kap S0) (2 * (kap S' - kap S0)) A) (F0 m 31 ls [])) (km31 : ∀ (S : St) (x1 : Nat) (x2 : Int32), k31 S x1 x2 = some S' → kap S ≤ kap S') (ha : Ag ρ0 ρ) (hm : kap S0 ≤ kap S) (w : Wn Yc D T ρ S A s H locs) (hl : lv_has ls 5 [(0, .ref (ρ 5)), (1, .ref (ρ x1)), (2, .int x2), (3, .int x3), (4, .int x4)]) (ho_x1 : Ob Yc x1 2) (h : m_Tx_load_89 g k31 S x1 x2 x3 x4 = some S') : W p l e (rmK 3 73 (kap S' - kap S0)) s m args below meth c H locs (kap S - kap S0) (2 * (kap S - kap S0)) (MQ below (QvM D T ρ0 A S') args s (kap S' - kap S0) (2 * (kap S' - kap S0)) A) (F0 m 89 ls []) := by
  have hT := km_Tx_load_89 km31 h
  unfold m_Tx_load_89 at h
  have nn : nq S S := nq_rf
  refine lv_aload_n C.1 C.2.1 dX10_load_89 rfl (lv_at hl 0 rfl) ?_
  refine x_getC C w 18 fX10_14 obC5 rfl dX10_load_90 ?_
  refine lv_aload_n C.1 C.2.1 dX10_load_93 rfl (lv_at hl 0 rfl) ?_
  refine x_getC C w 18 fX10_14 obC5 rfl dX10_load_94 ?_
  refine x_getI C w fX10_44 obC18 dX10_load_97 ?_
  refine lv_aload_n C.1 C.2.1 dX10_load_100 rfl (lv_at hl 1 rfl) ?_
  refine x_getC C w (8 + 3 * x1 + 0) fX10_54 ho_x1 (crP6 ho_x1) dX10_load_101 ?_
  refine lv_iload_n C.1 C.2.1 dX10_load_104 rfl (lv_at hl 3 rfl) ?_
  refine lv_iload C.1 C.2.1 dX10_load_105 (lv_at hl 4 rfl) ?_
  obtain ⟨S_9, hS_9, h⟩ := bnd h
  have hkn := nq_kap nn
  have hk1 := km_Row_insert hS_9
  have hT2 := km_Tx_load_110 km31 h
  refine x_callVvM (q := (RX6, TX6, 4)) (As := [.int (gI S 18 2), .ref (ρ (8 + 3 * x1 + 0)), .int x3, .int x4]) (rest := []) C w (k_Row_insert l D T ρ g H.size S obC18 (obP6 ho_x1) hS_9) vX10_57 (hRK (by decide) (by decide)) obC18 (by decide) rfl rfl rfl hl.1 (Nat.le_of_ble_eq_true rfl) (hcM hm hkn hk1 hT2) dX10_load_107 (fun ρ1 H locs hag w => ?_)
  replace ha := ha.trans hag
  rw [← hag 5 (by decide)] at hl
  rw [← hag x1 (ncP ho_x1)] at hl
  refine W.widen (k := kap S_9 - kap S0) (n := 2 * (kap S_9 - kap S0)) (by omega) (by omega) ?_
  exact w_Tx_load_110 C hr hk kk31 km31 ha (by omega) w (lv_sub hl [0, 1, 2] rfl) ho_x1 h
set_option maxRecDepth 100000 in
set_option maxHeartbeats 4000000 in
theorem w_Tx_load_72 {g : Nat} {S : St} {x1 : Nat} {x2 : Int32} (C : CallFix p m c cX10_load 5 s args tb RX10) (hr : meth.sig.returnType = none) (hk : meth.locks = false) {S' : St} {k31 : St → Nat → Int32 → Option St} (kk31 : ∀ (ρ : Nat → Nat) (S : St) (x1 : Nat) (x2 : Int32) (H : Heap) (locs : List Loc) (ls : Array Slot), Ag ρ0 ρ → kap S0 ≤ kap S → Wn Yc D T ρ S A s H locs → lv_has ls 5 [(0, .ref (ρ 5)), (1, .ref (ρ x1)), (2, .int x2)] → Ob Yc x1 2 → k31 S x1 x2 = some S' → W p l e (rmK 3 73 (kap S' - kap S0)) s m args below meth c H locs (kap S - kap S0) (2 * (kap S - kap S0)) (MQ below (QvM D T ρ0 A S') args s (kap S' - kap S0) (2 * (kap S' - kap S0)) A) (F0 m 31 ls [])) (km31 : ∀ (S : St) (x1 : Nat) (x2 : Int32), k31 S x1 x2 = some S' → kap S ≤ kap S') (ha : Ag ρ0 ρ) (hm : kap S0 ≤ kap S) (w : Wn Yc D T ρ S A s H locs) (hl : lv_has ls 5 [(0, .ref (ρ 5)), (1, .ref (ρ x1)), (2, .int x2)]) (ho_x1 : Ob Yc x1 2) (h : m_Tx_load_72 g k31 S x1 x2 = some S') : W p l e (rmK 3 73 (kap S' - kap S0)) s m args below meth c H locs (kap S - kap S0) (2 * (kap S - kap S0)) (MQ below (QvM D T ρ0 A S') args s (kap S' - kap S0) (2 * (kap S' - kap S0)) A) (F0 m 72 ls []) := by
  have hT := km_Tx_load_72 km31 h
  unfold m_Tx_load_72 at h
  have nn : nq S S := nq_rf
  refine lv_goto (tgt := 124) C.1 C.2.1 dX10_load_72 (by decide) ?_
  have hkn := nq_kap nn
  refine W.widen (k := kap S - kap S0) (n := 2 * (kap S - kap S0)) (by omega) (by omega) ?_
  exact w_Tx_load_124 C hr hk kk31 km31 ha (by omega) w (lv_sub hl [0, 1, 2] rfl) ho_x1 h
set_option maxRecDepth 100000 in
set_option maxHeartbeats 4000000 in
theorem wb_Tx_load_31 {g : Nat} {S : St} {x1 : Nat} {x2 : Int32} (C : CallFix p m c cX10_load 5 s args tb RX10) (hr : meth.sig.returnType = none) (hk : meth.locks = false) {S' : St} {k31 : St → Nat → Int32 → Option St} (kk31 : ∀ (ρ : Nat → Nat) (S : St) (x1 : Nat) (x2 : Int32) (H : Heap) (locs : List Loc) (ls : Array Slot), Ag ρ0 ρ → kap S0 ≤ kap S → Wn Yc D T ρ S A s H locs → lv_has ls 5 [(0, .ref (ρ 5)), (1, .ref (ρ x1)), (2, .int x2)] → Ob Yc x1 2 → k31 S x1 x2 = some S' → W p l e (rmK 3 73 (kap S' - kap S0)) s m args below meth c H locs (kap S - kap S0) (2 * (kap S - kap S0)) (MQ below (QvM D T ρ0 A S') args s (kap S' - kap S0) (2 * (kap S' - kap S0)) A) (F0 m 31 ls [])) (km31 : ∀ (S : St) (x1 : Nat) (x2 : Int32), k31 S x1 x2 = some S' → kap S ≤ kap S') (ha : Ag ρ0 ρ) (hm : kap S0 ≤ kap S) (w : Wn Yc D T ρ S A s H locs) (hl : lv_has ls 5 [(0, .ref (ρ 5)), (1, .ref (ρ x1)), (2, .int x2)]) (ho_x1 : Ob Yc x1 2) (h : b_Tx_load_31 g k31 S x1 x2 = some S') : W p l e (rmK 3 73 (kap S' - kap S0)) s m args below meth c H locs (kap S - kap S0) (2 * (kap S - kap S0)) (MQ below (QvM D T ρ0 A S') args s (kap S' - kap S0) (2 * (kap S' - kap S0)) A) (F0 m 31 ls []) := by
  have hT := kmb_Tx_load_31 km31 h
  unfold b_Tx_load_31 at h
  have nn : nq S S := nq_rf
  refine lv_iload_n C.1 C.2.1 dX10_load_31 rfl (lv_at hl 2 rfl) ?_
  refine lv_aload_n C.1 C.2.1 dX10_load_32 rfl (lv_at hl 1 rfl) ?_
  refine x_getC C w (8 + 3 * x1 + 1) fX10_39 ho_x1 (crP7 ho_x1) dX10_load_33 ?_
  refine x_getI C w fX10_44 (obP7 ho_x1) dX10_load_36 ?_
  refine lv_icmp_ge (tgt := 130) C.1 C.2.1 dX10_load_39 (by decide) (fun hc => ?_) (fun hc => ?_)
  · replace h := ift hc h
    refine lv_aload_n C.1 C.2.1 dX10_load_130 rfl (lv_at hl 0 rfl) ?_
    refine lv_aload_n C.1 C.2.1 dX10_load_131 rfl (lv_at hl 0 rfl) ?_
    refine x_getC C w 19 fX10_20 obC5 rfl dX10_load_132 ?_
    refine x_getI C w fX10_44 obC19 dX10_load_135 ?_
    obtain ⟨S_5, eS_5, h⟩ := lt_e h
    replace nn : nq S_5 S := nq_tr (by rw [eS_5]; rfl) nn
    refine y_putI C w eS_5 fX10_29 pX10_4 obC5 dX10_load_138 (fun H locs w => ?_)
    obtain rfl := som h
    exact x_vretM C w ha hr hk dX10_load_141 (by have := nq_kap nn; omega) (by have := nq_kap nn; omega)
  · replace h := iff0 hc h
    refine lv_aload_n C.1 C.2.1 dX10_load_42 rfl (lv_at hl 1 rfl) ?_
    refine lv_iload_n C.1 C.2.1 dX10_load_43 rfl (lv_at hl 2 rfl) ?_
    obtain ⟨v_6, hv_6, h⟩ := bnd h
    refine x_callVi (q := (RX4, TX4, 16)) (As := [.int x2]) (rest := []) C w (k_Pg_literalStart l D T ρ g H.size S ho_x1 hv_6) vX10_47 (hRK (by decide) (by decide)) ho_x1 (by decide) rfl rfl rfl hl.1 (Nat.le_of_ble_eq_true rfl) (hcK hT) dX10_load_44 (fun H locs w => ?_)
    refine lv_istore_n (lv' := [(3, .int v_6), (0, .ref (ρ 5)), (1, .ref (ρ x1)), (2, .int x2)]) C.1 C.2.1 dX10_load_47 rfl hl (by decide) rfl (fun ls hl => ?_)
    refine lv_aload_n C.1 C.2.1 dX10_load_48 rfl (lv_at hl 2 rfl) ?_
    refine x_getC C w (8 + 3 * x1 + 1) fX10_39 ho_x1 (crP7 ho_x1) dX10_load_49 ?_
    refine lv_iload_n C.1 C.2.1 dX10_load_52 rfl (lv_at hl 3 rfl) ?_
    obtain ⟨v_7, hv_7, h⟩ := bnd h
    refine x_callVi (q := (RX6, TX6, 4)) (As := [.int x2]) (rest := []) C w (k_Row_at l D T ρ g H.size S (obP7 ho_x1) hv_7) vX10_51 (hRK (by decide) (by decide)) (obP7 ho_x1) (by decide) rfl rfl rfl hl.1 (Nat.le_of_ble_eq_true rfl) (hcK hT) dX10_load_53 (fun H locs w => ?_)
    refine lv_istore (lv' := [(4, .int v_7), (3, .int v_6), (0, .ref (ρ 5)), (1, .ref (ρ x1)), (2, .int x2)]) C.1 C.2.1 dX10_load_56 hl (by decide) rfl (fun ls hl => ?_)
    refine lv_iload_n C.1 C.2.1 dX10_load_58 rfl (lv_at hl 1 rfl) ?_
    refine lv_iload C.1 C.2.1 dX10_load_59 (lv_at hl 0 rfl) ?_
    refine lv_icmp_ne (tgt := 75) C.1 C.2.1 dX10_load_61 (by decide) (fun hc => ?_) (fun hc => ?_)
    · replace h := iff0 hc h
      refine lv_aload_n C.1 C.2.1 dX10_load_75 rfl (lv_at hl 2 rfl) ?_
      refine x_getC C w 21 fX10_26 obC5 rfl dX10_load_76 ?_
      refine lv_aload_n C.1 C.2.1 dX10_load_79 rfl (lv_at hl 2 rfl) ?_
      refine x_getC C w 19 fX10_20 obC5 rfl dX10_load_80 ?_
      refine x_getI C w fX10_44 obC19 dX10_load_83 ?_
      obtain ⟨S_8, hS_8, h⟩ := bnd h
      have hkn := nq_kap nn
      have hk1 := km_Row_add hS_8
      have hT2 := km_Tx_load_89 km31 h
      refine x_callVvM (q := (RX6, TX6, 4)) (As := [.int (gI S 19 2)]) (rest := []) C w (k_Row_add l D T ρ g H.size S obC21 hS_8) vX10_33 (hRK (by decide) (by decide)) obC21 (by decide) rfl rfl rfl hl.1 (Nat.le_of_ble_eq_true rfl) (hcM hm hkn hk1 hT2) dX10_load_86 (fun ρ1 H locs hag w => ?_)
      replace ha := ha.trans hag
      rw [← hag 5 (by decide)] at hl
      rw [← hag x1 (ncP ho_x1)] at hl
      refine W.widen (k := kap S_8 - kap S0) (n := 2 * (kap S_8 - kap S0)) (by omega) (by omega) ?_
      exact w_Tx_load_89 C hr hk kk31 km31 ha (by omega) w (lv_sub hl [2, 3, 4, 1, 0] rfl) ho_x1 h
    · replace h := ift hc h
      refine lv_aload_n C.1 C.2.1 dX10_load_64 rfl (lv_at hl 2 rfl) ?_
      refine x_getC C w 21 fX10_26 obC5 rfl dX10_load_65 ?_
      refine lv_iconst (v := 0) C.1 C.2.1 dX10_load_68 (by decide) ?_
      obtain ⟨S_9, hS_9, h⟩ := bnd h
      have hkn := nq_kap nn
      have hk1 := km_Row_add hS_9
      have hT2 := km_Tx_load_72 km31 h
      refine x_callVvM (q := (RX6, TX6, 4)) (As := [.int (0 : Int32)]) (rest := []) C w (k_Row_add l D T ρ g H.size S obC21 hS_9) vX10_33 (hRK (by decide) (by decide)) obC21 (by decide) rfl rfl rfl hl.1 (Nat.le_of_ble_eq_true rfl) (hcM hm hkn hk1 hT2) dX10_load_69 (fun ρ1 H locs hag w => ?_)
      replace ha := ha.trans hag
      rw [← hag 5 (by decide)] at hl
      rw [← hag x1 (ncP ho_x1)] at hl
      refine W.widen (k := kap S_9 - kap S0) (n := 2 * (kap S_9 - kap S0)) (by omega) (by omega) ?_
      exact w_Tx_load_72 C hr hk kk31 km31 ha (by omega) w (lv_sub hl [2, 3, 4] rfl) ho_x1 h
theorem w_Tx_load_31 {g : Nat} (C : CallFix p m c cX10_load 5 s args tb RX10) (hr : meth.sig.returnType = none) (hk : meth.locks = false) {S' : St} (n : Nat) : ∀ (ρ : Nat → Nat) (S : St) (x1 : Nat) (x2 : Int32) (H : Heap) (locs : List Loc) (ls : Array Slot), Ag ρ0 ρ → kap S0 ≤ kap S → Wn Yc D T ρ S A s H locs → lv_has ls 5 [(0, .ref (ρ 5)), (1, .ref (ρ x1)), (2, .int x2)] → Ob Yc x1 2 → m_Tx_load_31 g n S x1 x2 = some S' → W p l e (rmK 3 73 (kap S' - kap S0)) s m args below meth c H locs (kap S - kap S0) (2 * (kap S - kap S0)) (MQ below (QvM D T ρ0 A S') args s (kap S' - kap S0) (2 * (kap S' - kap S0)) A) (F0 m 31 ls []) := by
  induction n with
  | zero => intro ρ S x1 x2 H locs ls ha hm w hl ho_x1 h; exact absurd h (fun q => by cases q)
  | succ n ih => intro ρ S x1 x2 H locs ls ha hm w hl ho_x1 h; exact wb_Tx_load_31 C hr hk ih (km_Tx_load_31 n) ha hm w hl ho_x1 h
set_option maxRecDepth 100000 in
set_option maxHeartbeats 4000000 in
theorem w_Tx_load_22 {g : Nat} {S : St} {x1 : Nat} (C : CallFix p m c cX10_load 5 s args tb RX10) (hr : meth.sig.returnType = none) (hk : meth.locks = false) {S' : St} (ha : Ag ρ0 ρ) (hm : kap S0 ≤ kap S) (w : Wn Yc D T ρ S A s H locs) (hl : lv_has ls 5 [(0, .ref (ρ 5)), (1, .ref (ρ x1))]) (ho_x1 : Ob Yc x1 2) (h : m_Tx_load_22 g S x1 = some S') : W p l e (rmK 3 73 (kap S' - kap S0)) s m args below meth c H locs (kap S - kap S0) (2 * (kap S - kap S0)) (MQ below (QvM D T ρ0 A S') args s (kap S' - kap S0) (2 * (kap S' - kap S0)) A) (F0 m 22 ls []) := by
  have hT := km_Tx_load_22 h
  unfold m_Tx_load_22 at h
  have nn : nq S S := nq_rf
  refine lv_aload_n C.1 C.2.1 dX10_load_22 rfl (lv_at hl 0 rfl) ?_
  refine x_getC C w 21 fX10_26 obC5 rfl dX10_load_23 ?_
  obtain ⟨S_4, hS_4, h⟩ := bnd h
  replace nn : nq S_4 S := nq_tr (kq_Row_clear hS_4) nn
  refine x_callVv (q := (RX6, TX6, 4)) (As := []) (rest := []) C w (k_Row_clear l D T ρ g H.size S obC21 hS_4) vX10_36 (hRK (by decide) (by decide)) obC21 (by decide) rfl rfl rfl hl.1 (Nat.le_of_ble_eq_true rfl) (hcK hT) dX10_load_26 (fun H locs w => ?_)
  refine lv_iconst (v := 0) C.1 C.2.1 dX10_load_29 (by decide) ?_
  refine lv_istore_n (lv' := [(2, .int (0 : Int32)), (0, .ref (ρ 5)), (1, .ref (ρ x1))]) C.1 C.2.1 dX10_load_30 rfl hl (by decide) rfl (fun ls hl => ?_)
  have hkn := nq_kap nn
  refine W.widen (k := kap S_4 - kap S0) (n := 2 * (kap S_4 - kap S0)) (by omega) (by omega) ?_
  exact w_Tx_load_31 C hr hk g _ _ _ _ _ _ _ ha (by omega) w (lv_sub hl [1, 2, 0] rfl) ho_x1 h
set_option maxRecDepth 100000 in
set_option maxHeartbeats 4000000 in
theorem w_Tx_load_0 {g : Nat} {S : St} {x1 : Nat} (C : CallFix p m c cX10_load 5 s args tb RX10) (hr : meth.sig.returnType = none) (hk : meth.locks = false) {S' : St} (ha : Ag ρ0 ρ) (hm : kap S0 ≤ kap S) (w : Wn Yc D T ρ S A s H locs) (hl : lv_has ls 5 [(0, .ref (ρ 5)), (1, .ref (ρ x1))]) (ho_x1 : Ob Yc x1 2) (h : m_Tx_load g S x1 = some S') : W p l e (rmK 3 73 (kap S' - kap S0)) s m args below meth c H locs (kap S - kap S0) (2 * (kap S - kap S0)) (MQ below (QvM D T ρ0 A S') args s (kap S' - kap S0) (2 * (kap S' - kap S0)) A) (F0 m 0 ls []) := by
  have hT := km_Tx_load h
  unfold m_Tx_load at h
  have nn : nq S S := nq_rf
  refine lv_aload_n C.1 C.2.1 dX10_load_0 rfl (lv_at hl 0 rfl) ?_
  refine x_getC C w 18 fX10_14 obC5 rfl dX10_load_1 ?_
  obtain ⟨S_1, hS_1, h⟩ := bnd h
  replace nn : nq S_1 S := nq_tr (kq_Row_clear hS_1) nn
  refine x_callVv (q := (RX6, TX6, 4)) (As := []) (rest := []) C w (k_Row_clear l D T ρ g H.size S obC18 hS_1) vX10_36 (hRK (by decide) (by decide)) obC18 (by decide) rfl rfl rfl hl.1 (Nat.le_of_ble_eq_true rfl) (hcK hT) dX10_load_4 (fun H locs w => ?_)
  refine lv_aload_n C.1 C.2.1 dX10_load_7 rfl (lv_at hl 0 rfl) ?_
  refine x_getC C w 19 fX10_20 obC5 rfl dX10_load_8 ?_
  obtain ⟨S_2, hS_2, h⟩ := bnd h
  replace nn : nq S_2 S := nq_tr (kq_Row_clear hS_2) nn
  refine x_callVv (q := (RX6, TX6, 4)) (As := []) (rest := []) C w (k_Row_clear l D T ρ g H.size S_1 obC19 hS_2) vX10_36 (hRK (by decide) (by decide)) obC19 (by decide) rfl rfl rfl hl.1 (Nat.le_of_ble_eq_true rfl) (hcK hT) dX10_load_11 (fun H locs w => ?_)
  refine lv_aload_n C.1 C.2.1 dX10_load_14 rfl (lv_at hl 0 rfl) ?_
  refine x_getC C w 19 fX10_20 obC5 rfl dX10_load_15 ?_
  refine lv_iconst (v := 0) C.1 C.2.1 dX10_load_18 (by decide) ?_
  obtain ⟨S_3, hS_3, h⟩ := bnd h
  have hkn := nq_kap nn
  have hk1 := km_Row_add hS_3
  have hT2 := km_Tx_load_22 h
  refine x_callVvM (q := (RX6, TX6, 4)) (As := [.int (0 : Int32)]) (rest := []) C w (k_Row_add l D T ρ g H.size S_2 obC19 hS_3) vX10_33 (hRK (by decide) (by decide)) obC19 (by decide) rfl rfl rfl hl.1 (Nat.le_of_ble_eq_true rfl) (hcM hm hkn hk1 hT2) dX10_load_19 (fun ρ1 H locs hag w => ?_)
  replace ha := ha.trans hag
  rw [← hag 5 (by decide)] at hl
  rw [← hag x1 (ncP ho_x1)] at hl
  refine W.widen (k := kap S_3 - kap S0) (n := 2 * (kap S_3 - kap S0)) (by omega) (by omega) ?_
  exact w_Tx_load_22 C hr hk ha (by omega) w (lv_sub hl [0, 1] rfl) ho_x1 h
end S_Tx_load
set_option maxRecDepth 100000 in
theorem k_Tx_load (l : Launch) (D : va_G) (T : Cy) (ρ : Nat → Nat) (g sz : Nat) (S : St) {x1 : Nat} (ho_x1 : Ob Yc x1 2) {S' : St} (h : m_Tx_load g S x1 = some S') : MvM l D T ρ yX10_load cX10_load 5 none 3 73 S S' [.ref (ρ 5), .ref (ρ x1)] sz :=
  x_inR (by decide) (Nat.le_of_ble_eq_true rfl) (fun p e s m below meth c ls C hr hk w hl => W.widen (Nat.zero_le _) (Nat.zero_le _) (w_Tx_load_0 C hr hk Ag.rf (Nat.le_refl _) w hl ho_x1 h))

theorem dX12_feedBytes_0 : decode cX12_feedBytes 0 = .ok (.bipush 24, 2) := by decide +kernel
theorem dX12_feedBytes_2 : decode cX12_feedBytes 2 = .ok (.istore_n 2, 1) := by decide +kernel
theorem dX12_feedBytes_3 : decode cX12_feedBytes 3 = .ok (.iload_n 2, 1) := by decide +kernel
theorem dX12_feedBytes_4 : decode cX12_feedBytes 4 = .ok (.ifCond .lt 23, 3) := by decide +kernel
theorem dX12_feedBytes_7 : decode cX12_feedBytes 7 = .ok (.aload_n 0, 1) := by decide +kernel
theorem dX12_feedBytes_8 : decode cX12_feedBytes 8 = .ok (.getfield 14, 3) := by decide +kernel
theorem dX12_feedBytes_11 : decode cX12_feedBytes 11 = .ok (.iload_n 1, 1) := by decide +kernel
theorem dX12_feedBytes_12 : decode cX12_feedBytes 12 = .ok (.iload_n 2, 1) := by decide +kernel
theorem dX12_feedBytes_13 : decode cX12_feedBytes 13 = .ok (.iushr, 1) := by decide +kernel
theorem dX12_feedBytes_14 : decode cX12_feedBytes 14 = .ok (.sipush 255, 3) := by decide +kernel
theorem dX12_feedBytes_17 : decode cX12_feedBytes 17 = .ok (.iand, 1) := by decide +kernel
theorem dX12_feedBytes_18 : decode cX12_feedBytes 18 = .ok (.invokevirtual 66, 3) := by decide +kernel
theorem dX12_feedBytes_21 : decode cX12_feedBytes 21 = .ok (.iinc 2 (-8), 3) := by decide +kernel
theorem dX12_feedBytes_24 : decode cX12_feedBytes 24 = .ok (.goto (-21), 3) := by decide +kernel
theorem dX12_feedBytes_27 : decode cX12_feedBytes 27 = .ok (.return_, 1) := by decide +kernel
def m_TL_feedBytes_21 (g : Nat) (k3 : St → Int32 → Int32 → Option St) (S : St) (x1 : Int32) (x2 : Int32) : Option St :=
lt (x2 + (-8 : Int32)) fun x2_2 =>
k3 S x1 x2_2
def b_TL_feedBytes_3 (g : Nat) (k3 : St → Int32 → Int32 → Option St) (S : St) (x1 : Int32) (x2 : Int32) : Option St :=
if x2 < 0 then (
  some S
) else (
  (m_Row_add g S 10 (((x1.toUInt32 >>> (x2.toUInt32 &&& Int32.toUInt32 31)).toInt32) &&& (255 : Int32))).bind fun S_1 =>
  m_TL_feedBytes_21 g k3 S_1 x1 x2
)
def m_TL_feedBytes_3 (g : Nat) : Nat → St → Int32 → Int32 → Option St
  | 0, _, _, _ => none
  | n + 1, S, x1, x2 => b_TL_feedBytes_3 g (m_TL_feedBytes_3 g n) S x1 x2
def m_TL_feedBytes (g : Nat) (S : St) (x1 : Int32) : Option St :=
m_TL_feedBytes_3 g g S x1 (24 : Int32)
theorem km_TL_feedBytes_21 {g : Nat} {S : St} {x1 : Int32} {x2 : Int32} {S' : St} {k3 : St → Int32 → Int32 → Option St} (km3 : ∀ (S : St) (x1 : Int32) (x2 : Int32), k3 S x1 x2 = some S' → kap S ≤ kap S') (h : m_TL_feedBytes_21 g k3 S x1 x2 = some S') : kap S ≤ kap S' := by
  unfold m_TL_feedBytes_21 at h
  have nn : nq S S := nq_rf
  obtain ⟨x2_2, ex2_2, h⟩ := lt_e h
  have hkn := nq_kap nn
  have h2 := km3 _ _ _ h
  omega
theorem kmb_TL_feedBytes_3 {g : Nat} {S : St} {x1 : Int32} {x2 : Int32} {S' : St} {k3 : St → Int32 → Int32 → Option St} (km3 : ∀ (S : St) (x1 : Int32) (x2 : Int32), k3 S x1 x2 = some S' → kap S ≤ kap S') (h : b_TL_feedBytes_3 g k3 S x1 x2 = some S') : kap S ≤ kap S' := by
  unfold b_TL_feedBytes_3 at h
  have nn : nq S S := nq_rf
  by_cases hc1 : x2 < 0
  · replace h := ift hc1 h
    obtain rfl := som h
    have hkn := nq_kap nn
    omega
  · replace h := iff0 hc1 h
    obtain ⟨S_1, hS_1, h⟩ := bnd h
    have hk1 := km_Row_add hS_1
    have hkn := nq_kap nn
    have h2 := km_TL_feedBytes_21 km3 h
    omega
theorem km_TL_feedBytes_3 {g : Nat} {S' : St} (n : Nat) : ∀ (S : St) (x1 : Int32) (x2 : Int32), m_TL_feedBytes_3 g n S x1 x2 = some S' → kap S ≤ kap S' := by
  induction n with
  | zero => intro S x1 x2 h; exact absurd h (fun q => by cases q)
  | succ n ih => intro S x1 x2 h; exact kmb_TL_feedBytes_3 ih h
theorem km_TL_feedBytes {g : Nat} {S : St} {x1 : Int32} {S' : St} (h : m_TL_feedBytes g S x1 = some S') : kap S ≤ kap S' := by
  unfold m_TL_feedBytes at h
  have nn : nq S S := nq_rf
  have hkn := nq_kap nn
  have h2 := km_TL_feedBytes_3 g _ _ _ h
  omega
section S_TL_feedBytes
variable {p : Program} {l : Launch} {e : Env} {s : State} {m : MethodId} {args : Array Value} {below : List Frame} {meth : Method} {c : Code} {H : Heap} {locs : List Loc} {ls : Array Slot} {D : va_G} {T : Cy} {ρ ρ0 : Nat → Nat} {S0 : St} {A : Nat → Prop}
set_option maxRecDepth 100000 in
set_option maxHeartbeats 4000000 in
theorem w_TL_feedBytes_21 {g : Nat} {S : St} {x1 : Int32} {x2 : Int32} (C : CallFix p m c cX12_feedBytes 3 s args tb RX12) (hr : meth.sig.returnType = none) (hk : meth.locks = false) {S' : St} {k3 : St → Int32 → Int32 → Option St} (kk3 : ∀ (ρ : Nat → Nat) (S : St) (x1 : Int32) (x2 : Int32) (H : Heap) (locs : List Loc) (ls : Array Slot), Ag ρ0 ρ → kap S0 ≤ kap S → Wn Yc D T ρ S A s H locs → lv_has ls 3 [(0, .ref (ρ 0)), (1, .int x1), (2, .int x2)] → k3 S x1 x2 = some S' → W p l e (rmK 3 69 (kap S' - kap S0)) s m args below meth c H locs (kap S - kap S0) (2 * (kap S - kap S0)) (MQ below (QvM D T ρ0 A S') args s (kap S' - kap S0) (2 * (kap S' - kap S0)) A) (F0 m 3 ls [])) (km3 : ∀ (S : St) (x1 : Int32) (x2 : Int32), k3 S x1 x2 = some S' → kap S ≤ kap S') (ha : Ag ρ0 ρ) (hm : kap S0 ≤ kap S) (w : Wn Yc D T ρ S A s H locs) (hl : lv_has ls 3 [(0, .ref (ρ 0)), (1, .int x1), (2, .int x2)]) (h : m_TL_feedBytes_21 g k3 S x1 x2 = some S') : W p l e (rmK 3 69 (kap S' - kap S0)) s m args below meth c H locs (kap S - kap S0) (2 * (kap S - kap S0)) (MQ below (QvM D T ρ0 A S') args s (kap S' - kap S0) (2 * (kap S' - kap S0)) A) (F0 m 21 ls []) := by
  have hT := km_TL_feedBytes_21 km3 h
  unfold m_TL_feedBytes_21 at h
  have nn : nq S S := nq_rf
  obtain ⟨x2_2, ex2_2, h⟩ := lt_e h
  refine lv_iinc (v := x2_2) (lv' := [(2, .int x2_2), (0, .ref (ρ 0)), (1, .int x1)]) C.1 C.2.1 dX12_feedBytes_21 hl (k := 2) rfl (by rw [ex2_2]; rfl) (by decide) rfl (fun ls hl => ?_)
  refine lv_goto (tgt := 3) C.1 C.2.1 dX12_feedBytes_24 (by decide) ?_
  have hkn := nq_kap nn
  refine W.widen (k := kap S - kap S0) (n := 2 * (kap S - kap S0)) (by omega) (by omega) ?_
  exact kk3 _ _ _ _ _ _ _ ha (by omega) w (lv_sub hl [1, 2, 0] rfl) h
set_option maxRecDepth 100000 in
set_option maxHeartbeats 4000000 in
theorem wb_TL_feedBytes_3 {g : Nat} {S : St} {x1 : Int32} {x2 : Int32} (C : CallFix p m c cX12_feedBytes 3 s args tb RX12) (hr : meth.sig.returnType = none) (hk : meth.locks = false) {S' : St} {k3 : St → Int32 → Int32 → Option St} (kk3 : ∀ (ρ : Nat → Nat) (S : St) (x1 : Int32) (x2 : Int32) (H : Heap) (locs : List Loc) (ls : Array Slot), Ag ρ0 ρ → kap S0 ≤ kap S → Wn Yc D T ρ S A s H locs → lv_has ls 3 [(0, .ref (ρ 0)), (1, .int x1), (2, .int x2)] → k3 S x1 x2 = some S' → W p l e (rmK 3 69 (kap S' - kap S0)) s m args below meth c H locs (kap S - kap S0) (2 * (kap S - kap S0)) (MQ below (QvM D T ρ0 A S') args s (kap S' - kap S0) (2 * (kap S' - kap S0)) A) (F0 m 3 ls [])) (km3 : ∀ (S : St) (x1 : Int32) (x2 : Int32), k3 S x1 x2 = some S' → kap S ≤ kap S') (ha : Ag ρ0 ρ) (hm : kap S0 ≤ kap S) (w : Wn Yc D T ρ S A s H locs) (hl : lv_has ls 3 [(0, .ref (ρ 0)), (1, .int x1), (2, .int x2)]) (h : b_TL_feedBytes_3 g k3 S x1 x2 = some S') : W p l e (rmK 3 69 (kap S' - kap S0)) s m args below meth c H locs (kap S - kap S0) (2 * (kap S - kap S0)) (MQ below (QvM D T ρ0 A S') args s (kap S' - kap S0) (2 * (kap S' - kap S0)) A) (F0 m 3 ls []) := by
  have hT := kmb_TL_feedBytes_3 km3 h
  unfold b_TL_feedBytes_3 at h
  have nn : nq S S := nq_rf
  refine lv_iload_n C.1 C.2.1 dX12_feedBytes_3 rfl (lv_at hl 2 rfl) ?_
  refine lv_if_lt (tgt := 27) C.1 C.2.1 dX12_feedBytes_4 (by decide) (fun hc => ?_) (fun hc => ?_)
  · replace h := ift hc h
    obtain rfl := som h
    exact x_vretM C w ha hr hk dX12_feedBytes_27 (by have := nq_kap nn; omega) (by have := nq_kap nn; omega)
  · replace h := iff0 hc h
    refine lv_aload_n C.1 C.2.1 dX12_feedBytes_7 rfl (lv_at hl 0 rfl) ?_
    refine x_getC C w 10 fX12_14 obC0 rfl dX12_feedBytes_8 ?_
    refine lv_iload_n C.1 C.2.1 dX12_feedBytes_11 rfl (lv_at hl 1 rfl) ?_
    refine lv_iload_n C.1 C.2.1 dX12_feedBytes_12 rfl (lv_at hl 2 rfl) ?_
    refine lv_iushr C.1 C.2.1 dX12_feedBytes_13 rfl ?_
    refine lv_sipush (v := 255) C.1 C.2.1 dX12_feedBytes_14 (by decide) ?_
    refine lv_iand C.1 C.2.1 dX12_feedBytes_17 ?_
    obtain ⟨S_1, hS_1, h⟩ := bnd h
    have hkn := nq_kap nn
    have hk1 := km_Row_add hS_1
    have hT2 := km_TL_feedBytes_21 km3 h
    refine x_callVvM (q := (RX6, TX6, 4)) (As := [.int (((x1.toUInt32 >>> (x2.toUInt32 &&& Int32.toUInt32 31)).toInt32) &&& (255 : Int32))]) (rest := []) C w (k_Row_add l D T ρ g H.size S obC10 hS_1) vX12_66 (hRK (by decide) (by decide)) obC10 (by decide) rfl rfl rfl hl.1 (Nat.le_of_ble_eq_true rfl) (hcM hm hkn hk1 hT2) dX12_feedBytes_18 (fun ρ1 H locs hag w => ?_)
    replace ha := ha.trans hag
    rw [← hag 0 (by decide)] at hl
    refine W.widen (k := kap S_1 - kap S0) (n := 2 * (kap S_1 - kap S0)) (by omega) (by omega) ?_
    exact w_TL_feedBytes_21 C hr hk kk3 km3 ha (by omega) w (lv_sub hl [0, 1, 2] rfl) h
theorem w_TL_feedBytes_3 {g : Nat} (C : CallFix p m c cX12_feedBytes 3 s args tb RX12) (hr : meth.sig.returnType = none) (hk : meth.locks = false) {S' : St} (n : Nat) : ∀ (ρ : Nat → Nat) (S : St) (x1 : Int32) (x2 : Int32) (H : Heap) (locs : List Loc) (ls : Array Slot), Ag ρ0 ρ → kap S0 ≤ kap S → Wn Yc D T ρ S A s H locs → lv_has ls 3 [(0, .ref (ρ 0)), (1, .int x1), (2, .int x2)] → m_TL_feedBytes_3 g n S x1 x2 = some S' → W p l e (rmK 3 69 (kap S' - kap S0)) s m args below meth c H locs (kap S - kap S0) (2 * (kap S - kap S0)) (MQ below (QvM D T ρ0 A S') args s (kap S' - kap S0) (2 * (kap S' - kap S0)) A) (F0 m 3 ls []) := by
  induction n with
  | zero => intro ρ S x1 x2 H locs ls ha hm w hl h; exact absurd h (fun q => by cases q)
  | succ n ih => intro ρ S x1 x2 H locs ls ha hm w hl h; exact wb_TL_feedBytes_3 C hr hk ih (km_TL_feedBytes_3 n) ha hm w hl h
set_option maxRecDepth 100000 in
set_option maxHeartbeats 4000000 in
theorem w_TL_feedBytes_0 {g : Nat} {S : St} {x1 : Int32} (C : CallFix p m c cX12_feedBytes 3 s args tb RX12) (hr : meth.sig.returnType = none) (hk : meth.locks = false) {S' : St} (ha : Ag ρ0 ρ) (hm : kap S0 ≤ kap S) (w : Wn Yc D T ρ S A s H locs) (hl : lv_has ls 3 [(0, .ref (ρ 0)), (1, .int x1)]) (h : m_TL_feedBytes g S x1 = some S') : W p l e (rmK 3 69 (kap S' - kap S0)) s m args below meth c H locs (kap S - kap S0) (2 * (kap S - kap S0)) (MQ below (QvM D T ρ0 A S') args s (kap S' - kap S0) (2 * (kap S' - kap S0)) A) (F0 m 0 ls []) := by
  have hT := km_TL_feedBytes h
  unfold m_TL_feedBytes at h
  have nn : nq S S := nq_rf
  refine lv_bipush (v := 24) C.1 C.2.1 dX12_feedBytes_0 (by decide) ?_
  refine lv_istore_n (lv' := [(2, .int (24 : Int32)), (0, .ref (ρ 0)), (1, .int x1)]) C.1 C.2.1 dX12_feedBytes_2 rfl hl (by decide) rfl (fun ls hl => ?_)
  have hkn := nq_kap nn
  refine W.widen (k := kap S - kap S0) (n := 2 * (kap S - kap S0)) (by omega) (by omega) ?_
  exact w_TL_feedBytes_3 C hr hk g _ _ _ _ _ _ _ ha (by omega) w (lv_sub hl [1, 2, 0] rfl) h
end S_TL_feedBytes
set_option maxRecDepth 100000 in
theorem k_TL_feedBytes (l : Launch) (D : va_G) (T : Cy) (ρ : Nat → Nat) (g sz : Nat) (S : St) {x1 : Int32} {S' : St} (h : m_TL_feedBytes g S x1 = some S') : MvM l D T ρ yX12_feedBytes cX12_feedBytes 3 none 3 69 S S' [.ref (ρ 0), .int x1] sz :=
  x_inR (by decide) (Nat.le_of_ble_eq_true rfl) (fun p e s m below meth c ls C hr hk w hl => W.widen (Nat.zero_le _) (Nat.zero_le _) (w_TL_feedBytes_0 C hr hk Ag.rf (Nat.le_refl _) w hl h))
