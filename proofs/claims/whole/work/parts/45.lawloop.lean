/-- what the two sides owe: Rel between their stores, kept by every call, with the same answers -/
def Both (g N : Nat) (SM : St) (Rel : Nat → St → St → Prop) : Prop :=
  Rel 0 SC0 SM ∧ (∀ (n : Nat) (S S2 : St), Rel n S S2 → kap S ≤ 100000) ∧
  (∀ (n : Nat) (S S2 : St), n < N → Rel n S S2 → ∀ (x1 x2 x3 x4 x5 : Int32), ∃ (S' : St) (S2' : St) (r : Int32), m_TL_feed g S x1 x2 x3 x4 x5 = some (S', r) ∧ m_feed g S2 x1 x2 x3 x4 x5 = some (S2', r) ∧ Rel (n + 1) S' S2') ∧
  (∀ (n : Nat) (S S2 : St), n < N → Rel n S S2 → ∀ (x1 : Int32), ∃ (S' : St) (S2' : St) (r : Int32), m_TL_cut g S x1 = some (S', r) ∧ m_cut g S2 x1 = some (S2', r) ∧ Rel (n + 1) S' S2') ∧
  (∀ (n : Nat) (S S2 : St), n < N → Rel n S S2 → ∃ (S' : St) (S2' : St) (r : Int32), m_TL_compile g S = some (S', r) ∧ m_compile g S2 = some (S2', r) ∧ Rel (n + 1) S' S2') ∧
  (∀ (n : Nat) (S S2 : St), n < N → Rel n S S2 → ∃ (S' : St) (S2' : St) (r : Int32), m_TL_run g S = some (S', r) ∧ m_run g S2 = some (S2', r) ∧ Rel (n + 1) S' S2') ∧
  (∀ (n : Nat) (S S2 : St), n < N → Rel n S S2 → ∀ (x1 : Int32), ∃ (r : Int32), m_TL_ended g S x1 = some r ∧ m_ended g S2 x1 = some r ∧ Rel (n + 1) S S2) ∧
  (∀ (n : Nat) (S S2 : St), n < N → Rel n S S2 → ∀ (x1 : Int32), ∃ (r : Int32), m_TL_done g S x1 = some r ∧ m_done g S2 x1 = some r ∧ Rel (n + 1) S S2) ∧
  (∀ (n : Nat) (S S2 : St), n < N → Rel n S S2 → ∀ (x1 x2 : Int32), ∃ (r : Int32), m_TL_step g S x1 x2 = some r ∧ m_step g S2 x1 x2 = some r ∧ Rel (n + 1) S S2) ∧
  (∀ (n : Nat) (S S2 : St), n < N → Rel n S S2 → ∀ (x1 x2 : Int32), ∃ (S' : St) (S2' : St) (r : Int32), m_TL_spelled g S x1 x2 = some (S', r) ∧ m_spelled g S2 x1 x2 = some (S2', r) ∧ Rel (n + 1) S' S2') ∧
  (∀ (n : Nat) (S S2 : St), n < N → Rel n S S2 → ∃ (S' : St) (S2' : St) (r : Int32), m_TL_shrink g S = some (S', r) ∧ m_shrink g S2 = some (S2', r) ∧ Rel (n + 1) S' S2') ∧
  (∀ (n : Nat) (S S2 : St), n < N → Rel n S S2 → ∀ (x1 : Int32), ∃ (r : Int32), m_TL_length g S x1 = some r ∧ m_length g S2 x1 = some r ∧ Rel (n + 1) S S2) ∧
  (∀ (n : Nat) (S S2 : St), n < N → Rel n S S2 → ∀ (x1 x2 : Int32), ∃ (r : Int32), m_TL_unit g S x1 x2 = some r ∧ m_unit g S2 x1 x2 = some r ∧ Rel (n + 1) S S2) ∧
  (∀ (n : Nat) (S S2 : St), n < N → Rel n S S2 → ∀ (x1 : Int32), ∃ (r : Int32), m_TL_hash g S x1 = some r ∧ m_hash g S2 x1 = some r ∧ Rel (n + 1) S S2) ∧
  (∀ (n : Nat) (S S2 : St), n < N → Rel n S S2 → ∀ (x1 x2 : Int32), ∃ (r : Int32), m_TL_same g S x1 x2 = some r ∧ m_same g S2 x1 x2 = some r ∧ Rel (n + 1) S S2) ∧
  (∀ (n : Nat) (S S2 : St), n < N → Rel n S S2 → ∀ (x1 : Int32), ∃ (r : Int32), m_TL_pooled g S x1 = some r ∧ m_pooled g S2 x1 = some r ∧ Rel (n + 1) S S2) ∧
  (∀ (n : Nat) (S S2 : St), n < N → Rel n S S2 → ∃ (r : Int32), m_TL_pool g S = some r ∧ m_pool g S2 = some r ∧ Rel (n + 1) S S2) ∧
  (∀ (n : Nat) (S S2 : St), n < N → Rel n S S2 → ∀ (x1 : Int32), ∃ (r : Int64), m_TL_whole g S x1 = some r ∧ m_whole g S2 x1 = some r ∧ Rel (n + 1) S S2) ∧
  (∀ (n : Nat) (S S2 : St), n < N → Rel n S S2 → ∀ (x1 x2 : Int32), ∃ (r : Int32), m_TL_builder g S x1 x2 = some r ∧ m_builder g S2 x1 x2 = some r ∧ Rel (n + 1) S S2) ∧
  (∀ (n : Nat) (S S2 : St), n < N → Rel n S S2 → ∀ (x1 x2 : Int32), ∃ (r : Int32), m_TL_builderUnit g S x1 x2 = some r ∧ m_builderUnit g S2 x1 x2 = some r ∧ Rel (n + 1) S S2) ∧
  (∀ (n : Nat) (S S2 : St), n < N → Rel n S S2 → ∃ (r : Int32), m_TL_parts g S = some r ∧ m_parts g S2 = some r ∧ Rel (n + 1) S S2) ∧
  (∀ (n : Nat) (S S2 : St), n < N → Rel n S S2 → ∀ (x1 x2 : Int32), ∃ (r : Int32), m_TL_partUnit g S x1 x2 = some r ∧ m_partUnit g S2 x1 x2 = some r ∧ Rel (n + 1) S S2) ∧
  (∀ (n : Nat) (S S2 : St), n < N → Rel n S S2 → ∀ (x1 : Int32), ∃ (r : Int32), m_TL_partOf g S x1 = some r ∧ m_partOf g S2 x1 = some r ∧ Rel (n + 1) S S2) ∧
  (∀ (n : Nat) (S S2 : St), n < N → Rel n S S2 → ∃ (r : Int32), m_TL_marks g S = some r ∧ m_marks g S2 = some r ∧ Rel (n + 1) S S2) ∧
  (∀ (n : Nat) (S S2 : St), n < N → Rel n S S2 → ∀ (x1 : Int32), ∃ (r : Int64), m_TL_mark g S x1 = some r ∧ m_mark g S2 x1 = some r ∧ Rel (n + 1) S S2) ∧
  (∀ (n : Nat) (S S2 : St), n < N → Rel n S S2 → Rel (n + 1) S S2)
section LWL
variable {p : Program} {l : Launch} {e : Env} {s : State} {m : MethodId} {args : Array Value} {below : List Frame} {meth : Method} {c : Code} {H : Heap} {locs : List Loc} {Q : State → Prop} {ls : Array Slot} {D : va_G} {T : Cy} {A : Nat → Prop} {Z : Ad} {ρ ρ2 : Nat → Nat} {S S2 S' S2' : St} {b L i g : Nat} {xs : Nat → Int32}
set_option maxRecDepth 100000 in
set_option maxHeartbeats 8000000 in
theorem law_at (C : CallFix p m c cL_law 4 s #[Value.ref b] tb RL) (hr : meth.sig.returnType = ret) (hlk : meth.locks = false) (hcn : Kn Z (fun q => s.heap.size ≤ q) s s.heap) (hcw : Kw Z s) (hX : va_X b L xs s s.heap) (hbl : b < s.heap.size) (hL : L ≤ 3072) {N : Nat} {SM : St} {Rel : Nat → St → St → Prop} (hB : Both g N SM Rel) : ∀ (d n : Nat) (S S2 : St) (ρ ρ2 : Nat → Nat) (H : Heap) (locs : List Loc) (ls : Array Slot), L < 6 * (n + d) + 6 → n + d ≤ N → n ≤ 600 → kap SC0 ≤ kap S → Rel n S S2 → Wg D T (wl Yc T ρ S ++ wl Ym T ρ2 S2) (fun q => s.heap.size ≤ q) s H locs → lv_has ls 4 [(3, .int (nI (6 * n))), (0, .ref b), (1, .ref (ρ 0)), (2, .ref (ρ2 0))] → W p l e room_1 s m #[Value.ref b] below meth c H locs (122 + (kap S - kap SC0)) (69341 + 2 * (kap S - kap SC0)) (lw_Z below #[Value.ref b] s) (F0 m 18 ls []) := by
  have hbA : ¬ (fun q => s.heap.size ≤ q) b := fun h => absurd hbl (Nat.not_lt.mpr h)
  obtain ⟨hB0, hBk, hB_feed, hB_cut, hB_compile, hB_run, hB_ended, hB_done, hB_step, hB_spelled, hB_shrink, hB_length, hB_unit, hB_hash, hB_same, hB_pooled, hB_pool, hB_whole, hB_builder, hB_builderUnit, hB_parts, hB_partUnit, hB_partOf, hB_marks, hB_mark, hB_skip⟩ := hB
  intro d
  induction d with
  | zero =>
    intro n S S2 ρ ρ2 H locs ls hd hN hn hk0 hRel w hl
    have hk2 := hBk n S S2 hRel
    refine lv_iload_n C.1 C.2.1 dL_law_18 rfl (lv_at hl 0 rfl) ?_
    refine lv_aload_n C.1 C.2.1 dL_law_19 rfl (lv_at hl 1 rfl) ?_
    refine va_slen C.1 C.2.1 hX hbl hbA w.2.2.2.1 dL_law_20 ?_
    refine lv_bipush (v := 6) C.1 C.2.1 dL_law_21 (by decide) ?_
    refine lv_isub C.1 C.2.1 dL_law_23 ?_
    refine lv_icmp_gt (tgt := 727) C.1 C.2.1 dL_law_24 (by decide) (fun hc => ?_) (fun hc => absurd ((g_end hL (by omega)).mpr (by omega)) hc)
    refine lv_iconst (v := 1) C.1 C.2.1 dL_law_727 (by decide) ?_
    refine va_forget (fun q hq => w.2.2.2.1.2.2 q hq) ?_
    exact W.widen (by omega) (by omega) (lw_ret C.1 C.2.1 hr hlk dL_law_728)
  | succ d ih =>
    intro n S S2 ρ ρ2 H locs ls hd hN hn hk0 hRel w hl
    have hk2 := hBk n S S2 hRel
    refine lv_iload_n C.1 C.2.1 dL_law_18 rfl (lv_at hl 0 rfl) ?_
    refine lv_aload_n C.1 C.2.1 dL_law_19 rfl (lv_at hl 1 rfl) ?_
    refine va_slen C.1 C.2.1 hX hbl hbA w.2.2.2.1 dL_law_20 ?_
    refine lv_bipush (v := 6) C.1 C.2.1 dL_law_21 (by decide) ?_
    refine lv_isub C.1 C.2.1 dL_law_23 ?_
    refine lv_icmp_gt (tgt := 727) C.1 C.2.1 dL_law_24 (by decide) (fun hc => ?_) (fun hc => ?_)
    · refine lv_iconst (v := 1) C.1 C.2.1 dL_law_727 (by decide) ?_
      refine va_forget (fun q hq => w.2.2.2.1.2.2 q hq) ?_
      exact W.widen (by omega) (by omega) (lw_ret C.1 C.2.1 hr hlk dL_law_728)
    have hi : 6 * n + 6 ≤ L := Nat.not_lt.mp (fun h => hc ((g_end hL (by omega)).mpr h))
    refine lv_aload_n C.1 C.2.1 dL_law_27 rfl (lv_at hl 1 rfl) ?_
    refine lv_iload_n C.1 C.2.1 dL_law_28 rfl (lv_at hl 0 rfl) ?_
    refine va_sld C.1 C.2.1 hX hbl hbA w.2.2.2.1 (vp_in_nI (by omega) (by omega)) dL_law_29 ?_
    refine lv_bipush (v := 31) C.1 C.2.1 dL_law_30 (by decide) ?_
    refine lv_iand C.1 C.2.1 dL_law_32 ?_
    generalize xs (nI (6 * n)).toNatClampNeg &&& 31 = op
    have go : ∀ (S' S2' : St), kap SC0 ≤ kap S' → Rel (n + 1) S' S2' → ∀ (ρ1 : Nat → Nat) (H : Heap) (locs : List Loc), ρ1 0 = ρ 0 → Wg D T (wl Yc T ρ1 S' ++ wl Ym T ρ2 S2') (fun q => s.heap.size ≤ q) s H locs → W p l e room_1 s m #[Value.ref b] below meth c H locs (122 + (kap S' - kap SC0)) (69341 + 2 * (kap S' - kap SC0)) (lw_Z below #[Value.ref b] s) (F0 m 721 ls []) := by
      intro S' S2' hk hR ρ1 H locs h0 w
      refine lv_iinc (v := nI (6 * (n + 1))) (lv' := [(3, .int (nI (6 * (n + 1)))), (0, .ref b), (1, .ref (ρ 0)), (2, .ref (ρ2 0))]) C.1 C.2.1 dL_law_721 hl (k := 0) rfl (by rw [show 6 * (n + 1) = 6 * n + 6 by omega, ← nI_add]; rfl) (by decide) rfl (fun ls hl => ?_)
      refine lv_goto (tgt := 18) C.1 C.2.1 dL_law_724 (by decide) ?_
      rw [← h0] at hl
      exact ih (n + 1) S' S2' ρ1 ρ2 H locs ls (by omega) (by omega) (by omega) hk hR w hl
    by_cases hz0 : op = 0
    · obtain ⟨S', S2', r, e1, e2, hR⟩ := hB_feed n S S2 (by omega) hRel (xs (6 * n + 1)) (xs (6 * n + 2)) (xs (6 * n + 3)) (xs (6 * n + 4)) (xs (6 * n + 5))
      refine lv_tableIn (off := 107) (tgt := 140) C.1 C.2.1 dL_law_33 (by rw [hz0]; decide) (by rw [hz0]; decide) (by rw [hz0]; decide +kernel) (by decide) ?_
      have hk1 : kap S ≤ kap S' := km_TL_feed e1
      exact lc_feed C hcn hcw hX hbl hbA hL w hl hi e1 e2 hk0 hk1 (hBk _ _ _ hR) (go _ _ (Nat.le_trans hk0 hk1) hR)
    by_cases hz1 : op = 1
    · obtain ⟨S', S2', r, e1, e2, hR⟩ := hB_cut n S S2 (by omega) hRel (xs (6 * n + 1))
      refine lv_tableIn (off := 170) (tgt := 203) C.1 C.2.1 dL_law_33 (by rw [hz1]; decide) (by rw [hz1]; decide) (by rw [hz1]; decide +kernel) (by decide) ?_
      have hk1 : kap S ≤ kap S' := Nat.le_of_eq (nq_kap (kq_TL_cut e1)).symm
      exact lc_cut C hcn hcw hX hbl hbA hL w hl hi e1 e2 hk0 hk1 (hBk _ _ _ hR) (go _ _ (Nat.le_trans hk0 hk1) hR)
    by_cases hz2 : op = 2
    · obtain ⟨S', S2', r, e1, e2, hR⟩ := hB_compile n S S2 (by omega) hRel
      refine lv_tableIn (off := 193) (tgt := 226) C.1 C.2.1 dL_law_33 (by rw [hz2]; decide) (by rw [hz2]; decide) (by rw [hz2]; decide +kernel) (by decide) ?_
      have hk1 : kap S ≤ kap S' := km_TL_compile e1
      exact lc_compile C hcn hcw hX hbl hbA hL w hl hi e1 e2 hk0 hk1 (hBk _ _ _ hR) (go _ _ (Nat.le_trans hk0 hk1) hR)
    by_cases hz3 : op = 3
    · obtain ⟨S', S2', r, e1, e2, hR⟩ := hB_run n S S2 (by omega) hRel
      refine lv_tableIn (off := 206) (tgt := 239) C.1 C.2.1 dL_law_33 (by rw [hz3]; decide) (by rw [hz3]; decide) (by rw [hz3]; decide +kernel) (by decide) ?_
      have hk1 : kap S ≤ kap S' := km_TL_run e1
      exact lc_run C hcn hcw hX hbl hbA hL w hl hi e1 e2 hk0 hk1 (hBk _ _ _ hR) (go _ _ (Nat.le_trans hk0 hk1) hR)
    by_cases hz4 : op = 4
    · obtain ⟨r, e1, e2, hR⟩ := hB_ended n S S2 (by omega) hRel (xs (6 * n + 1))
      refine lv_tableIn (off := 219) (tgt := 252) C.1 C.2.1 dL_law_33 (by rw [hz4]; decide) (by rw [hz4]; decide) (by rw [hz4]; decide +kernel) (by decide) ?_
      exact lc_ended C hcn hcw hX hbl hbA hL w hl hi e1 e2 hk0 hk2 (go _ _ hk0 hR)
    by_cases hz5 : op = 5
    · obtain ⟨r, e1, e2, hR⟩ := hB_done n S S2 (by omega) hRel (xs (6 * n + 1))
      refine lv_tableIn (off := 242) (tgt := 275) C.1 C.2.1 dL_law_33 (by rw [hz5]; decide) (by rw [hz5]; decide) (by rw [hz5]; decide +kernel) (by decide) ?_
      exact lc_done C hcn hcw hX hbl hbA hL w hl hi e1 e2 hk0 hk2 (go _ _ hk0 hR)
    by_cases hz6 : op = 6
    · obtain ⟨r, e1, e2, hR⟩ := hB_step n S S2 (by omega) hRel (xs (6 * n + 1)) (xs (6 * n + 2))
      refine lv_tableIn (off := 265) (tgt := 298) C.1 C.2.1 dL_law_33 (by rw [hz6]; decide) (by rw [hz6]; decide) (by rw [hz6]; decide +kernel) (by decide) ?_
      exact lc_step C hcn hcw hX hbl hbA hL w hl hi e1 e2 hk0 hk2 (go _ _ hk0 hR)
    by_cases hz7 : op = 7
    · obtain ⟨S', S2', r, e1, e2, hR⟩ := hB_spelled n S S2 (by omega) hRel (xs (6 * n + 1)) (xs (6 * n + 2))
      refine lv_tableIn (off := 298) (tgt := 331) C.1 C.2.1 dL_law_33 (by rw [hz7]; decide) (by rw [hz7]; decide) (by rw [hz7]; decide +kernel) (by decide) ?_
      have hk1 : kap S ≤ kap S' := km_TL_spelled e1
      exact lc_spelled C hcn hcw hX hbl hbA hL w hl hi e1 e2 hk0 hk1 (hBk _ _ _ hR) (go _ _ (Nat.le_trans hk0 hk1) hR)
    by_cases hz8 : op = 8
    · obtain ⟨S', S2', r, e1, e2, hR⟩ := hB_shrink n S S2 (by omega) hRel
      refine lv_tableIn (off := 331) (tgt := 364) C.1 C.2.1 dL_law_33 (by rw [hz8]; decide) (by rw [hz8]; decide) (by rw [hz8]; decide +kernel) (by decide) ?_
      have hk1 : kap S ≤ kap S' := km_TL_shrink e1
      exact lc_shrink C hcn hcw hX hbl hbA hL w hl hi e1 e2 hk0 hk1 (hBk _ _ _ hR) (go _ _ (Nat.le_trans hk0 hk1) hR)
    by_cases hz9 : op = 9
    · obtain ⟨r, e1, e2, hR⟩ := hB_length n S S2 (by omega) hRel (xs (6 * n + 1))
      refine lv_tableIn (off := 344) (tgt := 377) C.1 C.2.1 dL_law_33 (by rw [hz9]; decide) (by rw [hz9]; decide) (by rw [hz9]; decide +kernel) (by decide) ?_
      exact lc_length C hcn hcw hX hbl hbA hL w hl hi e1 e2 hk0 hk2 (go _ _ hk0 hR)
    by_cases hz10 : op = 10
    · obtain ⟨r, e1, e2, hR⟩ := hB_unit n S S2 (by omega) hRel (xs (6 * n + 1)) (xs (6 * n + 2))
      refine lv_tableIn (off := 367) (tgt := 400) C.1 C.2.1 dL_law_33 (by rw [hz10]; decide) (by rw [hz10]; decide) (by rw [hz10]; decide +kernel) (by decide) ?_
      exact lc_unit C hcn hcw hX hbl hbA hL w hl hi e1 e2 hk0 hk2 (go _ _ hk0 hR)
    by_cases hz11 : op = 11
    · obtain ⟨r, e1, e2, hR⟩ := hB_hash n S S2 (by omega) hRel (xs (6 * n + 1))
      refine lv_tableIn (off := 400) (tgt := 433) C.1 C.2.1 dL_law_33 (by rw [hz11]; decide) (by rw [hz11]; decide) (by rw [hz11]; decide +kernel) (by decide) ?_
      exact lc_hash C hcn hcw hX hbl hbA hL w hl hi e1 e2 hk0 hk2 (go _ _ hk0 hR)
    by_cases hz12 : op = 12
    · obtain ⟨r, e1, e2, hR⟩ := hB_same n S S2 (by omega) hRel (xs (6 * n + 1)) (xs (6 * n + 2))
      refine lv_tableIn (off := 423) (tgt := 456) C.1 C.2.1 dL_law_33 (by rw [hz12]; decide) (by rw [hz12]; decide) (by rw [hz12]; decide +kernel) (by decide) ?_
      exact lc_same C hcn hcw hX hbl hbA hL w hl hi e1 e2 hk0 hk2 (go _ _ hk0 hR)
    by_cases hz13 : op = 13
    · obtain ⟨r, e1, e2, hR⟩ := hB_pooled n S S2 (by omega) hRel (xs (6 * n + 1))
      refine lv_tableIn (off := 456) (tgt := 489) C.1 C.2.1 dL_law_33 (by rw [hz13]; decide) (by rw [hz13]; decide) (by rw [hz13]; decide +kernel) (by decide) ?_
      exact lc_pooled C hcn hcw hX hbl hbA hL w hl hi e1 e2 hk0 hk2 (go _ _ hk0 hR)
    by_cases hz14 : op = 14
    · obtain ⟨r, e1, e2, hR⟩ := hB_pool n S S2 (by omega) hRel
      refine lv_tableIn (off := 479) (tgt := 512) C.1 C.2.1 dL_law_33 (by rw [hz14]; decide) (by rw [hz14]; decide) (by rw [hz14]; decide +kernel) (by decide) ?_
      exact lc_pool C hcn hcw hX hbl hbA hL w hl hi e1 e2 hk0 hk2 (go _ _ hk0 hR)
    by_cases hz15 : op = 15
    · obtain ⟨r, e1, e2, hR⟩ := hB_whole n S S2 (by omega) hRel (xs (6 * n + 1))
      refine lv_tableIn (off := 492) (tgt := 525) C.1 C.2.1 dL_law_33 (by rw [hz15]; decide) (by rw [hz15]; decide) (by rw [hz15]; decide +kernel) (by decide) ?_
      exact lc_whole C hcn hcw hX hbl hbA hL w hl hi e1 e2 hk0 hk2 (go _ _ hk0 hR)
    by_cases hz16 : op = 16
    · obtain ⟨r, e1, e2, hR⟩ := hB_builder n S S2 (by omega) hRel (xs (6 * n + 1)) (xs (6 * n + 2))
      refine lv_tableIn (off := 516) (tgt := 549) C.1 C.2.1 dL_law_33 (by rw [hz16]; decide) (by rw [hz16]; decide) (by rw [hz16]; decide +kernel) (by decide) ?_
      exact lc_builder C hcn hcw hX hbl hbA hL w hl hi e1 e2 hk0 hk2 (go _ _ hk0 hR)
    by_cases hz17 : op = 17
    · obtain ⟨r, e1, e2, hR⟩ := hB_builderUnit n S S2 (by omega) hRel (xs (6 * n + 1)) (xs (6 * n + 2))
      refine lv_tableIn (off := 549) (tgt := 582) C.1 C.2.1 dL_law_33 (by rw [hz17]; decide) (by rw [hz17]; decide) (by rw [hz17]; decide +kernel) (by decide) ?_
      exact lc_builderUnit C hcn hcw hX hbl hbA hL w hl hi e1 e2 hk0 hk2 (go _ _ hk0 hR)
    by_cases hz18 : op = 18
    · obtain ⟨r, e1, e2, hR⟩ := hB_parts n S S2 (by omega) hRel
      refine lv_tableIn (off := 582) (tgt := 615) C.1 C.2.1 dL_law_33 (by rw [hz18]; decide) (by rw [hz18]; decide) (by rw [hz18]; decide +kernel) (by decide) ?_
      exact lc_parts C hcn hcw hX hbl hbA hL w hl hi e1 e2 hk0 hk2 (go _ _ hk0 hR)
    by_cases hz19 : op = 19
    · obtain ⟨r, e1, e2, hR⟩ := hB_partUnit n S S2 (by omega) hRel (xs (6 * n + 1)) (xs (6 * n + 2))
      refine lv_tableIn (off := 595) (tgt := 628) C.1 C.2.1 dL_law_33 (by rw [hz19]; decide) (by rw [hz19]; decide) (by rw [hz19]; decide +kernel) (by decide) ?_
      exact lc_partUnit C hcn hcw hX hbl hbA hL w hl hi e1 e2 hk0 hk2 (go _ _ hk0 hR)
    by_cases hz20 : op = 20
    · obtain ⟨r, e1, e2, hR⟩ := hB_partOf n S S2 (by omega) hRel (xs (6 * n + 1))
      refine lv_tableIn (off := 628) (tgt := 661) C.1 C.2.1 dL_law_33 (by rw [hz20]; decide) (by rw [hz20]; decide) (by rw [hz20]; decide +kernel) (by decide) ?_
      exact lc_partOf C hcn hcw hX hbl hbA hL w hl hi e1 e2 hk0 hk2 (go _ _ hk0 hR)
    by_cases hz21 : op = 21
    · obtain ⟨r, e1, e2, hR⟩ := hB_marks n S S2 (by omega) hRel
      refine lv_tableIn (off := 651) (tgt := 684) C.1 C.2.1 dL_law_33 (by rw [hz21]; decide) (by rw [hz21]; decide) (by rw [hz21]; decide +kernel) (by decide) ?_
      exact lc_marks C hcn hcw hX hbl hbA hL w hl hi e1 e2 hk0 hk2 (go _ _ hk0 hR)
    by_cases hz22 : op = 22
    · obtain ⟨r, e1, e2, hR⟩ := hB_mark n S S2 (by omega) hRel (xs (6 * n + 1))
      refine lv_tableIn (off := 664) (tgt := 697) C.1 C.2.1 dL_law_33 (by rw [hz22]; decide) (by rw [hz22]; decide) (by rw [hz22]; decide +kernel) (by decide) ?_
      exact lc_mark C hcn hcw hX hbl hbA hL w hl hi e1 e2 hk0 hk2 (go _ _ hk0 hR)
    refine lv_tableOut (tgt := 721) C.1 C.2.1 dL_law_33 (by have g0 := i_ne (v := (0 : Int32)) (k := 0) (by decide) hz0; have g1 := i_ne (v := (1 : Int32)) (k := 1) (by decide) hz1; have g2 := i_ne (v := (2 : Int32)) (k := 2) (by decide) hz2; have g3 := i_ne (v := (3 : Int32)) (k := 3) (by decide) hz3; have g4 := i_ne (v := (4 : Int32)) (k := 4) (by decide) hz4; have g5 := i_ne (v := (5 : Int32)) (k := 5) (by decide) hz5; have g6 := i_ne (v := (6 : Int32)) (k := 6) (by decide) hz6; have g7 := i_ne (v := (7 : Int32)) (k := 7) (by decide) hz7; have g8 := i_ne (v := (8 : Int32)) (k := 8) (by decide) hz8; have g9 := i_ne (v := (9 : Int32)) (k := 9) (by decide) hz9; have g10 := i_ne (v := (10 : Int32)) (k := 10) (by decide) hz10; have g11 := i_ne (v := (11 : Int32)) (k := 11) (by decide) hz11; have g12 := i_ne (v := (12 : Int32)) (k := 12) (by decide) hz12; have g13 := i_ne (v := (13 : Int32)) (k := 13) (by decide) hz13; have g14 := i_ne (v := (14 : Int32)) (k := 14) (by decide) hz14; have g15 := i_ne (v := (15 : Int32)) (k := 15) (by decide) hz15; have g16 := i_ne (v := (16 : Int32)) (k := 16) (by decide) hz16; have g17 := i_ne (v := (17 : Int32)) (k := 17) (by decide) hz17; have g18 := i_ne (v := (18 : Int32)) (k := 18) (by decide) hz18; have g19 := i_ne (v := (19 : Int32)) (k := 19) (by decide) hz19; have g20 := i_ne (v := (20 : Int32)) (k := 20) (by decide) hz20; have g21 := i_ne (v := (21 : Int32)) (k := 21) (by decide) hz21; have g22 := i_ne (v := (22 : Int32)) (k := 22) (by decide) hz22; omega) (by decide) ?_
    exact go S S2 hk0 (hB_skip n S S2 (by omega) hRel) ρ H locs rfl w
end LWL
