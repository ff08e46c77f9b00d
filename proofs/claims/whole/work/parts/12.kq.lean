theorem kqb_Arr_fill_53178_5 {g : Nat} {S : St} {x0 : Nat} {x1 : Int32} {x2 : Int32} {x3 : Int32} {S' : St} {k5 : St → Nat → Int32 → Int32 → Int32 → Option St} (kk5 : ∀ (S : St) (x0 : Nat) (x1 : Int32) (x2 : Int32) (x3 : Int32), k5 S x0 x1 x2 x3 = some S' → nq S' S) (h : b_Arr_fill_53178_5 g k5 S x0 x1 x2 x3 = some S') : nq S' S := by
  unfold b_Arr_fill_53178_5 at h
  have nn : nq S S := nq_rf
  by_cases hc1 : x3 ≤ x2
  · replace h := ift hc1 h
    obtain rfl := som h
    exact nn
  · replace h := iff0 hc1 h
    obtain ⟨S_2, hS_2, h⟩ := bnd h
    replace nn : nq S_2 S := nq_tr (nq_tI hS_2) nn
    obtain ⟨x2_3, ex2_3, h⟩ := lt_e h
    exact nq_tr (kk5 _ _ _ _ _ h) nn
theorem kq_Arr_fill_53178_5 {g : Nat} {S' : St} (n : Nat) : ∀ (S : St) (x0 : Nat) (x1 : Int32) (x2 : Int32) (x3 : Int32), m_Arr_fill_53178_5 g n S x0 x1 x2 x3 = some S' → nq S' S := by
  induction n with
  | zero => intro S x0 x1 x2 x3 h; exact absurd h (fun q => by cases q)
  | succ n ih => intro S x0 x1 x2 x3 h; exact kqb_Arr_fill_53178_5 ih h
theorem kq_Arr_fill_53178 {g : Nat} {S : St} {x0 : Nat} {x1 : Int32} {S' : St} (h : m_Arr_fill_53178 g S x0 x1 = some S') : nq S' S := by
  unfold m_Arr_fill_53178 at h
  have nn : nq S S := nq_rf
  obtain ⟨x3_1, ex3_1, h⟩ := lt_e h
  exact nq_tr (kq_Arr_fill_53178_5 g _ _ _ _ _ h) nn
theorem kqb_Arr_fill_d0a16_6 {g : Nat} {S : St} {x0 : Nat} {x1 : Int64} {x3 : Int32} {x4 : Int32} {S' : St} {k6 : St → Nat → Int64 → Int32 → Int32 → Option St} (kk6 : ∀ (S : St) (x0 : Nat) (x1 : Int64) (x3 : Int32) (x4 : Int32), k6 S x0 x1 x3 x4 = some S' → nq S' S) (h : b_Arr_fill_d0a16_6 g k6 S x0 x1 x3 x4 = some S') : nq S' S := by
  unfold b_Arr_fill_d0a16_6 at h
  have nn : nq S S := nq_rf
  by_cases hc1 : x4 ≤ x3
  · replace h := ift hc1 h
    obtain rfl := som h
    exact nn
  · replace h := iff0 hc1 h
    obtain ⟨S_2, hS_2, h⟩ := bnd h
    replace nn : nq S_2 S := nq_tr (nq_tJ hS_2) nn
    obtain ⟨x3_3, ex3_3, h⟩ := lt_e h
    exact nq_tr (kk6 _ _ _ _ _ h) nn
theorem kq_Arr_fill_d0a16_6 {g : Nat} {S' : St} (n : Nat) : ∀ (S : St) (x0 : Nat) (x1 : Int64) (x3 : Int32) (x4 : Int32), m_Arr_fill_d0a16_6 g n S x0 x1 x3 x4 = some S' → nq S' S := by
  induction n with
  | zero => intro S x0 x1 x3 x4 h; exact absurd h (fun q => by cases q)
  | succ n ih => intro S x0 x1 x3 x4 h; exact kqb_Arr_fill_d0a16_6 ih h
theorem kq_Arr_fill_d0a16 {g : Nat} {S : St} {x0 : Nat} {x1 : Int64} {S' : St} (h : m_Arr_fill_d0a16 g S x0 x1 = some S') : nq S' S := by
  unfold m_Arr_fill_d0a16 at h
  have nn : nq S S := nq_rf
  obtain ⟨x4_1, ex4_1, h⟩ := lt_e h
  exact nq_tr (kq_Arr_fill_d0a16_6 g _ _ _ _ _ h) nn
theorem kq_Row_clear {g : Nat} {S : St} {x0 : Nat} {S' : St} (h : m_Row_clear g S x0 = some S') : nq S' S := by
  unfold m_Row_clear at h
  have nn : nq S S := nq_rf
  obtain ⟨S_1, eS_1, h⟩ := lt_e h
  replace nn : nq S_1 S := nq_tr (by rw [eS_1]; rfl) nn
  obtain ⟨S_2, eS_2, h⟩ := lt_e h
  replace nn : nq S_2 S := nq_tr (by rw [eS_2]; rfl) nn
  obtain rfl := som h
  exact nn
theorem kq_Row_shorten {g : Nat} {S : St} {x0 : Nat} {x1 : Int32} {S' : St} (h : m_Row_shorten g S x0 x1 = some S') : nq S' S := by
  unfold m_Row_shorten at h
  have nn : nq S S := nq_rf
  by_cases hc1 : x1 < 0
  · replace h := ift hc1 h
    obtain rfl := som h
    exact nn
  · replace h := iff0 hc1 h
    by_cases hc2 : (gI S x0 2) ≤ x1
    · replace h := ift hc2 h
      obtain rfl := som h
      exact nn
    · replace h := iff0 hc2 h
      obtain ⟨S_1, eS_1, h⟩ := lt_e h
      replace nn : nq S_1 S := nq_tr (by rw [eS_1]; rfl) nn
      obtain rfl := som h
      exact nn
theorem kq_Bn_goTo {g : Nat} {S : St} {x1 : Int32} {S' : St} (h : m_Bn_goTo g S x1 = some S') : nq S' S := by
  unfold m_Bn_goTo at h
  have nn : nq S S := nq_rf
  by_cases hc1 : gR S 4 9 = 1 ∨ gR S 4 9 = 2
  case neg => exact absurd (iff0 hc1 h) (fun q => by cases q)
  replace h := ift hc1 h
  obtain ⟨p_2, ep_2, h⟩ := lt_e h
  obtain ⟨v_3, hv_3, h⟩ := bnd h
  obtain ⟨S_4, eS_4, h⟩ := lt_e h
  replace nn : nq S_4 S := nq_tr (by rw [eS_4]; rfl) nn
  by_cases hc2 : gR S_4 4 9 = 1 ∨ gR S_4 4 9 = 2
  case neg => exact absurd (iff0 hc2 h) (fun q => by cases q)
  replace h := ift hc2 h
  obtain ⟨p_6, ep_6, h⟩ := lt_e h
  obtain ⟨v_7, hv_7, h⟩ := bnd h
  obtain ⟨S_8, eS_8, h⟩ := lt_e h
  replace nn : nq S_8 S := nq_tr (by rw [eS_8]; rfl) nn
  obtain rfl := som h
  exact nn
theorem kq_Bn_giveText {g : Nat} {S : St} {x1 : Int32} {S' : St} {r : Int32} (h : m_Bn_giveText g S x1 = some (S', r)) : nq S' S := by
  unfold m_Bn_giveText at h
  have nn : nq S S := nq_rf
  obtain ⟨v_1, hv_1, h⟩ := bnd h
  obtain ⟨x2_2, ex2_2, h⟩ := lt_e h
  by_cases hc1 : x2_2 < 0
  · replace h := ift hc1 h
    obtain ⟨rfl, rfl⟩ := prI h
    exact nn
  · replace h := iff0 hc1 h
    by_cases hc2 : (20 : Int32) ≤ x2_2
    · replace h := ift hc2 h
      obtain ⟨rfl, rfl⟩ := prI h
      exact nn
    · replace h := iff0 hc2 h
      obtain ⟨S_3, hS_3, h⟩ := bnd h
      replace nn : nq S_3 S := nq_tr (nq_tI hS_3) nn
      obtain ⟨rfl, rfl⟩ := prI h
      exact nn
theorem kq_Bn_setWhole {g : Nat} {S : St} {x1 : Int32} {x2 : Int64} {S' : St} (h : m_Bn_setWhole g S x1 x2 = some S') : nq S' S := by
  unfold m_Bn_setWhole at h
  have nn : nq S S := nq_rf
  by_cases hc1 : x1 < 0
  · replace h := ift hc1 h
    obtain rfl := som h
    exact nn
  · replace h := iff0 hc1 h
    by_cases hc2 : (12 : Int32) ≤ x1
    · replace h := ift hc2 h
      obtain rfl := som h
      exact nn
    · replace h := iff0 hc2 h
      obtain ⟨S_1, hS_1, h⟩ := bnd h
      replace nn : nq S_1 S := nq_tr (nq_tJ hS_1) nn
      obtain rfl := som h
      exact nn
theorem kq_Bn_giveWhole {g : Nat} {S : St} {x1 : Int64} {S' : St} {r : Int32} (h : m_Bn_giveWhole g S x1 = some (S', r)) : nq S' S := by
  unfold m_Bn_giveWhole at h
  have nn : nq S S := nq_rf
  obtain ⟨v_1, hv_1, h⟩ := bnd h
  obtain ⟨S_2, hS_2, h⟩ := bnd h
  replace nn : nq S_2 S := nq_tr (kq_Bn_setWhole hS_2) nn
  obtain ⟨rfl, rfl⟩ := prI h
  exact nn
theorem kq_Bn_addMark {g : Nat} {S : St} {S' : St} {r : Int32} (h : m_Bn_addMark g S = some (S', r)) : nq S' S := by
  unfold m_Bn_addMark at h
  have nn : nq S S := nq_rf
  by_cases hc1 : (gI S 4 7) < (30 : Int32)
  · replace h := ift hc1 h
    obtain ⟨v_1, hv_1, h⟩ := bnd h
    obtain ⟨S_2, hS_2, h⟩ := bnd h
    replace nn : nq S_2 S := nq_tr (nq_tJ hS_2) nn
    obtain ⟨S_3, eS_3, h⟩ := lt_e h
    replace nn : nq S_3 S := nq_tr (by rw [eS_3]; rfl) nn
    obtain ⟨rfl, rfl⟩ := prI h
    exact nn
  · replace h := iff0 hc1 h
    obtain ⟨rfl, rfl⟩ := prI h
    exact nn
theorem kqb_Row_turnFrom_9 {g : Nat} {S : St} {x0 : Nat} {x2 : Int32} {x3 : Int32} {S' : St} {k9 : St → Nat → Int32 → Int32 → Option St} (kk9 : ∀ (S : St) (x0 : Nat) (x2 : Int32) (x3 : Int32), k9 S x0 x2 x3 = some S' → nq S' S) (h : b_Row_turnFrom_9 g k9 S x0 x2 x3 = some S') : nq S' S := by
  unfold b_Row_turnFrom_9 at h
  have nn : nq S S := nq_rf
  by_cases hc1 : x3 ≤ x2
  · replace h := ift hc1 h
    obtain rfl := som h
    exact nn
  · replace h := iff0 hc1 h
    obtain ⟨v_2, hv_2, h⟩ := bnd h
    obtain ⟨v_3, hv_3, h⟩ := bnd h
    obtain ⟨S_4, hS_4, h⟩ := bnd h
    replace nn : nq S_4 S := nq_tr (nq_tI hS_4) nn
    obtain ⟨S_5, hS_5, h⟩ := bnd h
    replace nn : nq S_5 S := nq_tr (nq_tI hS_5) nn
    obtain ⟨x2_6, ex2_6, h⟩ := lt_e h
    obtain ⟨x3_7, ex3_7, h⟩ := lt_e h
    exact nq_tr (kk9 _ _ _ _ h) nn
theorem kq_Row_turnFrom_9 {g : Nat} {S' : St} (n : Nat) : ∀ (S : St) (x0 : Nat) (x2 : Int32) (x3 : Int32), m_Row_turnFrom_9 g n S x0 x2 x3 = some S' → nq S' S := by
  induction n with
  | zero => intro S x0 x2 x3 h; exact absurd h (fun q => by cases q)
  | succ n ih => intro S x0 x2 x3 h; exact kqb_Row_turnFrom_9 ih h
theorem kq_Row_turnFrom {g : Nat} {S : St} {x0 : Nat} {x1 : Int32} {S' : St} (h : m_Row_turnFrom g S x0 x1 = some S') : nq S' S := by
  unfold m_Row_turnFrom at h
  have nn : nq S S := nq_rf
  obtain ⟨x3_1, ex3_1, h⟩ := lt_e h
  exact nq_tr (kq_Row_turnFrom_9 g _ _ _ _ h) nn
theorem kq_BS_makeFresh {g : Nat} {S : St} {x1 : Int32} {S' : St} {r : Int32} (h : m_BS_makeFresh g S x1 = some (S', r)) : nq S' S := by
  unfold m_BS_makeFresh at h
  have nn : nq S S := nq_rf
  obtain ⟨v_1, hv_1, h⟩ := bnd h
  by_cases hc1 : v_1 < (0 : Int64)
  · replace h := ift hc1 h
    obtain ⟨rfl, rfl⟩ := prI h
    exact nn
  · replace h := iff0 hc1 h
    by_cases hc2 : (400 : Int64) < v_1
    · replace h := ift hc2 h
      obtain ⟨rfl, rfl⟩ := prI h
      exact nn
    · replace h := iff0 hc2 h
      obtain ⟨r_2, hr_2, h⟩ := bnd h
      obtain ⟨S_3, hS_3, h⟩ := bnd h
      replace nn : nq S_3 S := nq_tr (kq_Row_clear hS_3) nn
      obtain ⟨S_4, hS_4, h⟩ := bnd h
      replace nn : nq S_4 S := nq_tr (nq_tI hS_4) nn
      obtain ⟨rfl, rfl⟩ := prI h
      exact nn
theorem kq_BS_makeRoom {g : Nat} {S : St} {x1 : Int32} {S' : St} (h : m_BS_makeRoom g S x1 = some S') : nq S' S := by
  unfold m_BS_makeRoom at h
  have nn : nq S S := nq_rf
  obtain ⟨r_1, hr_1, h⟩ := bnd h
  obtain ⟨x2_2, ex2_2, h⟩ := lt_e h
  obtain ⟨v_3, hv_3, h⟩ := bnd h
  by_cases hc1 : x2_2 ≤ v_3
  · replace h := ift hc1 h
    obtain rfl := som h
    exact nn
  · replace h := iff0 hc1 h
    obtain ⟨v_4, hv_4, h⟩ := bnd h
    obtain ⟨S_5, hS_5, h⟩ := bnd h
    replace nn : nq S_5 S := nq_tr (nq_tI hS_5) nn
    obtain rfl := som h
    exact nn
theorem kq_Row_remove {g : Nat} {S : St} {x0 : Nat} {x1 : Int32} {x2 : Int32} {S' : St} (h : m_Row_remove g S x0 x1 x2 = some S') : nq S' S := by
  unfold m_Row_remove at h
  have nn : nq S S := nq_rf
  by_cases hc1 : x1 < 0
  · replace h := ift hc1 h
    obtain rfl := som h
    exact nn
  · replace h := iff0 hc1 h
    by_cases hc2 : x2 < x1
    · replace h := ift hc2 h
      obtain rfl := som h
      exact nn
    · replace h := iff0 hc2 h
      by_cases hc3 : x2 ≤ (gI S x0 2)
      · replace h := ift hc3 h
        obtain ⟨S_1, hS_1, h⟩ := bnd h
        replace nn : nq S_1 S := nq_tr (nq_cpI hS_1) nn
        obtain ⟨S_2, eS_2, h⟩ := lt_e h
        replace nn : nq S_2 S := nq_tr (by rw [eS_2]; rfl) nn
        obtain rfl := som h
        exact nn
      · replace h := iff0 hc3 h
        obtain rfl := som h
        exact nn
theorem kq_BS_delete {g : Nat} {S : St} {x1 : Nat} {S' : St} {r : Int32} (h : m_BS_delete g S x1 = some (S', r)) : nq S' S := by
  unfold m_BS_delete at h
  have nn : nq S S := nq_rf
  obtain ⟨v_1, hv_1, h⟩ := bnd h
  obtain ⟨v_2, hv_2, h⟩ := bnd h
  obtain ⟨x3_3, ex3_3, h⟩ := lt_e h
  by_cases hc1 : v_1 < 0
  · replace h := ift hc1 h
    obtain ⟨rfl, rfl⟩ := prI h
    exact nn
  · replace h := iff0 hc1 h
    by_cases hc2 : v_1 ≤ x3_3
    · replace h := ift hc2 h
      obtain ⟨S_4, hS_4, h⟩ := bnd h
      replace nn : nq S_4 S := nq_tr (kq_Row_remove hS_4) nn
      obtain ⟨rfl, rfl⟩ := prI h
      exact nn
    · replace h := iff0 hc2 h
      obtain ⟨rfl, rfl⟩ := prI h
      exact nn
theorem kq_Row_change {g : Nat} {S : St} {x0 : Nat} {x1 : Int32} {x2 : Int32} {S' : St} (h : m_Row_change g S x0 x1 x2 = some S') : nq S' S := by
  unfold m_Row_change at h
  have nn : nq S S := nq_rf
  by_cases hc1 : x1 < 0
  · replace h := ift hc1 h
    obtain rfl := som h
    exact nn
  · replace h := iff0 hc1 h
    by_cases hc2 : (gI S x0 2) ≤ x1
    · replace h := ift hc2 h
      obtain rfl := som h
      exact nn
    · replace h := iff0 hc2 h
      obtain ⟨S_1, hS_1, h⟩ := bnd h
      replace nn : nq S_1 S := nq_tr (nq_tI hS_1) nn
      obtain rfl := som h
      exact nn
theorem kq_BS_put {g : Nat} {S : St} {x1 : Nat} {S' : St} {r : Int32} (h : m_BS_put g S x1 = some (S', r)) : nq S' S := by
  unfold m_BS_put at h
  have nn : nq S S := nq_rf
  obtain ⟨v_1, hv_1, h⟩ := bnd h
  obtain ⟨v_2, hv_2, h⟩ := bnd h
  by_cases hc1 : v_1 < 0
  · replace h := ift hc1 h
    obtain ⟨rfl, rfl⟩ := prI h
    exact nn
  · replace h := iff0 hc1 h
    by_cases hc2 : v_1 < (gI S x1 2)
    · replace h := ift hc2 h
      obtain ⟨v_3, hv_3, h⟩ := bnd h
      by_cases hc3 : v_3 = 0
      · replace h := ift hc3 h
        obtain ⟨rfl, rfl⟩ := prI h
        exact nn
      · replace h := iff0 hc3 h
        obtain ⟨S_4, hS_4, h⟩ := bnd h
        replace nn : nq S_4 S := nq_tr (kq_Row_change hS_4) nn
        obtain ⟨rfl, rfl⟩ := prI h
        exact nn
    · replace h := iff0 hc2 h
      obtain ⟨rfl, rfl⟩ := prI h
      exact nn
theorem kq_Pg_clear {g : Nat} {S : St} {x0 : Nat} {S' : St} (h : m_Pg_clear g S x0 = some S') : nq S' S := by
  unfold m_Pg_clear at h
  have nn : nq S S := nq_rf
  obtain ⟨S_1, eS_1, h⟩ := lt_e h
  replace nn : nq S_1 S := nq_tr (by rw [eS_1]; rfl) nn
  obtain ⟨S_2, hS_2, h⟩ := bnd h
  replace nn : nq S_2 S := nq_tr (nq_tI hS_2) nn
  obtain ⟨S_3, hS_3, h⟩ := bnd h
  replace nn : nq S_3 S := nq_tr (kq_Row_clear hS_3) nn
  obtain ⟨S_4, hS_4, h⟩ := bnd h
  replace nn : nq S_4 S := nq_tr (kq_Row_clear hS_4) nn
  obtain rfl := som h
  exact nn
theorem kq_Pg_addStep {g : Nat} {S : St} {x0 : Nat} {x1 : Int32} {S' : St} (h : m_Pg_addStep g S x0 x1 = some S') : nq S' S := by
  unfold m_Pg_addStep at h
  have nn : nq S S := nq_rf
  by_cases hc1 : (60 : Int32) ≤ (gI S x0 8)
  · replace h := ift hc1 h
    obtain rfl := som h
    exact nn
  · replace h := iff0 hc1 h
    obtain ⟨S_1, hS_1, h⟩ := bnd h
    replace nn : nq S_1 S := nq_tr (nq_tI hS_1) nn
    obtain ⟨v_2, hv_2, h⟩ := bnd h
    obtain ⟨S_3, hS_3, h⟩ := bnd h
    replace nn : nq S_3 S := nq_tr (nq_tI hS_3) nn
    obtain ⟨S_4, eS_4, h⟩ := lt_e h
    replace nn : nq S_4 S := nq_tr (by rw [eS_4]; rfl) nn
    obtain rfl := som h
    exact nn
theorem kq_Pg_addWord {g : Nat} {S : St} {x0 : Nat} {x1 : Int32} {x2 : Int32} {x3 : Int64} {x5 : Int32} {S' : St} (h : m_Pg_addWord g S x0 x1 x2 x3 x5 = some S') : nq S' S := by
  unfold m_Pg_addWord at h
  have nn : nq S S := nq_rf
  obtain ⟨v_1, hv_1, h⟩ := bnd h
  by_cases hc1 : (gI S x0 8) ≤ 0
  · replace h := ift hc1 h
    obtain rfl := som h
    exact nn
  · replace h := iff0 hc1 h
    by_cases hc2 : (540 : Int32) ≤ v_1
    · replace h := ift hc2 h
      obtain rfl := som h
      exact nn
    · replace h := iff0 hc2 h
      obtain ⟨S_2, hS_2, h⟩ := bnd h
      replace nn : nq S_2 S := nq_tr (nq_tI hS_2) nn
      obtain ⟨S_3, hS_3, h⟩ := bnd h
      replace nn : nq S_3 S := nq_tr (nq_tI hS_3) nn
      obtain ⟨S_4, hS_4, h⟩ := bnd h
      replace nn : nq S_4 S := nq_tr (nq_tJ hS_4) nn
      obtain ⟨S_5, hS_5, h⟩ := bnd h
      replace nn : nq S_5 S := nq_tr (nq_tI hS_5) nn
      obtain ⟨S_6, hS_6, h⟩ := bnd h
      replace nn : nq S_6 S := nq_tr (nq_tI hS_6) nn
      obtain rfl := som h
      exact nn
theorem kq_Pg_copySteps {g : Nat} {S : St} {x0 : Nat} {x1 : Nat} {S' : St} (h : m_Pg_copySteps g S x0 x1 = some S') : nq S' S := by
  unfold m_Pg_copySteps at h
  have nn : nq S S := nq_rf
  obtain ⟨v_1, hv_1, h⟩ := bnd h
  obtain ⟨S_2, eS_2, h⟩ := lt_e h
  replace nn : nq S_2 S := nq_tr (by rw [eS_2]; rfl) nn
  obtain ⟨S_3, hS_3, h⟩ := bnd h
  replace nn : nq S_3 S := nq_tr (nq_cpI hS_3) nn
  obtain ⟨S_4, hS_4, h⟩ := bnd h
  replace nn : nq S_4 S := nq_tr (nq_cpI hS_4) nn
  obtain ⟨S_5, hS_5, h⟩ := bnd h
  replace nn : nq S_5 S := nq_tr (nq_cpI hS_5) nn
  obtain ⟨S_6, hS_6, h⟩ := bnd h
  replace nn : nq S_6 S := nq_tr (nq_cpI hS_6) nn
  obtain ⟨S_7, hS_7, h⟩ := bnd h
  replace nn : nq S_7 S := nq_tr (nq_cpJ hS_7) nn
  obtain ⟨S_8, hS_8, h⟩ := bnd h
  replace nn : nq S_8 S := nq_tr (nq_cpI hS_8) nn
  obtain rfl := som h
  exact nn
theorem kq_Pg_say {g : Nat} {S : St} {x0 : Nat} {x1 : Int32} {S' : St} (h : m_Pg_say g S x0 x1 = some S') : nq S' S := by
  unfold m_Pg_say at h
  have nn : nq S S := nq_rf
  by_cases hc1 : (gI S x0 13) = 0
  · replace h := ift hc1 h
    obtain ⟨S_2, eS_2, h⟩ := lt_e h
    replace nn : nq S_2 S := nq_tr (by rw [eS_2]; rfl) nn
    obtain ⟨S_3, eS_3, h⟩ := lt_e h
    replace nn : nq S_3 S := nq_tr (by rw [eS_3]; rfl) nn
    obtain rfl := som h
    exact nn
  · replace h := iff0 hc1 h
    obtain ⟨S_1, eS_1, h⟩ := lt_e h
    replace nn : nq S_1 S := nq_tr (by rw [eS_1]; rfl) nn
    obtain rfl := som h
    exact nn
theorem kq_Pg_sayUnit_48 {g : Nat} {S : St} {x0 : Nat} {x1 : Int32} {S' : St} (h : m_Pg_sayUnit_48 g S x0 x1 = some S') : nq S' S := by
  unfold m_Pg_sayUnit_48 at h
  have nn : nq S S := nq_rf
  obtain ⟨S_2, hS_2, h⟩ := bnd h
  replace nn : nq S_2 S := nq_tr (kq_Pg_say hS_2) nn
  obtain rfl := som h
  exact nn
theorem kq_Pg_sayUnit_127 {g : Nat} {S : St} {x0 : Nat} {x1 : Int32} {x2 : Int32} {y0 : Nat} {y1 : Int32} {S' : St} {k95 : St → Nat → Int32 → Int32 → Option St} (kk95 : ∀ (S : St) (x0 : Nat) (x1 : Int32) (x2 : Int32), k95 S x0 x1 x2 = some S' → nq S' S) (h : m_Pg_sayUnit_127 g k95 S x0 x1 x2 y0 y1 = some S') : nq S' S := by
  unfold m_Pg_sayUnit_127 at h
  have nn : nq S S := nq_rf
  obtain ⟨S_4, hS_4, h⟩ := bnd h
  replace nn : nq S_4 S := nq_tr (kq_Pg_say hS_4) nn
  obtain ⟨x2_5, ex2_5, h⟩ := lt_e h
  exact nq_tr (kk95 _ _ _ _ h) nn
theorem kqb_Pg_sayUnit_95 {g : Nat} {S : St} {x0 : Nat} {x1 : Int32} {x2 : Int32} {S' : St} {k95 : St → Nat → Int32 → Int32 → Option St} (kk95 : ∀ (S : St) (x0 : Nat) (x1 : Int32) (x2 : Int32), k95 S x0 x1 x2 = some S' → nq S' S) (h : b_Pg_sayUnit_95 g k95 S x0 x1 x2 = some S') : nq S' S := by
  unfold b_Pg_sayUnit_95 at h
  have nn : nq S S := nq_rf
  by_cases hc1 : x2 < 0
  · replace h := ift hc1 h
    obtain rfl := som h
    exact nn
  · replace h := iff0 hc1 h
    obtain ⟨x3_3, ex3_3, h⟩ := lt_e h
    by_cases hc2 : (10 : Int32) ≤ x3_3
    · replace h := ift hc2 h
      exact nq_tr (kq_Pg_sayUnit_127 kk95 h) nn
    · replace h := iff0 hc2 h
      exact nq_tr (kq_Pg_sayUnit_127 kk95 h) nn
theorem kq_Pg_sayUnit_95 {g : Nat} {S' : St} (n : Nat) : ∀ (S : St) (x0 : Nat) (x1 : Int32) (x2 : Int32), m_Pg_sayUnit_95 g n S x0 x1 x2 = some S' → nq S' S := by
  induction n with
  | zero => intro S x0 x1 x2 h; exact absurd h (fun q => by cases q)
  | succ n ih => intro S x0 x1 x2 h; exact kqb_Pg_sayUnit_95 ih h
theorem kq_Pg_sayUnit_30 {g : Nat} {S : St} {x0 : Nat} {x1 : Int32} {S' : St} (h : m_Pg_sayUnit_30 g S x0 x1 = some S') : nq S' S := by
  unfold m_Pg_sayUnit_30 at h
  have nn : nq S S := nq_rf
  obtain ⟨S_1, hS_1, h⟩ := bnd h
  replace nn : nq S_1 S := nq_tr (kq_Pg_say hS_1) nn
  by_cases hc1 : x1 = (34 : Int32)
  · replace h := ift hc1 h
    exact nq_tr (kq_Pg_sayUnit_48 h) nn
  · replace h := iff0 hc1 h
    by_cases hc2 : x1 = (92 : Int32)
    · replace h := ift hc2 h
      exact nq_tr (kq_Pg_sayUnit_48 h) nn
    · replace h := iff0 hc2 h
      by_cases hc3 : x1 = (10 : Int32)
      · replace h := ift hc3 h
        obtain ⟨S_4, hS_4, h⟩ := bnd h
        replace nn : nq S_4 S := nq_tr (kq_Pg_say hS_4) nn
        obtain rfl := som h
        exact nn
      · replace h := iff0 hc3 h
        by_cases hc4 : x1 = (9 : Int32)
        · replace h := ift hc4 h
          obtain ⟨S_3, hS_3, h⟩ := bnd h
          replace nn : nq S_3 S := nq_tr (kq_Pg_say hS_3) nn
          obtain rfl := som h
          exact nn
        · replace h := iff0 hc4 h
          obtain ⟨S_2, hS_2, h⟩ := bnd h
          replace nn : nq S_2 S := nq_tr (kq_Pg_say hS_2) nn
          exact nq_tr (kq_Pg_sayUnit_95 g _ _ _ _ h) nn
theorem kq_Pg_sayUnit {g : Nat} {S : St} {x0 : Nat} {x1 : Int32} {S' : St} (h : m_Pg_sayUnit g S x0 x1 = some S') : nq S' S := by
  unfold m_Pg_sayUnit at h
  have nn : nq S S := nq_rf
  by_cases hc1 : x1 < (32 : Int32)
  · replace h := ift hc1 h
    exact nq_tr (kq_Pg_sayUnit_30 h) nn
  · replace h := iff0 hc1 h
    by_cases hc2 : (126 : Int32) < x1
    · replace h := ift hc2 h
      exact nq_tr (kq_Pg_sayUnit_30 h) nn
    · replace h := iff0 hc2 h
      by_cases hc3 : x1 = (34 : Int32)
      · replace h := ift hc3 h
        exact nq_tr (kq_Pg_sayUnit_30 h) nn
      · replace h := iff0 hc3 h
        by_cases hc4 : x1 = (92 : Int32)
        · replace h := ift hc4 h
          exact nq_tr (kq_Pg_sayUnit_30 h) nn
        · replace h := iff0 hc4 h
          obtain ⟨S_1, hS_1, h⟩ := bnd h
          replace nn : nq S_1 S := nq_tr (kq_Pg_say hS_1) nn
          obtain rfl := som h
          exact nn
theorem kqb_Pg_sayLiteral_21 {g : Nat} {S : St} {x0 : Nat} {x2 : Int32} {x3 : Int32} {S' : St} {k21 : St → Nat → Int32 → Int32 → Option St} (kk21 : ∀ (S : St) (x0 : Nat) (x2 : Int32) (x3 : Int32), k21 S x0 x2 x3 = some S' → nq S' S) (h : b_Pg_sayLiteral_21 g k21 S x0 x2 x3 = some S') : nq S' S := by
  unfold b_Pg_sayLiteral_21 at h
  have nn : nq S S := nq_rf
  by_cases hc1 : x2 ≤ x3
  · replace h := ift hc1 h
    obtain ⟨S_4, hS_4, h⟩ := bnd h
    replace nn : nq S_4 S := nq_tr (kq_Pg_say hS_4) nn
    obtain rfl := som h
    exact nn
  · replace h := iff0 hc1 h
    obtain ⟨v_5, hv_5, h⟩ := bnd h
    obtain ⟨S_6, hS_6, h⟩ := bnd h
    replace nn : nq S_6 S := nq_tr (kq_Pg_sayUnit hS_6) nn
    obtain ⟨x3_7, ex3_7, h⟩ := lt_e h
    exact nq_tr (kk21 _ _ _ _ h) nn
theorem kq_Pg_sayLiteral_21 {g : Nat} {S' : St} (n : Nat) : ∀ (S : St) (x0 : Nat) (x2 : Int32) (x3 : Int32), m_Pg_sayLiteral_21 g n S x0 x2 x3 = some S' → nq S' S := by
  induction n with
  | zero => intro S x0 x2 x3 h; exact absurd h (fun q => by cases q)
  | succ n ih => intro S x0 x2 x3 h; exact kqb_Pg_sayLiteral_21 ih h
theorem kq_Pg_sayLiteral {g : Nat} {S : St} {x0 : Nat} {x1 : Int32} {S' : St} (h : m_Pg_sayLiteral g S x0 x1 = some S') : nq S' S := by
  unfold m_Pg_sayLiteral at h
  have nn : nq S S := nq_rf
  obtain ⟨v_1, hv_1, h⟩ := bnd h
  obtain ⟨S_2, hS_2, h⟩ := bnd h
  replace nn : nq S_2 S := nq_tr (kq_Pg_say hS_2) nn
  obtain ⟨v_3, hv_3, h⟩ := bnd h
  exact nq_tr (kq_Pg_sayLiteral_21 g _ _ _ _ h) nn
theorem kqb_Rd_skipBlanks_0 {g : Nat} {S : St} {S' : St} {k0 : St → Option St} (kk0 : ∀ (S : St), k0 S = some S' → nq S' S) (h : b_Rd_skipBlanks_0 g k0 S = some S') : nq S' S := by
  unfold b_Rd_skipBlanks_0 at h
  have nn : nq S S := nq_rf
  by_cases hc1 : (gI S 3 4) ≤ (gI S 3 3)
  · replace h := ift hc1 h
    obtain rfl := som h
    exact nn
  · replace h := iff0 hc1 h
    obtain ⟨v_1, hv_1, h⟩ := bnd h
    by_cases hc2 : v_1 = (32 : Int32)
    · replace h := ift hc2 h
      obtain ⟨S_2, eS_2, h⟩ := lt_e h
      replace nn : nq S_2 S := nq_tr (by rw [eS_2]; rfl) nn
      exact nq_tr (kk0 _ h) nn
    · replace h := iff0 hc2 h
      obtain rfl := som h
      exact nn
theorem kq_Rd_skipBlanks_0 {g : Nat} {S' : St} (n : Nat) : ∀ (S : St), m_Rd_skipBlanks_0 g n S = some S' → nq S' S := by
  induction n with
  | zero => intro S h; exact absurd h (fun q => by cases q)
  | succ n ih => intro S h; exact kqb_Rd_skipBlanks_0 ih h
theorem kq_Rd_skipBlanks {g : Nat} {S : St} {S' : St} (h : m_Rd_skipBlanks g S = some S') : nq S' S := kq_Rd_skipBlanks_0 g S h
theorem kq_Rd_readCount {g : Nat} {S : St} {x1 : Int32} {x2 : Int32} {S' : St} {r : Int32} (h : m_Rd_readCount g S x1 x2 = some (S', r)) : nq S' S := by
  unfold m_Rd_readCount at h
  have nn : nq S S := nq_rf
  obtain ⟨v_1, hv_1, h⟩ := bnd h
  by_cases hc1 : (0 : Int64) < v_1
  · replace h := ift hc1 h
    obtain ⟨rfl, rfl⟩ := prI h
    exact nn
  · replace h := iff0 hc1 h
    by_cases hc2 : (x2 - x1) ≤ (2 : Int32)
    · replace h := ift hc2 h
      by_cases hc3 : gR S 3 2 = 1 ∨ gR S 3 2 = 2
      case neg => exact absurd (iff0 hc3 h) (fun q => by cases q)
      replace h := ift hc3 h
      obtain ⟨p_3, ep_3, h⟩ := lt_e h
      obtain ⟨S_4, hS_4, h⟩ := bnd h
      replace nn : nq S_4 S := nq_tr (kq_Pg_addWord hS_4) nn
      obtain ⟨rfl, rfl⟩ := prI h
      exact nn
    · replace h := iff0 hc2 h
      obtain ⟨rfl, rfl⟩ := prI h
      exact nn
theorem kq_Rd_readCode_50 {g : Nat} {S : St} {x1 : Int32} {x2 : Int32} {y0 : Int32} {S' : St} {r : Int32} {k4 : St → Int32 → Int32 → Option (St × Int32)} (kk4 : ∀ (S : St) (x1 : Int32) (x2 : Int32), k4 S x1 x2 = some (S', r) → nq S' S) (h : m_Rd_readCode_50 g k4 S x1 x2 y0 = some (S', r)) : nq S' S := by
  unfold m_Rd_readCode_50 at h
  have nn : nq S S := nq_rf
  by_cases hc1 : y0 = (-1 : Int32)
  · replace h := ift hc1 h
    obtain ⟨rfl, rfl⟩ := prI h
    exact nn
  · replace h := iff0 hc1 h
    obtain ⟨x1_2, ex1_2, h⟩ := lt_e h
    obtain ⟨x2_3, ex2_3, h⟩ := lt_e h
    exact nq_tr (kk4 _ _ _ h) nn
theorem kqb_Rd_readCode_4 {g : Nat} {S : St} {x1 : Int32} {x2 : Int32} {S' : St} {r : Int32} {k4 : St → Int32 → Int32 → Option (St × Int32)} (kk4 : ∀ (S : St) (x1 : Int32) (x2 : Int32), k4 S x1 x2 = some (S', r) → nq S' S) (h : b_Rd_readCode_4 g k4 S x1 x2 = some (S', r)) : nq S' S := by
  unfold b_Rd_readCode_4 at h
  have nn : nq S S := nq_rf
  by_cases hc1 : (4 : Int32) ≤ x2
  · replace h := ift hc1 h
    obtain ⟨rfl, rfl⟩ := prI h
    exact nn
  · replace h := iff0 hc1 h
    obtain ⟨S_1, eS_1, h⟩ := lt_e h
    replace nn : nq S_1 S := nq_tr (by rw [eS_1]; rfl) nn
    by_cases hc2 : (gI S_1 3 4) ≤ (gI S_1 3 3)
    · replace h := ift hc2 h
      exact nq_tr (kq_Rd_readCode_50 kk4 h) nn
    · replace h := iff0 hc2 h
      obtain ⟨v_2, hv_2, h⟩ := bnd h
      obtain ⟨v_3, hv_3, h⟩ := bnd h
      exact nq_tr (kq_Rd_readCode_50 kk4 h) nn
theorem kq_Rd_readCode_4 {g : Nat} {S' : St} {r : Int32} (n : Nat) : ∀ (S : St) (x1 : Int32) (x2 : Int32), m_Rd_readCode_4 g n S x1 x2 = some (S', r) → nq S' S := by
  induction n with
  | zero => intro S x1 x2 h; exact absurd h (fun q => by cases q)
  | succ n ih => intro S x1 x2 h; exact kqb_Rd_readCode_4 ih h
theorem kq_Rd_readCode {g : Nat} {S : St} {S' : St} {r : Int32} (h : m_Rd_readCode g S = some (S', r)) : nq S' S := by
  unfold m_Rd_readCode at h
  have nn : nq S S := nq_rf
  exact nq_tr (kq_Rd_readCode_4 g _ _ _ h) nn
theorem kq_Rd_readSign_72 {g : Nat} {S : St} {y0 : Int32} {S' : St} {r : Int32} (h : m_Rd_readSign_72 g S y0 = some (S', r)) : nq S' S := by
  unfold m_Rd_readSign_72 at h
  have nn : nq S S := nq_rf
  by_cases hc1 : y0 = (34 : Int32)
  · replace h := ift hc1 h
    obtain ⟨rfl, rfl⟩ := prI h
    exact nn
  replace h := iff0 hc1 h
  by_cases hc2 : y0 = (92 : Int32)
  · replace h := ift hc2 h
    obtain ⟨rfl, rfl⟩ := prI h
    exact nn
  replace h := iff0 hc2 h
  by_cases hc3 : y0 = (110 : Int32)
  · replace h := ift hc3 h
    obtain ⟨rfl, rfl⟩ := prI h
    exact nn
  replace h := iff0 hc3 h
  by_cases hc4 : y0 = (116 : Int32)
  · replace h := ift hc4 h
    obtain ⟨rfl, rfl⟩ := prI h
    exact nn
  replace h := iff0 hc4 h
  by_cases hc5 : y0 = (117 : Int32)
  · replace h := ift hc5 h
    obtain ⟨⟨S_3, v_4⟩, hv_4, h⟩ := bnd h
    replace nn : nq S_3 S := nq_tr (kq_Rd_readCode hv_4) nn
    obtain ⟨rfl, rfl⟩ := prI h
    exact nn
  replace h := iff0 hc5 h
  obtain ⟨rfl, rfl⟩ := prI h
  exact nn
theorem kq_Rd_readSign {g : Nat} {S : St} {S' : St} {r : Int32} (h : m_Rd_readSign g S = some (S', r)) : nq S' S := by
  unfold m_Rd_readSign at h
  have nn : nq S S := nq_rf
  obtain ⟨v_1, hv_1, h⟩ := bnd h
  by_cases hc1 : v_1 = (92 : Int32)
  · replace h := ift hc1 h
    obtain ⟨S_2, eS_2, h⟩ := lt_e h
    replace nn : nq S_2 S := nq_tr (by rw [eS_2]; rfl) nn
    by_cases hc2 : (gI S_2 3 4) ≤ (gI S_2 3 3)
    · replace h := ift hc2 h
      exact nq_tr (kq_Rd_readSign_72 h) nn
    · replace h := iff0 hc2 h
      obtain ⟨v_3, hv_3, h⟩ := bnd h
      exact nq_tr (kq_Rd_readSign_72 h) nn
  · replace h := iff0 hc1 h
    by_cases hc3 : v_1 < (32 : Int32)
    · replace h := ift hc3 h
      obtain ⟨rfl, rfl⟩ := prI h
      exact nn
    · replace h := iff0 hc3 h
      by_cases hc4 : (126 : Int32) < v_1
      · replace h := ift hc4 h
        obtain ⟨rfl, rfl⟩ := prI h
        exact nn
      · replace h := iff0 hc4 h
        obtain ⟨rfl, rfl⟩ := prI h
        exact nn
theorem kq_Rd_readName_53 {g : Nat} {S : St} {x1 : Int32} {x2 : Int32} {x3 : Int32} {x4 : Int32} {x5 : Int32} {S' : St} {r : Int32} (h : m_Rd_readName_53 g S x1 x2 x3 x4 x5 = some (S', r)) : nq S' S := by
  unfold m_Rd_readName_53 at h
  have nn : nq S S := nq_rf
  obtain ⟨v_3, hv_3, h⟩ := bnd h
  by_cases hc1 : (0 : Int64) < v_3
  · replace h := ift hc1 h
    obtain ⟨rfl, rfl⟩ := prI h
    exact nn
  · replace h := iff0 hc1 h
    obtain ⟨v_4, hv_4, h⟩ := bnd h
    by_cases hc2 : (-v_3) < (v_4.toInt64)
    · replace h := ift hc2 h
      by_cases hc3 : gR S 3 2 = 1 ∨ gR S 3 2 = 2
      case neg => exact absurd (iff0 hc3 h) (fun q => by cases q)
      replace h := ift hc3 h
      obtain ⟨p_6, ep_6, h⟩ := lt_e h
      obtain ⟨S_7, hS_7, h⟩ := bnd h
      replace nn : nq S_7 S := nq_tr (kq_Pg_addWord hS_7) nn
      obtain ⟨rfl, rfl⟩ := prI h
      exact nn
    · replace h := iff0 hc2 h
      obtain ⟨rfl, rfl⟩ := prI h
      exact nn
theorem kq_Rd_readName {g : Nat} {S : St} {x1 : Int32} {x2 : Int32} {x3 : Int32} {x4 : Int32} {S' : St} {r : Int32} (h : m_Rd_readName g S x1 x2 x3 x4 = some (S', r)) : nq S' S := by
  unfold m_Rd_readName at h
  have nn : nq S S := nq_rf
  obtain ⟨v_1, hv_1, h⟩ := bnd h
  obtain ⟨x6_2, ex6_2, h⟩ := lt_e h
  by_cases hc1 : x6_2 < (1 : Int32)
  · replace h := ift hc1 h
    obtain ⟨rfl, rfl⟩ := prI h
    exact nn
  · replace h := iff0 hc1 h
    by_cases hc2 : (2 : Int32) < x6_2
    · replace h := ift hc2 h
      obtain ⟨rfl, rfl⟩ := prI h
      exact nn
    · replace h := iff0 hc2 h
      by_cases hc3 : x6_2 = (2 : Int32)
      · replace h := ift hc3 h
        obtain ⟨v_3, hv_3, h⟩ := bnd h
        by_cases hc4 : v_3 = (48 : Int32)
        · replace h := ift hc4 h
          obtain ⟨rfl, rfl⟩ := prI h
          exact nn
        · replace h := iff0 hc4 h
          exact nq_tr (kq_Rd_readName_53 h) nn
      · replace h := iff0 hc3 h
        exact nq_tr (kq_Rd_readName_53 h) nn
theorem kq_Rd_readNumber_94 {g : Nat} {S : St} {x2 : Int32} {y0 : Nat} {y1 : Int32} {y2 : Int32} {y3 : Int64} {S' : St} {r : Int32} (h : m_Rd_readNumber_94 g S x2 y0 y1 y2 y3 = some (S', r)) : nq S' S := by
  unfold m_Rd_readNumber_94 at h
  have nn : nq S S := nq_rf
  obtain ⟨S_4, hS_4, h⟩ := bnd h
  replace nn : nq S_4 S := nq_tr (kq_Pg_addWord hS_4) nn
  obtain ⟨rfl, rfl⟩ := prI h
  exact nn
theorem kq_Rd_readNumber_74 {g : Nat} {S : St} {x1 : Int32} {x2 : Int32} {x5 : Int32} {x6 : Int64} {S' : St} {r : Int32} (h : m_Rd_readNumber_74 g S x1 x2 x5 x6 = some (S', r)) : nq S' S := by
  unfold m_Rd_readNumber_74 at h
  have nn : nq S S := nq_rf
  by_cases hc1 : gR S 3 2 = 1 ∨ gR S 3 2 = 2
  case neg => exact absurd (iff0 hc1 h) (fun q => by cases q)
  replace h := ift hc1 h
  obtain ⟨p_3, ep_3, h⟩ := lt_e h
  by_cases hc2 : x5 = 0
  · replace h := ift hc2 h
    exact nq_tr (kq_Rd_readNumber_94 h) nn
  · replace h := iff0 hc2 h
    exact nq_tr (kq_Rd_readNumber_94 h) nn
theorem kq_Rd_readNumber_42 {g : Nat} {S : St} {x1 : Int32} {x2 : Int32} {x4 : Int32} {x5 : Int32} {y1 : Int32} {S' : St} {r : Int32} (h : m_Rd_readNumber_42 g S x1 x2 x4 x5 y1 = some (S', r)) : nq S' S := by
  unfold m_Rd_readNumber_42 at h
  have nn : nq S S := nq_rf
  obtain ⟨v_1, hv_1, h⟩ := bnd h
  by_cases hc1 : (0 : Int64) < v_1
  · replace h := ift hc1 h
    obtain ⟨rfl, rfl⟩ := prI h
    exact nn
  · replace h := iff0 hc1 h
    by_cases hc2 : x5 = 0
    · replace h := ift hc2 h
      by_cases hc3 : v_1 = (-9223372036854775808 : Int64)
      · replace h := ift hc3 h
        obtain ⟨rfl, rfl⟩ := prI h
        exact nn
      · replace h := iff0 hc3 h
        exact nq_tr (kq_Rd_readNumber_74 h) nn
    · replace h := iff0 hc2 h
      exact nq_tr (kq_Rd_readNumber_74 h) nn
theorem kq_Rd_readNumber_24 {g : Nat} {S : St} {x1 : Int32} {x2 : Int32} {x3 : Int32} {x4 : Int32} {y0 : Int32} {S' : St} {r : Int32} (h : m_Rd_readNumber_24 g S x1 x2 x3 x4 y0 = some (S', r)) : nq S' S := by
  unfold m_Rd_readNumber_24 at h
  have nn : nq S S := nq_rf
  by_cases hc1 : y0 = 0
  · replace h := ift hc1 h
    exact nq_tr (kq_Rd_readNumber_42 h) nn
  · replace h := iff0 hc1 h
    exact nq_tr (kq_Rd_readNumber_42 h) nn
theorem kq_Rd_readNumber_23 {g : Nat} {S : St} {x1 : Int32} {x2 : Int32} {x3 : Int32} {x4 : Int32} {S' : St} {r : Int32} (h : m_Rd_readNumber_23 g S x1 x2 x3 x4 = some (S', r)) : nq S' S := by
  unfold m_Rd_readNumber_23 at h
  have nn : nq S S := nq_rf
  exact nq_tr (kq_Rd_readNumber_24 h) nn
theorem kq_Rd_readNumber {g : Nat} {S : St} {x1 : Int32} {x2 : Int32} {x3 : Int32} {x4 : Int32} {S' : St} {r : Int32} (h : m_Rd_readNumber g S x1 x2 x3 x4 = some (S', r)) : nq S' S := by
  unfold m_Rd_readNumber at h
  have nn : nq S S := nq_rf
  by_cases hc1 : x4 ≤ x3
  · replace h := ift hc1 h
    exact nq_tr (kq_Rd_readNumber_23 h) nn
  · replace h := iff0 hc1 h
    obtain ⟨v_1, hv_1, h⟩ := bnd h
    by_cases hc2 : v_1 = (45 : Int32)
    · replace h := ift hc2 h
      exact nq_tr (kq_Rd_readNumber_24 h) nn
    · replace h := iff0 hc2 h
      exact nq_tr (kq_Rd_readNumber_23 h) nn
theorem kq_Rd_readWhole_29 {g : Nat} {S : St} {x1 : Int32} {x2 : Int32} {x3 : Int32} {x4 : Int32} {S' : St} {r : Int32} (h : m_Rd_readWhole_29 g S x1 x2 x3 x4 = some (S', r)) : nq S' S := by
  unfold m_Rd_readWhole_29 at h
  have nn : nq S S := nq_rf
  obtain ⟨⟨S_1, v_2⟩, hv_2, h⟩ := bnd h
  replace nn : nq S_1 S := nq_tr (kq_Rd_readNumber hv_2) nn
  by_cases hc1 : v_2 = 0 ∨ v_2 = 1
  case neg => exact absurd (iff0 hc1 h) (fun q => by cases q)
  replace h := ift hc1 h
  obtain ⟨rfl, rfl⟩ := prI h
  exact nn
theorem kq_Rd_readWhole {g : Nat} {S : St} {x1 : Int32} {x2 : Int32} {x3 : Int32} {x4 : Int32} {S' : St} {r : Int32} (h : m_Rd_readWhole g S x1 x2 x3 x4 = some (S', r)) : nq S' S := by
  unfold m_Rd_readWhole at h
  have nn : nq S S := nq_rf
  by_cases hc1 : x4 ≤ x3
  · replace h := ift hc1 h
    exact nq_tr (kq_Rd_readWhole_29 h) nn
  · replace h := iff0 hc1 h
    obtain ⟨v_1, hv_1, h⟩ := bnd h
    by_cases hc2 : v_1 = (119 : Int32)
    · replace h := ift hc2 h
      obtain ⟨⟨S_2, v_3⟩, hv_3, h⟩ := bnd h
      replace nn : nq S_2 S := nq_tr (kq_Rd_readName hv_3) nn
      by_cases hc3 : v_3 = 0 ∨ v_3 = 1
      case neg => exact absurd (iff0 hc3 h) (fun q => by cases q)
      replace h := ift hc3 h
      obtain ⟨rfl, rfl⟩ := prI h
      exact nn
    · replace h := iff0 hc2 h
      exact nq_tr (kq_Rd_readWhole_29 h) nn
theorem kq_Rn_leaveCatch {g : Nat} {S : St} {x1 : Int32} {S' : St} (h : m_Rn_leaveCatch g S x1 = some S') : nq S' S := by
  unfold m_Rn_leaveCatch at h
  have nn : nq S S := nq_rf
  obtain ⟨x2_1, ex2_1, h⟩ := lt_e h
  obtain ⟨v_2, hv_2, h⟩ := bnd h
  obtain ⟨S_3, hS_3, h⟩ := bnd h
  replace nn : nq S_3 S := nq_tr (kq_Bn_setWhole hS_3) nn
  obtain ⟨S_4, hS_4, h⟩ := bnd h
  replace nn : nq S_4 S := nq_tr (kq_Row_shorten hS_4) nn
  obtain ⟨S_5, hS_5, h⟩ := bnd h
  replace nn : nq S_5 S := nq_tr (kq_Row_shorten hS_5) nn
  obtain rfl := som h
  exact nn
theorem kqb_Rn_leaveCatches_8 {g : Nat} {S : St} {x1 : Int32} {x2 : Int32} {S' : St} {k8 : St → Int32 → Int32 → Option St} (kk8 : ∀ (S : St) (x1 : Int32) (x2 : Int32), k8 S x1 x2 = some S' → nq S' S) (h : b_Rn_leaveCatches_8 g k8 S x1 x2 = some S') : nq S' S := by
  unfold b_Rn_leaveCatches_8 at h
  have nn : nq S S := nq_rf
  by_cases hc1 : x2 ≤ 0
  · replace h := ift hc1 h
    obtain rfl := som h
    exact nn
  · replace h := iff0 hc1 h
    obtain ⟨v_2, hv_2, h⟩ := bnd h
    by_cases hc2 : x1 < v_2
    · replace h := ift hc2 h
      obtain rfl := som h
      exact nn
    · replace h := iff0 hc2 h
      obtain ⟨S_3, hS_3, h⟩ := bnd h
      replace nn : nq S_3 S := nq_tr (kq_Rn_leaveCatch hS_3) nn
      obtain ⟨x2_4, ex2_4, h⟩ := lt_e h
      exact nq_tr (kk8 _ _ _ h) nn
theorem kq_Rn_leaveCatches_8 {g : Nat} {S' : St} (n : Nat) : ∀ (S : St) (x1 : Int32) (x2 : Int32), m_Rn_leaveCatches_8 g n S x1 x2 = some S' → nq S' S := by
  induction n with
  | zero => intro S x1 x2 h; exact absurd h (fun q => by cases q)
  | succ n ih => intro S x1 x2 h; exact kqb_Rn_leaveCatches_8 ih h
theorem kq_Rn_leaveCatches {g : Nat} {S : St} {x1 : Int32} {S' : St} (h : m_Rn_leaveCatches g S x1 = some S') : nq S' S := by
  unfold m_Rn_leaveCatches at h
  have nn : nq S S := nq_rf
  obtain ⟨x2_1, ex2_1, h⟩ := lt_e h
  exact nq_tr (kq_Rn_leaveCatches_8 g _ _ _ h) nn
theorem kq_TS_dropEmptyCuts_41 {g : Nat} {S : St} {x1 : Int32} {S' : St} (h : m_TS_dropEmptyCuts_41 g S x1 = some S') : nq S' S := by
  unfold m_TS_dropEmptyCuts_41 at h
  have nn : nq S S := nq_rf
  obtain ⟨S_2, hS_2, h⟩ := bnd h
  replace nn : nq S_2 S := nq_tr (kq_Row_shorten hS_2) nn
  obtain ⟨S_3, hS_3, h⟩ := bnd h
  replace nn : nq S_3 S := nq_tr (kq_Row_shorten hS_3) nn
  obtain rfl := som h
  exact nn
theorem kqb_TS_dropEmptyCuts_8 {g : Nat} {S : St} {x1 : Int32} {S' : St} {k8 : St → Int32 → Option St} (kk8 : ∀ (S : St) (x1 : Int32), k8 S x1 = some S' → nq S' S) (h : b_TS_dropEmptyCuts_8 g k8 S x1 = some S') : nq S' S := by
  unfold b_TS_dropEmptyCuts_8 at h
  have nn : nq S S := nq_rf
  by_cases hc1 : x1 ≤ 0
  · replace h := ift hc1 h
    exact nq_tr (kq_TS_dropEmptyCuts_41 h) nn
  · replace h := iff0 hc1 h
    obtain ⟨v_2, hv_2, h⟩ := bnd h
    obtain ⟨v_3, hv_3, h⟩ := bnd h
    by_cases hc2 : v_2 = v_3
    · replace h := ift hc2 h
      obtain ⟨x1_4, ex1_4, h⟩ := lt_e h
      exact nq_tr (kk8 _ _ h) nn
    · replace h := iff0 hc2 h
      exact nq_tr (kq_TS_dropEmptyCuts_41 h) nn
theorem kq_TS_dropEmptyCuts_8 {g : Nat} {S' : St} (n : Nat) : ∀ (S : St) (x1 : Int32), m_TS_dropEmptyCuts_8 g n S x1 = some S' → nq S' S := by
  induction n with
  | zero => intro S x1 h; exact absurd h (fun q => by cases q)
  | succ n ih => intro S x1 h; exact kqb_TS_dropEmptyCuts_8 ih h
theorem kq_TS_dropEmptyCuts {g : Nat} {S : St} {S' : St} (h : m_TS_dropEmptyCuts g S = some S') : nq S' S := by
  unfold m_TS_dropEmptyCuts at h
  have nn : nq S S := nq_rf
  obtain ⟨x1_1, ex1_1, h⟩ := lt_e h
  exact nq_tr (kq_TS_dropEmptyCuts_8 g _ _ h) nn
theorem kq_TS_piece {g : Nat} {S : St} {S' : St} {r : Int32} (h : m_TS_piece g S = some (S', r)) : nq S' S := by
  unfold m_TS_piece at h
  have nn : nq S S := nq_rf
  obtain ⟨v_1, hv_1, h⟩ := bnd h
  by_cases hc1 : v_1 < 0
  · replace h := ift hc1 h
    obtain ⟨rfl, rfl⟩ := prI h
    exact nn
  · replace h := iff0 hc1 h
    by_cases hc2 : v_1 < (gI S 22 2)
    · replace h := ift hc2 h
      obtain ⟨v_2, hv_2, h⟩ := bnd h
      obtain ⟨⟨S_3, v_4⟩, hv_4, h⟩ := bnd h
      replace nn : nq S_3 S := nq_tr (kq_Bn_giveText hv_4) nn
      obtain ⟨rfl, rfl⟩ := prI h
      exact nn
    · replace h := iff0 hc2 h
      obtain ⟨rfl, rfl⟩ := prI h
      exact nn
theorem kq_WS_giveTruth_13 {g : Nat} {S : St} {y1 : Int64} {S' : St} {r : Int32} (h : m_WS_giveTruth_13 g S y1 = some (S', r)) : nq S' S := by
  unfold m_WS_giveTruth_13 at h
  have nn : nq S S := nq_rf
  obtain ⟨⟨S_1, v_2⟩, hv_2, h⟩ := bnd h
  replace nn : nq S_1 S := nq_tr (kq_Bn_giveWhole hv_2) nn
  obtain ⟨rfl, rfl⟩ := prI h
  exact nn
theorem kq_WS_giveTruth {g : Nat} {S : St} {x1 : Int32} {S' : St} {r : Int32} (h : m_WS_giveTruth g S x1 = some (S', r)) : nq S' S := by
  unfold m_WS_giveTruth at h
  have nn : nq S S := nq_rf
  by_cases hc1 : x1 = 0
  · replace h := ift hc1 h
    exact nq_tr (kq_WS_giveTruth_13 h) nn
  · replace h := iff0 hc1 h
    exact nq_tr (kq_WS_giveTruth_13 h) nn
theorem kq_WS_giveFirst {g : Nat} {S : St} {S' : St} {r : Int32} (h : m_WS_giveFirst g S = some (S', r)) : nq S' S := by
  unfold m_WS_giveFirst at h
  have nn : nq S S := nq_rf
  obtain ⟨v_1, hv_1, h⟩ := bnd h
  obtain ⟨r_2, hr_2, h⟩ := bnd h
  obtain ⟨v_3, hv_3, h⟩ := bnd h
  obtain ⟨r_4, hr_4, h⟩ := bnd h
  obtain ⟨v_5, hv_5, h⟩ := bnd h
  obtain ⟨⟨S_6, v_7⟩, hv_7, h⟩ := bnd h
  replace nn : nq S_6 S := nq_tr (kq_Bn_giveWhole hv_7) nn
  obtain ⟨rfl, rfl⟩ := prI h
  exact nn
theorem kq_WS_parse_156 {g : Nat} {S : St} {y1 : Int64} {S' : St} {r : Int32} (h : m_WS_parse_156 g S y1 = some (S', r)) : nq S' S := by
  unfold m_WS_parse_156 at h
  have nn : nq S S := nq_rf
  obtain ⟨⟨S_8, v_9⟩, hv_9, h⟩ := bnd h
  replace nn : nq S_8 S := nq_tr (kq_Bn_giveWhole hv_9) nn
  obtain ⟨rfl, rfl⟩ := prI h
  exact nn
theorem kq_WS_parse_137 {g : Nat} {S : St} {x7 : Int32} {x8 : Int64} {S' : St} {r : Int32} (h : m_WS_parse_137 g S x7 x8 = some (S', r)) : nq S' S := by
  unfold m_WS_parse_137 at h
  have nn : nq S S := nq_rf
  by_cases hc1 : x7 = (45 : Int32)
  · replace h := ift hc1 h
    exact nq_tr (kq_WS_parse_156 h) nn
  · replace h := iff0 hc1 h
    exact nq_tr (kq_WS_parse_156 h) nn
theorem kq_WS_parse_82 {g : Nat} {S : St} {x1 : Int64} {x3 : Int32} {x4 : Int64} {x6 : Int32} {x7 : Int32} {S' : St} {r : Int32} (h : m_WS_parse_82 g S x1 x3 x4 x6 x7 = some (S', r)) : nq S' S := by
  unfold m_WS_parse_82 at h
  have nn : nq S S := nq_rf
  obtain ⟨v_6, hv_6, h⟩ := bnd h
  obtain ⟨v_7, hv_7, h⟩ := bnd h
  by_cases hc1 : (0 : Int64) < v_7
  · replace h := ift hc1 h
    obtain ⟨rfl, rfl⟩ := prI h
    exact nn
  · replace h := iff0 hc1 h
    by_cases hc2 : v_7 < x1
    · replace h := ift hc2 h
      obtain ⟨rfl, rfl⟩ := prI h
      exact nn
    · replace h := iff0 hc2 h
      by_cases hc3 : x7 = (45 : Int32)
      · replace h := ift hc3 h
        exact nq_tr (kq_WS_parse_137 h) nn
      · replace h := iff0 hc3 h
        by_cases hc4 : v_7 = x1
        · replace h := ift hc4 h
          obtain ⟨rfl, rfl⟩ := prI h
          exact nn
        · replace h := iff0 hc4 h
          exact nq_tr (kq_WS_parse_137 h) nn
theorem kq_WS_parse_79 {g : Nat} {S : St} {x1 : Int64} {x3 : Int32} {x4 : Int64} {x6 : Int32} {x7 : Int32} {S' : St} {r : Int32} (h : m_WS_parse_79 g S x1 x3 x4 x6 x7 = some (S', r)) : nq S' S := by
  unfold m_WS_parse_79 at h
  have nn : nq S S := nq_rf
  obtain ⟨x6_5, ex6_5, h⟩ := lt_e h
  exact nq_tr (kq_WS_parse_82 h) nn
theorem kq_WS_parse {g : Nat} {S : St} {x1 : Int64} {S' : St} {r : Int32} (h : m_WS_parse g S x1 = some (S', r)) : nq S' S := by
  unfold m_WS_parse at h
  have nn : nq S S := nq_rf
  obtain ⟨v_1, hv_1, h⟩ := bnd h
  obtain ⟨v_2, hv_2, h⟩ := bnd h
  by_cases hc1 : v_1 = (-1 : Int32)
  · replace h := ift hc1 h
    obtain ⟨rfl, rfl⟩ := prI h
    exact nn
  · replace h := iff0 hc1 h
    by_cases hc2 : v_2 < (2 : Int64)
    · replace h := ift hc2 h
      obtain ⟨rfl, rfl⟩ := prI h
      exact nn
    · replace h := iff0 hc2 h
      by_cases hc3 : (36 : Int64) < v_2
      · replace h := ift hc3 h
        obtain ⟨rfl, rfl⟩ := prI h
        exact nn
      · replace h := iff0 hc3 h
        obtain ⟨v_3, hv_3, h⟩ := bnd h
        obtain ⟨v_4, hv_4, h⟩ := bnd h
        by_cases hc4 : v_4 = (43 : Int32)
        · replace h := ift hc4 h
          exact nq_tr (kq_WS_parse_79 h) nn
        · replace h := iff0 hc4 h
          by_cases hc5 : v_4 = (45 : Int32)
          · replace h := ift hc5 h
            exact nq_tr (kq_WS_parse_79 h) nn
          · replace h := iff0 hc5 h
            exact nq_tr (kq_WS_parse_82 h) nn
theorem kq_WS_giveUnit {g : Nat} {S : St} {x1 : Int32} {S' : St} {r : Int32} (h : m_WS_giveUnit g S x1 = some (S', r)) : nq S' S := by
  unfold m_WS_giveUnit at h
  have nn : nq S S := nq_rf
  obtain ⟨v_1, hv_1, h⟩ := bnd h
  obtain ⟨v_2, hv_2, h⟩ := bnd h
  by_cases hc1 : v_2 < 0
  · replace h := ift hc1 h
    obtain ⟨rfl, rfl⟩ := prI h
    exact nn
  · replace h := iff0 hc1 h
    by_cases hc2 : v_2 < v_1
    · replace h := ift hc2 h
      obtain ⟨v_3, hv_3, h⟩ := bnd h
      obtain ⟨⟨S_4, v_5⟩, hv_5, h⟩ := bnd h
      replace nn : nq S_4 S := nq_tr (kq_Bn_giveWhole hv_5) nn
      obtain ⟨rfl, rfl⟩ := prI h
      exact nn
    · replace h := iff0 hc2 h
      obtain ⟨rfl, rfl⟩ := prI h
      exact nn
theorem kq_WS_givePoint_102 {g : Nat} {S : St} {y1 : Int64} {S' : St} {r : Int32} (h : m_WS_givePoint_102 g S y1 = some (S', r)) : nq S' S := by
  unfold m_WS_givePoint_102 at h
  have nn : nq S S := nq_rf
  obtain ⟨⟨S_8, v_9⟩, hv_9, h⟩ := bnd h
  replace nn : nq S_8 S := nq_tr (kq_Bn_giveWhole hv_9) nn
  obtain ⟨rfl, rfl⟩ := prI h
  exact nn
theorem kq_WS_givePoint {g : Nat} {S : St} {x1 : Int32} {S' : St} {r : Int32} (h : m_WS_givePoint g S x1 = some (S', r)) : nq S' S := by
  unfold m_WS_givePoint at h
  have nn : nq S S := nq_rf
  obtain ⟨v_1, hv_1, h⟩ := bnd h
  obtain ⟨v_2, hv_2, h⟩ := bnd h
  by_cases hc1 : v_2 < 0
  · replace h := ift hc1 h
    obtain ⟨rfl, rfl⟩ := prI h
    exact nn
  · replace h := iff0 hc1 h
    by_cases hc2 : v_2 < v_1
    · replace h := ift hc2 h
      obtain ⟨v_3, hv_3, h⟩ := bnd h
      obtain ⟨x4_4, ex4_4, h⟩ := lt_e h
      obtain ⟨v_5, hv_5, h⟩ := bnd h
      obtain ⟨v_6, hv_6, h⟩ := bnd h
      by_cases hc3 : v_6 = 0
      · replace h := ift hc3 h
        obtain ⟨v_7, hv_7, h⟩ := bnd h
        exact nq_tr (kq_WS_givePoint_102 h) nn
      · replace h := iff0 hc3 h
        obtain ⟨v_8, hv_8, h⟩ := bnd h
        exact nq_tr (kq_WS_givePoint_102 h) nn
    · replace h := iff0 hc2 h
      obtain ⟨rfl, rfl⟩ := prI h
      exact nn
theorem kq_WS_givePointBefore_116 {g : Nat} {S : St} {y1 : Int64} {S' : St} {r : Int32} (h : m_WS_givePointBefore_116 g S y1 = some (S', r)) : nq S' S := by
  unfold m_WS_givePointBefore_116 at h
  have nn : nq S S := nq_rf
  obtain ⟨⟨S_6, v_7⟩, hv_7, h⟩ := bnd h
  replace nn : nq S_6 S := nq_tr (kq_Bn_giveWhole hv_7) nn
  obtain ⟨rfl, rfl⟩ := prI h
  exact nn
theorem kq_WS_givePointBefore_72 {g : Nat} {S : St} {x4 : Int32} {y0 : Int32} {S' : St} {r : Int32} (h : m_WS_givePointBefore_72 g S x4 y0 = some (S', r)) : nq S' S := by
  unfold m_WS_givePointBefore_72 at h
  have nn : nq S S := nq_rf
  by_cases hc1 : y0 = 0
  · replace h := ift hc1 h
    obtain ⟨v_5, hv_5, h⟩ := bnd h
    exact nq_tr (kq_WS_givePointBefore_116 h) nn
  · replace h := iff0 hc1 h
    obtain ⟨v_6, hv_6, h⟩ := bnd h
    exact nq_tr (kq_WS_givePointBefore_116 h) nn
theorem kq_WS_givePointBefore_71 {g : Nat} {S : St} {x4 : Int32} {S' : St} {r : Int32} (h : m_WS_givePointBefore_71 g S x4 = some (S', r)) : nq S' S := by
  unfold m_WS_givePointBefore_71 at h
  have nn : nq S S := nq_rf
  exact nq_tr (kq_WS_givePointBefore_72 h) nn
theorem kq_WS_givePointBefore {g : Nat} {S : St} {x1 : Int32} {S' : St} {r : Int32} (h : m_WS_givePointBefore g S x1 = some (S', r)) : nq S' S := by
  unfold m_WS_givePointBefore at h
  have nn : nq S S := nq_rf
  obtain ⟨v_1, hv_1, h⟩ := bnd h
  obtain ⟨v_2, hv_2, h⟩ := bnd h
  by_cases hc1 : v_2 < (1 : Int32)
  · replace h := ift hc1 h
    obtain ⟨rfl, rfl⟩ := prI h
    exact nn
  · replace h := iff0 hc1 h
    by_cases hc2 : v_2 ≤ v_1
    · replace h := ift hc2 h
      obtain ⟨v_3, hv_3, h⟩ := bnd h
      obtain ⟨x4_4, ex4_4, h⟩ := lt_e h
      by_cases hc3 : v_2 ≤ (1 : Int32)
      · replace h := ift hc3 h
        exact nq_tr (kq_WS_givePointBefore_71 h) nn
      · replace h := iff0 hc3 h
        obtain ⟨v_5, hv_5, h⟩ := bnd h
        by_cases hc4 : v_5 = 0
        · replace h := ift hc4 h
          exact nq_tr (kq_WS_givePointBefore_71 h) nn
        · replace h := iff0 hc4 h
          exact nq_tr (kq_WS_givePointBefore_72 h) nn
    · replace h := iff0 hc2 h
      obtain ⟨rfl, rfl⟩ := prI h
      exact nn
theorem kqb_WS_countPoints_64 {g : Nat} {S : St} {x4 : Int32} {x5 : Int32} {x6 : Int32} {x7 : Int32} {S' : St} {r : Int32} {k64 : St → Int32 → Int32 → Int32 → Int32 → Option (St × Int32)} (kk64 : ∀ (S : St) (x4 : Int32) (x5 : Int32) (x6 : Int32) (x7 : Int32), k64 S x4 x5 x6 x7 = some (S', r) → nq S' S) (h : b_WS_countPoints_64 g k64 S x4 x5 x6 x7 = some (S', r)) : nq S' S := by
  unfold b_WS_countPoints_64 at h
  have nn : nq S S := nq_rf
  by_cases hc1 : x4 ≤ x7
  · replace h := ift hc1 h
    obtain ⟨⟨S_5, v_6⟩, hv_6, h⟩ := bnd h
    replace nn : nq S_5 S := nq_tr (kq_Bn_giveWhole hv_6) nn
    obtain ⟨rfl, rfl⟩ := prI h
    exact nn
  · replace h := iff0 hc1 h
    obtain ⟨v_7, hv_7, h⟩ := bnd h
    by_cases hc2 : v_7 = 0
    · replace h := ift hc2 h
      obtain ⟨x6_8, ex6_8, h⟩ := lt_e h
      obtain ⟨x7_9, ex7_9, h⟩ := lt_e h
      exact nq_tr (kk64 _ _ _ _ _ h) nn
    · replace h := iff0 hc2 h
      obtain ⟨x7_10, ex7_10, h⟩ := lt_e h
      obtain ⟨x6_11, ex6_11, h⟩ := lt_e h
      obtain ⟨x7_12, ex7_12, h⟩ := lt_e h
      exact nq_tr (kk64 _ _ _ _ _ h) nn
theorem kq_WS_countPoints_64 {g : Nat} {S' : St} {r : Int32} (n : Nat) : ∀ (S : St) (x4 : Int32) (x5 : Int32) (x6 : Int32) (x7 : Int32), m_WS_countPoints_64 g n S x4 x5 x6 x7 = some (S', r) → nq S' S := by
  induction n with
  | zero => intro S x4 x5 x6 x7 h; exact absurd h (fun q => by cases q)
  | succ n ih => intro S x4 x5 x6 x7 h; exact kqb_WS_countPoints_64 ih h
theorem kq_WS_countPoints {g : Nat} {S : St} {x1 : Int32} {S' : St} {r : Int32} (h : m_WS_countPoints g S x1 = some (S', r)) : nq S' S := by
  unfold m_WS_countPoints at h
  have nn : nq S S := nq_rf
  obtain ⟨v_1, hv_1, h⟩ := bnd h
  obtain ⟨v_2, hv_2, h⟩ := bnd h
  obtain ⟨v_3, hv_3, h⟩ := bnd h
  by_cases hc1 : v_2 < 0
  · replace h := ift hc1 h
    obtain ⟨rfl, rfl⟩ := prI h
    exact nn
  · replace h := iff0 hc1 h
    by_cases hc2 : v_3 < v_2
    · replace h := ift hc2 h
      obtain ⟨rfl, rfl⟩ := prI h
      exact nn
    · replace h := iff0 hc2 h
      by_cases hc3 : v_3 ≤ v_1
      · replace h := ift hc3 h
        obtain ⟨v_4, hv_4, h⟩ := bnd h
        exact nq_tr (kq_WS_countPoints_64 g _ _ _ _ _ h) nn
      · replace h := iff0 hc3 h
        obtain ⟨rfl, rfl⟩ := prI h
        exact nn
theorem kq_WS_offset_163 {g : Nat} {S : St} {x2 : Int32} {x3 : Int32} {x4 : Int32} {x5 : Int64} {x7 : Int32} {y0 : Int32} {S' : St} {r : Int32} {k120 : St → Int32 → Int32 → Int32 → Int64 → Int32 → Option (St × Int32)} (kk120 : ∀ (S : St) (x2 : Int32) (x3 : Int32) (x4 : Int32) (x5 : Int64) (x7 : Int32), k120 S x2 x3 x4 x5 x7 = some (S', r) → nq S' S) (h : m_WS_offset_163 g k120 S x2 x3 x4 x5 x7 y0 = some (S', r)) : nq S' S := by
  unfold m_WS_offset_163 at h
  have nn : nq S S := nq_rf
  by_cases hc1 : y0 = 0
  · replace h := ift hc1 h
    obtain ⟨x4_7, ex4_7, h⟩ := lt_e h
    obtain ⟨x7_8, ex7_8, h⟩ := lt_e h
    exact nq_tr (kk120 _ _ _ _ _ _ h) nn
  · replace h := iff0 hc1 h
    obtain ⟨x4_9, ex4_9, h⟩ := lt_e h
    obtain ⟨x7_10, ex7_10, h⟩ := lt_e h
    exact nq_tr (kk120 _ _ _ _ _ _ h) nn
theorem kq_WS_offset_162 {g : Nat} {S : St} {x2 : Int32} {x3 : Int32} {x4 : Int32} {x5 : Int64} {x7 : Int32} {S' : St} {r : Int32} {k120 : St → Int32 → Int32 → Int32 → Int64 → Int32 → Option (St × Int32)} (kk120 : ∀ (S : St) (x2 : Int32) (x3 : Int32) (x4 : Int32) (x5 : Int64) (x7 : Int32), k120 S x2 x3 x4 x5 x7 = some (S', r) → nq S' S) (h : m_WS_offset_162 g k120 S x2 x3 x4 x5 x7 = some (S', r)) : nq S' S := by
  unfold m_WS_offset_162 at h
  have nn : nq S S := nq_rf
  exact nq_tr (kq_WS_offset_163 kk120 h) nn
theorem kqb_WS_offset_120 {g : Nat} {S : St} {x2 : Int32} {x3 : Int32} {x4 : Int32} {x5 : Int64} {x7 : Int32} {S' : St} {r : Int32} {k120 : St → Int32 → Int32 → Int32 → Int64 → Int32 → Option (St × Int32)} (kk120 : ∀ (S : St) (x2 : Int32) (x3 : Int32) (x4 : Int32) (x5 : Int64) (x7 : Int32), k120 S x2 x3 x4 x5 x7 = some (S', r) → nq S' S) (h : b_WS_offset_120 g k120 S x2 x3 x4 x5 x7 = some (S', r)) : nq S' S := by
  unfold b_WS_offset_120 at h
  have nn : nq S S := nq_rf
  by_cases hc1 : x5 < (x7.toInt64)
  · replace h := ift hc1 h
    by_cases hc2 : x4 ≤ (1 : Int32)
    · replace h := ift hc2 h
      exact nq_tr (kq_WS_offset_162 kk120 h) nn
    · replace h := iff0 hc2 h
      obtain ⟨v_7, hv_7, h⟩ := bnd h
      by_cases hc3 : v_7 = 0
      · replace h := ift hc3 h
        exact nq_tr (kq_WS_offset_162 kk120 h) nn
      · replace h := iff0 hc3 h
        exact nq_tr (kq_WS_offset_163 kk120 h) nn
  · replace h := iff0 hc1 h
    by_cases hc4 : x4 < 0
    · replace h := ift hc4 h
      obtain ⟨rfl, rfl⟩ := prI h
      exact nn
    · replace h := iff0 hc4 h
      by_cases hc5 : x4 ≤ x2
      · replace h := ift hc5 h
        obtain ⟨⟨S_5, v_6⟩, hv_6, h⟩ := bnd h
        replace nn : nq S_5 S := nq_tr (kq_Bn_giveWhole hv_6) nn
        obtain ⟨rfl, rfl⟩ := prI h
        exact nn
      · replace h := iff0 hc5 h
        obtain ⟨rfl, rfl⟩ := prI h
        exact nn
theorem kq_WS_offset_120 {g : Nat} {S' : St} {r : Int32} (n : Nat) : ∀ (S : St) (x2 : Int32) (x3 : Int32) (x4 : Int32) (x5 : Int64) (x7 : Int32), m_WS_offset_120 g n S x2 x3 x4 x5 x7 = some (S', r) → nq S' S := by
  induction n with
  | zero => intro S x2 x3 x4 x5 x7 h; exact absurd h (fun q => by cases q)
  | succ n ih => intro S x2 x3 x4 x5 x7 h; exact kqb_WS_offset_120 ih h
theorem kqb_WS_offset_72 {g : Nat} {S : St} {x2 : Int32} {x3 : Int32} {x4 : Int32} {x5 : Int64} {x7 : Int32} {S' : St} {r : Int32} {k72 : St → Int32 → Int32 → Int32 → Int64 → Int32 → Option (St × Int32)} (kk72 : ∀ (S : St) (x2 : Int32) (x3 : Int32) (x4 : Int32) (x5 : Int64) (x7 : Int32), k72 S x2 x3 x4 x5 x7 = some (S', r) → nq S' S) (h : b_WS_offset_72 g k72 S x2 x3 x4 x5 x7 = some (S', r)) : nq S' S := by
  unfold b_WS_offset_72 at h
  have nn : nq S S := nq_rf
  by_cases hc1 : (x7.toInt64) < x5
  · replace h := ift hc1 h
    obtain ⟨v_5, hv_5, h⟩ := bnd h
    by_cases hc2 : v_5 = 0
    · replace h := ift hc2 h
      obtain ⟨x4_6, ex4_6, h⟩ := lt_e h
      obtain ⟨x7_7, ex7_7, h⟩ := lt_e h
      exact nq_tr (kk72 _ _ _ _ _ _ h) nn
    · replace h := iff0 hc2 h
      obtain ⟨x4_8, ex4_8, h⟩ := lt_e h
      obtain ⟨x7_9, ex7_9, h⟩ := lt_e h
      exact nq_tr (kk72 _ _ _ _ _ _ h) nn
  · replace h := iff0 hc1 h
    exact nq_tr (kq_WS_offset_120 g _ _ _ _ _ _ h) nn
theorem kq_WS_offset_72 {g : Nat} {S' : St} {r : Int32} (n : Nat) : ∀ (S : St) (x2 : Int32) (x3 : Int32) (x4 : Int32) (x5 : Int64) (x7 : Int32), m_WS_offset_72 g n S x2 x3 x4 x5 x7 = some (S', r) → nq S' S := by
  induction n with
  | zero => intro S x2 x3 x4 x5 x7 h; exact absurd h (fun q => by cases q)
  | succ n ih => intro S x2 x3 x4 x5 x7 h; exact kqb_WS_offset_72 ih h
theorem kq_WS_offset {g : Nat} {S : St} {x1 : Int32} {S' : St} {r : Int32} (h : m_WS_offset g S x1 = some (S', r)) : nq S' S := by
  unfold m_WS_offset at h
  have nn : nq S S := nq_rf
  obtain ⟨v_1, hv_1, h⟩ := bnd h
  obtain ⟨v_2, hv_2, h⟩ := bnd h
  obtain ⟨v_3, hv_3, h⟩ := bnd h
  obtain ⟨v_4, hv_4, h⟩ := bnd h
  by_cases hc1 : v_3 < 0
  · replace h := ift hc1 h
    obtain ⟨rfl, rfl⟩ := prI h
    exact nn
  · replace h := iff0 hc1 h
    by_cases hc2 : v_1 < v_3
    · replace h := ift hc2 h
      obtain ⟨rfl, rfl⟩ := prI h
      exact nn
    · replace h := iff0 hc2 h
      by_cases hc3 : (v_1.toInt64) < v_4
      · replace h := ift hc3 h
        obtain ⟨rfl, rfl⟩ := prI h
        exact nn
      · replace h := iff0 hc3 h
        by_cases hc4 : v_4 < ((-v_1).toInt64)
        · replace h := ift hc4 h
          obtain ⟨rfl, rfl⟩ := prI h
          exact nn
        · replace h := iff0 hc4 h
          exact nq_tr (kq_WS_offset_72 g _ _ _ _ _ _ h) nn
theorem kqb_WS_find_54 {g : Nat} {S : St} {x1 : Int32} {x2 : Int32} {x3 : Int32} {x5 : Int32} {S' : St} {r : Int32} {k54 : St → Int32 → Int32 → Int32 → Int32 → Option (St × Int32)} (kk54 : ∀ (S : St) (x1 : Int32) (x2 : Int32) (x3 : Int32) (x5 : Int32), k54 S x1 x2 x3 x5 = some (S', r) → nq S' S) (h : b_WS_find_54 g k54 S x1 x2 x3 x5 = some (S', r)) : nq S' S := by
  unfold b_WS_find_54 at h
  have nn : nq S S := nq_rf
  by_cases hc1 : x3 ≤ x5
  · replace h := ift hc1 h
    obtain ⟨⟨S_5, v_6⟩, hv_6, h⟩ := bnd h
    replace nn : nq S_5 S := nq_tr (kq_Bn_giveWhole hv_6) nn
    obtain ⟨rfl, rfl⟩ := prI h
    exact nn
  · replace h := iff0 hc1 h
    obtain ⟨v_7, hv_7, h⟩ := bnd h
    by_cases hc2 : v_7 = 0
    · replace h := ift hc2 h
      obtain ⟨x5_8, ex5_8, h⟩ := lt_e h
      exact nq_tr (kk54 _ _ _ _ _ h) nn
    · replace h := iff0 hc2 h
      obtain ⟨⟨S_9, v_10⟩, hv_10, h⟩ := bnd h
      replace nn : nq S_9 S := nq_tr (kq_Bn_giveWhole hv_10) nn
      obtain ⟨rfl, rfl⟩ := prI h
      exact nn
theorem kq_WS_find_54 {g : Nat} {S' : St} {r : Int32} (n : Nat) : ∀ (S : St) (x1 : Int32) (x2 : Int32) (x3 : Int32) (x5 : Int32), m_WS_find_54 g n S x1 x2 x3 x5 = some (S', r) → nq S' S := by
  induction n with
  | zero => intro S x1 x2 x3 x5 h; exact absurd h (fun q => by cases q)
  | succ n ih => intro S x1 x2 x3 x5 h; exact kqb_WS_find_54 ih h
theorem kq_WS_find {g : Nat} {S : St} {x1 : Int32} {x2 : Int32} {S' : St} {r : Int32} (h : m_WS_find g S x1 x2 = some (S', r)) : nq S' S := by
  unfold m_WS_find at h
  have nn : nq S S := nq_rf
  obtain ⟨v_1, hv_1, h⟩ := bnd h
  obtain ⟨v_2, hv_2, h⟩ := bnd h
  obtain ⟨x4_3, ex4_3, h⟩ := lt_e h
  obtain ⟨v_4, hv_4, h⟩ := bnd h
  by_cases hc1 : v_4 = 0
  · replace h := ift hc1 h
    obtain ⟨⟨S_5, v_6⟩, hv_6, h⟩ := bnd h
    replace nn : nq S_5 S := nq_tr (kq_Bn_giveWhole hv_6) nn
    obtain ⟨rfl, rfl⟩ := prI h
    exact nn
  · replace h := iff0 hc1 h
    exact nq_tr (kq_WS_find_54 g _ _ _ _ _ h) nn
theorem kqb_WS_findLast_17 {g : Nat} {S : St} {x1 : Int32} {x2 : Int32} {x3 : Int32} {S' : St} {r : Int32} {k17 : St → Int32 → Int32 → Int32 → Option (St × Int32)} (kk17 : ∀ (S : St) (x1 : Int32) (x2 : Int32) (x3 : Int32), k17 S x1 x2 x3 = some (S', r) → nq S' S) (h : b_WS_findLast_17 g k17 S x1 x2 x3 = some (S', r)) : nq S' S := by
  unfold b_WS_findLast_17 at h
  have nn : nq S S := nq_rf
  by_cases hc1 : x3 < 0
  · replace h := ift hc1 h
    obtain ⟨⟨S_3, v_4⟩, hv_4, h⟩ := bnd h
    replace nn : nq S_3 S := nq_tr (kq_Bn_giveWhole hv_4) nn
    obtain ⟨rfl, rfl⟩ := prI h
    exact nn
  · replace h := iff0 hc1 h
    obtain ⟨v_5, hv_5, h⟩ := bnd h
    by_cases hc2 : v_5 = 0
    · replace h := ift hc2 h
      obtain ⟨x3_6, ex3_6, h⟩ := lt_e h
      exact nq_tr (kk17 _ _ _ _ h) nn
    · replace h := iff0 hc2 h
      obtain ⟨⟨S_7, v_8⟩, hv_8, h⟩ := bnd h
      replace nn : nq S_7 S := nq_tr (kq_Bn_giveWhole hv_8) nn
      obtain ⟨rfl, rfl⟩ := prI h
      exact nn
theorem kq_WS_findLast_17 {g : Nat} {S' : St} {r : Int32} (n : Nat) : ∀ (S : St) (x1 : Int32) (x2 : Int32) (x3 : Int32), m_WS_findLast_17 g n S x1 x2 x3 = some (S', r) → nq S' S := by
  induction n with
  | zero => intro S x1 x2 x3 h; exact absurd h (fun q => by cases q)
  | succ n ih => intro S x1 x2 x3 h; exact kqb_WS_findLast_17 ih h
theorem kq_WS_findLast {g : Nat} {S : St} {x1 : Int32} {x2 : Int32} {S' : St} {r : Int32} (h : m_WS_findLast g S x1 x2 = some (S', r)) : nq S' S := by
  unfold m_WS_findLast at h
  have nn : nq S S := nq_rf
  obtain ⟨v_1, hv_1, h⟩ := bnd h
  obtain ⟨v_2, hv_2, h⟩ := bnd h
  exact nq_tr (kq_WS_findLast_17 g _ _ _ _ h) nn
theorem kq_WS_seek_116 {g : Nat} {S : St} {x6 : Int32} {S' : St} {r : Int32} (h : m_WS_seek_116 g S x6 = some (S', r)) : nq S' S := by
  unfold m_WS_seek_116 at h
  have nn : nq S S := nq_rf
  obtain ⟨⟨S_10, v_11⟩, hv_11, h⟩ := bnd h
  replace nn : nq S_10 S := nq_tr (kq_Bn_giveWhole hv_11) nn
  obtain ⟨rfl, rfl⟩ := prI h
  exact nn
theorem kqb_WS_seek_45 {g : Nat} {S : St} {x1 : Int32} {x2 : Int64} {x4 : Int32} {x5 : Int32} {x6 : Int32} {S' : St} {r : Int32} {k45 : St → Int32 → Int64 → Int32 → Int32 → Int32 → Option (St × Int32)} (kk45 : ∀ (S : St) (x1 : Int32) (x2 : Int64) (x4 : Int32) (x5 : Int32) (x6 : Int32), k45 S x1 x2 x4 x5 x6 = some (S', r) → nq S' S) (h : b_WS_seek_45 g k45 S x1 x2 x4 x5 x6 = some (S', r)) : nq S' S := by
  unfold b_WS_seek_45 at h
  have nn : nq S S := nq_rf
  by_cases hc1 : x4 ≤ x6
  · replace h := ift hc1 h
    obtain ⟨⟨S_6, v_7⟩, hv_7, h⟩ := bnd h
    replace nn : nq S_6 S := nq_tr (kq_Bn_giveWhole hv_7) nn
    obtain ⟨rfl, rfl⟩ := prI h
    exact nn
  · replace h := iff0 hc1 h
    obtain ⟨v_8, hv_8, h⟩ := bnd h
    obtain ⟨v_9, hv_9, h⟩ := bnd h
    by_cases hc2 : (v_9.toInt64) = x2
    · replace h := ift hc2 h
      exact nq_tr (kq_WS_seek_116 h) nn
    · replace h := iff0 hc2 h
      by_cases hc3 : v_8 = 0
      · replace h := ift hc3 h
        obtain ⟨x6_10, ex6_10, h⟩ := lt_e h
        exact nq_tr (kk45 _ _ _ _ _ _ h) nn
      · replace h := iff0 hc3 h
        obtain ⟨v_11, hv_11, h⟩ := bnd h
        by_cases hc4 : (v_11.toInt64) = x2
        · replace h := ift hc4 h
          exact nq_tr (kq_WS_seek_116 h) nn
        · replace h := iff0 hc4 h
          obtain ⟨x6_12, ex6_12, h⟩ := lt_e h
          exact nq_tr (kk45 _ _ _ _ _ _ h) nn
theorem kq_WS_seek_45 {g : Nat} {S' : St} {r : Int32} (n : Nat) : ∀ (S : St) (x1 : Int32) (x2 : Int64) (x4 : Int32) (x5 : Int32) (x6 : Int32), m_WS_seek_45 g n S x1 x2 x4 x5 x6 = some (S', r) → nq S' S := by
  induction n with
  | zero => intro S x1 x2 x4 x5 x6 h; exact absurd h (fun q => by cases q)
  | succ n ih => intro S x1 x2 x4 x5 x6 h; exact kqb_WS_seek_45 ih h
theorem kq_WS_seek {g : Nat} {S : St} {x1 : Int32} {S' : St} {r : Int32} (h : m_WS_seek g S x1 = some (S', r)) : nq S' S := by
  unfold m_WS_seek at h
  have nn : nq S S := nq_rf
  obtain ⟨v_1, hv_1, h⟩ := bnd h
  obtain ⟨v_2, hv_2, h⟩ := bnd h
  obtain ⟨v_3, hv_3, h⟩ := bnd h
  obtain ⟨v_4, hv_4, h⟩ := bnd h
  obtain ⟨x6_5, ex6_5, h⟩ := lt_e h
  exact nq_tr (kq_WS_seek_45 g _ _ _ _ _ _ h) nn
theorem kq_TL_cut {g : Nat} {S : St} {x1 : Int32} {S' : St} {r : Int32} (h : m_TL_cut g S x1 = some (S', r)) : nq S' S := by
  unfold m_TL_cut at h
  have nn : nq S S := nq_rf
  by_cases hc1 : x1 < 0
  · replace h := ift hc1 h
    obtain ⟨rfl, rfl⟩ := prI h
    exact nn
  · replace h := iff0 hc1 h
    by_cases hc2 : x1 ≤ (gI S 10 2)
    · replace h := ift hc2 h
      obtain ⟨S_1, hS_1, h⟩ := bnd h
      replace nn : nq S_1 S := nq_tr (kq_Row_shorten hS_1) nn
      obtain ⟨rfl, rfl⟩ := prI h
      exact nn
    · replace h := iff0 hc2 h
      obtain ⟨rfl, rfl⟩ := prI h
      exact nn
