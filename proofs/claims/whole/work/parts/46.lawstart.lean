theorem nkL_7 : Nk RL 7 9 [.null, .null, .null, .null, .null, .null, .int 0] := ⟨RX12, TX12, 7, tyX12, rfl, clsX12, tyX12_ok, (tb1 24 rfl rfl), (tb1 25 rfl rfl), (tb1 1 rfl rfl), by decide +kernel, rfl⟩
theorem nkL_10 : Nk RL 10 10 fsM := ⟨RX13, TX13, 68, tyX13, rfl, clsX13, tyX13_ok, (tb6 131 rfl rfl), (tb6 132 rfl rfl), (tb1 14 rfl rfl), by decide +kernel, rfl⟩
theorem ikL_9 : Ik RL 9 yX12_init cX12_init 1 0 := ⟨(tb1 26 rfl rfl), (tb1 27 rfl rfl), (tb1 1 rfl rfl), (tb1 28 rfl rfl), rfl, by decide, by decide, by decide +kernel⟩
theorem ikL_12 : Ik RL 12 yX13_init cX13_init 1 0 := ⟨(tb6 133 rfl rfl), (tb6 134 rfl rfl), (tb1 14 rfl rfl), (tb6 135 rfl rfl), rfl, by decide, by decide, by decide +kernel⟩
theorem rg_l {α : Type} {a b : List α} {n : Nat} (h : a.length = n) : (List.range n).map (fun i => (a ++ b)[i]?) = a.map some := by
  subst h
  apply List.ext_getElem?
  intro i
  by_cases hi : i < a.length
  · simp [hi, List.getElem?_append_left hi]
  · simp [hi]
theorem wl_len {Y : Ly} {T : Cy} {ρ : Nat → Nat} {S : St} : (wl Y T ρ S).length = Y.1 := by simp [wl]
set_option maxRecDepth 100000 in
set_option maxHeartbeats 4000000 in
theorem law_start {p : Program} {e : Env} {s : State} {m : MethodId} {below : List Frame} {meth : Method} {c : Code} (l : Launch) {b L : Nat} {xs : Nat → Int32} (hL : L ≤ 3072) (C0 : lw_At p s m meth c b L xs) {g N : Nat} {SM : St} {Rel : Nat → St → St → Prop} (hbg : m_begin g SM0 0 = some SM) (hB : Both g N SM Rel) (hN : L < 6 * N + 6) : W p l e room_1 s m #[Value.ref b] below meth c s.heap [] 0 0 (lw_Z below #[Value.ref b] s) (entryFrame m ([Value.ref b] : List Value).toArray 4) := by
  obtain ⟨hx, hcd, hr, hml, hown, hts, hX, hbl, hlk, hgv⟩ := C0
  have C : CallFix p m c cL_law 4 s #[Value.ref b] tb RL := ⟨hx, hcd, hml, hown, fun w hw => hts w (List.mem_filter.mp hw).1⟩
  have hs : ∀ c ∈ FLc, c.before #[Value.ref b] s = true := flat_of_before _ hgv
  have hA : ∀ a : Nat, a < s.heap.size → ¬ (fun q => s.heap.size ≤ q) a := fun a h q => absurd h (Nat.not_lt.mpr q)
  obtain ⟨Z, hcn, hcw⟩ := start_K hs hts hA
  obtain ⟨T, hT⟩ := start_T hts
  obtain ⟨c0, f0, hKn0⟩ := u_known (C := RX1) (T := TX1) (N := 12) (n := 12) C.2.2.2.2 clsX1 (C.2.2.2.2 _ (tb1 164 rfl rfl))
  obtain ⟨c1, f1, hKn1⟩ := u_known (C := RX2) (T := TX2) (N := 2) (n := 2) C.2.2.2.2 clsX2 (C.2.2.2.2 _ (tb2 90 rfl rfl))
  obtain ⟨c2, f2, hKn2⟩ := u_known (C := RX4) (T := TX4) (N := 16) (n := 16) C.2.2.2.2 clsX4 (C.2.2.2.2 _ (tb1 66 rfl rfl))
  obtain ⟨c3, f3, hKn3⟩ := u_known (C := RX5) (T := TX5) (N := 5) (n := 5) C.2.2.2.2 clsX5 (C.2.2.2.2 _ (tb1 140 rfl rfl))
  obtain ⟨c4, f4, hKn4⟩ := u_known (C := RX6) (T := TX6) (N := 4) (n := 4) C.2.2.2.2 clsX6 (C.2.2.2.2 _ (tb1 33 rfl rfl))
  obtain ⟨c5, f5, hKn5⟩ := u_known (C := RX7) (T := TX7) (N := 8) (n := 8) C.2.2.2.2 clsX7 (C.2.2.2.2 _ (tb2 42 rfl rfl))
  obtain ⟨c6, f6, hKn6⟩ := u_known (C := RX9) (T := TX9) (N := 6) (n := 6) C.2.2.2.2 clsX9 (C.2.2.2.2 _ (tb2 50 rfl rfl))
  obtain ⟨c7, f7, hKn7⟩ := u_known (C := RX10) (T := TX10) (N := 5) (n := 5) C.2.2.2.2 clsX10 (C.2.2.2.2 _ (tb1 170 rfl rfl))
  obtain ⟨c8, f8, hKn8⟩ := u_known (C := RX11) (T := TX11) (N := 2) (n := 2) C.2.2.2.2 clsX11 (C.2.2.2.2 _ (tb2 77 rfl rfl))
  obtain ⟨c9, f9, hKn9⟩ := u_known (C := RX12) (T := TX12) (N := 7) (n := 7) C.2.2.2.2 clsX12 (C.2.2.2.2 _ (tb1 25 rfl rfl))
  obtain ⟨c10, f10, hKn10⟩ := u_known (C := RX13) (T := TX13) (N := 68) (n := 68) C.2.2.2.2 clsX13 (C.2.2.2.2 _ (tb6 132 rfl rfl))
  have hj : Kj s := ⟨va_AO.of (hts _ w_ao), va_Nw.of rfl (hts _ w_mln)⟩
  have hK : va_K (fun c => if c = 0 then c0 else if c = 1 then c1 else if c = 2 then c2 else if c = 3 then c3 else if c = 4 then c4 else if c = 5 then c5 else if c = 6 then c6 else if c = 7 then c7 else if c = 8 then c8 else if c = 9 then c9 else c10, fun c => if c = 0 then f0 else if c = 1 then f1 else if c = 2 then f2 else if c = 3 then f3 else if c = 4 then f4 else if c = 5 then f5 else if c = 6 then f6 else if c = 7 then f7 else if c = 8 then f8 else if c = 9 then f9 else f10) vwCl (tyT T) s := by
    refine ⟨fun k q hq => ?_, hT⟩
    have hk : k < 11 := (List.getElem?_eq_some_iff.mp hq).1
    have : k = 0 ∨ k = 1 ∨ k = 2 ∨ k = 3 ∨ k = 4 ∨ k = 5 ∨ k = 6 ∨ k = 7 ∨ k = 8 ∨ k = 9 ∨ k = 10 := by omega
    rcases this with rfl | rfl | rfl | rfl | rfl | rfl | rfl | rfl | rfl | rfl | rfl
    · cases hq
      exact hKn0
    · cases hq
      exact hKn1
    · cases hq
      exact hKn2
    · cases hq
      exact hKn3
    · cases hq
      exact hKn4
    · cases hq
      exact hKn5
    · cases hq
      exact hKn6
    · cases hq
      exact hKn7
    · cases hq
      exact hKn8
    · cases hq
      exact hKn9
    · cases hq
      exact hKn10
  generalize (fun c => if c = 0 then c0 else if c = 1 then c1 else if c = 2 then c2 else if c = 3 then c3 else if c = 4 then c4 else if c = 5 then c5 else if c = 6 then c6 else if c = 7 then c7 else if c = 8 then c8 else if c = 9 then c9 else c10, fun c => if c = 0 then f0 else if c = 1 then f1 else if c = 2 then f2 else if c = 3 then f3 else if c = 4 then f4 else if c = 5 then f5 else if c = 6 then f6 else if c = 7 then f7 else if c = 8 then f8 else if c = 9 then f9 else f10) = D at hK
  have w : Wg D T [] (fun q => s.heap.size ≤ q) s s.heap [] := ⟨hK, fun k q h => by simp at h, ⟨fun i j p q h => by simp at h, fun k q h => by simp at h⟩, va_S.rf, fun q h => h⟩
  have hl := lv_entry [Value.ref b] (n := 4) (Nat.le_of_ble_eq_true rfl)
  rw [lg_entry_eq]
  generalize (lg_sl ([Value.ref b]) ++ List.replicate (4 - (lg_sl ([Value.ref b])).length) Slot.unset).toArray = ls at hl ⊢
  have hl : lv_has ls 4 [(0, .ref b)] := hl
  refine i_new C w nkL_7 ⟨Nat.le_of_ble_eq_true rfl, Nat.le_of_ble_eq_true rfl⟩ dL_law_0 (fun q H w => ?_)
  refine lv_dup C.1 C.2.1 dL_law_3 rfl ?_
  refine i_call (wc := [(q, .inr (9, [.null, .null, .null, .null, .null, .null, .int 0]))]) (wr := []) (As := []) (rest := [.ref q]) C hj w (cini_X12_init l D T q H.size) ikL_9 ⟨by decide, by decide⟩ [0] [] rfl rfl (by decide) rfl (by decide) (by decide) rfl rfl hl.1 (Nat.le_of_ble_eq_true rfl) ⟨Nat.le_of_ble_eq_true rfl, Nat.le_of_ble_eq_true rfl⟩ dL_law_4 (fun u H locs w => ?_)
  have w : Wg D T (wC1 T q u) (fun q => s.heap.size ≤ q) s H locs := w
  obtain ⟨e1, e2⟩ := endC w.2.1 w.2.2.1
  have w : Wg D T (wl Yc T (roC q u) SC0) (fun q => s.heap.size ≤ q) s H locs := ⟨w.1, e1, e2, w.2.2.2⟩
  refine lv_astore_n (lv' := [(1, .ref q), (0, .ref b)]) C.1 C.2.1 dL_law_7 rfl hl (by decide) rfl (fun ls hl => ?_)
  refine i_new C w nkL_10 ⟨Nat.le_of_ble_eq_true rfl, Nat.le_of_ble_eq_true rfl⟩ dL_law_8 (fun q2 H w => ?_)
  refine lv_dup C.1 C.2.1 dL_law_11 rfl ?_
  have h81 : (wl Yc T (roC q u) SC0).length = 81 := wl_len
  have hat : (wl Yc T (roC q u) SC0 ++ [(q2, .inr (10, fsM))])[81]? = some (q2, .inr (10, fsM)) := by
    rw [List.getElem?_append_right (by rw [h81]; exact Nat.le_refl _), h81]
    rfl
  refine i_call (wc := [(q2, .inr (10, fsM))]) (wr := wl Yc T (roC q u) SC0) (As := []) (rest := [.ref q2]) C hj w (cini_X13 l D T q2 g H.size hbg) ikL_12 ⟨by decide, by decide⟩ [81] (List.range 81) (by rw [List.map_cons, hat]; rfl) (by rw [List.filterMap_cons, hat]; rfl) (by decide) (rg_l h81) (by decide) (by decide) rfl rfl hl.1 (Nat.le_of_ble_eq_true rfl) ⟨Nat.le_of_ble_eq_true rfl, Nat.le_of_ble_eq_true rfl⟩ dL_law_12 (fun u2 H locs w => ?_)
  refine lv_astore_n (lv' := [(2, .ref q2), (1, .ref q), (0, .ref b)]) C.1 C.2.1 dL_law_15 rfl hl (by decide) rfl (fun ls hl => ?_)
  refine lv_iconst (v := 0) C.1 C.2.1 dL_law_16 (by decide) ?_
  refine lv_istore_n (lv' := [(3, .int 0), (2, .ref q2), (1, .ref q), (0, .ref b)]) C.1 C.2.1 dL_law_17 rfl hl (by decide) rfl (fun ls hl => ?_)
  refine W.widen (k := 122 + (kap SC0 - kap SC0)) (n := 69341 + 2 * (kap SC0 - kap SC0)) (by rw [Nat.sub_self]; exact Nat.le_of_ble_eq_true rfl) (by rw [Nat.sub_self]; exact Nat.le_of_ble_eq_true rfl) ?_
  exact law_at C hr hlk hcn hcw hX hbl hL hB N 0 SC0 SM (roC q u) (fun c => if c = 0 then q2 else u2 c) H locs ls (by omega) (by omega) (by omega) (Nat.le_refl _) hB.1 w (lv_sub hl [0, 3, 2, 1] rfl)
