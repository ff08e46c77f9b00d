theorem dX4_sortOf_0 : decode cX4_sortOf 0 = .ok (.getstatic 72, 3) := by decide +kernel
theorem dX4_sortOf_3 : decode cX4_sortOf 3 = .ok (.aload_n 0, 1) := by decide +kernel
theorem dX4_sortOf_4 : decode cX4_sortOf 4 = .ok (.getfield 9, 3) := by decide +kernel
theorem dX4_sortOf_7 : decode cX4_sortOf 7 = .ok (.iload_n 1, 1) := by decide +kernel
theorem dX4_sortOf_8 : decode cX4_sortOf 8 = .ok (.iaload, 1) := by decide +kernel
theorem dX4_sortOf_9 : decode cX4_sortOf 9 = .ok (.aaload, 1) := by decide +kernel
theorem dX4_sortOf_10 : decode cX4_sortOf 10 = .ok (.areturn, 1) := by decide +kernel
/-- Program.sortOf -/
def m_Pg_sortOf (g : Nat) (S : St) (x0 : Nat) (x1 : Int32) : Option Nat := (aI S (50 + 8 * x0 + 0) x1).bind fun v => eS v
set_option maxRecDepth 100000 in
theorem k_Pg_sortOf (l : Launch) (Z : Ad) (D : va_G) (T : Cy) (ρ : Nat → Nat) (g sz : Nat) (S : St) {x0 : Nat} {x1 : Int32} (ho : Ob Yc x0 2) {k : Nat} (h : m_Pg_sortOf g S x0 x1 = some k) : MeC l Z D T ρ yX4_sortOf cX4_sortOf 2 (some (.object "TextLessons$Sort")) 0 0 S S k [.ref (ρ x0), .int x1] sz := by
  refine x_inC (by decide) (Nat.le_of_ble_eq_true rfl) (fun p e s m below meth c ls C hr hk hcn hcw w hl => ?_)
  have hl : lv_has ls 2 [(0, .ref (ρ x0)), (1, .int x1)] := hl
  unfold m_Pg_sortOf at h
  obtain ⟨v, hv, h⟩ := bnd h
  refine x_sorts C w hcn hcw.2.1 dX4_sortOf_0 ?_
  refine lv_aload_n C.1 C.2.1 dX4_sortOf_3 rfl (lv_at hl 0 rfl) ?_
  refine x_getC C w (50 + 8 * x0 + 0) fX4_9 ho (crP0 ho) dX4_sortOf_4 ?_
  refine lv_iload_n C.1 C.2.1 dX4_sortOf_7 rfl (lv_at hl 1 rfl) ?_
  refine x_iald C w (obP0 ho) hv dX4_sortOf_8 ?_
  refine x_eald C w hcn h dX4_sortOf_9 ?_
  exact W.widen (Nat.zero_le _) (Nat.zero_le _) (W.aret C.1 C.2.1 hr (Or.inl ⟨_, rfl⟩) (Or.inr ⟨_, rfl⟩) (fun t ht hW => ⟨⟨ρ, Z.1 k, rfl, Ag.rf, rfl, by rw [ht]; exact w.2.1, va_K.moved hW.alike w.1, w.2.2.1⟩, w.2.2.2.1.F ht⟩) w.2.2.2.1.2.2 dX4_sortOf_10 hk)
