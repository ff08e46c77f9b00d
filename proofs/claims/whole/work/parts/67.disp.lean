/-! the STEPS by their sorts: which leaf of each side does them -/
theorem dC_0 {g : Nat} {S : St} {v_1 : Int32} (h1 : m_Bn_textAt g S (1 : Int32) = some v_1) {S_2 : St} (h2 : m_Row_clear g S 23 = some S_2) : m_TS_give g S 0 = (
  (m_Bn_giveText g S_2 v_1).bind fun (S_5, v_6) =>
  some (S_5, v_6)) := by
  unfold m_TS_give
  rw [h1, Option.bind_some]
  rw [h2, Option.bind_some]
  rw [show eS (nI 0) = some 0 from by decide +kernel, Option.bind_some]
  rw [if_pos (show (swT.getD 0 0) = (1 : Int32) from by decide +kernel)]
theorem dM_0 {g : Nat} {S : St} {x2 : Int32} {x3 : Int32} : m_does g S (nI 0) x2 x3 = (
  (m_names g (sI S 0 57 (0 : Int32)) (nI 0) x2 x3).bind fun S_8 =>
  some S_8) := by
  unfold m_does
  rw [lt_d]
  rw [if_neg (show ¬ ((4 : Int32) < (nI 0)) from by decide +kernel)]
theorem dM2_0 {g : Nat} {S : St} {x2 : Int32} {x3 : Int32} : m_names g S (nI 0) x2 x3 = (
  (m_text g S (x2 + (1 : Int32))).bind fun v_7 =>
  (m_givesText g S x2 v_7).bind fun S_8 =>
  some S_8) := by
  unfold m_names
  rw [if_pos (show (nI 0) = 0 from by decide +kernel)]
theorem dC_1 {g : Nat} {S : St} {v_1 : Int32} (h1 : m_Bn_textAt g S (1 : Int32) = some v_1) {S_2 : St} (h2 : m_Row_clear g S 23 = some S_2) : m_TS_give g S 1 = (
  (m_Bn_giveText g S_2 (-1 : Int32)).bind fun (S_7, v_8) =>
  some (S_7, v_8)) := by
  unfold m_TS_give
  rw [h1, Option.bind_some]
  rw [h2, Option.bind_some]
  rw [show eS (nI 1) = some 1 from by decide +kernel, Option.bind_some]
  rw [if_neg (show ¬ ((swT.getD 1 0) = (1 : Int32)) from by decide +kernel)]
  rw [if_pos (show (swT.getD 1 0) = (2 : Int32) from by decide +kernel)]
theorem dM_1 {g : Nat} {S : St} {x2 : Int32} {x3 : Int32} : m_does g S (nI 1) x2 x3 = (
  (m_names g (sI S 0 57 (0 : Int32)) (nI 1) x2 x3).bind fun S_8 =>
  some S_8) := by
  unfold m_does
  rw [lt_d]
  rw [if_neg (show ¬ ((4 : Int32) < (nI 1)) from by decide +kernel)]
theorem dM2_1 {g : Nat} {S : St} {x2 : Int32} {x3 : Int32} : m_names g S (nI 1) x2 x3 = (
  (m_givesText g S x2 (-1 : Int32)).bind fun S_6 =>
  some S_6) := by
  unfold m_names
  rw [if_neg (show ¬ ((nI 1) = 0) from by decide +kernel)]
  rw [if_pos (show (nI 1) = (1 : Int32) from by decide +kernel)]
theorem dC_2 {g : Nat} {S : St} {v_1 : Int32} (h1 : m_Bn_textAt g S (1 : Int32) = some v_1) {S_2 : St} (h2 : m_Row_clear g S 23 = some S_2) : m_TS_give g S 2 = (
  (m_Bn_addText g S_2 v_1).bind fun S_9 =>
  m_TS_give_130 g S_9) := by
  unfold m_TS_give
  rw [h1, Option.bind_some]
  rw [h2, Option.bind_some]
  rw [show eS (nI 2) = some 2 from by decide +kernel, Option.bind_some]
  rw [if_neg (show ¬ ((swT.getD 2 0) = (1 : Int32)) from by decide +kernel)]
  rw [if_neg (show ¬ ((swT.getD 2 0) = (2 : Int32)) from by decide +kernel)]
  rw [if_pos (show (swT.getD 2 0) = (3 : Int32) from by decide +kernel)]
theorem dM_2 {g : Nat} {S : St} {x2 : Int32} {x3 : Int32} : m_does g S (nI 2) x2 x3 = (
  (m_names g (sI S 0 57 (0 : Int32)) (nI 2) x2 x3).bind fun S_8 =>
  some S_8) := by
  unfold m_does
  rw [lt_d]
  rw [if_neg (show ¬ ((4 : Int32) < (nI 2)) from by decide +kernel)]
theorem dM2_2 {g : Nat} {S : St} {x2 : Int32} {x3 : Int32} {S_1 : St} {v_2 : Int32} (h1 : m_textAt g S (x2 + (1 : Int32)) = some (S_1, v_2)) : m_names g S (nI 2) x2 x3 = (
  if (gI S_1 0 58) = 0 then (
    if (nI 2) = (2 : Int32) then (
      (aI S_1 24 v_2).bind fun v_3 =>
      (m_emitText g S_1 v_2 (0 : Int32) v_3).bind fun S_4 =>
      m_names_83 g S_4 (nI 2) x2 v_2
    ) else (
      m_names_83 g S_1 (nI 2) x2 v_2
    )
  ) else (
    some S_1
  )) := by
  unfold m_names
  rw [if_neg (show ¬ ((nI 2) = 0) from by decide +kernel)]
  rw [if_neg (show ¬ ((nI 2) = (1 : Int32)) from by decide +kernel)]
  rw [if_neg (show ¬ ((nI 2) = (4 : Int32)) from by decide +kernel)]
  rw [h1, Option.bind_some]
  try dsimp only
theorem dC_3 {g : Nat} {S : St} {v_1 : Int32} (h1 : m_Bn_textAt g S (1 : Int32) = some v_1) {S_2 : St} (h2 : m_Row_clear g S 23 = some S_2) : m_TS_give g S 3 = (
  (m_TS_intern g S_2 v_1).bind fun (S_10, v_11) =>
  m_TS_give_155 g S_10 v_11) := by
  unfold m_TS_give
  rw [h1, Option.bind_some]
  rw [h2, Option.bind_some]
  rw [show eS (nI 3) = some 3 from by decide +kernel, Option.bind_some]
  rw [if_neg (show ¬ ((swT.getD 3 0) = (1 : Int32)) from by decide +kernel)]
  rw [if_neg (show ¬ ((swT.getD 3 0) = (2 : Int32)) from by decide +kernel)]
  rw [if_neg (show ¬ ((swT.getD 3 0) = (3 : Int32)) from by decide +kernel)]
  rw [if_pos (show (swT.getD 3 0) = (4 : Int32) from by decide +kernel)]
theorem dM_3 {g : Nat} {S : St} {x2 : Int32} {x3 : Int32} : m_does g S (nI 3) x2 x3 = (
  (m_names g (sI S 0 57 (0 : Int32)) (nI 3) x2 x3).bind fun S_8 =>
  some S_8) := by
  unfold m_does
  rw [lt_d]
  rw [if_neg (show ¬ ((4 : Int32) < (nI 3)) from by decide +kernel)]
theorem dM2_3 {g : Nat} {S : St} {x2 : Int32} {x3 : Int32} {S_1 : St} {v_2 : Int32} (h1 : m_textAt g S (x2 + (1 : Int32)) = some (S_1, v_2)) : m_names g S (nI 3) x2 x3 = (
  if (gI S_1 0 58) = 0 then (
    if (nI 3) = (2 : Int32) then (
      (aI S_1 24 v_2).bind fun v_3 =>
      (m_emitText g S_1 v_2 (0 : Int32) v_3).bind fun S_4 =>
      m_names_83 g S_4 (nI 3) x2 v_2
    ) else (
      m_names_83 g S_1 (nI 3) x2 v_2
    )
  ) else (
    some S_1
  )) := by
  unfold m_names
  rw [if_neg (show ¬ ((nI 3) = 0) from by decide +kernel)]
  rw [if_neg (show ¬ ((nI 3) = (1 : Int32)) from by decide +kernel)]
  rw [if_neg (show ¬ ((nI 3) = (4 : Int32)) from by decide +kernel)]
  rw [h1, Option.bind_some]
  try dsimp only
theorem dC_4 {g : Nat} {S : St} {v_1 : Int32} (h1 : m_Bn_textAt g S (1 : Int32) = some v_1) {S_2 : St} (h2 : m_Row_clear g S 23 = some S_2) : m_TS_give g S 4 = (
  (m_TS_join g S_2).bind fun (S_12, v_13) =>
  m_TS_give_160 g S_12 v_13) := by
  unfold m_TS_give
  rw [h1, Option.bind_some]
  rw [h2, Option.bind_some]
  rw [show eS (nI 4) = some 4 from by decide +kernel, Option.bind_some]
  rw [if_neg (show ¬ ((swT.getD 4 0) = (1 : Int32)) from by decide +kernel)]
  rw [if_neg (show ¬ ((swT.getD 4 0) = (2 : Int32)) from by decide +kernel)]
  rw [if_neg (show ¬ ((swT.getD 4 0) = (3 : Int32)) from by decide +kernel)]
  rw [if_neg (show ¬ ((swT.getD 4 0) = (4 : Int32)) from by decide +kernel)]
  rw [if_pos (show (swT.getD 4 0) = (5 : Int32) from by decide +kernel)]
theorem dM_4 {g : Nat} {S : St} {x2 : Int32} {x3 : Int32} : m_does g S (nI 4) x2 x3 = (
  (m_names g (sI S 0 57 (0 : Int32)) (nI 4) x2 x3).bind fun S_8 =>
  some S_8) := by
  unfold m_does
  rw [lt_d]
  rw [if_neg (show ¬ ((4 : Int32) < (nI 4)) from by decide +kernel)]
theorem dM2_4 {g : Nat} {S : St} {x2 : Int32} {x3 : Int32} : m_names g S (nI 4) x2 x3 = (
  (m_joins g S x2 x3).bind fun S_5 =>
  some S_5) := by
  unfold m_names
  rw [if_neg (show ¬ ((nI 4) = 0) from by decide +kernel)]
  rw [if_neg (show ¬ ((nI 4) = (1 : Int32)) from by decide +kernel)]
  rw [if_pos (show (nI 4) = (4 : Int32) from by decide +kernel)]
theorem dC_5 {g : Nat} {S : St} : m_WS_give g S 5 = (
  (m_Bn_textAt g S (1 : Int32)).bind fun v_55 =>
  (m_Bn_textAt g S (2 : Int32)).bind fun v_56 =>
  (m_WS_giveOfTwo g S 5 v_55 v_56).bind fun (S_57, v_58) =>
  m_WS_give_384 g S_57 v_58) := by
  unfold m_WS_give
  rw [show eS (nI 5) = some 5 from by decide +kernel, Option.bind_some]
  rw [if_neg (show ¬ ((swT.getD 5 0) = (21 : Int32)) from by decide +kernel)]
  rw [if_neg (show ¬ ((swT.getD 5 0) = (22 : Int32)) from by decide +kernel)]
  rw [if_neg (show ¬ ((swT.getD 5 0) = (23 : Int32)) from by decide +kernel)]
  rw [if_neg (show ¬ ((swT.getD 5 0) = (24 : Int32)) from by decide +kernel)]
  rw [if_neg (show ¬ ((swT.getD 5 0) = (25 : Int32)) from by decide +kernel)]
  rw [if_neg (show ¬ ((swT.getD 5 0) = (26 : Int32)) from by decide +kernel)]
  rw [if_neg (show ¬ ((swT.getD 5 0) = (27 : Int32)) from by decide +kernel)]
  rw [if_neg (show ¬ ((swT.getD 5 0) = (28 : Int32)) from by decide +kernel)]
  rw [if_neg (show ¬ ((swT.getD 5 0) = (29 : Int32)) from by decide +kernel)]
  rw [if_neg (show ¬ ((swT.getD 5 0) = (30 : Int32)) from by decide +kernel)]
  rw [if_neg (show ¬ ((swT.getD 5 0) = (31 : Int32)) from by decide +kernel)]
  rw [if_neg (show ¬ ((swT.getD 5 0) = (32 : Int32)) from by decide +kernel)]
  rw [if_neg (show ¬ ((swT.getD 5 0) = (33 : Int32)) from by decide +kernel)]
  rw [if_neg (show ¬ ((swT.getD 5 0) = (34 : Int32)) from by decide +kernel)]
  rw [if_neg (show ¬ ((swT.getD 5 0) = (35 : Int32)) from by decide +kernel)]
  rw [if_neg (show ¬ ((swT.getD 5 0) = (36 : Int32)) from by decide +kernel)]
  rw [if_neg (show ¬ ((swT.getD 5 0) = (37 : Int32)) from by decide +kernel)]
theorem dC2_5 {g : Nat} {S : St} {x2 : Int32} {x3 : Int32} : m_WS_giveOfTwo g S 5 x2 x3 = (
  if x2 = x3 then (
    m_WS_giveOfTwo_67 g S (1 : Int32)
  ) else (
    m_WS_giveOfTwo_67 g S (0 : Int32)
  )) := by
  unfold m_WS_giveOfTwo
  rw [show eS (nI 5) = some 5 from by decide +kernel, Option.bind_some]
  rw [if_pos (show (swT.getD 5 0) = (38 : Int32) from by decide +kernel)]
theorem dM_5 {g : Nat} {S : St} {x2 : Int32} {x3 : Int32} : m_does g S (nI 5) x2 x3 = (
  (m_compares g (sI S 0 57 (0 : Int32)) (nI 5) x2).bind fun S_7 =>
  some S_7) := by
  unfold m_does
  rw [lt_d]
  rw [if_pos (show (4 : Int32) < (nI 5) from by decide +kernel)]
  rw [if_neg (show ¬ ((10 : Int32) < (nI 5)) from by decide +kernel)]
theorem dM2_5 {g : Nat} {S : St} {x2 : Int32} : m_compares g S (nI 5) x2 = (
  (m_text g S (x2 + (1 : Int32))).bind fun v_6 =>
  (m_text g S (x2 + (2 : Int32))).bind fun v_7 =>
  if v_6 = v_7 then (
    m_compares_29 g S x2 (1 : Int64)
  ) else (
    m_compares_29 g S x2 (0 : Int64)
  )) := by
  unfold m_compares
  rw [if_pos (show (nI 5) = (5 : Int32) from by decide +kernel)]
theorem dC_6 {g : Nat} {S : St} : m_WS_give g S 6 = (
  (m_Bn_textAt g S (1 : Int32)).bind fun v_55 =>
  (m_Bn_textAt g S (2 : Int32)).bind fun v_56 =>
  (m_WS_giveOfTwo g S 6 v_55 v_56).bind fun (S_57, v_58) =>
  m_WS_give_384 g S_57 v_58) := by
  unfold m_WS_give
  rw [show eS (nI 6) = some 6 from by decide +kernel, Option.bind_some]
  rw [if_neg (show ¬ ((swT.getD 6 0) = (21 : Int32)) from by decide +kernel)]
  rw [if_neg (show ¬ ((swT.getD 6 0) = (22 : Int32)) from by decide +kernel)]
  rw [if_neg (show ¬ ((swT.getD 6 0) = (23 : Int32)) from by decide +kernel)]
  rw [if_neg (show ¬ ((swT.getD 6 0) = (24 : Int32)) from by decide +kernel)]
  rw [if_neg (show ¬ ((swT.getD 6 0) = (25 : Int32)) from by decide +kernel)]
  rw [if_neg (show ¬ ((swT.getD 6 0) = (26 : Int32)) from by decide +kernel)]
  rw [if_neg (show ¬ ((swT.getD 6 0) = (27 : Int32)) from by decide +kernel)]
  rw [if_neg (show ¬ ((swT.getD 6 0) = (28 : Int32)) from by decide +kernel)]
  rw [if_neg (show ¬ ((swT.getD 6 0) = (29 : Int32)) from by decide +kernel)]
  rw [if_neg (show ¬ ((swT.getD 6 0) = (30 : Int32)) from by decide +kernel)]
  rw [if_neg (show ¬ ((swT.getD 6 0) = (31 : Int32)) from by decide +kernel)]
  rw [if_neg (show ¬ ((swT.getD 6 0) = (32 : Int32)) from by decide +kernel)]
  rw [if_neg (show ¬ ((swT.getD 6 0) = (33 : Int32)) from by decide +kernel)]
  rw [if_neg (show ¬ ((swT.getD 6 0) = (34 : Int32)) from by decide +kernel)]
  rw [if_neg (show ¬ ((swT.getD 6 0) = (35 : Int32)) from by decide +kernel)]
  rw [if_neg (show ¬ ((swT.getD 6 0) = (36 : Int32)) from by decide +kernel)]
  rw [if_neg (show ¬ ((swT.getD 6 0) = (37 : Int32)) from by decide +kernel)]
theorem dC2_6 {g : Nat} {S : St} {x2 : Int32} {x3 : Int32} : m_WS_giveOfTwo g S 6 x2 x3 = (
  if x3 = (-1 : Int32) then (
    m_WS_giveOfTwo_93 g S
  ) else (
    (m_Tx_areEqual g S x2 x3).bind fun v_3 =>
    if v_3 = 0 then (
      m_WS_giveOfTwo_93 g S
    ) else (
      m_WS_giveOfTwo_94 g S (1 : Int32)
    )
  )) := by
  unfold m_WS_giveOfTwo
  rw [show eS (nI 6) = some 6 from by decide +kernel, Option.bind_some]
  rw [if_neg (show ¬ ((swT.getD 6 0) = (38 : Int32)) from by decide +kernel)]
  rw [if_pos (show (swT.getD 6 0) = (39 : Int32) from by decide +kernel)]
theorem dM_6 {g : Nat} {S : St} {x2 : Int32} {x3 : Int32} : m_does g S (nI 6) x2 x3 = (
  (m_compares g (sI S 0 57 (0 : Int32)) (nI 6) x2).bind fun S_7 =>
  some S_7) := by
  unfold m_does
  rw [lt_d]
  rw [if_pos (show (4 : Int32) < (nI 6) from by decide +kernel)]
  rw [if_neg (show ¬ ((10 : Int32) < (nI 6)) from by decide +kernel)]
theorem dM2_6 {g : Nat} {S : St} {x2 : Int32} {S_1 : St} {v_2 : Int32} (h1 : m_textAt g S (x2 + (1 : Int32)) = some (S_1, v_2)) : m_compares g S (nI 6) x2 = (
  (m_text g S_1 (x2 + (2 : Int32))).bind fun v_3 =>
  m_compares_74 g S_1 (nI 6) x2 v_2 v_3) := by
  unfold m_compares
  rw [if_neg (show ¬ ((nI 6) = (5 : Int32)) from by decide +kernel)]
  rw [h1, Option.bind_some]
  try dsimp only
  rw [if_pos (show (nI 6) ≤ (8 : Int32) from by decide +kernel)]
  rw [if_neg (show ¬ ((nI 6) = (8 : Int32)) from by decide +kernel)]
theorem dC_7 {g : Nat} {S : St} : m_WS_give g S 7 = (
  (m_Bn_textAt g S (1 : Int32)).bind fun v_55 =>
  (m_Bn_textAt g S (2 : Int32)).bind fun v_56 =>
  (m_WS_giveOfTwo g S 7 v_55 v_56).bind fun (S_57, v_58) =>
  m_WS_give_384 g S_57 v_58) := by
  unfold m_WS_give
  rw [show eS (nI 7) = some 7 from by decide +kernel, Option.bind_some]
  rw [if_neg (show ¬ ((swT.getD 7 0) = (21 : Int32)) from by decide +kernel)]
  rw [if_neg (show ¬ ((swT.getD 7 0) = (22 : Int32)) from by decide +kernel)]
  rw [if_neg (show ¬ ((swT.getD 7 0) = (23 : Int32)) from by decide +kernel)]
  rw [if_neg (show ¬ ((swT.getD 7 0) = (24 : Int32)) from by decide +kernel)]
  rw [if_neg (show ¬ ((swT.getD 7 0) = (25 : Int32)) from by decide +kernel)]
  rw [if_neg (show ¬ ((swT.getD 7 0) = (26 : Int32)) from by decide +kernel)]
  rw [if_neg (show ¬ ((swT.getD 7 0) = (27 : Int32)) from by decide +kernel)]
  rw [if_neg (show ¬ ((swT.getD 7 0) = (28 : Int32)) from by decide +kernel)]
  rw [if_neg (show ¬ ((swT.getD 7 0) = (29 : Int32)) from by decide +kernel)]
  rw [if_neg (show ¬ ((swT.getD 7 0) = (30 : Int32)) from by decide +kernel)]
  rw [if_neg (show ¬ ((swT.getD 7 0) = (31 : Int32)) from by decide +kernel)]
  rw [if_neg (show ¬ ((swT.getD 7 0) = (32 : Int32)) from by decide +kernel)]
  rw [if_neg (show ¬ ((swT.getD 7 0) = (33 : Int32)) from by decide +kernel)]
  rw [if_neg (show ¬ ((swT.getD 7 0) = (34 : Int32)) from by decide +kernel)]
  rw [if_neg (show ¬ ((swT.getD 7 0) = (35 : Int32)) from by decide +kernel)]
  rw [if_neg (show ¬ ((swT.getD 7 0) = (36 : Int32)) from by decide +kernel)]
  rw [if_neg (show ¬ ((swT.getD 7 0) = (37 : Int32)) from by decide +kernel)]
theorem dC2_7 {g : Nat} {S : St} {x2 : Int32} {x3 : Int32} : m_WS_giveOfTwo g S 7 x2 x3 = (
  if x3 = (-1 : Int32) then (
    m_WS_giveOfTwo_120 g S
  ) else (
    (m_Tx_areAlike g S x2 x3).bind fun v_4 =>
    if v_4 = 0 then (
      m_WS_giveOfTwo_120 g S
    ) else (
      m_WS_giveOfTwo_121 g S (1 : Int32)
    )
  )) := by
  unfold m_WS_giveOfTwo
  rw [show eS (nI 7) = some 7 from by decide +kernel, Option.bind_some]
  rw [if_neg (show ¬ ((swT.getD 7 0) = (38 : Int32)) from by decide +kernel)]
  rw [if_neg (show ¬ ((swT.getD 7 0) = (39 : Int32)) from by decide +kernel)]
  rw [if_pos (show (swT.getD 7 0) = (40 : Int32) from by decide +kernel)]
theorem dM_7 {g : Nat} {S : St} {x2 : Int32} {x3 : Int32} : m_does g S (nI 7) x2 x3 = (
  (m_compares g (sI S 0 57 (0 : Int32)) (nI 7) x2).bind fun S_7 =>
  some S_7) := by
  unfold m_does
  rw [lt_d]
  rw [if_pos (show (4 : Int32) < (nI 7) from by decide +kernel)]
  rw [if_neg (show ¬ ((10 : Int32) < (nI 7)) from by decide +kernel)]
theorem dM2_7 {g : Nat} {S : St} {x2 : Int32} {S_1 : St} {v_2 : Int32} (h1 : m_textAt g S (x2 + (1 : Int32)) = some (S_1, v_2)) : m_compares g S (nI 7) x2 = (
  (m_text g S_1 (x2 + (2 : Int32))).bind fun v_3 =>
  m_compares_74 g S_1 (nI 7) x2 v_2 v_3) := by
  unfold m_compares
  rw [if_neg (show ¬ ((nI 7) = (5 : Int32)) from by decide +kernel)]
  rw [h1, Option.bind_some]
  try dsimp only
  rw [if_pos (show (nI 7) ≤ (8 : Int32) from by decide +kernel)]
  rw [if_neg (show ¬ ((nI 7) = (8 : Int32)) from by decide +kernel)]
theorem dC_8 {g : Nat} {S : St} : m_WS_give g S 8 = (
  (m_Bn_textAt g S (1 : Int32)).bind fun v_55 =>
  (m_Bn_textAt g S (2 : Int32)).bind fun v_56 =>
  (m_WS_giveOfTwo g S 8 v_55 v_56).bind fun (S_57, v_58) =>
  m_WS_give_384 g S_57 v_58) := by
  unfold m_WS_give
  rw [show eS (nI 8) = some 8 from by decide +kernel, Option.bind_some]
  rw [if_neg (show ¬ ((swT.getD 8 0) = (21 : Int32)) from by decide +kernel)]
  rw [if_neg (show ¬ ((swT.getD 8 0) = (22 : Int32)) from by decide +kernel)]
  rw [if_neg (show ¬ ((swT.getD 8 0) = (23 : Int32)) from by decide +kernel)]
  rw [if_neg (show ¬ ((swT.getD 8 0) = (24 : Int32)) from by decide +kernel)]
  rw [if_neg (show ¬ ((swT.getD 8 0) = (25 : Int32)) from by decide +kernel)]
  rw [if_neg (show ¬ ((swT.getD 8 0) = (26 : Int32)) from by decide +kernel)]
  rw [if_neg (show ¬ ((swT.getD 8 0) = (27 : Int32)) from by decide +kernel)]
  rw [if_neg (show ¬ ((swT.getD 8 0) = (28 : Int32)) from by decide +kernel)]
  rw [if_neg (show ¬ ((swT.getD 8 0) = (29 : Int32)) from by decide +kernel)]
  rw [if_neg (show ¬ ((swT.getD 8 0) = (30 : Int32)) from by decide +kernel)]
  rw [if_neg (show ¬ ((swT.getD 8 0) = (31 : Int32)) from by decide +kernel)]
  rw [if_neg (show ¬ ((swT.getD 8 0) = (32 : Int32)) from by decide +kernel)]
  rw [if_neg (show ¬ ((swT.getD 8 0) = (33 : Int32)) from by decide +kernel)]
  rw [if_neg (show ¬ ((swT.getD 8 0) = (34 : Int32)) from by decide +kernel)]
  rw [if_neg (show ¬ ((swT.getD 8 0) = (35 : Int32)) from by decide +kernel)]
  rw [if_neg (show ¬ ((swT.getD 8 0) = (36 : Int32)) from by decide +kernel)]
  rw [if_neg (show ¬ ((swT.getD 8 0) = (37 : Int32)) from by decide +kernel)]
theorem dC2_8 {g : Nat} {S : St} {x2 : Int32} {x3 : Int32} : m_WS_giveOfTwo g S 8 x2 x3 = (
  (m_Tx_startOf g S x2).bind fun v_5 =>
  (m_Tx_endOf g S x2).bind fun v_6 =>
  (m_Tx_startOf g S x3).bind fun v_7 =>
  (m_Tx_endOf g S x3).bind fun v_8 =>
  (m_Row_orderTo g S 18 v_5 v_6 18 v_7 v_8).bind fun v_9 =>
  (m_Bn_giveWhole g S (v_9.toInt64)).bind fun (S_10, v_11) =>
  some (S_10, v_11)) := by
  unfold m_WS_giveOfTwo
  rw [show eS (nI 8) = some 8 from by decide +kernel, Option.bind_some]
  rw [if_neg (show ¬ ((swT.getD 8 0) = (38 : Int32)) from by decide +kernel)]
  rw [if_neg (show ¬ ((swT.getD 8 0) = (39 : Int32)) from by decide +kernel)]
  rw [if_neg (show ¬ ((swT.getD 8 0) = (40 : Int32)) from by decide +kernel)]
  rw [if_pos (show (swT.getD 8 0) = (41 : Int32) from by decide +kernel)]
theorem dM_8 {g : Nat} {S : St} {x2 : Int32} {x3 : Int32} : m_does g S (nI 8) x2 x3 = (
  (m_compares g (sI S 0 57 (0 : Int32)) (nI 8) x2).bind fun S_7 =>
  some S_7) := by
  unfold m_does
  rw [lt_d]
  rw [if_pos (show (4 : Int32) < (nI 8) from by decide +kernel)]
  rw [if_neg (show ¬ ((10 : Int32) < (nI 8)) from by decide +kernel)]
theorem dM2_8 {g : Nat} {S : St} {x2 : Int32} {S_1 : St} {v_2 : Int32} (h1 : m_textAt g S (x2 + (1 : Int32)) = some (S_1, v_2)) : m_compares g S (nI 8) x2 = (
  (m_textAt g S_1 (x2 + (2 : Int32))).bind fun (S_4, v_5) =>
  m_compares_74 g S_4 (nI 8) x2 v_2 v_5) := by
  unfold m_compares
  rw [if_neg (show ¬ ((nI 8) = (5 : Int32)) from by decide +kernel)]
  rw [h1, Option.bind_some]
  try dsimp only
  rw [if_pos (show (nI 8) ≤ (8 : Int32) from by decide +kernel)]
  rw [if_pos (show (nI 8) = (8 : Int32) from by decide +kernel)]
theorem dC_9 {g : Nat} {S : St} : m_WS_give g S 9 = (
  (m_Bn_textAt g S (1 : Int32)).bind fun v_29 =>
  (m_Tx_hashOf g S v_29).bind fun v_30 =>
  (m_Bn_giveWhole g S (v_30.toInt64)).bind fun (S_31, v_32) =>
  some (S_31, v_32)) := by
  unfold m_WS_give
  rw [show eS (nI 9) = some 9 from by decide +kernel, Option.bind_some]
  rw [if_neg (show ¬ ((swT.getD 9 0) = (21 : Int32)) from by decide +kernel)]
  rw [if_neg (show ¬ ((swT.getD 9 0) = (22 : Int32)) from by decide +kernel)]
  rw [if_neg (show ¬ ((swT.getD 9 0) = (23 : Int32)) from by decide +kernel)]
  rw [if_neg (show ¬ ((swT.getD 9 0) = (24 : Int32)) from by decide +kernel)]
  rw [if_neg (show ¬ ((swT.getD 9 0) = (25 : Int32)) from by decide +kernel)]
  rw [if_neg (show ¬ ((swT.getD 9 0) = (26 : Int32)) from by decide +kernel)]
  rw [if_neg (show ¬ ((swT.getD 9 0) = (27 : Int32)) from by decide +kernel)]
  rw [if_neg (show ¬ ((swT.getD 9 0) = (28 : Int32)) from by decide +kernel)]
  rw [if_neg (show ¬ ((swT.getD 9 0) = (29 : Int32)) from by decide +kernel)]
  rw [if_pos (show (swT.getD 9 0) = (30 : Int32) from by decide +kernel)]
theorem dM_9 {g : Nat} {S : St} {x2 : Int32} {x3 : Int32} : m_does g S (nI 9) x2 x3 = (
  (m_compares g (sI S 0 57 (0 : Int32)) (nI 9) x2).bind fun S_7 =>
  some S_7) := by
  unfold m_does
  rw [lt_d]
  rw [if_pos (show (4 : Int32) < (nI 9) from by decide +kernel)]
  rw [if_neg (show ¬ ((10 : Int32) < (nI 9)) from by decide +kernel)]
theorem dM2_9 {g : Nat} {S : St} {x2 : Int32} {S_1 : St} {v_2 : Int32} (h1 : m_textAt g S (x2 + (1 : Int32)) = some (S_1, v_2)) : m_compares g S (nI 9) x2 = (
  m_compares_74 g S_1 (nI 9) x2 v_2 (0 : Int32)) := by
  unfold m_compares
  rw [if_neg (show ¬ ((nI 9) = (5 : Int32)) from by decide +kernel)]
  rw [h1, Option.bind_some]
  try dsimp only
  rw [if_neg (show ¬ ((nI 9) ≤ (8 : Int32)) from by decide +kernel)]
theorem dC_10 {g : Nat} {S : St} : m_WS_give g S 10 = (
  (m_Bn_textAt g S (1 : Int32)).bind fun v_33 =>
  (m_Tx_sizeOf g S v_33).bind fun v_34 =>
  (m_Bn_giveWhole g S (v_34.toInt64)).bind fun (S_35, v_36) =>
  some (S_35, v_36)) := by
  unfold m_WS_give
  rw [show eS (nI 10) = some 10 from by decide +kernel, Option.bind_some]
  rw [if_neg (show ¬ ((swT.getD 10 0) = (21 : Int32)) from by decide +kernel)]
  rw [if_neg (show ¬ ((swT.getD 10 0) = (22 : Int32)) from by decide +kernel)]
  rw [if_neg (show ¬ ((swT.getD 10 0) = (23 : Int32)) from by decide +kernel)]
  rw [if_neg (show ¬ ((swT.getD 10 0) = (24 : Int32)) from by decide +kernel)]
  rw [if_neg (show ¬ ((swT.getD 10 0) = (25 : Int32)) from by decide +kernel)]
  rw [if_neg (show ¬ ((swT.getD 10 0) = (26 : Int32)) from by decide +kernel)]
  rw [if_neg (show ¬ ((swT.getD 10 0) = (27 : Int32)) from by decide +kernel)]
  rw [if_neg (show ¬ ((swT.getD 10 0) = (28 : Int32)) from by decide +kernel)]
  rw [if_neg (show ¬ ((swT.getD 10 0) = (29 : Int32)) from by decide +kernel)]
  rw [if_neg (show ¬ ((swT.getD 10 0) = (30 : Int32)) from by decide +kernel)]
  rw [if_pos (show (swT.getD 10 0) = (31 : Int32) from by decide +kernel)]
theorem dM_10 {g : Nat} {S : St} {x2 : Int32} {x3 : Int32} : m_does g S (nI 10) x2 x3 = (
  (m_compares g (sI S 0 57 (0 : Int32)) (nI 10) x2).bind fun S_7 =>
  some S_7) := by
  unfold m_does
  rw [lt_d]
  rw [if_pos (show (4 : Int32) < (nI 10) from by decide +kernel)]
  rw [if_neg (show ¬ ((10 : Int32) < (nI 10)) from by decide +kernel)]
theorem dM2_10 {g : Nat} {S : St} {x2 : Int32} {S_1 : St} {v_2 : Int32} (h1 : m_textAt g S (x2 + (1 : Int32)) = some (S_1, v_2)) : m_compares g S (nI 10) x2 = (
  m_compares_74 g S_1 (nI 10) x2 v_2 (0 : Int32)) := by
  unfold m_compares
  rw [if_neg (show ¬ ((nI 10) = (5 : Int32)) from by decide +kernel)]
  rw [h1, Option.bind_some]
  try dsimp only
  rw [if_neg (show ¬ ((nI 10) ≤ (8 : Int32)) from by decide +kernel)]
theorem dC_11 {g : Nat} {S : St} : m_WS_give g S 11 = (
  (m_Bn_textAt g S (1 : Int32)).bind fun v_37 =>
  (m_WS_giveUnit g S v_37).bind fun (S_38, v_39) =>
  some (S_38, v_39)) := by
  unfold m_WS_give
  rw [show eS (nI 11) = some 11 from by decide +kernel, Option.bind_some]
  rw [if_neg (show ¬ ((swT.getD 11 0) = (21 : Int32)) from by decide +kernel)]
  rw [if_neg (show ¬ ((swT.getD 11 0) = (22 : Int32)) from by decide +kernel)]
  rw [if_neg (show ¬ ((swT.getD 11 0) = (23 : Int32)) from by decide +kernel)]
  rw [if_neg (show ¬ ((swT.getD 11 0) = (24 : Int32)) from by decide +kernel)]
  rw [if_neg (show ¬ ((swT.getD 11 0) = (25 : Int32)) from by decide +kernel)]
  rw [if_neg (show ¬ ((swT.getD 11 0) = (26 : Int32)) from by decide +kernel)]
  rw [if_neg (show ¬ ((swT.getD 11 0) = (27 : Int32)) from by decide +kernel)]
  rw [if_neg (show ¬ ((swT.getD 11 0) = (28 : Int32)) from by decide +kernel)]
  rw [if_neg (show ¬ ((swT.getD 11 0) = (29 : Int32)) from by decide +kernel)]
  rw [if_neg (show ¬ ((swT.getD 11 0) = (30 : Int32)) from by decide +kernel)]
  rw [if_neg (show ¬ ((swT.getD 11 0) = (31 : Int32)) from by decide +kernel)]
  rw [if_pos (show (swT.getD 11 0) = (32 : Int32) from by decide +kernel)]
theorem dM_11 {g : Nat} {S : St} {x2 : Int32} {x3 : Int32} : m_does g S (nI 11) x2 x3 = (
  (m_looks g (sI S 0 57 (0 : Int32)) (nI 11) x2).bind fun S_6 =>
  some S_6) := by
  unfold m_does
  rw [lt_d]
  rw [if_pos (show (4 : Int32) < (nI 11) from by decide +kernel)]
  rw [if_pos (show (10 : Int32) < (nI 11) from by decide +kernel)]
  rw [if_neg (show ¬ ((15 : Int32) < (nI 11)) from by decide +kernel)]
theorem dM2_11 {g : Nat} {S : St} {x2 : Int32} {S_1 : St} {v_2 : Int32} (h1 : m_textAt g S (x2 + (1 : Int32)) = some (S_1, v_2)) {v_3 : Int64} (h2 : m_value g S_1 (x2 + (2 : Int32)) = some v_3) {v_4 : Int32} (h3 : aI S_1 24 v_2 = some v_4) : m_looks g S (nI 11) x2 = (
  (m_isIn g v_3 (0 : Int64) ((v_4 - (1 : Int32)).toInt64)).bind fun v_5 =>
  if v_5 = 0 then (
    m_looks_180 g S_1 (nI 11) x2 v_2 v_3 v_4
  ) else (
    m_looks_184 g S_1 (nI 11) x2 v_2 v_3 v_4
  )) := by
  unfold m_looks
  rw [h1, Option.bind_some]
  try dsimp only
  rw [h2, Option.bind_some]
  rw [h3, Option.bind_some]
  rw [if_pos (show (nI 11) < (14 : Int32) from by decide +kernel)]
  rw [if_neg (show ¬ ((nI 11) = (13 : Int32)) from by decide +kernel)]
theorem dC_12 {g : Nat} {S : St} : m_WS_give g S 12 = (
  (m_Bn_textAt g S (1 : Int32)).bind fun v_40 =>
  (m_WS_givePoint g S v_40).bind fun (S_41, v_42) =>
  some (S_41, v_42)) := by
  unfold m_WS_give
  rw [show eS (nI 12) = some 12 from by decide +kernel, Option.bind_some]
  rw [if_neg (show ¬ ((swT.getD 12 0) = (21 : Int32)) from by decide +kernel)]
  rw [if_neg (show ¬ ((swT.getD 12 0) = (22 : Int32)) from by decide +kernel)]
  rw [if_neg (show ¬ ((swT.getD 12 0) = (23 : Int32)) from by decide +kernel)]
  rw [if_neg (show ¬ ((swT.getD 12 0) = (24 : Int32)) from by decide +kernel)]
  rw [if_neg (show ¬ ((swT.getD 12 0) = (25 : Int32)) from by decide +kernel)]
  rw [if_neg (show ¬ ((swT.getD 12 0) = (26 : Int32)) from by decide +kernel)]
  rw [if_neg (show ¬ ((swT.getD 12 0) = (27 : Int32)) from by decide +kernel)]
  rw [if_neg (show ¬ ((swT.getD 12 0) = (28 : Int32)) from by decide +kernel)]
  rw [if_neg (show ¬ ((swT.getD 12 0) = (29 : Int32)) from by decide +kernel)]
  rw [if_neg (show ¬ ((swT.getD 12 0) = (30 : Int32)) from by decide +kernel)]
  rw [if_neg (show ¬ ((swT.getD 12 0) = (31 : Int32)) from by decide +kernel)]
  rw [if_neg (show ¬ ((swT.getD 12 0) = (32 : Int32)) from by decide +kernel)]
  rw [if_pos (show (swT.getD 12 0) = (33 : Int32) from by decide +kernel)]
theorem dM_12 {g : Nat} {S : St} {x2 : Int32} {x3 : Int32} : m_does g S (nI 12) x2 x3 = (
  (m_looks g (sI S 0 57 (0 : Int32)) (nI 12) x2).bind fun S_6 =>
  some S_6) := by
  unfold m_does
  rw [lt_d]
  rw [if_pos (show (4 : Int32) < (nI 12) from by decide +kernel)]
  rw [if_pos (show (10 : Int32) < (nI 12) from by decide +kernel)]
  rw [if_neg (show ¬ ((15 : Int32) < (nI 12)) from by decide +kernel)]
theorem dM2_12 {g : Nat} {S : St} {x2 : Int32} {S_1 : St} {v_2 : Int32} (h1 : m_textAt g S (x2 + (1 : Int32)) = some (S_1, v_2)) {v_3 : Int64} (h2 : m_value g S_1 (x2 + (2 : Int32)) = some v_3) {v_4 : Int32} (h3 : aI S_1 24 v_2 = some v_4) : m_looks g S (nI 12) x2 = (
  (m_isIn g v_3 (0 : Int64) ((v_4 - (1 : Int32)).toInt64)).bind fun v_5 =>
  if v_5 = 0 then (
    m_looks_180 g S_1 (nI 12) x2 v_2 v_3 v_4
  ) else (
    m_looks_184 g S_1 (nI 12) x2 v_2 v_3 v_4
  )) := by
  unfold m_looks
  rw [h1, Option.bind_some]
  try dsimp only
  rw [h2, Option.bind_some]
  rw [h3, Option.bind_some]
  rw [if_pos (show (nI 12) < (14 : Int32) from by decide +kernel)]
  rw [if_neg (show ¬ ((nI 12) = (13 : Int32)) from by decide +kernel)]
theorem dC_13 {g : Nat} {S : St} : m_WS_give g S 13 = (
  (m_Bn_textAt g S (1 : Int32)).bind fun v_43 =>
  (m_WS_givePointBefore g S v_43).bind fun (S_44, v_45) =>
  some (S_44, v_45)) := by
  unfold m_WS_give
  rw [show eS (nI 13) = some 13 from by decide +kernel, Option.bind_some]
  rw [if_neg (show ¬ ((swT.getD 13 0) = (21 : Int32)) from by decide +kernel)]
  rw [if_neg (show ¬ ((swT.getD 13 0) = (22 : Int32)) from by decide +kernel)]
  rw [if_neg (show ¬ ((swT.getD 13 0) = (23 : Int32)) from by decide +kernel)]
  rw [if_neg (show ¬ ((swT.getD 13 0) = (24 : Int32)) from by decide +kernel)]
  rw [if_neg (show ¬ ((swT.getD 13 0) = (25 : Int32)) from by decide +kernel)]
  rw [if_neg (show ¬ ((swT.getD 13 0) = (26 : Int32)) from by decide +kernel)]
  rw [if_neg (show ¬ ((swT.getD 13 0) = (27 : Int32)) from by decide +kernel)]
  rw [if_neg (show ¬ ((swT.getD 13 0) = (28 : Int32)) from by decide +kernel)]
  rw [if_neg (show ¬ ((swT.getD 13 0) = (29 : Int32)) from by decide +kernel)]
  rw [if_neg (show ¬ ((swT.getD 13 0) = (30 : Int32)) from by decide +kernel)]
  rw [if_neg (show ¬ ((swT.getD 13 0) = (31 : Int32)) from by decide +kernel)]
  rw [if_neg (show ¬ ((swT.getD 13 0) = (32 : Int32)) from by decide +kernel)]
  rw [if_neg (show ¬ ((swT.getD 13 0) = (33 : Int32)) from by decide +kernel)]
  rw [if_pos (show (swT.getD 13 0) = (34 : Int32) from by decide +kernel)]
theorem dM_13 {g : Nat} {S : St} {x2 : Int32} {x3 : Int32} : m_does g S (nI 13) x2 x3 = (
  (m_looks g (sI S 0 57 (0 : Int32)) (nI 13) x2).bind fun S_6 =>
  some S_6) := by
  unfold m_does
  rw [lt_d]
  rw [if_pos (show (4 : Int32) < (nI 13) from by decide +kernel)]
  rw [if_pos (show (10 : Int32) < (nI 13) from by decide +kernel)]
  rw [if_neg (show ¬ ((15 : Int32) < (nI 13)) from by decide +kernel)]
theorem dM2_13 {g : Nat} {S : St} {x2 : Int32} {S_1 : St} {v_2 : Int32} (h1 : m_textAt g S (x2 + (1 : Int32)) = some (S_1, v_2)) {v_3 : Int64} (h2 : m_value g S_1 (x2 + (2 : Int32)) = some v_3) {v_4 : Int32} (h3 : aI S_1 24 v_2 = some v_4) : m_looks g S (nI 13) x2 = (
  (m_isIn g v_3 (1 : Int64) (v_4.toInt64)).bind fun v_6 =>
  if v_6 = 0 then (
    m_looks_180 g S_1 (nI 13) x2 v_2 v_3 v_4
  ) else (
    m_looks_184 g S_1 (nI 13) x2 v_2 v_3 v_4
  )) := by
  unfold m_looks
  rw [h1, Option.bind_some]
  try dsimp only
  rw [h2, Option.bind_some]
  rw [h3, Option.bind_some]
  rw [if_pos (show (nI 13) < (14 : Int32) from by decide +kernel)]
  rw [if_pos (show (nI 13) = (13 : Int32) from by decide +kernel)]
theorem dC_14 {g : Nat} {S : St} : m_WS_give g S 14 = (
  (m_Bn_textAt g S (1 : Int32)).bind fun v_46 =>
  (m_WS_countPoints g S v_46).bind fun (S_47, v_48) =>
  some (S_47, v_48)) := by
  unfold m_WS_give
  rw [show eS (nI 14) = some 14 from by decide +kernel, Option.bind_some]
  rw [if_neg (show ¬ ((swT.getD 14 0) = (21 : Int32)) from by decide +kernel)]
  rw [if_neg (show ¬ ((swT.getD 14 0) = (22 : Int32)) from by decide +kernel)]
  rw [if_neg (show ¬ ((swT.getD 14 0) = (23 : Int32)) from by decide +kernel)]
  rw [if_neg (show ¬ ((swT.getD 14 0) = (24 : Int32)) from by decide +kernel)]
  rw [if_neg (show ¬ ((swT.getD 14 0) = (25 : Int32)) from by decide +kernel)]
  rw [if_neg (show ¬ ((swT.getD 14 0) = (26 : Int32)) from by decide +kernel)]
  rw [if_neg (show ¬ ((swT.getD 14 0) = (27 : Int32)) from by decide +kernel)]
  rw [if_neg (show ¬ ((swT.getD 14 0) = (28 : Int32)) from by decide +kernel)]
  rw [if_neg (show ¬ ((swT.getD 14 0) = (29 : Int32)) from by decide +kernel)]
  rw [if_neg (show ¬ ((swT.getD 14 0) = (30 : Int32)) from by decide +kernel)]
  rw [if_neg (show ¬ ((swT.getD 14 0) = (31 : Int32)) from by decide +kernel)]
  rw [if_neg (show ¬ ((swT.getD 14 0) = (32 : Int32)) from by decide +kernel)]
  rw [if_neg (show ¬ ((swT.getD 14 0) = (33 : Int32)) from by decide +kernel)]
  rw [if_neg (show ¬ ((swT.getD 14 0) = (34 : Int32)) from by decide +kernel)]
  rw [if_pos (show (swT.getD 14 0) = (35 : Int32) from by decide +kernel)]
theorem dM_14 {g : Nat} {S : St} {x2 : Int32} {x3 : Int32} : m_does g S (nI 14) x2 x3 = (
  (m_looks g (sI S 0 57 (0 : Int32)) (nI 14) x2).bind fun S_6 =>
  some S_6) := by
  unfold m_does
  rw [lt_d]
  rw [if_pos (show (4 : Int32) < (nI 14) from by decide +kernel)]
  rw [if_pos (show (10 : Int32) < (nI 14) from by decide +kernel)]
  rw [if_neg (show ¬ ((15 : Int32) < (nI 14)) from by decide +kernel)]
theorem dM2_14 {g : Nat} {S : St} {x2 : Int32} {S_1 : St} {v_2 : Int32} (h1 : m_textAt g S (x2 + (1 : Int32)) = some (S_1, v_2)) {v_3 : Int64} (h2 : m_value g S_1 (x2 + (2 : Int32)) = some v_3) {v_4 : Int32} (h3 : aI S_1 24 v_2 = some v_4) {v_7 : Int64} (h4 : m_value g S_1 (x2 + (3 : Int32)) = some v_7) : m_looks g S (nI 14) x2 = (
  (m_isIn g v_3 (0 : Int64) v_7).bind fun v_9 =>
  if v_9 = 0 then (
    m_looks_67 g S_1 (nI 14) x2 v_2 v_3 v_7
  ) else (
    if (v_4.toInt64) < v_7 then (
      m_looks_67 g S_1 (nI 14) x2 v_2 v_3 v_7
    ) else (
      m_looks_72 g S_1 (nI 14) x2 v_2 v_3 v_7 (0 : Int32)
    )
  )) := by
  unfold m_looks
  rw [h1, Option.bind_some]
  try dsimp only
  rw [h2, Option.bind_some]
  rw [h3, Option.bind_some]
  rw [if_neg (show ¬ ((nI 14) < (14 : Int32)) from by decide +kernel)]
  rw [h4, Option.bind_some]
  rw [if_pos (show (nI 14) = (14 : Int32) from by decide +kernel)]
theorem dC_15 {g : Nat} {S : St} : m_WS_give g S 15 = (
  (m_Bn_textAt g S (1 : Int32)).bind fun v_49 =>
  (m_WS_offset g S v_49).bind fun (S_50, v_51) =>
  some (S_50, v_51)) := by
  unfold m_WS_give
  rw [show eS (nI 15) = some 15 from by decide +kernel, Option.bind_some]
  rw [if_neg (show ¬ ((swT.getD 15 0) = (21 : Int32)) from by decide +kernel)]
  rw [if_neg (show ¬ ((swT.getD 15 0) = (22 : Int32)) from by decide +kernel)]
  rw [if_neg (show ¬ ((swT.getD 15 0) = (23 : Int32)) from by decide +kernel)]
  rw [if_neg (show ¬ ((swT.getD 15 0) = (24 : Int32)) from by decide +kernel)]
  rw [if_neg (show ¬ ((swT.getD 15 0) = (25 : Int32)) from by decide +kernel)]
  rw [if_neg (show ¬ ((swT.getD 15 0) = (26 : Int32)) from by decide +kernel)]
  rw [if_neg (show ¬ ((swT.getD 15 0) = (27 : Int32)) from by decide +kernel)]
  rw [if_neg (show ¬ ((swT.getD 15 0) = (28 : Int32)) from by decide +kernel)]
  rw [if_neg (show ¬ ((swT.getD 15 0) = (29 : Int32)) from by decide +kernel)]
  rw [if_neg (show ¬ ((swT.getD 15 0) = (30 : Int32)) from by decide +kernel)]
  rw [if_neg (show ¬ ((swT.getD 15 0) = (31 : Int32)) from by decide +kernel)]
  rw [if_neg (show ¬ ((swT.getD 15 0) = (32 : Int32)) from by decide +kernel)]
  rw [if_neg (show ¬ ((swT.getD 15 0) = (33 : Int32)) from by decide +kernel)]
  rw [if_neg (show ¬ ((swT.getD 15 0) = (34 : Int32)) from by decide +kernel)]
  rw [if_neg (show ¬ ((swT.getD 15 0) = (35 : Int32)) from by decide +kernel)]
  rw [if_pos (show (swT.getD 15 0) = (36 : Int32) from by decide +kernel)]
theorem dM_15 {g : Nat} {S : St} {x2 : Int32} {x3 : Int32} : m_does g S (nI 15) x2 x3 = (
  (m_looks g (sI S 0 57 (0 : Int32)) (nI 15) x2).bind fun S_6 =>
  some S_6) := by
  unfold m_does
  rw [lt_d]
  rw [if_pos (show (4 : Int32) < (nI 15) from by decide +kernel)]
  rw [if_pos (show (10 : Int32) < (nI 15) from by decide +kernel)]
  rw [if_neg (show ¬ ((15 : Int32) < (nI 15)) from by decide +kernel)]
theorem dM2_15 {g : Nat} {S : St} {x2 : Int32} {S_1 : St} {v_2 : Int32} (h1 : m_textAt g S (x2 + (1 : Int32)) = some (S_1, v_2)) {v_3 : Int64} (h2 : m_value g S_1 (x2 + (2 : Int32)) = some v_3) {v_4 : Int32} (h3 : aI S_1 24 v_2 = some v_4) {v_7 : Int64} (h4 : m_value g S_1 (x2 + (3 : Int32)) = some v_7) : m_looks g S (nI 15) x2 = (
  (m_isIn g v_3 (0 : Int64) (v_4.toInt64)).bind fun v_8 =>
  if v_8 = 0 then (
    m_looks_97 g S_1 (nI 15) x2 v_2 v_3 v_7 (1 : Int32)
  ) else (
    m_looks_97 g S_1 (nI 15) x2 v_2 v_3 v_7 (0 : Int32)
  )) := by
  unfold m_looks
  rw [h1, Option.bind_some]
  try dsimp only
  rw [h2, Option.bind_some]
  rw [h3, Option.bind_some]
  rw [if_neg (show ¬ ((nI 15) < (14 : Int32)) from by decide +kernel)]
  rw [h4, Option.bind_some]
  rw [if_neg (show ¬ ((nI 15) = (14 : Int32)) from by decide +kernel)]
theorem dC_16 {g : Nat} {S : St} {v_1 : Int32} (h1 : m_Bn_textAt g S (1 : Int32) = some v_1) {S_2 : St} (h2 : m_Row_clear g S 23 = some S_2) : m_TS_give g S 16 = (
  (m_TS_part g S_2 v_1).bind fun (S_14, v_15) =>
  m_TS_give_166 g S_14 v_15) := by
  unfold m_TS_give
  rw [h1, Option.bind_some]
  rw [h2, Option.bind_some]
  rw [show eS (nI 16) = some 16 from by decide +kernel, Option.bind_some]
  rw [if_neg (show ¬ ((swT.getD 16 0) = (1 : Int32)) from by decide +kernel)]
  rw [if_neg (show ¬ ((swT.getD 16 0) = (2 : Int32)) from by decide +kernel)]
  rw [if_neg (show ¬ ((swT.getD 16 0) = (3 : Int32)) from by decide +kernel)]
  rw [if_neg (show ¬ ((swT.getD 16 0) = (4 : Int32)) from by decide +kernel)]
  rw [if_neg (show ¬ ((swT.getD 16 0) = (5 : Int32)) from by decide +kernel)]
  rw [if_pos (show (swT.getD 16 0) = (6 : Int32) from by decide +kernel)]
theorem dM_16 {g : Nat} {S : St} {x2 : Int32} {x3 : Int32} : m_does g S (nI 16) x2 x3 = (
  m_does_68 g (sI S 0 57 (0 : Int32)) (nI 16) x2) := by
  unfold m_does
  rw [lt_d]
  rw [if_pos (show (4 : Int32) < (nI 16) from by decide +kernel)]
  rw [if_pos (show (10 : Int32) < (nI 16) from by decide +kernel)]
  rw [if_pos (show (15 : Int32) < (nI 16) from by decide +kernel)]
  rw [if_pos (show (nI 16) ≤ (21 : Int32) from by decide +kernel)]
theorem dM2_16 {g : Nat} {S : St} {x2 : Int32} {S_1 : St} {v_2 : Int32} (h1 : m_textAt g S (x2 + (1 : Int32)) = some (S_1, v_2)) : m_changes g S (nI 16) x2 = (
  m_changes_25 g S_1 (nI 16) x2 v_2 (0 : Int32)) := by
  unfold m_changes
  rw [h1, Option.bind_some]
  try dsimp only
  rw [if_neg (show ¬ ((nI 16) = (21 : Int32)) from by decide +kernel)]
theorem dC_17 {g : Nat} {S : St} {v_1 : Int32} (h1 : m_Bn_textAt g S (1 : Int32) = some v_1) {S_2 : St} (h2 : m_Row_clear g S 23 = some S_2) : m_TS_give g S 17 = (
  (m_TS_trim g S_2 v_1 (0 : Int32)).bind fun (S_16, v_17) =>
  m_TS_give_173 g S_16 v_17) := by
  unfold m_TS_give
  rw [h1, Option.bind_some]
  rw [h2, Option.bind_some]
  rw [show eS (nI 17) = some 17 from by decide +kernel, Option.bind_some]
  rw [if_neg (show ¬ ((swT.getD 17 0) = (1 : Int32)) from by decide +kernel)]
  rw [if_neg (show ¬ ((swT.getD 17 0) = (2 : Int32)) from by decide +kernel)]
  rw [if_neg (show ¬ ((swT.getD 17 0) = (3 : Int32)) from by decide +kernel)]
  rw [if_neg (show ¬ ((swT.getD 17 0) = (4 : Int32)) from by decide +kernel)]
  rw [if_neg (show ¬ ((swT.getD 17 0) = (5 : Int32)) from by decide +kernel)]
  rw [if_neg (show ¬ ((swT.getD 17 0) = (6 : Int32)) from by decide +kernel)]
  rw [if_pos (show (swT.getD 17 0) = (7 : Int32) from by decide +kernel)]
theorem dM_17 {g : Nat} {S : St} {x2 : Int32} {x3 : Int32} : m_does g S (nI 17) x2 x3 = (
  m_does_68 g (sI S 0 57 (0 : Int32)) (nI 17) x2) := by
  unfold m_does
  rw [lt_d]
  rw [if_pos (show (4 : Int32) < (nI 17) from by decide +kernel)]
  rw [if_pos (show (10 : Int32) < (nI 17) from by decide +kernel)]
  rw [if_pos (show (15 : Int32) < (nI 17) from by decide +kernel)]
  rw [if_pos (show (nI 17) ≤ (21 : Int32) from by decide +kernel)]
theorem dM2_17 {g : Nat} {S : St} {x2 : Int32} {S_1 : St} {v_2 : Int32} (h1 : m_textAt g S (x2 + (1 : Int32)) = some (S_1, v_2)) : m_changes g S (nI 17) x2 = (
  m_changes_25 g S_1 (nI 17) x2 v_2 (0 : Int32)) := by
  unfold m_changes
  rw [h1, Option.bind_some]
  try dsimp only
  rw [if_neg (show ¬ ((nI 17) = (21 : Int32)) from by decide +kernel)]
theorem dC_18 {g : Nat} {S : St} {v_1 : Int32} (h1 : m_Bn_textAt g S (1 : Int32) = some v_1) {S_2 : St} (h2 : m_Row_clear g S 23 = some S_2) : m_TS_give g S 18 = (
  (m_TS_trim g S_2 v_1 (1 : Int32)).bind fun (S_18, v_19) =>
  m_TS_give_180 g S_18 v_19) := by
  unfold m_TS_give
  rw [h1, Option.bind_some]
  rw [h2, Option.bind_some]
  rw [show eS (nI 18) = some 18 from by decide +kernel, Option.bind_some]
  rw [if_neg (show ¬ ((swT.getD 18 0) = (1 : Int32)) from by decide +kernel)]
  rw [if_neg (show ¬ ((swT.getD 18 0) = (2 : Int32)) from by decide +kernel)]
  rw [if_neg (show ¬ ((swT.getD 18 0) = (3 : Int32)) from by decide +kernel)]
  rw [if_neg (show ¬ ((swT.getD 18 0) = (4 : Int32)) from by decide +kernel)]
  rw [if_neg (show ¬ ((swT.getD 18 0) = (5 : Int32)) from by decide +kernel)]
  rw [if_neg (show ¬ ((swT.getD 18 0) = (6 : Int32)) from by decide +kernel)]
  rw [if_neg (show ¬ ((swT.getD 18 0) = (7 : Int32)) from by decide +kernel)]
  rw [if_pos (show (swT.getD 18 0) = (8 : Int32) from by decide +kernel)]
theorem dM_18 {g : Nat} {S : St} {x2 : Int32} {x3 : Int32} : m_does g S (nI 18) x2 x3 = (
  m_does_68 g (sI S 0 57 (0 : Int32)) (nI 18) x2) := by
  unfold m_does
  rw [lt_d]
  rw [if_pos (show (4 : Int32) < (nI 18) from by decide +kernel)]
  rw [if_pos (show (10 : Int32) < (nI 18) from by decide +kernel)]
  rw [if_pos (show (15 : Int32) < (nI 18) from by decide +kernel)]
  rw [if_pos (show (nI 18) ≤ (21 : Int32) from by decide +kernel)]
theorem dM2_18 {g : Nat} {S : St} {x2 : Int32} {S_1 : St} {v_2 : Int32} (h1 : m_textAt g S (x2 + (1 : Int32)) = some (S_1, v_2)) : m_changes g S (nI 18) x2 = (
  m_changes_25 g S_1 (nI 18) x2 v_2 (0 : Int32)) := by
  unfold m_changes
  rw [h1, Option.bind_some]
  try dsimp only
  rw [if_neg (show ¬ ((nI 18) = (21 : Int32)) from by decide +kernel)]
theorem dC_19 {g : Nat} {S : St} {v_1 : Int32} (h1 : m_Bn_textAt g S (1 : Int32) = some v_1) {S_2 : St} (h2 : m_Row_clear g S 23 = some S_2) : m_TS_give g S 19 = (
  (m_TS_repeat g S_2 v_1).bind fun (S_20, v_21) =>
  m_TS_give_186 g S_20 v_21) := by
  unfold m_TS_give
  rw [h1, Option.bind_some]
  rw [h2, Option.bind_some]
  rw [show eS (nI 19) = some 19 from by decide +kernel, Option.bind_some]
  rw [if_neg (show ¬ ((swT.getD 19 0) = (1 : Int32)) from by decide +kernel)]
  rw [if_neg (show ¬ ((swT.getD 19 0) = (2 : Int32)) from by decide +kernel)]
  rw [if_neg (show ¬ ((swT.getD 19 0) = (3 : Int32)) from by decide +kernel)]
  rw [if_neg (show ¬ ((swT.getD 19 0) = (4 : Int32)) from by decide +kernel)]
  rw [if_neg (show ¬ ((swT.getD 19 0) = (5 : Int32)) from by decide +kernel)]
  rw [if_neg (show ¬ ((swT.getD 19 0) = (6 : Int32)) from by decide +kernel)]
  rw [if_neg (show ¬ ((swT.getD 19 0) = (7 : Int32)) from by decide +kernel)]
  rw [if_neg (show ¬ ((swT.getD 19 0) = (8 : Int32)) from by decide +kernel)]
  rw [if_pos (show (swT.getD 19 0) = (9 : Int32) from by decide +kernel)]
theorem dM_19 {g : Nat} {S : St} {x2 : Int32} {x3 : Int32} : m_does g S (nI 19) x2 x3 = (
  m_does_68 g (sI S 0 57 (0 : Int32)) (nI 19) x2) := by
  unfold m_does
  rw [lt_d]
  rw [if_pos (show (4 : Int32) < (nI 19) from by decide +kernel)]
  rw [if_pos (show (10 : Int32) < (nI 19) from by decide +kernel)]
  rw [if_pos (show (15 : Int32) < (nI 19) from by decide +kernel)]
  rw [if_pos (show (nI 19) ≤ (21 : Int32) from by decide +kernel)]
theorem dM2_19 {g : Nat} {S : St} {x2 : Int32} {S_1 : St} {v_2 : Int32} (h1 : m_textAt g S (x2 + (1 : Int32)) = some (S_1, v_2)) : m_changes g S (nI 19) x2 = (
  m_changes_25 g S_1 (nI 19) x2 v_2 (0 : Int32)) := by
  unfold m_changes
  rw [h1, Option.bind_some]
  try dsimp only
  rw [if_neg (show ¬ ((nI 19) = (21 : Int32)) from by decide +kernel)]
theorem dC_20 {g : Nat} {S : St} {v_1 : Int32} (h1 : m_Bn_textAt g S (1 : Int32) = some v_1) {S_2 : St} (h2 : m_Row_clear g S 23 = some S_2) : m_TS_give g S 20 = (
  (m_TS_change g S_2 v_1).bind fun (S_22, v_23) =>
  m_TS_give_192 g S_22 v_23) := by
  unfold m_TS_give
  rw [h1, Option.bind_some]
  rw [h2, Option.bind_some]
  rw [show eS (nI 20) = some 20 from by decide +kernel, Option.bind_some]
  rw [if_neg (show ¬ ((swT.getD 20 0) = (1 : Int32)) from by decide +kernel)]
  rw [if_neg (show ¬ ((swT.getD 20 0) = (2 : Int32)) from by decide +kernel)]
  rw [if_neg (show ¬ ((swT.getD 20 0) = (3 : Int32)) from by decide +kernel)]
  rw [if_neg (show ¬ ((swT.getD 20 0) = (4 : Int32)) from by decide +kernel)]
  rw [if_neg (show ¬ ((swT.getD 20 0) = (5 : Int32)) from by decide +kernel)]
  rw [if_neg (show ¬ ((swT.getD 20 0) = (6 : Int32)) from by decide +kernel)]
  rw [if_neg (show ¬ ((swT.getD 20 0) = (7 : Int32)) from by decide +kernel)]
  rw [if_neg (show ¬ ((swT.getD 20 0) = (8 : Int32)) from by decide +kernel)]
  rw [if_neg (show ¬ ((swT.getD 20 0) = (9 : Int32)) from by decide +kernel)]
  rw [if_pos (show (swT.getD 20 0) = (10 : Int32) from by decide +kernel)]
theorem dM_20 {g : Nat} {S : St} {x2 : Int32} {x3 : Int32} : m_does g S (nI 20) x2 x3 = (
  m_does_68 g (sI S 0 57 (0 : Int32)) (nI 20) x2) := by
  unfold m_does
  rw [lt_d]
  rw [if_pos (show (4 : Int32) < (nI 20) from by decide +kernel)]
  rw [if_pos (show (10 : Int32) < (nI 20) from by decide +kernel)]
  rw [if_pos (show (15 : Int32) < (nI 20) from by decide +kernel)]
  rw [if_pos (show (nI 20) ≤ (21 : Int32) from by decide +kernel)]
theorem dM2_20 {g : Nat} {S : St} {x2 : Int32} {S_1 : St} {v_2 : Int32} (h1 : m_textAt g S (x2 + (1 : Int32)) = some (S_1, v_2)) : m_changes g S (nI 20) x2 = (
  m_changes_25 g S_1 (nI 20) x2 v_2 (0 : Int32)) := by
  unfold m_changes
  rw [h1, Option.bind_some]
  try dsimp only
  rw [if_neg (show ¬ ((nI 20) = (21 : Int32)) from by decide +kernel)]
theorem dC_21 {g : Nat} {S : St} {v_1 : Int32} (h1 : m_Bn_textAt g S (1 : Int32) = some v_1) {S_2 : St} (h2 : m_Row_clear g S 23 = some S_2) : m_TS_give g S 21 = (
  (m_TS_replace g S_2 v_1).bind fun (S_24, v_25) =>
  m_TS_give_198 g S_24 v_25) := by
  unfold m_TS_give
  rw [h1, Option.bind_some]
  rw [h2, Option.bind_some]
  rw [show eS (nI 21) = some 21 from by decide +kernel, Option.bind_some]
  rw [if_neg (show ¬ ((swT.getD 21 0) = (1 : Int32)) from by decide +kernel)]
  rw [if_neg (show ¬ ((swT.getD 21 0) = (2 : Int32)) from by decide +kernel)]
  rw [if_neg (show ¬ ((swT.getD 21 0) = (3 : Int32)) from by decide +kernel)]
  rw [if_neg (show ¬ ((swT.getD 21 0) = (4 : Int32)) from by decide +kernel)]
  rw [if_neg (show ¬ ((swT.getD 21 0) = (5 : Int32)) from by decide +kernel)]
  rw [if_neg (show ¬ ((swT.getD 21 0) = (6 : Int32)) from by decide +kernel)]
  rw [if_neg (show ¬ ((swT.getD 21 0) = (7 : Int32)) from by decide +kernel)]
  rw [if_neg (show ¬ ((swT.getD 21 0) = (8 : Int32)) from by decide +kernel)]
  rw [if_neg (show ¬ ((swT.getD 21 0) = (9 : Int32)) from by decide +kernel)]
  rw [if_neg (show ¬ ((swT.getD 21 0) = (10 : Int32)) from by decide +kernel)]
  rw [if_pos (show (swT.getD 21 0) = (11 : Int32) from by decide +kernel)]
theorem dM_21 {g : Nat} {S : St} {x2 : Int32} {x3 : Int32} : m_does g S (nI 21) x2 x3 = (
  m_does_68 g (sI S 0 57 (0 : Int32)) (nI 21) x2) := by
  unfold m_does
  rw [lt_d]
  rw [if_pos (show (4 : Int32) < (nI 21) from by decide +kernel)]
  rw [if_pos (show (10 : Int32) < (nI 21) from by decide +kernel)]
  rw [if_pos (show (15 : Int32) < (nI 21) from by decide +kernel)]
  rw [if_pos (show (nI 21) ≤ (21 : Int32) from by decide +kernel)]
theorem dM2_21 {g : Nat} {S : St} {x2 : Int32} {S_1 : St} {v_2 : Int32} (h1 : m_textAt g S (x2 + (1 : Int32)) = some (S_1, v_2)) : m_changes g S (nI 21) x2 = (
  (m_textAt g S_1 (x2 + (2 : Int32))).bind fun (S_3, v_4) =>
  m_changes_25 g S_3 (nI 21) x2 v_2 v_4) := by
  unfold m_changes
  rw [h1, Option.bind_some]
  try dsimp only
  rw [if_pos (show (nI 21) = (21 : Int32) from by decide +kernel)]
theorem dC_22 {g : Nat} {S : St} : m_WS_give g S 22 = (
  (m_Bn_textAt g S (1 : Int32)).bind fun v_55 =>
  (m_Bn_textAt g S (2 : Int32)).bind fun v_56 =>
  (m_WS_giveOfTwo g S 22 v_55 v_56).bind fun (S_57, v_58) =>
  m_WS_give_384 g S_57 v_58) := by
  unfold m_WS_give
  rw [show eS (nI 22) = some 22 from by decide +kernel, Option.bind_some]
  rw [if_neg (show ¬ ((swT.getD 22 0) = (21 : Int32)) from by decide +kernel)]
  rw [if_neg (show ¬ ((swT.getD 22 0) = (22 : Int32)) from by decide +kernel)]
  rw [if_neg (show ¬ ((swT.getD 22 0) = (23 : Int32)) from by decide +kernel)]
  rw [if_neg (show ¬ ((swT.getD 22 0) = (24 : Int32)) from by decide +kernel)]
  rw [if_neg (show ¬ ((swT.getD 22 0) = (25 : Int32)) from by decide +kernel)]
  rw [if_neg (show ¬ ((swT.getD 22 0) = (26 : Int32)) from by decide +kernel)]
  rw [if_neg (show ¬ ((swT.getD 22 0) = (27 : Int32)) from by decide +kernel)]
  rw [if_neg (show ¬ ((swT.getD 22 0) = (28 : Int32)) from by decide +kernel)]
  rw [if_neg (show ¬ ((swT.getD 22 0) = (29 : Int32)) from by decide +kernel)]
  rw [if_neg (show ¬ ((swT.getD 22 0) = (30 : Int32)) from by decide +kernel)]
  rw [if_neg (show ¬ ((swT.getD 22 0) = (31 : Int32)) from by decide +kernel)]
  rw [if_neg (show ¬ ((swT.getD 22 0) = (32 : Int32)) from by decide +kernel)]
  rw [if_neg (show ¬ ((swT.getD 22 0) = (33 : Int32)) from by decide +kernel)]
  rw [if_neg (show ¬ ((swT.getD 22 0) = (34 : Int32)) from by decide +kernel)]
  rw [if_neg (show ¬ ((swT.getD 22 0) = (35 : Int32)) from by decide +kernel)]
  rw [if_neg (show ¬ ((swT.getD 22 0) = (36 : Int32)) from by decide +kernel)]
  rw [if_neg (show ¬ ((swT.getD 22 0) = (37 : Int32)) from by decide +kernel)]
theorem dC2_22 {g : Nat} {S : St} {x2 : Int32} {x3 : Int32} : m_WS_giveOfTwo g S 22 x2 x3 = (
  (m_WS_find g S x2 x3).bind fun (S_12, v_13) =>
  some (S_12, v_13)) := by
  unfold m_WS_giveOfTwo
  rw [show eS (nI 22) = some 22 from by decide +kernel, Option.bind_some]
  rw [if_neg (show ¬ ((swT.getD 22 0) = (38 : Int32)) from by decide +kernel)]
  rw [if_neg (show ¬ ((swT.getD 22 0) = (39 : Int32)) from by decide +kernel)]
  rw [if_neg (show ¬ ((swT.getD 22 0) = (40 : Int32)) from by decide +kernel)]
  rw [if_neg (show ¬ ((swT.getD 22 0) = (41 : Int32)) from by decide +kernel)]
  rw [if_pos (show (swT.getD 22 0) = (42 : Int32) from by decide +kernel)]
theorem dM_22 {g : Nat} {S : St} {x2 : Int32} {x3 : Int32} : m_does g S (nI 22) x2 x3 = (
  (m_seeks g (sI S 0 57 (0 : Int32)) (nI 22) x2).bind fun S_5 =>
  some S_5) := by
  unfold m_does
  rw [lt_d]
  rw [if_pos (show (4 : Int32) < (nI 22) from by decide +kernel)]
  rw [if_pos (show (10 : Int32) < (nI 22) from by decide +kernel)]
  rw [if_pos (show (15 : Int32) < (nI 22) from by decide +kernel)]
  rw [if_neg (show ¬ ((nI 22) ≤ (21 : Int32)) from by decide +kernel)]
  rw [if_neg (show ¬ ((nI 22) = (32 : Int32)) from by decide +kernel)]
  rw [if_neg (show ¬ ((nI 22) = (33 : Int32)) from by decide +kernel)]
  rw [if_neg (show ¬ ((26 : Int32) < (nI 22)) from by decide +kernel)]
theorem dM2_22 {g : Nat} {S : St} {x2 : Int32} {S_1 : St} {v_2 : Int32} (h1 : m_textAt g S (x2 + (1 : Int32)) = some (S_1, v_2)) : m_seeks g S (nI 22) x2 = (
  (m_textAt g S_1 (x2 + (2 : Int32))).bind fun (S_3, v_4) =>
  m_seeks_25 g S_3 (nI 22) x2 v_2 v_4) := by
  unfold m_seeks
  rw [h1, Option.bind_some]
  try dsimp only
  rw [if_neg (show ¬ ((nI 22) = (24 : Int32)) from by decide +kernel)]
theorem dC_23 {g : Nat} {S : St} : m_WS_give g S 23 = (
  (m_Bn_textAt g S (1 : Int32)).bind fun v_55 =>
  (m_Bn_textAt g S (2 : Int32)).bind fun v_56 =>
  (m_WS_giveOfTwo g S 23 v_55 v_56).bind fun (S_57, v_58) =>
  m_WS_give_384 g S_57 v_58) := by
  unfold m_WS_give
  rw [show eS (nI 23) = some 23 from by decide +kernel, Option.bind_some]
  rw [if_neg (show ¬ ((swT.getD 23 0) = (21 : Int32)) from by decide +kernel)]
  rw [if_neg (show ¬ ((swT.getD 23 0) = (22 : Int32)) from by decide +kernel)]
  rw [if_neg (show ¬ ((swT.getD 23 0) = (23 : Int32)) from by decide +kernel)]
  rw [if_neg (show ¬ ((swT.getD 23 0) = (24 : Int32)) from by decide +kernel)]
  rw [if_neg (show ¬ ((swT.getD 23 0) = (25 : Int32)) from by decide +kernel)]
  rw [if_neg (show ¬ ((swT.getD 23 0) = (26 : Int32)) from by decide +kernel)]
  rw [if_neg (show ¬ ((swT.getD 23 0) = (27 : Int32)) from by decide +kernel)]
  rw [if_neg (show ¬ ((swT.getD 23 0) = (28 : Int32)) from by decide +kernel)]
  rw [if_neg (show ¬ ((swT.getD 23 0) = (29 : Int32)) from by decide +kernel)]
  rw [if_neg (show ¬ ((swT.getD 23 0) = (30 : Int32)) from by decide +kernel)]
  rw [if_neg (show ¬ ((swT.getD 23 0) = (31 : Int32)) from by decide +kernel)]
  rw [if_neg (show ¬ ((swT.getD 23 0) = (32 : Int32)) from by decide +kernel)]
  rw [if_neg (show ¬ ((swT.getD 23 0) = (33 : Int32)) from by decide +kernel)]
  rw [if_neg (show ¬ ((swT.getD 23 0) = (34 : Int32)) from by decide +kernel)]
  rw [if_neg (show ¬ ((swT.getD 23 0) = (35 : Int32)) from by decide +kernel)]
  rw [if_neg (show ¬ ((swT.getD 23 0) = (36 : Int32)) from by decide +kernel)]
  rw [if_neg (show ¬ ((swT.getD 23 0) = (37 : Int32)) from by decide +kernel)]
theorem dC2_23 {g : Nat} {S : St} {x2 : Int32} {x3 : Int32} : m_WS_giveOfTwo g S 23 x2 x3 = (
  (m_WS_findLast g S x2 x3).bind fun (S_14, v_15) =>
  some (S_14, v_15)) := by
  unfold m_WS_giveOfTwo
  rw [show eS (nI 23) = some 23 from by decide +kernel, Option.bind_some]
  rw [if_neg (show ¬ ((swT.getD 23 0) = (38 : Int32)) from by decide +kernel)]
  rw [if_neg (show ¬ ((swT.getD 23 0) = (39 : Int32)) from by decide +kernel)]
  rw [if_neg (show ¬ ((swT.getD 23 0) = (40 : Int32)) from by decide +kernel)]
  rw [if_neg (show ¬ ((swT.getD 23 0) = (41 : Int32)) from by decide +kernel)]
  rw [if_neg (show ¬ ((swT.getD 23 0) = (42 : Int32)) from by decide +kernel)]
  rw [if_pos (show (swT.getD 23 0) = (43 : Int32) from by decide +kernel)]
theorem dM_23 {g : Nat} {S : St} {x2 : Int32} {x3 : Int32} : m_does g S (nI 23) x2 x3 = (
  (m_seeks g (sI S 0 57 (0 : Int32)) (nI 23) x2).bind fun S_5 =>
  some S_5) := by
  unfold m_does
  rw [lt_d]
  rw [if_pos (show (4 : Int32) < (nI 23) from by decide +kernel)]
  rw [if_pos (show (10 : Int32) < (nI 23) from by decide +kernel)]
  rw [if_pos (show (15 : Int32) < (nI 23) from by decide +kernel)]
  rw [if_neg (show ¬ ((nI 23) ≤ (21 : Int32)) from by decide +kernel)]
  rw [if_neg (show ¬ ((nI 23) = (32 : Int32)) from by decide +kernel)]
  rw [if_neg (show ¬ ((nI 23) = (33 : Int32)) from by decide +kernel)]
  rw [if_neg (show ¬ ((26 : Int32) < (nI 23)) from by decide +kernel)]
theorem dM2_23 {g : Nat} {S : St} {x2 : Int32} {S_1 : St} {v_2 : Int32} (h1 : m_textAt g S (x2 + (1 : Int32)) = some (S_1, v_2)) : m_seeks g S (nI 23) x2 = (
  (m_textAt g S_1 (x2 + (2 : Int32))).bind fun (S_3, v_4) =>
  m_seeks_25 g S_3 (nI 23) x2 v_2 v_4) := by
  unfold m_seeks
  rw [h1, Option.bind_some]
  try dsimp only
  rw [if_neg (show ¬ ((nI 23) = (24 : Int32)) from by decide +kernel)]
theorem dC_24 {g : Nat} {S : St} : m_WS_give g S 24 = (
  (m_Bn_textAt g S (1 : Int32)).bind fun v_52 =>
  (m_WS_seek g S v_52).bind fun (S_53, v_54) =>
  some (S_53, v_54)) := by
  unfold m_WS_give
  rw [show eS (nI 24) = some 24 from by decide +kernel, Option.bind_some]
  rw [if_neg (show ¬ ((swT.getD 24 0) = (21 : Int32)) from by decide +kernel)]
  rw [if_neg (show ¬ ((swT.getD 24 0) = (22 : Int32)) from by decide +kernel)]
  rw [if_neg (show ¬ ((swT.getD 24 0) = (23 : Int32)) from by decide +kernel)]
  rw [if_neg (show ¬ ((swT.getD 24 0) = (24 : Int32)) from by decide +kernel)]
  rw [if_neg (show ¬ ((swT.getD 24 0) = (25 : Int32)) from by decide +kernel)]
  rw [if_neg (show ¬ ((swT.getD 24 0) = (26 : Int32)) from by decide +kernel)]
  rw [if_neg (show ¬ ((swT.getD 24 0) = (27 : Int32)) from by decide +kernel)]
  rw [if_neg (show ¬ ((swT.getD 24 0) = (28 : Int32)) from by decide +kernel)]
  rw [if_neg (show ¬ ((swT.getD 24 0) = (29 : Int32)) from by decide +kernel)]
  rw [if_neg (show ¬ ((swT.getD 24 0) = (30 : Int32)) from by decide +kernel)]
  rw [if_neg (show ¬ ((swT.getD 24 0) = (31 : Int32)) from by decide +kernel)]
  rw [if_neg (show ¬ ((swT.getD 24 0) = (32 : Int32)) from by decide +kernel)]
  rw [if_neg (show ¬ ((swT.getD 24 0) = (33 : Int32)) from by decide +kernel)]
  rw [if_neg (show ¬ ((swT.getD 24 0) = (34 : Int32)) from by decide +kernel)]
  rw [if_neg (show ¬ ((swT.getD 24 0) = (35 : Int32)) from by decide +kernel)]
  rw [if_neg (show ¬ ((swT.getD 24 0) = (36 : Int32)) from by decide +kernel)]
  rw [if_pos (show (swT.getD 24 0) = (37 : Int32) from by decide +kernel)]
theorem dM_24 {g : Nat} {S : St} {x2 : Int32} {x3 : Int32} : m_does g S (nI 24) x2 x3 = (
  (m_seeks g (sI S 0 57 (0 : Int32)) (nI 24) x2).bind fun S_5 =>
  some S_5) := by
  unfold m_does
  rw [lt_d]
  rw [if_pos (show (4 : Int32) < (nI 24) from by decide +kernel)]
  rw [if_pos (show (10 : Int32) < (nI 24) from by decide +kernel)]
  rw [if_pos (show (15 : Int32) < (nI 24) from by decide +kernel)]
  rw [if_neg (show ¬ ((nI 24) ≤ (21 : Int32)) from by decide +kernel)]
  rw [if_neg (show ¬ ((nI 24) = (32 : Int32)) from by decide +kernel)]
  rw [if_neg (show ¬ ((nI 24) = (33 : Int32)) from by decide +kernel)]
  rw [if_neg (show ¬ ((26 : Int32) < (nI 24)) from by decide +kernel)]
theorem dM2_24 {g : Nat} {S : St} {x2 : Int32} {S_1 : St} {v_2 : Int32} (h1 : m_textAt g S (x2 + (1 : Int32)) = some (S_1, v_2)) : m_seeks g S (nI 24) x2 = (
  m_seeks_25 g S_1 (nI 24) x2 v_2 (0 : Int32)) := by
  unfold m_seeks
  rw [h1, Option.bind_some]
  try dsimp only
  rw [if_pos (show (nI 24) = (24 : Int32) from by decide +kernel)]
theorem dC_25 {g : Nat} {S : St} : m_WS_give g S 25 = (
  (m_Bn_textAt g S (1 : Int32)).bind fun v_55 =>
  (m_Bn_textAt g S (2 : Int32)).bind fun v_56 =>
  (m_WS_giveOfTwo g S 25 v_55 v_56).bind fun (S_57, v_58) =>
  m_WS_give_384 g S_57 v_58) := by
  unfold m_WS_give
  rw [show eS (nI 25) = some 25 from by decide +kernel, Option.bind_some]
  rw [if_neg (show ¬ ((swT.getD 25 0) = (21 : Int32)) from by decide +kernel)]
  rw [if_neg (show ¬ ((swT.getD 25 0) = (22 : Int32)) from by decide +kernel)]
  rw [if_neg (show ¬ ((swT.getD 25 0) = (23 : Int32)) from by decide +kernel)]
  rw [if_neg (show ¬ ((swT.getD 25 0) = (24 : Int32)) from by decide +kernel)]
  rw [if_neg (show ¬ ((swT.getD 25 0) = (25 : Int32)) from by decide +kernel)]
  rw [if_neg (show ¬ ((swT.getD 25 0) = (26 : Int32)) from by decide +kernel)]
  rw [if_neg (show ¬ ((swT.getD 25 0) = (27 : Int32)) from by decide +kernel)]
  rw [if_neg (show ¬ ((swT.getD 25 0) = (28 : Int32)) from by decide +kernel)]
  rw [if_neg (show ¬ ((swT.getD 25 0) = (29 : Int32)) from by decide +kernel)]
  rw [if_neg (show ¬ ((swT.getD 25 0) = (30 : Int32)) from by decide +kernel)]
  rw [if_neg (show ¬ ((swT.getD 25 0) = (31 : Int32)) from by decide +kernel)]
  rw [if_neg (show ¬ ((swT.getD 25 0) = (32 : Int32)) from by decide +kernel)]
  rw [if_neg (show ¬ ((swT.getD 25 0) = (33 : Int32)) from by decide +kernel)]
  rw [if_neg (show ¬ ((swT.getD 25 0) = (34 : Int32)) from by decide +kernel)]
  rw [if_neg (show ¬ ((swT.getD 25 0) = (35 : Int32)) from by decide +kernel)]
  rw [if_neg (show ¬ ((swT.getD 25 0) = (36 : Int32)) from by decide +kernel)]
  rw [if_neg (show ¬ ((swT.getD 25 0) = (37 : Int32)) from by decide +kernel)]
theorem dC2_25 {g : Nat} {S : St} {x2 : Int32} {x3 : Int32} : m_WS_giveOfTwo g S 25 x2 x3 = (
  (m_Tx_sizeOf g S x2).bind fun v_16 =>
  (m_Bn_placeAt g S (3 : Int32) v_16).bind fun v_17 =>
  (m_Tx_stands g S x3 v_17 x2).bind fun v_18 =>
  (m_WS_giveTruth g S v_18).bind fun (S_19, v_20) =>
  some (S_19, v_20)) := by
  unfold m_WS_giveOfTwo
  rw [show eS (nI 25) = some 25 from by decide +kernel, Option.bind_some]
  rw [if_neg (show ¬ ((swT.getD 25 0) = (38 : Int32)) from by decide +kernel)]
  rw [if_neg (show ¬ ((swT.getD 25 0) = (39 : Int32)) from by decide +kernel)]
  rw [if_neg (show ¬ ((swT.getD 25 0) = (40 : Int32)) from by decide +kernel)]
  rw [if_neg (show ¬ ((swT.getD 25 0) = (41 : Int32)) from by decide +kernel)]
  rw [if_neg (show ¬ ((swT.getD 25 0) = (42 : Int32)) from by decide +kernel)]
  rw [if_neg (show ¬ ((swT.getD 25 0) = (43 : Int32)) from by decide +kernel)]
  rw [if_pos (show (swT.getD 25 0) = (44 : Int32) from by decide +kernel)]
theorem dM_25 {g : Nat} {S : St} {x2 : Int32} {x3 : Int32} : m_does g S (nI 25) x2 x3 = (
  (m_seeks g (sI S 0 57 (0 : Int32)) (nI 25) x2).bind fun S_5 =>
  some S_5) := by
  unfold m_does
  rw [lt_d]
  rw [if_pos (show (4 : Int32) < (nI 25) from by decide +kernel)]
  rw [if_pos (show (10 : Int32) < (nI 25) from by decide +kernel)]
  rw [if_pos (show (15 : Int32) < (nI 25) from by decide +kernel)]
  rw [if_neg (show ¬ ((nI 25) ≤ (21 : Int32)) from by decide +kernel)]
  rw [if_neg (show ¬ ((nI 25) = (32 : Int32)) from by decide +kernel)]
  rw [if_neg (show ¬ ((nI 25) = (33 : Int32)) from by decide +kernel)]
  rw [if_neg (show ¬ ((26 : Int32) < (nI 25)) from by decide +kernel)]
theorem dM2_25 {g : Nat} {S : St} {x2 : Int32} {S_1 : St} {v_2 : Int32} (h1 : m_textAt g S (x2 + (1 : Int32)) = some (S_1, v_2)) : m_seeks g S (nI 25) x2 = (
  (m_textAt g S_1 (x2 + (2 : Int32))).bind fun (S_3, v_4) =>
  m_seeks_25 g S_3 (nI 25) x2 v_2 v_4) := by
  unfold m_seeks
  rw [h1, Option.bind_some]
  try dsimp only
  rw [if_neg (show ¬ ((nI 25) = (24 : Int32)) from by decide +kernel)]
theorem dC_26 {g : Nat} {S : St} : m_WS_give g S 26 = (
  (m_Bn_textAt g S (1 : Int32)).bind fun v_55 =>
  (m_Bn_textAt g S (2 : Int32)).bind fun v_56 =>
  (m_WS_giveOfTwo g S 26 v_55 v_56).bind fun (S_57, v_58) =>
  m_WS_give_384 g S_57 v_58) := by
  unfold m_WS_give
  rw [show eS (nI 26) = some 26 from by decide +kernel, Option.bind_some]
  rw [if_neg (show ¬ ((swT.getD 26 0) = (21 : Int32)) from by decide +kernel)]
  rw [if_neg (show ¬ ((swT.getD 26 0) = (22 : Int32)) from by decide +kernel)]
  rw [if_neg (show ¬ ((swT.getD 26 0) = (23 : Int32)) from by decide +kernel)]
  rw [if_neg (show ¬ ((swT.getD 26 0) = (24 : Int32)) from by decide +kernel)]
  rw [if_neg (show ¬ ((swT.getD 26 0) = (25 : Int32)) from by decide +kernel)]
  rw [if_neg (show ¬ ((swT.getD 26 0) = (26 : Int32)) from by decide +kernel)]
  rw [if_neg (show ¬ ((swT.getD 26 0) = (27 : Int32)) from by decide +kernel)]
  rw [if_neg (show ¬ ((swT.getD 26 0) = (28 : Int32)) from by decide +kernel)]
  rw [if_neg (show ¬ ((swT.getD 26 0) = (29 : Int32)) from by decide +kernel)]
  rw [if_neg (show ¬ ((swT.getD 26 0) = (30 : Int32)) from by decide +kernel)]
  rw [if_neg (show ¬ ((swT.getD 26 0) = (31 : Int32)) from by decide +kernel)]
  rw [if_neg (show ¬ ((swT.getD 26 0) = (32 : Int32)) from by decide +kernel)]
  rw [if_neg (show ¬ ((swT.getD 26 0) = (33 : Int32)) from by decide +kernel)]
  rw [if_neg (show ¬ ((swT.getD 26 0) = (34 : Int32)) from by decide +kernel)]
  rw [if_neg (show ¬ ((swT.getD 26 0) = (35 : Int32)) from by decide +kernel)]
  rw [if_neg (show ¬ ((swT.getD 26 0) = (36 : Int32)) from by decide +kernel)]
  rw [if_neg (show ¬ ((swT.getD 26 0) = (37 : Int32)) from by decide +kernel)]
theorem dC2_26 {g : Nat} {S : St} {x2 : Int32} {x3 : Int32} : m_WS_giveOfTwo g S 26 x2 x3 = (
  (m_Tx_sizeOf g S x2).bind fun v_21 =>
  (m_Tx_sizeOf g S x3).bind fun v_22 =>
  (m_Tx_stands g S x3 (v_21 - v_22) x2).bind fun v_23 =>
  (m_WS_giveTruth g S v_23).bind fun (S_24, v_25) =>
  some (S_24, v_25)) := by
  unfold m_WS_giveOfTwo
  rw [show eS (nI 26) = some 26 from by decide +kernel, Option.bind_some]
  rw [if_neg (show ¬ ((swT.getD 26 0) = (38 : Int32)) from by decide +kernel)]
  rw [if_neg (show ¬ ((swT.getD 26 0) = (39 : Int32)) from by decide +kernel)]
  rw [if_neg (show ¬ ((swT.getD 26 0) = (40 : Int32)) from by decide +kernel)]
  rw [if_neg (show ¬ ((swT.getD 26 0) = (41 : Int32)) from by decide +kernel)]
  rw [if_neg (show ¬ ((swT.getD 26 0) = (42 : Int32)) from by decide +kernel)]
  rw [if_neg (show ¬ ((swT.getD 26 0) = (43 : Int32)) from by decide +kernel)]
  rw [if_neg (show ¬ ((swT.getD 26 0) = (44 : Int32)) from by decide +kernel)]
  rw [if_pos (show (swT.getD 26 0) = (45 : Int32) from by decide +kernel)]
theorem dM_26 {g : Nat} {S : St} {x2 : Int32} {x3 : Int32} : m_does g S (nI 26) x2 x3 = (
  (m_seeks g (sI S 0 57 (0 : Int32)) (nI 26) x2).bind fun S_5 =>
  some S_5) := by
  unfold m_does
  rw [lt_d]
  rw [if_pos (show (4 : Int32) < (nI 26) from by decide +kernel)]
  rw [if_pos (show (10 : Int32) < (nI 26) from by decide +kernel)]
  rw [if_pos (show (15 : Int32) < (nI 26) from by decide +kernel)]
  rw [if_neg (show ¬ ((nI 26) ≤ (21 : Int32)) from by decide +kernel)]
  rw [if_neg (show ¬ ((nI 26) = (32 : Int32)) from by decide +kernel)]
  rw [if_neg (show ¬ ((nI 26) = (33 : Int32)) from by decide +kernel)]
  rw [if_neg (show ¬ ((26 : Int32) < (nI 26)) from by decide +kernel)]
theorem dM2_26 {g : Nat} {S : St} {x2 : Int32} {S_1 : St} {v_2 : Int32} (h1 : m_textAt g S (x2 + (1 : Int32)) = some (S_1, v_2)) : m_seeks g S (nI 26) x2 = (
  (m_textAt g S_1 (x2 + (2 : Int32))).bind fun (S_3, v_4) =>
  m_seeks_25 g S_3 (nI 26) x2 v_2 v_4) := by
  unfold m_seeks
  rw [h1, Option.bind_some]
  try dsimp only
  rw [if_neg (show ¬ ((nI 26) = (24 : Int32)) from by decide +kernel)]
theorem dC_27 {g : Nat} {S : St} {S_1 : St} (h1 : m_Row_clear g S 23 = some S_1) : m_TS_giveParts g S 27 = (
  (m_Bn_textAt g S_1 (0 : Int32)).bind fun v_4 =>
  (m_TS_split g S_1 v_4).bind fun (S_5, v_6) =>
  m_TS_giveParts_56 g S_5 v_6) := by
  unfold m_TS_giveParts
  rw [h1, Option.bind_some]
  rw [show eS (nI 27) = some 27 from by decide +kernel, Option.bind_some]
  rw [if_pos (show (swT.getD 27 0) = (17 : Int32) from by decide +kernel)]
theorem dM_27 {g : Nat} {S : St} {x2 : Int32} {x3 : Int32} : m_does g S (nI 27) x2 x3 = (
  (m_cuts g (sI S 0 57 (0 : Int32)) (nI 27) x2).bind fun S_4 =>
  some S_4) := by
  unfold m_does
  rw [lt_d]
  rw [if_pos (show (4 : Int32) < (nI 27) from by decide +kernel)]
  rw [if_pos (show (10 : Int32) < (nI 27) from by decide +kernel)]
  rw [if_pos (show (15 : Int32) < (nI 27) from by decide +kernel)]
  rw [if_neg (show ¬ ((nI 27) ≤ (21 : Int32)) from by decide +kernel)]
  rw [if_neg (show ¬ ((nI 27) = (32 : Int32)) from by decide +kernel)]
  rw [if_neg (show ¬ ((nI 27) = (33 : Int32)) from by decide +kernel)]
  rw [if_pos (show (26 : Int32) < (nI 27) from by decide +kernel)]
  rw [if_neg (show ¬ ((31 : Int32) < (nI 27)) from by decide +kernel)]
theorem dM2_27 {g : Nat} {S : St} {x2 : Int32} {S_1 : St} {v_2 : Int32} (h1 : m_textAt g S x2 = some (S_1, v_2)) : m_cuts g S (nI 27) x2 = (
  (m_value g (sI S_1 0 65 (0 : Int32)) (x2 + (1 : Int32))).bind fun v_5 =>
  (m_value g (sI S_1 0 65 (0 : Int32)) (x2 + (2 : Int32))).bind fun v_6 =>
  (m_splits g (sI S_1 0 65 (0 : Int32)) v_2 v_5 v_6).bind fun S_7 =>
  m_cuts_213 g S_7 v_2) := by
  unfold m_cuts
  rw [if_neg (show ¬ ((nI 27) = (30 : Int32)) from by decide +kernel)]
  rw [if_neg (show ¬ ((nI 27) = (29 : Int32)) from by decide +kernel)]
  rw [if_neg (show ¬ ((nI 27) = (31 : Int32)) from by decide +kernel)]
  rw [h1, Option.bind_some]
  try dsimp only
  rw [lt_d]
  rw [if_pos (show (nI 27) = (27 : Int32) from by decide +kernel)]
theorem dC_28 {g : Nat} {S : St} {S_1 : St} (h1 : m_Row_clear g S 23 = some S_1) : m_TS_giveParts g S 28 = (
  (m_Bn_textAt g S_1 (0 : Int32)).bind fun v_7 =>
  (m_TS_lines g S_1 v_7).bind fun (S_8, v_9) =>
  m_TS_giveParts_69 g S_8 v_9) := by
  unfold m_TS_giveParts
  rw [h1, Option.bind_some]
  rw [show eS (nI 28) = some 28 from by decide +kernel, Option.bind_some]
  rw [if_neg (show ¬ ((swT.getD 28 0) = (17 : Int32)) from by decide +kernel)]
  rw [if_pos (show (swT.getD 28 0) = (18 : Int32) from by decide +kernel)]
theorem dM_28 {g : Nat} {S : St} {x2 : Int32} {x3 : Int32} : m_does g S (nI 28) x2 x3 = (
  (m_cuts g (sI S 0 57 (0 : Int32)) (nI 28) x2).bind fun S_4 =>
  some S_4) := by
  unfold m_does
  rw [lt_d]
  rw [if_pos (show (4 : Int32) < (nI 28) from by decide +kernel)]
  rw [if_pos (show (10 : Int32) < (nI 28) from by decide +kernel)]
  rw [if_pos (show (15 : Int32) < (nI 28) from by decide +kernel)]
  rw [if_neg (show ¬ ((nI 28) ≤ (21 : Int32)) from by decide +kernel)]
  rw [if_neg (show ¬ ((nI 28) = (32 : Int32)) from by decide +kernel)]
  rw [if_neg (show ¬ ((nI 28) = (33 : Int32)) from by decide +kernel)]
  rw [if_pos (show (26 : Int32) < (nI 28) from by decide +kernel)]
  rw [if_neg (show ¬ ((31 : Int32) < (nI 28)) from by decide +kernel)]
theorem dM2_28 {g : Nat} {S : St} {x2 : Int32} {S_1 : St} {v_2 : Int32} (h1 : m_textAt g S x2 = some (S_1, v_2)) : m_cuts g S (nI 28) x2 = (
  (m_linesOf g (sI S_1 0 65 (0 : Int32)) v_2).bind fun S_4 =>
  m_cuts_213 g S_4 v_2) := by
  unfold m_cuts
  rw [if_neg (show ¬ ((nI 28) = (30 : Int32)) from by decide +kernel)]
  rw [if_neg (show ¬ ((nI 28) = (29 : Int32)) from by decide +kernel)]
  rw [if_neg (show ¬ ((nI 28) = (31 : Int32)) from by decide +kernel)]
  rw [h1, Option.bind_some]
  try dsimp only
  rw [lt_d]
  rw [if_neg (show ¬ ((nI 28) = (27 : Int32)) from by decide +kernel)]
theorem dC_29 {g : Nat} {S : St} {S_1 : St} (h1 : m_Row_clear g S 23 = some S_1) : m_TS_giveParts g S 29 = (
  (m_TS_piece g S_1).bind fun (S_10, v_11) =>
  some (S_10, v_11)) := by
  unfold m_TS_giveParts
  rw [h1, Option.bind_some]
  rw [show eS (nI 29) = some 29 from by decide +kernel, Option.bind_some]
  rw [if_neg (show ¬ ((swT.getD 29 0) = (17 : Int32)) from by decide +kernel)]
  rw [if_neg (show ¬ ((swT.getD 29 0) = (18 : Int32)) from by decide +kernel)]
  rw [if_pos (show (swT.getD 29 0) = (19 : Int32) from by decide +kernel)]
theorem dM_29 {g : Nat} {S : St} {x2 : Int32} {x3 : Int32} : m_does g S (nI 29) x2 x3 = (
  (m_cuts g (sI S 0 57 (0 : Int32)) (nI 29) x2).bind fun S_4 =>
  some S_4) := by
  unfold m_does
  rw [lt_d]
  rw [if_pos (show (4 : Int32) < (nI 29) from by decide +kernel)]
  rw [if_pos (show (10 : Int32) < (nI 29) from by decide +kernel)]
  rw [if_pos (show (15 : Int32) < (nI 29) from by decide +kernel)]
  rw [if_neg (show ¬ ((nI 29) ≤ (21 : Int32)) from by decide +kernel)]
  rw [if_neg (show ¬ ((nI 29) = (32 : Int32)) from by decide +kernel)]
  rw [if_neg (show ¬ ((nI 29) = (33 : Int32)) from by decide +kernel)]
  rw [if_pos (show (26 : Int32) < (nI 29) from by decide +kernel)]
  rw [if_neg (show ¬ ((31 : Int32) < (nI 29)) from by decide +kernel)]
theorem dM2_29 {g : Nat} {S : St} {x2 : Int32} : m_cuts g S (nI 29) x2 = (
  (m_value g S (x2 + (1 : Int32))).bind fun v_10 =>
  (m_isIn g v_10 (0 : Int64) (((gI S 0 50) - (1 : Int32)).toInt64)).bind fun v_11 =>
  if v_11 = 0 then (
    m_cuts_54 g S x2 v_10 (1 : Int32)
  ) else (
    m_cuts_54 g S x2 v_10 (0 : Int32)
  )) := by
  unfold m_cuts
  rw [if_neg (show ¬ ((nI 29) = (30 : Int32)) from by decide +kernel)]
  rw [if_pos (show (nI 29) = (29 : Int32) from by decide +kernel)]
theorem dC_30 {g : Nat} {S : St} : m_WS_give g S 30 = (
  (m_Bn_giveWhole g S ((gI S 22 2).toInt64)).bind fun (S_3, v_4) =>
  some (S_3, v_4)) := by
  unfold m_WS_give
  rw [show eS (nI 30) = some 30 from by decide +kernel, Option.bind_some]
  rw [if_pos (show (swT.getD 30 0) = (21 : Int32) from by decide +kernel)]
theorem dM_30 {g : Nat} {S : St} {x2 : Int32} {x3 : Int32} : m_does g S (nI 30) x2 x3 = (
  (m_cuts g (sI S 0 57 (0 : Int32)) (nI 30) x2).bind fun S_4 =>
  some S_4) := by
  unfold m_does
  rw [lt_d]
  rw [if_pos (show (4 : Int32) < (nI 30) from by decide +kernel)]
  rw [if_pos (show (10 : Int32) < (nI 30) from by decide +kernel)]
  rw [if_pos (show (15 : Int32) < (nI 30) from by decide +kernel)]
  rw [if_neg (show ¬ ((nI 30) ≤ (21 : Int32)) from by decide +kernel)]
  rw [if_neg (show ¬ ((nI 30) = (32 : Int32)) from by decide +kernel)]
  rw [if_neg (show ¬ ((nI 30) = (33 : Int32)) from by decide +kernel)]
  rw [if_pos (show (26 : Int32) < (nI 30) from by decide +kernel)]
  rw [if_neg (show ¬ ((31 : Int32) < (nI 30)) from by decide +kernel)]
theorem dM2_30 {g : Nat} {S : St} {x2 : Int32} : m_cuts g S (nI 30) x2 = (
  (m_givesWhole g S x2 ((gI S 0 50).toInt64)).bind fun S_12 =>
  some S_12) := by
  unfold m_cuts
  rw [if_pos (show (nI 30) = (30 : Int32) from by decide +kernel)]
theorem dC_31 {g : Nat} {S : St} {S_1 : St} (h1 : m_Row_clear g S 23 = some S_1) : m_TS_giveParts g S 31 = (
  (m_Bn_textAt g S_1 (1 : Int32)).bind fun v_12 =>
  (m_TS_weave g S_1 v_12).bind fun (S_13, v_14) =>
  m_TS_giveParts_87 g S_13 v_14) := by
  unfold m_TS_giveParts
  rw [h1, Option.bind_some]
  rw [show eS (nI 31) = some 31 from by decide +kernel, Option.bind_some]
  rw [if_neg (show ¬ ((swT.getD 31 0) = (17 : Int32)) from by decide +kernel)]
  rw [if_neg (show ¬ ((swT.getD 31 0) = (18 : Int32)) from by decide +kernel)]
  rw [if_neg (show ¬ ((swT.getD 31 0) = (19 : Int32)) from by decide +kernel)]
  rw [if_pos (show (swT.getD 31 0) = (20 : Int32) from by decide +kernel)]
theorem dM_31 {g : Nat} {S : St} {x2 : Int32} {x3 : Int32} : m_does g S (nI 31) x2 x3 = (
  (m_cuts g (sI S 0 57 (0 : Int32)) (nI 31) x2).bind fun S_4 =>
  some S_4) := by
  unfold m_does
  rw [lt_d]
  rw [if_pos (show (4 : Int32) < (nI 31) from by decide +kernel)]
  rw [if_pos (show (10 : Int32) < (nI 31) from by decide +kernel)]
  rw [if_pos (show (15 : Int32) < (nI 31) from by decide +kernel)]
  rw [if_neg (show ¬ ((nI 31) ≤ (21 : Int32)) from by decide +kernel)]
  rw [if_neg (show ¬ ((nI 31) = (32 : Int32)) from by decide +kernel)]
  rw [if_neg (show ¬ ((nI 31) = (33 : Int32)) from by decide +kernel)]
  rw [if_pos (show (26 : Int32) < (nI 31) from by decide +kernel)]
  rw [if_neg (show ¬ ((31 : Int32) < (nI 31)) from by decide +kernel)]
theorem dM2_31 {g : Nat} {S : St} {x2 : Int32} : m_cuts g S (nI 31) x2 = (
  (m_textAt g S (x2 + (1 : Int32))).bind fun (S_8, v_9) =>
  if (gI S_8 0 58) = 0 then (
    m_cuts_105 g g S_8 x2 v_9 (0 : Int32)
  ) else (
    some S_8
  )) := by
  unfold m_cuts
  rw [if_neg (show ¬ ((nI 31) = (30 : Int32)) from by decide +kernel)]
  rw [if_neg (show ¬ ((nI 31) = (29 : Int32)) from by decide +kernel)]
  rw [if_pos (show (nI 31) = (31 : Int32) from by decide +kernel)]
theorem dC_32 {g : Nat} {S : St} {v_1 : Int32} (h1 : m_Bn_textAt g S (1 : Int32) = some v_1) {S_2 : St} (h2 : m_Row_clear g S 23 = some S_2) : m_TS_give g S 32 = (
  (m_TS_changeCase g S_2 v_1 (1 : Int32)).bind fun (S_26, v_27) =>
  m_TS_give_205 g S_26 v_27) := by
  unfold m_TS_give
  rw [h1, Option.bind_some]
  rw [h2, Option.bind_some]
  rw [show eS (nI 32) = some 32 from by decide +kernel, Option.bind_some]
  rw [if_neg (show ¬ ((swT.getD 32 0) = (1 : Int32)) from by decide +kernel)]
  rw [if_neg (show ¬ ((swT.getD 32 0) = (2 : Int32)) from by decide +kernel)]
  rw [if_neg (show ¬ ((swT.getD 32 0) = (3 : Int32)) from by decide +kernel)]
  rw [if_neg (show ¬ ((swT.getD 32 0) = (4 : Int32)) from by decide +kernel)]
  rw [if_neg (show ¬ ((swT.getD 32 0) = (5 : Int32)) from by decide +kernel)]
  rw [if_neg (show ¬ ((swT.getD 32 0) = (6 : Int32)) from by decide +kernel)]
  rw [if_neg (show ¬ ((swT.getD 32 0) = (7 : Int32)) from by decide +kernel)]
  rw [if_neg (show ¬ ((swT.getD 32 0) = (8 : Int32)) from by decide +kernel)]
  rw [if_neg (show ¬ ((swT.getD 32 0) = (9 : Int32)) from by decide +kernel)]
  rw [if_neg (show ¬ ((swT.getD 32 0) = (10 : Int32)) from by decide +kernel)]
  rw [if_neg (show ¬ ((swT.getD 32 0) = (11 : Int32)) from by decide +kernel)]
  rw [if_pos (show (swT.getD 32 0) = (12 : Int32) from by decide +kernel)]
theorem dM_32 {g : Nat} {S : St} {x2 : Int32} {x3 : Int32} : m_does g S (nI 32) x2 x3 = (
  m_does_68 g (sI S 0 57 (0 : Int32)) (nI 32) x2) := by
  unfold m_does
  rw [lt_d]
  rw [if_pos (show (4 : Int32) < (nI 32) from by decide +kernel)]
  rw [if_pos (show (10 : Int32) < (nI 32) from by decide +kernel)]
  rw [if_pos (show (15 : Int32) < (nI 32) from by decide +kernel)]
  rw [if_neg (show ¬ ((nI 32) ≤ (21 : Int32)) from by decide +kernel)]
  rw [if_pos (show (nI 32) = (32 : Int32) from by decide +kernel)]
theorem dM2_32 {g : Nat} {S : St} {x2 : Int32} {S_1 : St} {v_2 : Int32} (h1 : m_textAt g S (x2 + (1 : Int32)) = some (S_1, v_2)) : m_changes g S (nI 32) x2 = (
  m_changes_25 g S_1 (nI 32) x2 v_2 (0 : Int32)) := by
  unfold m_changes
  rw [h1, Option.bind_some]
  try dsimp only
  rw [if_neg (show ¬ ((nI 32) = (21 : Int32)) from by decide +kernel)]
theorem dC_33 {g : Nat} {S : St} {v_1 : Int32} (h1 : m_Bn_textAt g S (1 : Int32) = some v_1) {S_2 : St} (h2 : m_Row_clear g S 23 = some S_2) : m_TS_give g S 33 = (
  (m_TS_changeCase g S_2 v_1 (0 : Int32)).bind fun (S_28, v_29) =>
  m_TS_give_212 g S_28 v_29) := by
  unfold m_TS_give
  rw [h1, Option.bind_some]
  rw [h2, Option.bind_some]
  rw [show eS (nI 33) = some 33 from by decide +kernel, Option.bind_some]
  rw [if_neg (show ¬ ((swT.getD 33 0) = (1 : Int32)) from by decide +kernel)]
  rw [if_neg (show ¬ ((swT.getD 33 0) = (2 : Int32)) from by decide +kernel)]
  rw [if_neg (show ¬ ((swT.getD 33 0) = (3 : Int32)) from by decide +kernel)]
  rw [if_neg (show ¬ ((swT.getD 33 0) = (4 : Int32)) from by decide +kernel)]
  rw [if_neg (show ¬ ((swT.getD 33 0) = (5 : Int32)) from by decide +kernel)]
  rw [if_neg (show ¬ ((swT.getD 33 0) = (6 : Int32)) from by decide +kernel)]
  rw [if_neg (show ¬ ((swT.getD 33 0) = (7 : Int32)) from by decide +kernel)]
  rw [if_neg (show ¬ ((swT.getD 33 0) = (8 : Int32)) from by decide +kernel)]
  rw [if_neg (show ¬ ((swT.getD 33 0) = (9 : Int32)) from by decide +kernel)]
  rw [if_neg (show ¬ ((swT.getD 33 0) = (10 : Int32)) from by decide +kernel)]
  rw [if_neg (show ¬ ((swT.getD 33 0) = (11 : Int32)) from by decide +kernel)]
  rw [if_neg (show ¬ ((swT.getD 33 0) = (12 : Int32)) from by decide +kernel)]
  rw [if_pos (show (swT.getD 33 0) = (13 : Int32) from by decide +kernel)]
theorem dM_33 {g : Nat} {S : St} {x2 : Int32} {x3 : Int32} : m_does g S (nI 33) x2 x3 = (
  m_does_68 g (sI S 0 57 (0 : Int32)) (nI 33) x2) := by
  unfold m_does
  rw [lt_d]
  rw [if_pos (show (4 : Int32) < (nI 33) from by decide +kernel)]
  rw [if_pos (show (10 : Int32) < (nI 33) from by decide +kernel)]
  rw [if_pos (show (15 : Int32) < (nI 33) from by decide +kernel)]
  rw [if_neg (show ¬ ((nI 33) ≤ (21 : Int32)) from by decide +kernel)]
  rw [if_neg (show ¬ ((nI 33) = (32 : Int32)) from by decide +kernel)]
  rw [if_pos (show (nI 33) = (33 : Int32) from by decide +kernel)]
theorem dM2_33 {g : Nat} {S : St} {x2 : Int32} {S_1 : St} {v_2 : Int32} (h1 : m_textAt g S (x2 + (1 : Int32)) = some (S_1, v_2)) : m_changes g S (nI 33) x2 = (
  m_changes_25 g S_1 (nI 33) x2 v_2 (0 : Int32)) := by
  unfold m_changes
  rw [h1, Option.bind_some]
  try dsimp only
  rw [if_neg (show ¬ ((nI 33) = (21 : Int32)) from by decide +kernel)]
theorem dC_34 {g : Nat} {S : St} {v_1 : Int32} (h1 : m_Bn_builderAt g S (0 : Int32) = some v_1) {r_2 : Nat} (h2 : bR S v_1 = some r_2) {S_3 : St} (h3 : m_Row_clear g S 23 = some S_3) : m_BS_change g S 34 = (
  (m_BS_makeFresh g S_3 v_1).bind fun (S_6, v_7) =>
  some (S_6, v_7)) := by
  unfold m_BS_change
  rw [h1, Option.bind_some]
  rw [h2, Option.bind_some]
  rw [h3, Option.bind_some]
  rw [show eS (nI 34) = some 34 from by decide +kernel, Option.bind_some]
  rw [if_pos (show (swT.getD 34 0) = (46 : Int32) from by decide +kernel)]
theorem dM_34 {g : Nat} {S : St} {x2 : Int32} {x3 : Int32} : m_does g S (nI 34) x2 x3 = (
  (m_builds g (sI S 0 57 (0 : Int32)) (nI 34) x2).bind fun S_3 =>
  some S_3) := by
  unfold m_does
  rw [lt_d]
  rw [if_pos (show (4 : Int32) < (nI 34) from by decide +kernel)]
  rw [if_pos (show (10 : Int32) < (nI 34) from by decide +kernel)]
  rw [if_pos (show (15 : Int32) < (nI 34) from by decide +kernel)]
  rw [if_neg (show ¬ ((nI 34) ≤ (21 : Int32)) from by decide +kernel)]
  rw [if_neg (show ¬ ((nI 34) = (32 : Int32)) from by decide +kernel)]
  rw [if_neg (show ¬ ((nI 34) = (33 : Int32)) from by decide +kernel)]
  rw [if_pos (show (26 : Int32) < (nI 34) from by decide +kernel)]
  rw [if_pos (show (31 : Int32) < (nI 34) from by decide +kernel)]
  rw [if_neg (show ¬ ((44 : Int32) < (nI 34)) from by decide +kernel)]
theorem dM2_34 {g : Nat} {S : St} {x2 : Int32} {v_1 : Int64} (h1 : aJ S 10 x2 = some v_1) : m_builds g S (nI 34) x2 = (
  (m_opensBuilder g S (nI 34) x2 (v_1.toInt32)).bind fun S_8 =>
  some S_8) := by
  unfold m_builds
  rw [if_neg (show ¬ ((nI 34) = (42 : Int32)) from by decide +kernel)]
  rw [if_neg (show ¬ ((nI 34) = (43 : Int32)) from by decide +kernel)]
  rw [h1, Option.bind_some]
  rw [lt_d]
  rw [if_neg (show ¬ ((nI 34) = (44 : Int32)) from by decide +kernel)]
  rw [if_neg (show ¬ ((35 : Int32) < (nI 34)) from by decide +kernel)]
theorem dC_35 {g : Nat} {S : St} {v_1 : Int32} (h1 : m_Bn_builderAt g S (0 : Int32) = some v_1) {r_2 : Nat} (h2 : bR S v_1 = some r_2) {S_3 : St} (h3 : m_Row_clear g S 23 = some S_3) : m_BS_change g S 35 = (
  (m_BS_open g S_3 v_1).bind fun (S_8, v_9) =>
  m_BS_change_91 g S_8 v_9) := by
  unfold m_BS_change
  rw [h1, Option.bind_some]
  rw [h2, Option.bind_some]
  rw [h3, Option.bind_some]
  rw [show eS (nI 35) = some 35 from by decide +kernel, Option.bind_some]
  rw [if_neg (show ¬ ((swT.getD 35 0) = (46 : Int32)) from by decide +kernel)]
  rw [if_pos (show (swT.getD 35 0) = (47 : Int32) from by decide +kernel)]
theorem dM_35 {g : Nat} {S : St} {x2 : Int32} {x3 : Int32} : m_does g S (nI 35) x2 x3 = (
  (m_builds g (sI S 0 57 (0 : Int32)) (nI 35) x2).bind fun S_3 =>
  some S_3) := by
  unfold m_does
  rw [lt_d]
  rw [if_pos (show (4 : Int32) < (nI 35) from by decide +kernel)]
  rw [if_pos (show (10 : Int32) < (nI 35) from by decide +kernel)]
  rw [if_pos (show (15 : Int32) < (nI 35) from by decide +kernel)]
  rw [if_neg (show ¬ ((nI 35) ≤ (21 : Int32)) from by decide +kernel)]
  rw [if_neg (show ¬ ((nI 35) = (32 : Int32)) from by decide +kernel)]
  rw [if_neg (show ¬ ((nI 35) = (33 : Int32)) from by decide +kernel)]
  rw [if_pos (show (26 : Int32) < (nI 35) from by decide +kernel)]
  rw [if_pos (show (31 : Int32) < (nI 35) from by decide +kernel)]
  rw [if_neg (show ¬ ((44 : Int32) < (nI 35)) from by decide +kernel)]
theorem dM2_35 {g : Nat} {S : St} {x2 : Int32} {v_1 : Int64} (h1 : aJ S 10 x2 = some v_1) : m_builds g S (nI 35) x2 = (
  (m_opensBuilder g S (nI 35) x2 (v_1.toInt32)).bind fun S_8 =>
  some S_8) := by
  unfold m_builds
  rw [if_neg (show ¬ ((nI 35) = (42 : Int32)) from by decide +kernel)]
  rw [if_neg (show ¬ ((nI 35) = (43 : Int32)) from by decide +kernel)]
  rw [h1, Option.bind_some]
  rw [lt_d]
  rw [if_neg (show ¬ ((nI 35) = (44 : Int32)) from by decide +kernel)]
  rw [if_neg (show ¬ ((35 : Int32) < (nI 35)) from by decide +kernel)]
theorem dC_36 {g : Nat} {S : St} {v_1 : Int32} (h1 : m_Bn_builderAt g S (0 : Int32) = some v_1) {r_2 : Nat} (h2 : bR S v_1 = some r_2) {S_3 : St} (h3 : m_Row_clear g S 23 = some S_3) : m_BS_change g S 36 = (
  (m_BS_insertX g S_3 v_1 (gI S_3 r_2 2) (1 : Int32)).bind fun (S_10, v_11) =>
  m_BS_change_102 g S_10 v_11) := by
  unfold m_BS_change
  rw [h1, Option.bind_some]
  rw [h2, Option.bind_some]
  rw [h3, Option.bind_some]
  rw [show eS (nI 36) = some 36 from by decide +kernel, Option.bind_some]
  rw [if_neg (show ¬ ((swT.getD 36 0) = (46 : Int32)) from by decide +kernel)]
  rw [if_neg (show ¬ ((swT.getD 36 0) = (47 : Int32)) from by decide +kernel)]
  rw [if_pos (show (swT.getD 36 0) = (48 : Int32) from by decide +kernel)]
theorem dM_36 {g : Nat} {S : St} {x2 : Int32} {x3 : Int32} : m_does g S (nI 36) x2 x3 = (
  (m_builds g (sI S 0 57 (0 : Int32)) (nI 36) x2).bind fun S_3 =>
  some S_3) := by
  unfold m_does
  rw [lt_d]
  rw [if_pos (show (4 : Int32) < (nI 36) from by decide +kernel)]
  rw [if_pos (show (10 : Int32) < (nI 36) from by decide +kernel)]
  rw [if_pos (show (15 : Int32) < (nI 36) from by decide +kernel)]
  rw [if_neg (show ¬ ((nI 36) ≤ (21 : Int32)) from by decide +kernel)]
  rw [if_neg (show ¬ ((nI 36) = (32 : Int32)) from by decide +kernel)]
  rw [if_neg (show ¬ ((nI 36) = (33 : Int32)) from by decide +kernel)]
  rw [if_pos (show (26 : Int32) < (nI 36) from by decide +kernel)]
  rw [if_pos (show (31 : Int32) < (nI 36) from by decide +kernel)]
  rw [if_neg (show ¬ ((44 : Int32) < (nI 36)) from by decide +kernel)]
theorem dM2_36 {g : Nat} {S : St} {x2 : Int32} {v_1 : Int64} (h1 : aJ S 10 x2 = some v_1) : m_builds g S (nI 36) x2 = (
  (m_inserts g S (nI 36) x2 (v_1.toInt32)).bind fun S_7 =>
  some S_7) := by
  unfold m_builds
  rw [if_neg (show ¬ ((nI 36) = (42 : Int32)) from by decide +kernel)]
  rw [if_neg (show ¬ ((nI 36) = (43 : Int32)) from by decide +kernel)]
  rw [h1, Option.bind_some]
  rw [lt_d]
  rw [if_neg (show ¬ ((nI 36) = (44 : Int32)) from by decide +kernel)]
  rw [if_pos (show (35 : Int32) < (nI 36) from by decide +kernel)]
  rw [if_neg (show ¬ ((37 : Int32) < (nI 36)) from by decide +kernel)]
theorem dC_37 {g : Nat} {S : St} {v_1 : Int32} (h1 : m_Bn_builderAt g S (0 : Int32) = some v_1) {r_2 : Nat} (h2 : bR S v_1 = some r_2) {S_3 : St} (h3 : m_Row_clear g S 23 = some S_3) : m_BS_change g S 37 = (
  (m_Bn_placeAt g S_3 (1 : Int32) (gI S_3 r_2 2)).bind fun v_12 =>
  if v_12 < 0 then (
    m_BS_change_143 g S_3 (1 : Int32)
  ) else (
    if v_12 ≤ (gI S_3 r_2 2) then (
      (m_BS_insertX g S_3 v_1 v_12 (2 : Int32)).bind fun (S_13, v_14) =>
      m_BS_change_143 g S_13 v_14
    ) else (
      m_BS_change_143 g S_3 (1 : Int32)
    )
  )) := by
  unfold m_BS_change
  rw [h1, Option.bind_some]
  rw [h2, Option.bind_some]
  rw [h3, Option.bind_some]
  rw [show eS (nI 37) = some 37 from by decide +kernel, Option.bind_some]
  rw [if_neg (show ¬ ((swT.getD 37 0) = (46 : Int32)) from by decide +kernel)]
  rw [if_neg (show ¬ ((swT.getD 37 0) = (47 : Int32)) from by decide +kernel)]
  rw [if_neg (show ¬ ((swT.getD 37 0) = (48 : Int32)) from by decide +kernel)]
  rw [if_pos (show (swT.getD 37 0) = (49 : Int32) from by decide +kernel)]
theorem dM_37 {g : Nat} {S : St} {x2 : Int32} {x3 : Int32} : m_does g S (nI 37) x2 x3 = (
  (m_builds g (sI S 0 57 (0 : Int32)) (nI 37) x2).bind fun S_3 =>
  some S_3) := by
  unfold m_does
  rw [lt_d]
  rw [if_pos (show (4 : Int32) < (nI 37) from by decide +kernel)]
  rw [if_pos (show (10 : Int32) < (nI 37) from by decide +kernel)]
  rw [if_pos (show (15 : Int32) < (nI 37) from by decide +kernel)]
  rw [if_neg (show ¬ ((nI 37) ≤ (21 : Int32)) from by decide +kernel)]
  rw [if_neg (show ¬ ((nI 37) = (32 : Int32)) from by decide +kernel)]
  rw [if_neg (show ¬ ((nI 37) = (33 : Int32)) from by decide +kernel)]
  rw [if_pos (show (26 : Int32) < (nI 37) from by decide +kernel)]
  rw [if_pos (show (31 : Int32) < (nI 37) from by decide +kernel)]
  rw [if_neg (show ¬ ((44 : Int32) < (nI 37)) from by decide +kernel)]
theorem dM2_37 {g : Nat} {S : St} {x2 : Int32} {v_1 : Int64} (h1 : aJ S 10 x2 = some v_1) : m_builds g S (nI 37) x2 = (
  (m_inserts g S (nI 37) x2 (v_1.toInt32)).bind fun S_7 =>
  some S_7) := by
  unfold m_builds
  rw [if_neg (show ¬ ((nI 37) = (42 : Int32)) from by decide +kernel)]
  rw [if_neg (show ¬ ((nI 37) = (43 : Int32)) from by decide +kernel)]
  rw [h1, Option.bind_some]
  rw [lt_d]
  rw [if_neg (show ¬ ((nI 37) = (44 : Int32)) from by decide +kernel)]
  rw [if_pos (show (35 : Int32) < (nI 37) from by decide +kernel)]
  rw [if_neg (show ¬ ((37 : Int32) < (nI 37)) from by decide +kernel)]
theorem dC_38 {g : Nat} {S : St} {v_1 : Int32} (h1 : m_Bn_builderAt g S (0 : Int32) = some v_1) {r_2 : Nat} (h2 : bR S v_1 = some r_2) {S_3 : St} (h3 : m_Row_clear g S 23 = some S_3) : m_BS_change g S 38 = (
  (m_BS_delete g S_3 r_2).bind fun (S_15, v_16) =>
  some (S_15, v_16)) := by
  unfold m_BS_change
  rw [h1, Option.bind_some]
  rw [h2, Option.bind_some]
  rw [h3, Option.bind_some]
  rw [show eS (nI 38) = some 38 from by decide +kernel, Option.bind_some]
  rw [if_neg (show ¬ ((swT.getD 38 0) = (46 : Int32)) from by decide +kernel)]
  rw [if_neg (show ¬ ((swT.getD 38 0) = (47 : Int32)) from by decide +kernel)]
  rw [if_neg (show ¬ ((swT.getD 38 0) = (48 : Int32)) from by decide +kernel)]
  rw [if_neg (show ¬ ((swT.getD 38 0) = (49 : Int32)) from by decide +kernel)]
  rw [if_pos (show (swT.getD 38 0) = (50 : Int32) from by decide +kernel)]
theorem dM_38 {g : Nat} {S : St} {x2 : Int32} {x3 : Int32} : m_does g S (nI 38) x2 x3 = (
  (m_builds g (sI S 0 57 (0 : Int32)) (nI 38) x2).bind fun S_3 =>
  some S_3) := by
  unfold m_does
  rw [lt_d]
  rw [if_pos (show (4 : Int32) < (nI 38) from by decide +kernel)]
  rw [if_pos (show (10 : Int32) < (nI 38) from by decide +kernel)]
  rw [if_pos (show (15 : Int32) < (nI 38) from by decide +kernel)]
  rw [if_neg (show ¬ ((nI 38) ≤ (21 : Int32)) from by decide +kernel)]
  rw [if_neg (show ¬ ((nI 38) = (32 : Int32)) from by decide +kernel)]
  rw [if_neg (show ¬ ((nI 38) = (33 : Int32)) from by decide +kernel)]
  rw [if_pos (show (26 : Int32) < (nI 38) from by decide +kernel)]
  rw [if_pos (show (31 : Int32) < (nI 38) from by decide +kernel)]
  rw [if_neg (show ¬ ((44 : Int32) < (nI 38)) from by decide +kernel)]
theorem dM2_38 {g : Nat} {S : St} {x2 : Int32} {v_1 : Int64} (h1 : aJ S 10 x2 = some v_1) : m_builds g S (nI 38) x2 = (
  (m_deletes g S x2 (v_1.toInt32)).bind fun S_6 =>
  some S_6) := by
  unfold m_builds
  rw [if_neg (show ¬ ((nI 38) = (42 : Int32)) from by decide +kernel)]
  rw [if_neg (show ¬ ((nI 38) = (43 : Int32)) from by decide +kernel)]
  rw [h1, Option.bind_some]
  rw [lt_d]
  rw [if_neg (show ¬ ((nI 38) = (44 : Int32)) from by decide +kernel)]
  rw [if_pos (show (35 : Int32) < (nI 38) from by decide +kernel)]
  rw [if_pos (show (37 : Int32) < (nI 38) from by decide +kernel)]
  rw [if_pos (show (nI 38) = (38 : Int32) from by decide +kernel)]
theorem dC_39 {g : Nat} {S : St} {v_1 : Int32} (h1 : m_Bn_builderAt g S (0 : Int32) = some v_1) {r_2 : Nat} (h2 : bR S v_1 = some r_2) {S_3 : St} (h3 : m_Row_clear g S 23 = some S_3) : m_BS_change g S 39 = (
  (m_BS_put g S_3 r_2).bind fun (S_17, v_18) =>
  some (S_17, v_18)) := by
  unfold m_BS_change
  rw [h1, Option.bind_some]
  rw [h2, Option.bind_some]
  rw [h3, Option.bind_some]
  rw [show eS (nI 39) = some 39 from by decide +kernel, Option.bind_some]
  rw [if_neg (show ¬ ((swT.getD 39 0) = (46 : Int32)) from by decide +kernel)]
  rw [if_neg (show ¬ ((swT.getD 39 0) = (47 : Int32)) from by decide +kernel)]
  rw [if_neg (show ¬ ((swT.getD 39 0) = (48 : Int32)) from by decide +kernel)]
  rw [if_neg (show ¬ ((swT.getD 39 0) = (49 : Int32)) from by decide +kernel)]
  rw [if_neg (show ¬ ((swT.getD 39 0) = (50 : Int32)) from by decide +kernel)]
  rw [if_pos (show (swT.getD 39 0) = (51 : Int32) from by decide +kernel)]
theorem dM_39 {g : Nat} {S : St} {x2 : Int32} {x3 : Int32} : m_does g S (nI 39) x2 x3 = (
  (m_builds g (sI S 0 57 (0 : Int32)) (nI 39) x2).bind fun S_3 =>
  some S_3) := by
  unfold m_does
  rw [lt_d]
  rw [if_pos (show (4 : Int32) < (nI 39) from by decide +kernel)]
  rw [if_pos (show (10 : Int32) < (nI 39) from by decide +kernel)]
  rw [if_pos (show (15 : Int32) < (nI 39) from by decide +kernel)]
  rw [if_neg (show ¬ ((nI 39) ≤ (21 : Int32)) from by decide +kernel)]
  rw [if_neg (show ¬ ((nI 39) = (32 : Int32)) from by decide +kernel)]
  rw [if_neg (show ¬ ((nI 39) = (33 : Int32)) from by decide +kernel)]
  rw [if_pos (show (26 : Int32) < (nI 39) from by decide +kernel)]
  rw [if_pos (show (31 : Int32) < (nI 39) from by decide +kernel)]
  rw [if_neg (show ¬ ((44 : Int32) < (nI 39)) from by decide +kernel)]
theorem dM2_39 {g : Nat} {S : St} {x2 : Int32} {v_1 : Int64} (h1 : aJ S 10 x2 = some v_1) : m_builds g S (nI 39) x2 = (
  (m_puts g S x2 (v_1.toInt32)).bind fun S_5 =>
  some S_5) := by
  unfold m_builds
  rw [if_neg (show ¬ ((nI 39) = (42 : Int32)) from by decide +kernel)]
  rw [if_neg (show ¬ ((nI 39) = (43 : Int32)) from by decide +kernel)]
  rw [h1, Option.bind_some]
  rw [lt_d]
  rw [if_neg (show ¬ ((nI 39) = (44 : Int32)) from by decide +kernel)]
  rw [if_pos (show (35 : Int32) < (nI 39) from by decide +kernel)]
  rw [if_pos (show (37 : Int32) < (nI 39) from by decide +kernel)]
  rw [if_neg (show ¬ ((nI 39) = (38 : Int32)) from by decide +kernel)]
  rw [if_pos (show (nI 39) = (39 : Int32) from by decide +kernel)]
theorem dC_40 {g : Nat} {S : St} {v_1 : Int32} (h1 : m_Bn_builderAt g S (0 : Int32) = some v_1) {r_2 : Nat} (h2 : bR S v_1 = some r_2) {S_3 : St} (h3 : m_Row_clear g S 23 = some S_3) : m_BS_change g S 40 = (
  (m_BS_turn g S_3 r_2).bind fun (S_19, v_20) =>
  m_BS_change_161 g S_19 v_20) := by
  unfold m_BS_change
  rw [h1, Option.bind_some]
  rw [h2, Option.bind_some]
  rw [h3, Option.bind_some]
  rw [show eS (nI 40) = some 40 from by decide +kernel, Option.bind_some]
  rw [if_neg (show ¬ ((swT.getD 40 0) = (46 : Int32)) from by decide +kernel)]
  rw [if_neg (show ¬ ((swT.getD 40 0) = (47 : Int32)) from by decide +kernel)]
  rw [if_neg (show ¬ ((swT.getD 40 0) = (48 : Int32)) from by decide +kernel)]
  rw [if_neg (show ¬ ((swT.getD 40 0) = (49 : Int32)) from by decide +kernel)]
  rw [if_neg (show ¬ ((swT.getD 40 0) = (50 : Int32)) from by decide +kernel)]
  rw [if_neg (show ¬ ((swT.getD 40 0) = (51 : Int32)) from by decide +kernel)]
  rw [if_pos (show (swT.getD 40 0) = (52 : Int32) from by decide +kernel)]
theorem dM_40 {g : Nat} {S : St} {x2 : Int32} {x3 : Int32} : m_does g S (nI 40) x2 x3 = (
  (m_builds g (sI S 0 57 (0 : Int32)) (nI 40) x2).bind fun S_3 =>
  some S_3) := by
  unfold m_does
  rw [lt_d]
  rw [if_pos (show (4 : Int32) < (nI 40) from by decide +kernel)]
  rw [if_pos (show (10 : Int32) < (nI 40) from by decide +kernel)]
  rw [if_pos (show (15 : Int32) < (nI 40) from by decide +kernel)]
  rw [if_neg (show ¬ ((nI 40) ≤ (21 : Int32)) from by decide +kernel)]
  rw [if_neg (show ¬ ((nI 40) = (32 : Int32)) from by decide +kernel)]
  rw [if_neg (show ¬ ((nI 40) = (33 : Int32)) from by decide +kernel)]
  rw [if_pos (show (26 : Int32) < (nI 40) from by decide +kernel)]
  rw [if_pos (show (31 : Int32) < (nI 40) from by decide +kernel)]
  rw [if_neg (show ¬ ((44 : Int32) < (nI 40)) from by decide +kernel)]
theorem dM2_40 {g : Nat} {S : St} {x2 : Int32} {v_1 : Int64} (h1 : aJ S 10 x2 = some v_1) : m_builds g S (nI 40) x2 = (
  (m_turns g S (v_1.toInt32)).bind fun S_4 =>
  some S_4) := by
  unfold m_builds
  rw [if_neg (show ¬ ((nI 40) = (42 : Int32)) from by decide +kernel)]
  rw [if_neg (show ¬ ((nI 40) = (43 : Int32)) from by decide +kernel)]
  rw [h1, Option.bind_some]
  rw [lt_d]
  rw [if_neg (show ¬ ((nI 40) = (44 : Int32)) from by decide +kernel)]
  rw [if_pos (show (35 : Int32) < (nI 40) from by decide +kernel)]
  rw [if_pos (show (37 : Int32) < (nI 40) from by decide +kernel)]
  rw [if_neg (show ¬ ((nI 40) = (38 : Int32)) from by decide +kernel)]
  rw [if_neg (show ¬ ((nI 40) = (39 : Int32)) from by decide +kernel)]
  rw [if_pos (show (nI 40) = (40 : Int32) from by decide +kernel)]
theorem dC_41 {g : Nat} {S : St} {v_1 : Int32} (h1 : m_Bn_builderAt g S (0 : Int32) = some v_1) {r_2 : Nat} (h2 : bR S v_1 = some r_2) {S_3 : St} (h3 : m_Row_clear g S 23 = some S_3) : m_BS_change g S 41 = (
  (m_BS_resize g S_3 v_1).bind fun (S_21, v_22) =>
  m_BS_change_167 g S_21 v_22) := by
  unfold m_BS_change
  rw [h1, Option.bind_some]
  rw [h2, Option.bind_some]
  rw [h3, Option.bind_some]
  rw [show eS (nI 41) = some 41 from by decide +kernel, Option.bind_some]
  rw [if_neg (show ¬ ((swT.getD 41 0) = (46 : Int32)) from by decide +kernel)]
  rw [if_neg (show ¬ ((swT.getD 41 0) = (47 : Int32)) from by decide +kernel)]
  rw [if_neg (show ¬ ((swT.getD 41 0) = (48 : Int32)) from by decide +kernel)]
  rw [if_neg (show ¬ ((swT.getD 41 0) = (49 : Int32)) from by decide +kernel)]
  rw [if_neg (show ¬ ((swT.getD 41 0) = (50 : Int32)) from by decide +kernel)]
  rw [if_neg (show ¬ ((swT.getD 41 0) = (51 : Int32)) from by decide +kernel)]
  rw [if_neg (show ¬ ((swT.getD 41 0) = (52 : Int32)) from by decide +kernel)]
  rw [if_pos (show (swT.getD 41 0) = (53 : Int32) from by decide +kernel)]
theorem dM_41 {g : Nat} {S : St} {x2 : Int32} {x3 : Int32} : m_does g S (nI 41) x2 x3 = (
  (m_builds g (sI S 0 57 (0 : Int32)) (nI 41) x2).bind fun S_3 =>
  some S_3) := by
  unfold m_does
  rw [lt_d]
  rw [if_pos (show (4 : Int32) < (nI 41) from by decide +kernel)]
  rw [if_pos (show (10 : Int32) < (nI 41) from by decide +kernel)]
  rw [if_pos (show (15 : Int32) < (nI 41) from by decide +kernel)]
  rw [if_neg (show ¬ ((nI 41) ≤ (21 : Int32)) from by decide +kernel)]
  rw [if_neg (show ¬ ((nI 41) = (32 : Int32)) from by decide +kernel)]
  rw [if_neg (show ¬ ((nI 41) = (33 : Int32)) from by decide +kernel)]
  rw [if_pos (show (26 : Int32) < (nI 41) from by decide +kernel)]
  rw [if_pos (show (31 : Int32) < (nI 41) from by decide +kernel)]
  rw [if_neg (show ¬ ((44 : Int32) < (nI 41)) from by decide +kernel)]
theorem dM2_41 {g : Nat} {S : St} {x2 : Int32} {v_1 : Int64} (h1 : aJ S 10 x2 = some v_1) : m_builds g S (nI 41) x2 = (
  (m_sizes g S x2 (v_1.toInt32)).bind fun S_3 =>
  some S_3) := by
  unfold m_builds
  rw [if_neg (show ¬ ((nI 41) = (42 : Int32)) from by decide +kernel)]
  rw [if_neg (show ¬ ((nI 41) = (43 : Int32)) from by decide +kernel)]
  rw [h1, Option.bind_some]
  rw [lt_d]
  rw [if_neg (show ¬ ((nI 41) = (44 : Int32)) from by decide +kernel)]
  rw [if_pos (show (35 : Int32) < (nI 41) from by decide +kernel)]
  rw [if_pos (show (37 : Int32) < (nI 41) from by decide +kernel)]
  rw [if_neg (show ¬ ((nI 41) = (38 : Int32)) from by decide +kernel)]
  rw [if_neg (show ¬ ((nI 41) = (39 : Int32)) from by decide +kernel)]
  rw [if_neg (show ¬ ((nI 41) = (40 : Int32)) from by decide +kernel)]
theorem dC_42 {g : Nat} {S : St} {v_1 : Int32} (h1 : m_Bn_textAt g S (1 : Int32) = some v_1) {S_2 : St} (h2 : m_Row_clear g S 23 = some S_2) : m_TS_give g S 42 = (
  (m_Bn_builderAt g S_2 (1 : Int32)).bind fun v_30 =>
  (bR S_2 v_30).bind fun r_31 =>
  (m_Row_insert g S_2 23 (0 : Int32) r_31 (0 : Int32) (gI S_2 r_31 2)).bind fun S_32 =>
  m_TS_give_244 g S_32) := by
  unfold m_TS_give
  rw [h1, Option.bind_some]
  rw [h2, Option.bind_some]
  rw [show eS (nI 42) = some 42 from by decide +kernel, Option.bind_some]
  rw [if_neg (show ¬ ((swT.getD 42 0) = (1 : Int32)) from by decide +kernel)]
  rw [if_neg (show ¬ ((swT.getD 42 0) = (2 : Int32)) from by decide +kernel)]
  rw [if_neg (show ¬ ((swT.getD 42 0) = (3 : Int32)) from by decide +kernel)]
  rw [if_neg (show ¬ ((swT.getD 42 0) = (4 : Int32)) from by decide +kernel)]
  rw [if_neg (show ¬ ((swT.getD 42 0) = (5 : Int32)) from by decide +kernel)]
  rw [if_neg (show ¬ ((swT.getD 42 0) = (6 : Int32)) from by decide +kernel)]
  rw [if_neg (show ¬ ((swT.getD 42 0) = (7 : Int32)) from by decide +kernel)]
  rw [if_neg (show ¬ ((swT.getD 42 0) = (8 : Int32)) from by decide +kernel)]
  rw [if_neg (show ¬ ((swT.getD 42 0) = (9 : Int32)) from by decide +kernel)]
  rw [if_neg (show ¬ ((swT.getD 42 0) = (10 : Int32)) from by decide +kernel)]
  rw [if_neg (show ¬ ((swT.getD 42 0) = (11 : Int32)) from by decide +kernel)]
  rw [if_neg (show ¬ ((swT.getD 42 0) = (12 : Int32)) from by decide +kernel)]
  rw [if_neg (show ¬ ((swT.getD 42 0) = (13 : Int32)) from by decide +kernel)]
  rw [if_pos (show (swT.getD 42 0) = (14 : Int32) from by decide +kernel)]
theorem dM_42 {g : Nat} {S : St} {x2 : Int32} {x3 : Int32} : m_does g S (nI 42) x2 x3 = (
  (m_builds g (sI S 0 57 (0 : Int32)) (nI 42) x2).bind fun S_3 =>
  some S_3) := by
  unfold m_does
  rw [lt_d]
  rw [if_pos (show (4 : Int32) < (nI 42) from by decide +kernel)]
  rw [if_pos (show (10 : Int32) < (nI 42) from by decide +kernel)]
  rw [if_pos (show (15 : Int32) < (nI 42) from by decide +kernel)]
  rw [if_neg (show ¬ ((nI 42) ≤ (21 : Int32)) from by decide +kernel)]
  rw [if_neg (show ¬ ((nI 42) = (32 : Int32)) from by decide +kernel)]
  rw [if_neg (show ¬ ((nI 42) = (33 : Int32)) from by decide +kernel)]
  rw [if_pos (show (26 : Int32) < (nI 42) from by decide +kernel)]
  rw [if_pos (show (31 : Int32) < (nI 42) from by decide +kernel)]
  rw [if_neg (show ¬ ((44 : Int32) < (nI 42)) from by decide +kernel)]
theorem dM2_42 {g : Nat} {S : St} {x2 : Int32} : m_builds g S (nI 42) x2 = (
  m_builds_12 g S (nI 42) x2) := by
  unfold m_builds
  rw [if_pos (show (nI 42) = (42 : Int32) from by decide +kernel)]
theorem dC_43 {g : Nat} {S : St} : m_WS_give g S 43 = (
  (m_Bn_builderAt g S (1 : Int32)).bind fun v_5 =>
  (aI S 77 v_5).bind fun v_6 =>
  (m_Bn_giveWhole g S (v_6.toInt64)).bind fun (S_7, v_8) =>
  some (S_7, v_8)) := by
  unfold m_WS_give
  rw [show eS (nI 43) = some 43 from by decide +kernel, Option.bind_some]
  rw [if_neg (show ¬ ((swT.getD 43 0) = (21 : Int32)) from by decide +kernel)]
  rw [if_pos (show (swT.getD 43 0) = (22 : Int32) from by decide +kernel)]
theorem dM_43 {g : Nat} {S : St} {x2 : Int32} {x3 : Int32} : m_does g S (nI 43) x2 x3 = (
  (m_builds g (sI S 0 57 (0 : Int32)) (nI 43) x2).bind fun S_3 =>
  some S_3) := by
  unfold m_does
  rw [lt_d]
  rw [if_pos (show (4 : Int32) < (nI 43) from by decide +kernel)]
  rw [if_pos (show (10 : Int32) < (nI 43) from by decide +kernel)]
  rw [if_pos (show (15 : Int32) < (nI 43) from by decide +kernel)]
  rw [if_neg (show ¬ ((nI 43) ≤ (21 : Int32)) from by decide +kernel)]
  rw [if_neg (show ¬ ((nI 43) = (32 : Int32)) from by decide +kernel)]
  rw [if_neg (show ¬ ((nI 43) = (33 : Int32)) from by decide +kernel)]
  rw [if_pos (show (26 : Int32) < (nI 43) from by decide +kernel)]
  rw [if_pos (show (31 : Int32) < (nI 43) from by decide +kernel)]
  rw [if_neg (show ¬ ((44 : Int32) < (nI 43)) from by decide +kernel)]
theorem dM2_43 {g : Nat} {S : St} {x2 : Int32} : m_builds g S (nI 43) x2 = (
  m_builds_12 g S (nI 43) x2) := by
  unfold m_builds
  rw [if_neg (show ¬ ((nI 43) = (42 : Int32)) from by decide +kernel)]
  rw [if_pos (show (nI 43) = (43 : Int32) from by decide +kernel)]
theorem dC_44 {g : Nat} {S : St} : m_WS_give g S 44 = (
  (m_WS_giveFirst g S).bind fun (S_9, v_10) =>
  some (S_9, v_10)) := by
  unfold m_WS_give
  rw [show eS (nI 44) = some 44 from by decide +kernel, Option.bind_some]
  rw [if_neg (show ¬ ((swT.getD 44 0) = (21 : Int32)) from by decide +kernel)]
  rw [if_neg (show ¬ ((swT.getD 44 0) = (22 : Int32)) from by decide +kernel)]
  rw [if_pos (show (swT.getD 44 0) = (23 : Int32) from by decide +kernel)]
theorem dM_44 {g : Nat} {S : St} {x2 : Int32} {x3 : Int32} : m_does g S (nI 44) x2 x3 = (
  (m_builds g (sI S 0 57 (0 : Int32)) (nI 44) x2).bind fun S_3 =>
  some S_3) := by
  unfold m_does
  rw [lt_d]
  rw [if_pos (show (4 : Int32) < (nI 44) from by decide +kernel)]
  rw [if_pos (show (10 : Int32) < (nI 44) from by decide +kernel)]
  rw [if_pos (show (15 : Int32) < (nI 44) from by decide +kernel)]
  rw [if_neg (show ¬ ((nI 44) ≤ (21 : Int32)) from by decide +kernel)]
  rw [if_neg (show ¬ ((nI 44) = (32 : Int32)) from by decide +kernel)]
  rw [if_neg (show ¬ ((nI 44) = (33 : Int32)) from by decide +kernel)]
  rw [if_pos (show (26 : Int32) < (nI 44) from by decide +kernel)]
  rw [if_pos (show (31 : Int32) < (nI 44) from by decide +kernel)]
  rw [if_neg (show ¬ ((44 : Int32) < (nI 44)) from by decide +kernel)]
theorem dM2_44 {g : Nat} {S : St} {x2 : Int32} {v_1 : Int64} (h1 : aJ S 10 x2 = some v_1) : m_builds g S (nI 44) x2 = (
  (aJ S 10 (x2 + (1 : Int32))).bind fun v_9 =>
  (aJ S 10 (x2 + (2 : Int32))).bind fun v_10 =>
  (m_orderOf g S (v_9.toInt32) (v_10.toInt32)).bind fun v_11 =>
  (m_givesWhole g S x2 v_11).bind fun S_12 =>
  some S_12) := by
  unfold m_builds
  rw [if_neg (show ¬ ((nI 44) = (42 : Int32)) from by decide +kernel)]
  rw [if_neg (show ¬ ((nI 44) = (43 : Int32)) from by decide +kernel)]
  rw [h1, Option.bind_some]
  rw [lt_d]
  rw [if_pos (show (nI 44) = (44 : Int32) from by decide +kernel)]
theorem dC_45 {g : Nat} {S : St} {v_1 : Int32} (h1 : m_Bn_textAt g S (1 : Int32) = some v_1) {S_2 : St} (h2 : m_Row_clear g S 23 = some S_2) : m_TS_give g S 45 = (
  (m_TS_from g S_2).bind fun (S_33, v_34) =>
  m_TS_give_255 g S_33 v_34) := by
  unfold m_TS_give
  rw [h1, Option.bind_some]
  rw [h2, Option.bind_some]
  rw [show eS (nI 45) = some 45 from by decide +kernel, Option.bind_some]
  rw [if_neg (show ¬ ((swT.getD 45 0) = (1 : Int32)) from by decide +kernel)]
  rw [if_neg (show ¬ ((swT.getD 45 0) = (2 : Int32)) from by decide +kernel)]
  rw [if_neg (show ¬ ((swT.getD 45 0) = (3 : Int32)) from by decide +kernel)]
  rw [if_neg (show ¬ ((swT.getD 45 0) = (4 : Int32)) from by decide +kernel)]
  rw [if_neg (show ¬ ((swT.getD 45 0) = (5 : Int32)) from by decide +kernel)]
  rw [if_neg (show ¬ ((swT.getD 45 0) = (6 : Int32)) from by decide +kernel)]
  rw [if_neg (show ¬ ((swT.getD 45 0) = (7 : Int32)) from by decide +kernel)]
  rw [if_neg (show ¬ ((swT.getD 45 0) = (8 : Int32)) from by decide +kernel)]
  rw [if_neg (show ¬ ((swT.getD 45 0) = (9 : Int32)) from by decide +kernel)]
  rw [if_neg (show ¬ ((swT.getD 45 0) = (10 : Int32)) from by decide +kernel)]
  rw [if_neg (show ¬ ((swT.getD 45 0) = (11 : Int32)) from by decide +kernel)]
  rw [if_neg (show ¬ ((swT.getD 45 0) = (12 : Int32)) from by decide +kernel)]
  rw [if_neg (show ¬ ((swT.getD 45 0) = (13 : Int32)) from by decide +kernel)]
  rw [if_neg (show ¬ ((swT.getD 45 0) = (14 : Int32)) from by decide +kernel)]
  rw [if_pos (show (swT.getD 45 0) = (15 : Int32) from by decide +kernel)]
theorem dM_45 {g : Nat} {S : St} {x2 : Int32} {x3 : Int32} : m_does g S (nI 45) x2 x3 = (
  (m_reckons g (sI S 0 57 (0 : Int32)) (nI 45) x2 x3).bind fun S_2 =>
  some S_2) := by
  unfold m_does
  rw [lt_d]
  rw [if_pos (show (4 : Int32) < (nI 45) from by decide +kernel)]
  rw [if_pos (show (10 : Int32) < (nI 45) from by decide +kernel)]
  rw [if_pos (show (15 : Int32) < (nI 45) from by decide +kernel)]
  rw [if_neg (show ¬ ((nI 45) ≤ (21 : Int32)) from by decide +kernel)]
  rw [if_neg (show ¬ ((nI 45) = (32 : Int32)) from by decide +kernel)]
  rw [if_neg (show ¬ ((nI 45) = (33 : Int32)) from by decide +kernel)]
  rw [if_pos (show (26 : Int32) < (nI 45) from by decide +kernel)]
  rw [if_pos (show (31 : Int32) < (nI 45) from by decide +kernel)]
  rw [if_pos (show (44 : Int32) < (nI 45) from by decide +kernel)]
theorem dM2_45 {g : Nat} {S : St} {x2 : Int32} {x3 : Int32} : m_reckons g S (nI 45) x2 x3 = (
  m_reckons_9 g g S x2 x3 (1 : Int32)) := by
  unfold m_reckons
  rw [if_pos (show (nI 45) = (45 : Int32) from by decide +kernel)]
theorem dC_46 {g : Nat} {S : St} {v_1 : Int32} (h1 : m_Bn_textAt g S (1 : Int32) = some v_1) {S_2 : St} (h2 : m_Row_clear g S 23 = some S_2) : m_TS_give g S 46 = (
  (m_Bn_wholeAt g S_2 (1 : Int32)).bind fun v_35 =>
  (m_Bn_wholeAt g S_2 (2 : Int32)).bind fun v_36 =>
  (m_Row_addWhole g S_2 23 v_35 v_36).bind fun S_37 =>
  m_TS_give_279 g S_37) := by
  unfold m_TS_give
  rw [h1, Option.bind_some]
  rw [h2, Option.bind_some]
  rw [show eS (nI 46) = some 46 from by decide +kernel, Option.bind_some]
  rw [if_neg (show ¬ ((swT.getD 46 0) = (1 : Int32)) from by decide +kernel)]
  rw [if_neg (show ¬ ((swT.getD 46 0) = (2 : Int32)) from by decide +kernel)]
  rw [if_neg (show ¬ ((swT.getD 46 0) = (3 : Int32)) from by decide +kernel)]
  rw [if_neg (show ¬ ((swT.getD 46 0) = (4 : Int32)) from by decide +kernel)]
  rw [if_neg (show ¬ ((swT.getD 46 0) = (5 : Int32)) from by decide +kernel)]
  rw [if_neg (show ¬ ((swT.getD 46 0) = (6 : Int32)) from by decide +kernel)]
  rw [if_neg (show ¬ ((swT.getD 46 0) = (7 : Int32)) from by decide +kernel)]
  rw [if_neg (show ¬ ((swT.getD 46 0) = (8 : Int32)) from by decide +kernel)]
  rw [if_neg (show ¬ ((swT.getD 46 0) = (9 : Int32)) from by decide +kernel)]
  rw [if_neg (show ¬ ((swT.getD 46 0) = (10 : Int32)) from by decide +kernel)]
  rw [if_neg (show ¬ ((swT.getD 46 0) = (11 : Int32)) from by decide +kernel)]
  rw [if_neg (show ¬ ((swT.getD 46 0) = (12 : Int32)) from by decide +kernel)]
  rw [if_neg (show ¬ ((swT.getD 46 0) = (13 : Int32)) from by decide +kernel)]
  rw [if_neg (show ¬ ((swT.getD 46 0) = (14 : Int32)) from by decide +kernel)]
  rw [if_neg (show ¬ ((swT.getD 46 0) = (15 : Int32)) from by decide +kernel)]
  rw [if_pos (show (swT.getD 46 0) = (16 : Int32) from by decide +kernel)]
theorem dM_46 {g : Nat} {S : St} {x2 : Int32} {x3 : Int32} : m_does g S (nI 46) x2 x3 = (
  (m_reckons g (sI S 0 57 (0 : Int32)) (nI 46) x2 x3).bind fun S_2 =>
  some S_2) := by
  unfold m_does
  rw [lt_d]
  rw [if_pos (show (4 : Int32) < (nI 46) from by decide +kernel)]
  rw [if_pos (show (10 : Int32) < (nI 46) from by decide +kernel)]
  rw [if_pos (show (15 : Int32) < (nI 46) from by decide +kernel)]
  rw [if_neg (show ¬ ((nI 46) ≤ (21 : Int32)) from by decide +kernel)]
  rw [if_neg (show ¬ ((nI 46) = (32 : Int32)) from by decide +kernel)]
  rw [if_neg (show ¬ ((nI 46) = (33 : Int32)) from by decide +kernel)]
  rw [if_pos (show (26 : Int32) < (nI 46) from by decide +kernel)]
  rw [if_pos (show (31 : Int32) < (nI 46) from by decide +kernel)]
  rw [if_pos (show (44 : Int32) < (nI 46) from by decide +kernel)]
theorem dM2_46 {g : Nat} {S : St} {x2 : Int32} {x3 : Int32} : m_reckons g S (nI 46) x2 x3 = (
  (m_value g S (x2 + (2 : Int32))).bind fun v_7 =>
  (m_value g S (x2 + (1 : Int32))).bind fun v_8 =>
  (m_isIn g v_7 (2 : Int64) (36 : Int64)).bind fun v_9 =>
  if v_9 = 0 then (
    m_reckons_86 g S x2 v_8 (10 : Int32)
  ) else (
    m_reckons_86 g S x2 v_8 (v_7.toInt32)
  )) := by
  unfold m_reckons
  rw [if_neg (show ¬ ((nI 46) = (45 : Int32)) from by decide +kernel)]
  rw [if_pos (show (nI 46) = (46 : Int32) from by decide +kernel)]
theorem dC_47 {g : Nat} {S : St} : m_WS_give g S 47 = (
  (m_WS_parse g S (-9223372036854775808 : Int64)).bind fun (S_11, v_12) =>
  some (S_11, v_12)) := by
  unfold m_WS_give
  rw [show eS (nI 47) = some 47 from by decide +kernel, Option.bind_some]
  rw [if_neg (show ¬ ((swT.getD 47 0) = (21 : Int32)) from by decide +kernel)]
  rw [if_neg (show ¬ ((swT.getD 47 0) = (22 : Int32)) from by decide +kernel)]
  rw [if_neg (show ¬ ((swT.getD 47 0) = (23 : Int32)) from by decide +kernel)]
  rw [if_pos (show (swT.getD 47 0) = (24 : Int32) from by decide +kernel)]
theorem dM_47 {g : Nat} {S : St} {x2 : Int32} {x3 : Int32} : m_does g S (nI 47) x2 x3 = (
  (m_reckons g (sI S 0 57 (0 : Int32)) (nI 47) x2 x3).bind fun S_2 =>
  some S_2) := by
  unfold m_does
  rw [lt_d]
  rw [if_pos (show (4 : Int32) < (nI 47) from by decide +kernel)]
  rw [if_pos (show (10 : Int32) < (nI 47) from by decide +kernel)]
  rw [if_pos (show (15 : Int32) < (nI 47) from by decide +kernel)]
  rw [if_neg (show ¬ ((nI 47) ≤ (21 : Int32)) from by decide +kernel)]
  rw [if_neg (show ¬ ((nI 47) = (32 : Int32)) from by decide +kernel)]
  rw [if_neg (show ¬ ((nI 47) = (33 : Int32)) from by decide +kernel)]
  rw [if_pos (show (26 : Int32) < (nI 47) from by decide +kernel)]
  rw [if_pos (show (31 : Int32) < (nI 47) from by decide +kernel)]
  rw [if_pos (show (44 : Int32) < (nI 47) from by decide +kernel)]
theorem dM2_47 {g : Nat} {S : St} {x2 : Int32} {x3 : Int32} : m_reckons g S (nI 47) x2 x3 = (
  (m_parses g S (nI 47) x2).bind fun S_6 =>
  some S_6) := by
  unfold m_reckons
  rw [if_neg (show ¬ ((nI 47) = (45 : Int32)) from by decide +kernel)]
  rw [if_neg (show ¬ ((nI 47) = (46 : Int32)) from by decide +kernel)]
  rw [if_neg (show ¬ ((48 : Int32) < (nI 47)) from by decide +kernel)]
theorem dC_48 {g : Nat} {S : St} : m_WS_give g S 48 = (
  (m_WS_parse g S (-2147483648 : Int64)).bind fun (S_13, v_14) =>
  some (S_13, v_14)) := by
  unfold m_WS_give
  rw [show eS (nI 48) = some 48 from by decide +kernel, Option.bind_some]
  rw [if_neg (show ¬ ((swT.getD 48 0) = (21 : Int32)) from by decide +kernel)]
  rw [if_neg (show ¬ ((swT.getD 48 0) = (22 : Int32)) from by decide +kernel)]
  rw [if_neg (show ¬ ((swT.getD 48 0) = (23 : Int32)) from by decide +kernel)]
  rw [if_neg (show ¬ ((swT.getD 48 0) = (24 : Int32)) from by decide +kernel)]
  rw [if_pos (show (swT.getD 48 0) = (25 : Int32) from by decide +kernel)]
theorem dM_48 {g : Nat} {S : St} {x2 : Int32} {x3 : Int32} : m_does g S (nI 48) x2 x3 = (
  (m_reckons g (sI S 0 57 (0 : Int32)) (nI 48) x2 x3).bind fun S_2 =>
  some S_2) := by
  unfold m_does
  rw [lt_d]
  rw [if_pos (show (4 : Int32) < (nI 48) from by decide +kernel)]
  rw [if_pos (show (10 : Int32) < (nI 48) from by decide +kernel)]
  rw [if_pos (show (15 : Int32) < (nI 48) from by decide +kernel)]
  rw [if_neg (show ¬ ((nI 48) ≤ (21 : Int32)) from by decide +kernel)]
  rw [if_neg (show ¬ ((nI 48) = (32 : Int32)) from by decide +kernel)]
  rw [if_neg (show ¬ ((nI 48) = (33 : Int32)) from by decide +kernel)]
  rw [if_pos (show (26 : Int32) < (nI 48) from by decide +kernel)]
  rw [if_pos (show (31 : Int32) < (nI 48) from by decide +kernel)]
  rw [if_pos (show (44 : Int32) < (nI 48) from by decide +kernel)]
theorem dM2_48 {g : Nat} {S : St} {x2 : Int32} {x3 : Int32} : m_reckons g S (nI 48) x2 x3 = (
  (m_parses g S (nI 48) x2).bind fun S_6 =>
  some S_6) := by
  unfold m_reckons
  rw [if_neg (show ¬ ((nI 48) = (45 : Int32)) from by decide +kernel)]
  rw [if_neg (show ¬ ((nI 48) = (46 : Int32)) from by decide +kernel)]
  rw [if_neg (show ¬ ((48 : Int32) < (nI 48)) from by decide +kernel)]
theorem dC_49 {g : Nat} {S : St} : m_WS_give g S 49 = (
  (m_WS_truth g S).bind fun (S_15, v_16) =>
  m_WS_give_161 g S_15 v_16) := by
  unfold m_WS_give
  rw [show eS (nI 49) = some 49 from by decide +kernel, Option.bind_some]
  rw [if_neg (show ¬ ((swT.getD 49 0) = (21 : Int32)) from by decide +kernel)]
  rw [if_neg (show ¬ ((swT.getD 49 0) = (22 : Int32)) from by decide +kernel)]
  rw [if_neg (show ¬ ((swT.getD 49 0) = (23 : Int32)) from by decide +kernel)]
  rw [if_neg (show ¬ ((swT.getD 49 0) = (24 : Int32)) from by decide +kernel)]
  rw [if_neg (show ¬ ((swT.getD 49 0) = (25 : Int32)) from by decide +kernel)]
  rw [if_pos (show (swT.getD 49 0) = (26 : Int32) from by decide +kernel)]
theorem dM_49 {g : Nat} {S : St} {x2 : Int32} {x3 : Int32} : m_does g S (nI 49) x2 x3 = (
  (m_reckons g (sI S 0 57 (0 : Int32)) (nI 49) x2 x3).bind fun S_2 =>
  some S_2) := by
  unfold m_does
  rw [lt_d]
  rw [if_pos (show (4 : Int32) < (nI 49) from by decide +kernel)]
  rw [if_pos (show (10 : Int32) < (nI 49) from by decide +kernel)]
  rw [if_pos (show (15 : Int32) < (nI 49) from by decide +kernel)]
  rw [if_neg (show ¬ ((nI 49) ≤ (21 : Int32)) from by decide +kernel)]
  rw [if_neg (show ¬ ((nI 49) = (32 : Int32)) from by decide +kernel)]
  rw [if_neg (show ¬ ((nI 49) = (33 : Int32)) from by decide +kernel)]
  rw [if_pos (show (26 : Int32) < (nI 49) from by decide +kernel)]
  rw [if_pos (show (31 : Int32) < (nI 49) from by decide +kernel)]
  rw [if_pos (show (44 : Int32) < (nI 49) from by decide +kernel)]
theorem dM2_49 {g : Nat} {S : St} {x2 : Int32} {x3 : Int32} : m_reckons g S (nI 49) x2 x3 = (
  (m_text g S (x2 + (1 : Int32))).bind fun v_3 =>
  if v_3 < 0 then (
    m_reckons_147 g S x2
  ) else (
    (m_isTrue g S v_3).bind fun (S_4, v_5) =>
    if v_5 = 0 then (
      m_reckons_147 g S_4 x2
    ) else (
      m_reckons_148 g S_4 x2 (1 : Int64)
    )
  )) := by
  unfold m_reckons
  rw [if_neg (show ¬ ((nI 49) = (45 : Int32)) from by decide +kernel)]
  rw [if_neg (show ¬ ((nI 49) = (46 : Int32)) from by decide +kernel)]
  rw [if_pos (show (48 : Int32) < (nI 49) from by decide +kernel)]
  rw [if_pos (show (nI 49) = (49 : Int32) from by decide +kernel)]
theorem dC_50 {g : Nat} {S : St} : m_WS_give g S 50 = (
  (m_Bn_wholeAt g S (1 : Int32)).bind fun v_17 =>
  (m_Bn_wholeAt g S (2 : Int32)).bind fun v_18 =>
  (m_Bn_giveWhole g S (v_17 + v_18)).bind fun (S_19, v_20) =>
  some (S_19, v_20)) := by
  unfold m_WS_give
  rw [show eS (nI 50) = some 50 from by decide +kernel, Option.bind_some]
  rw [if_neg (show ¬ ((swT.getD 50 0) = (21 : Int32)) from by decide +kernel)]
  rw [if_neg (show ¬ ((swT.getD 50 0) = (22 : Int32)) from by decide +kernel)]
  rw [if_neg (show ¬ ((swT.getD 50 0) = (23 : Int32)) from by decide +kernel)]
  rw [if_neg (show ¬ ((swT.getD 50 0) = (24 : Int32)) from by decide +kernel)]
  rw [if_neg (show ¬ ((swT.getD 50 0) = (25 : Int32)) from by decide +kernel)]
  rw [if_neg (show ¬ ((swT.getD 50 0) = (26 : Int32)) from by decide +kernel)]
  rw [if_pos (show (swT.getD 50 0) = (27 : Int32) from by decide +kernel)]
theorem dM_50 {g : Nat} {S : St} {x2 : Int32} {x3 : Int32} : m_does g S (nI 50) x2 x3 = (
  (m_reckons g (sI S 0 57 (0 : Int32)) (nI 50) x2 x3).bind fun S_2 =>
  some S_2) := by
  unfold m_does
  rw [lt_d]
  rw [if_pos (show (4 : Int32) < (nI 50) from by decide +kernel)]
  rw [if_pos (show (10 : Int32) < (nI 50) from by decide +kernel)]
  rw [if_pos (show (15 : Int32) < (nI 50) from by decide +kernel)]
  rw [if_neg (show ¬ ((nI 50) ≤ (21 : Int32)) from by decide +kernel)]
  rw [if_neg (show ¬ ((nI 50) = (32 : Int32)) from by decide +kernel)]
  rw [if_neg (show ¬ ((nI 50) = (33 : Int32)) from by decide +kernel)]
  rw [if_pos (show (26 : Int32) < (nI 50) from by decide +kernel)]
  rw [if_pos (show (31 : Int32) < (nI 50) from by decide +kernel)]
  rw [if_pos (show (44 : Int32) < (nI 50) from by decide +kernel)]
theorem dM2_50 {g : Nat} {S : St} {x2 : Int32} {x3 : Int32} {v_1 : Int64} (h1 : m_value g S (x2 + (1 : Int32)) = some v_1) {v_2 : Int64} (h2 : m_value g S (x2 + (2 : Int32)) = some v_2) : m_reckons g S (nI 50) x2 x3 = (
  m_reckons_267 g S x2 (v_1 + v_2)) := by
  unfold m_reckons
  rw [if_neg (show ¬ ((nI 50) = (45 : Int32)) from by decide +kernel)]
  rw [if_neg (show ¬ ((nI 50) = (46 : Int32)) from by decide +kernel)]
  rw [if_pos (show (48 : Int32) < (nI 50) from by decide +kernel)]
  rw [if_neg (show ¬ ((nI 50) = (49 : Int32)) from by decide +kernel)]
  rw [if_neg (show ¬ ((nI 50) = (55 : Int32)) from by decide +kernel)]
  rw [h1, Option.bind_some]
  rw [h2, Option.bind_some]
  rw [if_pos (show (nI 50) = (50 : Int32) from by decide +kernel)]
theorem dC_51 {g : Nat} {S : St} : m_WS_give g S 51 = (
  (m_Bn_wholeAt g S (1 : Int32)).bind fun v_21 =>
  (m_Bn_wholeAt g S (2 : Int32)).bind fun v_22 =>
  (m_Bn_giveWhole g S (v_21 - v_22)).bind fun (S_23, v_24) =>
  some (S_23, v_24)) := by
  unfold m_WS_give
  rw [show eS (nI 51) = some 51 from by decide +kernel, Option.bind_some]
  rw [if_neg (show ¬ ((swT.getD 51 0) = (21 : Int32)) from by decide +kernel)]
  rw [if_neg (show ¬ ((swT.getD 51 0) = (22 : Int32)) from by decide +kernel)]
  rw [if_neg (show ¬ ((swT.getD 51 0) = (23 : Int32)) from by decide +kernel)]
  rw [if_neg (show ¬ ((swT.getD 51 0) = (24 : Int32)) from by decide +kernel)]
  rw [if_neg (show ¬ ((swT.getD 51 0) = (25 : Int32)) from by decide +kernel)]
  rw [if_neg (show ¬ ((swT.getD 51 0) = (26 : Int32)) from by decide +kernel)]
  rw [if_neg (show ¬ ((swT.getD 51 0) = (27 : Int32)) from by decide +kernel)]
  rw [if_pos (show (swT.getD 51 0) = (28 : Int32) from by decide +kernel)]
theorem dM_51 {g : Nat} {S : St} {x2 : Int32} {x3 : Int32} : m_does g S (nI 51) x2 x3 = (
  (m_reckons g (sI S 0 57 (0 : Int32)) (nI 51) x2 x3).bind fun S_2 =>
  some S_2) := by
  unfold m_does
  rw [lt_d]
  rw [if_pos (show (4 : Int32) < (nI 51) from by decide +kernel)]
  rw [if_pos (show (10 : Int32) < (nI 51) from by decide +kernel)]
  rw [if_pos (show (15 : Int32) < (nI 51) from by decide +kernel)]
  rw [if_neg (show ¬ ((nI 51) ≤ (21 : Int32)) from by decide +kernel)]
  rw [if_neg (show ¬ ((nI 51) = (32 : Int32)) from by decide +kernel)]
  rw [if_neg (show ¬ ((nI 51) = (33 : Int32)) from by decide +kernel)]
  rw [if_pos (show (26 : Int32) < (nI 51) from by decide +kernel)]
  rw [if_pos (show (31 : Int32) < (nI 51) from by decide +kernel)]
  rw [if_pos (show (44 : Int32) < (nI 51) from by decide +kernel)]
theorem dM2_51 {g : Nat} {S : St} {x2 : Int32} {x3 : Int32} {v_1 : Int64} (h1 : m_value g S (x2 + (1 : Int32)) = some v_1) {v_2 : Int64} (h2 : m_value g S (x2 + (2 : Int32)) = some v_2) : m_reckons g S (nI 51) x2 x3 = (
  m_reckons_267 g S x2 (v_1 - v_2)) := by
  unfold m_reckons
  rw [if_neg (show ¬ ((nI 51) = (45 : Int32)) from by decide +kernel)]
  rw [if_neg (show ¬ ((nI 51) = (46 : Int32)) from by decide +kernel)]
  rw [if_pos (show (48 : Int32) < (nI 51) from by decide +kernel)]
  rw [if_neg (show ¬ ((nI 51) = (49 : Int32)) from by decide +kernel)]
  rw [if_neg (show ¬ ((nI 51) = (55 : Int32)) from by decide +kernel)]
  rw [h1, Option.bind_some]
  rw [h2, Option.bind_some]
  rw [if_neg (show ¬ ((nI 51) = (50 : Int32)) from by decide +kernel)]
  rw [if_pos (show (nI 51) = (51 : Int32) from by decide +kernel)]
theorem dC_52 {g : Nat} {S : St} : m_WS_give g S 52 = (
  (m_Bn_wholeAt g S (1 : Int32)).bind fun v_25 =>
  (m_Bn_wholeAt g S (2 : Int32)).bind fun v_26 =>
  (m_Bn_giveWhole g S (v_25 * v_26)).bind fun (S_27, v_28) =>
  some (S_27, v_28)) := by
  unfold m_WS_give
  rw [show eS (nI 52) = some 52 from by decide +kernel, Option.bind_some]
  rw [if_neg (show ¬ ((swT.getD 52 0) = (21 : Int32)) from by decide +kernel)]
  rw [if_neg (show ¬ ((swT.getD 52 0) = (22 : Int32)) from by decide +kernel)]
  rw [if_neg (show ¬ ((swT.getD 52 0) = (23 : Int32)) from by decide +kernel)]
  rw [if_neg (show ¬ ((swT.getD 52 0) = (24 : Int32)) from by decide +kernel)]
  rw [if_neg (show ¬ ((swT.getD 52 0) = (25 : Int32)) from by decide +kernel)]
  rw [if_neg (show ¬ ((swT.getD 52 0) = (26 : Int32)) from by decide +kernel)]
  rw [if_neg (show ¬ ((swT.getD 52 0) = (27 : Int32)) from by decide +kernel)]
  rw [if_neg (show ¬ ((swT.getD 52 0) = (28 : Int32)) from by decide +kernel)]
  rw [if_pos (show (swT.getD 52 0) = (29 : Int32) from by decide +kernel)]
theorem dM_52 {g : Nat} {S : St} {x2 : Int32} {x3 : Int32} : m_does g S (nI 52) x2 x3 = (
  (m_reckons g (sI S 0 57 (0 : Int32)) (nI 52) x2 x3).bind fun S_2 =>
  some S_2) := by
  unfold m_does
  rw [lt_d]
  rw [if_pos (show (4 : Int32) < (nI 52) from by decide +kernel)]
  rw [if_pos (show (10 : Int32) < (nI 52) from by decide +kernel)]
  rw [if_pos (show (15 : Int32) < (nI 52) from by decide +kernel)]
  rw [if_neg (show ¬ ((nI 52) ≤ (21 : Int32)) from by decide +kernel)]
  rw [if_neg (show ¬ ((nI 52) = (32 : Int32)) from by decide +kernel)]
  rw [if_neg (show ¬ ((nI 52) = (33 : Int32)) from by decide +kernel)]
  rw [if_pos (show (26 : Int32) < (nI 52) from by decide +kernel)]
  rw [if_pos (show (31 : Int32) < (nI 52) from by decide +kernel)]
  rw [if_pos (show (44 : Int32) < (nI 52) from by decide +kernel)]
theorem dM2_52 {g : Nat} {S : St} {x2 : Int32} {x3 : Int32} {v_1 : Int64} (h1 : m_value g S (x2 + (1 : Int32)) = some v_1) {v_2 : Int64} (h2 : m_value g S (x2 + (2 : Int32)) = some v_2) : m_reckons g S (nI 52) x2 x3 = (
  m_reckons_267 g S x2 (v_1 * v_2)) := by
  unfold m_reckons
  rw [if_neg (show ¬ ((nI 52) = (45 : Int32)) from by decide +kernel)]
  rw [if_neg (show ¬ ((nI 52) = (46 : Int32)) from by decide +kernel)]
  rw [if_pos (show (48 : Int32) < (nI 52) from by decide +kernel)]
  rw [if_neg (show ¬ ((nI 52) = (49 : Int32)) from by decide +kernel)]
  rw [if_neg (show ¬ ((nI 52) = (55 : Int32)) from by decide +kernel)]
  rw [h1, Option.bind_some]
  rw [h2, Option.bind_some]
  rw [if_neg (show ¬ ((nI 52) = (50 : Int32)) from by decide +kernel)]
  rw [if_neg (show ¬ ((nI 52) = (51 : Int32)) from by decide +kernel)]
theorem dM_55 {g : Nat} {S : St} {x2 : Int32} {x3 : Int32} : m_does g S (nI 55) x2 x3 = (
  (m_reckons g (sI S 0 57 (0 : Int32)) (nI 55) x2 x3).bind fun S_2 =>
  some S_2) := by
  unfold m_does
  rw [lt_d]
  rw [if_pos (show (4 : Int32) < (nI 55) from by decide +kernel)]
  rw [if_pos (show (10 : Int32) < (nI 55) from by decide +kernel)]
  rw [if_pos (show (15 : Int32) < (nI 55) from by decide +kernel)]
  rw [if_neg (show ¬ ((nI 55) ≤ (21 : Int32)) from by decide +kernel)]
  rw [if_neg (show ¬ ((nI 55) = (32 : Int32)) from by decide +kernel)]
  rw [if_neg (show ¬ ((nI 55) = (33 : Int32)) from by decide +kernel)]
  rw [if_pos (show (26 : Int32) < (nI 55) from by decide +kernel)]
  rw [if_pos (show (31 : Int32) < (nI 55) from by decide +kernel)]
  rw [if_pos (show (44 : Int32) < (nI 55) from by decide +kernel)]
theorem dM2_55 {g : Nat} {S : St} {x2 : Int32} {x3 : Int32} : m_reckons g S (nI 55) x2 x3 = (
  if (gI S 0 51) = (30 : Int32) then (
    m_reckons_175 g S x2 (1 : Int32)
  ) else (
    m_reckons_175 g S x2 (0 : Int32)
  )) := by
  unfold m_reckons
  rw [if_neg (show ¬ ((nI 55) = (45 : Int32)) from by decide +kernel)]
  rw [if_neg (show ¬ ((nI 55) = (46 : Int32)) from by decide +kernel)]
  rw [if_pos (show (48 : Int32) < (nI 55) from by decide +kernel)]
  rw [if_neg (show ¬ ((nI 55) = (49 : Int32)) from by decide +kernel)]
  rw [if_pos (show (nI 55) = (55 : Int32) from by decide +kernel)]
