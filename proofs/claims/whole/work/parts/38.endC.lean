def giC : List (List Int32) := [[0, 0, 0, 0, 0, 0, 0, 0, 0, 0, 0, 0, 0, 0, 0, 0], [0, 0, 0, 0, 0, 0, 0, 0, 0, 0, 0, 0, 0, 0, -1, 0], [0, 0, 0, 0, 0, 0, 0, 0, 0, 0, 0, 0, 0, 0, -1, 0], [0, 0, 0, 0, 0, 0, 0, 0, 0, 0, 0, 0, 0, 0, 0, 0], [0, 0, 0, 0, 0, 0, 0, 0, 0, 0, 0, 0, 0, 0, 0, 0], [0, 0, 0, 0, 1, 0, 0, 0, 0, 0, 0, 0, 0, 0, 0, 0], [0, 0, 0, 0, 0, 0, 0, 0, 0, 0, 0, 0, 0, 0, 0, 0], [0, 0, 0, 0, 0, 0, 0, 0, 0, 0, 0, 0, 0, 0, 0, 0], [0, 0, 0, 0, 0, 0, 0, 0, 0, 0, 0, 0, 0, 0, 0, 0], [0, 0, 0, 0, 0, 0, 0, 0, 0, 0, 0, 0, 0, 0, 0, 0], [3000, 0, 0, 0, 0, 0, 0, 0, 0, 0, 0, 0, 0, 0, 0, 0], [3000, 0, 0, 0, 0, 0, 0, 0, 0, 0, 0, 0, 0, 0, 0, 0], [24, 0, 0, 0, 0, 0, 0, 0, 0, 0, 0, 0, 0, 0, 0, 0], [20, 0, 0, 0, 0, 0, 0, 0, 0, 0, 0, 0, 0, 0, 0, 0], [3000, 0, 0, 0, 0, 0, 0, 0, 0, 0, 0, 0, 0, 0, 0, 0], [24, 0, 0, 0, 0, 0, 0, 0, 0, 0, 0, 0, 0, 0, 0, 0], [20, 0, 0, 0, 0, 0, 0, 0, 0, 0, 0, 0, 0, 0, 0, 0], [400, 0, 0, 0, 0, 0, 0, 0, 0, 0, 0, 0, 0, 0, 0, 0], [27000, 0, 0, 0, 0, 0, 0, 0, 0, 0, 0, 0, 0, 0, 0, 0], [1465, 0, 1, 0, 0, 0, 0, 0, 0, 0, 0, 0, 0, 0, 0, 0], [85, 0, 1, 0, 0, 0, 0, 0, 0, 0, 0, 0, 0, 0, 0, 0], [24, 0, 0, 0, 0, 0, 0, 0, 0, 0, 0, 0, 0, 0, 0, 0], [24, 0, 0, 0, 0, 0, 0, 0, 0, 0, 0, 0, 0, 0, 0, 0], [400, 0, 0, 0, 0, 0, 0, 0, 0, 0, 0, 0, 0, 0, 0, 0], [400, 0, 0, 0, 0, 0, 0, 0, 0, 0, 0, 0, 0, 0, 0, 0], [400, 0, 0, 0, 0, 0, 0, 0, 0, 0, 0, 0, 0, 0, 0, 0], [400, 0, 0, 0, 0, 0, 0, 0, 0, 0, 0, 0, 0, 0, 0, 0], [400, 0, 0, 0, 0, 0, 0, 0, 0, 0, 0, 0, 0, 0, 0, 0], [400, 0, 0, 0, 0, 0, 0, 0, 0, 0, 0, 0, 0, 0, 0, 0], [400, 0, 0, 0, 0, 0, 0, 0, 0, 0, 0, 0, 0, 0, 0, 0], [401, 0, 0, 0, 0, 0, 0, 0, 0, 0, 0, 0, 0, 0, 0, 0], [401, 0, 0, 0, 0, 0, 0, 0, 0, 0, 0, 0, 0, 0, 0, 0], [60, 0, 0, 0, 0, 0, 0, 0, 0, 0, 0, 0, 0, 0, 0, 0], [60, 0, 0, 0, 0, 0, 0, 0, 0, 0, 0, 0, 0, 0, 0, 0]]
def gnC : List Nat := [0, 0, 0, 0, 0, 0, 0, 0, 0, 0, 0, 0, 0, 0, 0, 0, 0, 0, 0, 0, 0, 0, 0, 0, 0, 0, 0, 0, 0, 0, 0, 0, 0, 0, 16, 16, 16, 16, 16, 16, 16, 16, 16, 16, 16, 16, 16, 16, 16, 16, 16, 16, 16, 16, 16, 16, 16, 16, 60, 61, 540, 540, 540, 540, 60, 60, 60, 61, 540, 540, 540, 540, 60, 60, 20, 12, 6, 6, 30, 4, 56]
/-- the class's store when all is made -/
def SC0 : St := (fun o k => (giC.getD o []).getD k 0, fun _ _ => 0, fun o k => if o = 0 ∧ k = 4 then 1 else if o = 0 ∧ k = 5 then 2 else if o = 3 ∧ k = 2 then 2 else if o = 4 ∧ k = 9 then 1 else 0, fun a => gnC.getD a 0, fun a i => if a = 74 then (fun j => if j < 20 then (-1 : Int32) else (fun _ => 0) j) i else if a = 77 then (fun j => if j < 6 then (-1 : Int32) else (fun _ => 0) j) i else if a = 79 then (upd (fun _ => 0) 0 (-1 : Int32)) i else 0, fun _ _ => 0)
def roC (h0 : Nat) (u : Nat → Nat) : Nat → Nat := fun c => if c = 0 then h0 else u c
theorem rng81 {α : Type} (f : Nat → α) : (List.range 81).map f = [f 0, f 1, f 2, f 3, f 4, f 5, f 6, f 7, f 8, f 9, f 10, f 11, f 12, f 13, f 14, f 15, f 16, f 17, f 18, f 19, f 20, f 21, f 22, f 23, f 24, f 25, f 26, f 27, f 28, f 29, f 30, f 31, f 32, f 33, f 34, f 35, f 36, f 37, f 38, f 39, f 40, f 41, f 42, f 43, f 44, f 45, f 46, f 47, f 48, f 49, f 50, f 51, f 52, f 53, f 54, f 55, f 56, f 57, f 58, f 59, f 60, f 61, f 62, f 63, f 64, f 65, f 66, f 67, f 68, f 69, f 70, f 71, f 72, f 73, f 74, f 75, f 76, f 77, f 78, f 79, f 80] := rfl
theorem cons2 {α : Type} {a b : α} {l m : List α} (h1 : a = b) (h2 : l = m) : a :: l = b :: m := by rw [h1, h2]
set_option maxRecDepth 20000 in
theorem ec_0 (T : Cy) (h0 : Nat) (u : Nat → Nat) : ((h0, .inr (9, [.ref (u 10), .ref (u 3), .ref (u 4), .ref (u 6), .ref (u 1), .ref (u 2), .int (0 : Int32)])) : Nat × va_E) = (roC h0 u 0, cel Yc T (roC h0 u) SC0 0) := rfl
set_option maxRecDepth 20000 in
theorem ec_1 (T : Cy) (h0 : Nat) (u : Nat → Nat) : (((u 1), .inr (2, [.ref (u 58), .ref (u 59), .ref (u 60), .ref (u 61), .ref (u 62), .ref (u 63), .ref (u 11), .ref (u 12), .int (0 : Int32), .ref (u 64), .ref (u 65), .int (0 : Int32), .long (0 : Int64), .int (0 : Int32), .int (-1 : Int32), .ref (u 13)])) : Nat × va_E) = (roC h0 u 1, cel Yc T (roC h0 u) SC0 1) := rfl
set_option maxRecDepth 20000 in
theorem ec_2 (T : Cy) (h0 : Nat) (u : Nat → Nat) : (((u 2), .inr (2, [.ref (u 66), .ref (u 67), .ref (u 68), .ref (u 69), .ref (u 70), .ref (u 71), .ref (u 14), .ref (u 15), .int (0 : Int32), .ref (u 72), .ref (u 73), .int (0 : Int32), .long (0 : Int64), .int (0 : Int32), .int (-1 : Int32), .ref (u 16)])) : Nat × va_E) = (roC h0 u 2, cel Yc T (roC h0 u) SC0 2) := rfl
set_option maxRecDepth 20000 in
theorem ec_3 (T : Cy) (h0 : Nat) (u : Nat → Nat) : (((u 3), .inr (3, [.ref (u 10), .ref (u 17), .ref (u 2), .int (0 : Int32), .int (0 : Int32)])) : Nat × va_E) = (roC h0 u 3, cel Yc T (roC h0 u) SC0 3) := rfl
set_option maxRecDepth 20000 in
theorem ec_4 (T : Cy) (h0 : Nat) (u : Nat → Nat) : (((u 4), .inr (0, [.ref (u 5), .ref (u 74), .ref (u 75), .ref (u 76), .ref (u 77), .ref (u 22), .ref (u 78), .int (0 : Int32), .ref (u 23), .ref (u 1), .int (0 : Int32), .int (0 : Int32)])) : Nat × va_E) = (roC h0 u 4, cel Yc T (roC h0 u) SC0 4) := rfl
set_option maxRecDepth 20000 in
theorem ec_5 (T : Cy) (h0 : Nat) (u : Nat → Nat) : (((u 5), .inr (7, [.ref (u 18), .ref (u 19), .ref (u 20), .ref (u 21), .int (1 : Int32)])) : Nat × va_E) = (roC h0 u 5, cel Yc T (roC h0 u) SC0 5) := rfl
set_option maxRecDepth 20000 in
theorem ec_6 (T : Cy) (h0 : Nat) (u : Nat → Nat) : (((u 6), .inr (5, [.ref (u 79), .ref (u 80), .ref (u 4), .ref (u 7), .ref (u 8), .ref (u 9), .ref (u 32), .ref (u 33)])) : Nat × va_E) = (roC h0 u 6, cel Yc T (roC h0 u) SC0 6) := rfl
set_option maxRecDepth 20000 in
theorem ec_7 (T : Cy) (h0 : Nat) (u : Nat → Nat) : (((u 7), .inr (6, [.ref (u 4), .ref (u 5), .ref (u 23), .ref (u 22), .ref (u 30), .ref (u 31)])) : Nat × va_E) = (roC h0 u 7, cel Yc T (roC h0 u) SC0 7) := rfl
set_option maxRecDepth 20000 in
theorem ec_8 (T : Cy) (h0 : Nat) (u : Nat → Nat) : (((u 8), .inr (8, [.ref (u 4), .ref (u 5)])) : Nat × va_E) = (roC h0 u 8, cel Yc T (roC h0 u) SC0 8) := rfl
set_option maxRecDepth 20000 in
theorem ec_9 (T : Cy) (h0 : Nat) (u : Nat → Nat) : (((u 9), .inr (1, [.ref (u 4), .ref (u 23)])) : Nat × va_E) = (roC h0 u 9, cel Yc T (roC h0 u) SC0 9) := rfl
set_option maxRecDepth 20000 in
theorem ec_10 (T : Cy) (h0 : Nat) (u : Nat → Nat) : (((u 10), .inr (4, [.int (3000 : Int32), .ref (u 34), .int (0 : Int32), .int (0 : Int32)])) : Nat × va_E) = (roC h0 u 10, cel Yc T (roC h0 u) SC0 10) := rfl
set_option maxRecDepth 20000 in
theorem ec_11 (T : Cy) (h0 : Nat) (u : Nat → Nat) : (((u 11), .inr (4, [.int (3000 : Int32), .ref (u 35), .int (0 : Int32), .int (0 : Int32)])) : Nat × va_E) = (roC h0 u 11, cel Yc T (roC h0 u) SC0 11) := rfl
set_option maxRecDepth 20000 in
theorem ec_12 (T : Cy) (h0 : Nat) (u : Nat → Nat) : (((u 12), .inr (4, [.int (24 : Int32), .ref (u 36), .int (0 : Int32), .int (0 : Int32)])) : Nat × va_E) = (roC h0 u 12, cel Yc T (roC h0 u) SC0 12) := rfl
set_option maxRecDepth 20000 in
theorem ec_13 (T : Cy) (h0 : Nat) (u : Nat → Nat) : (((u 13), .inr (4, [.int (20 : Int32), .ref (u 37), .int (0 : Int32), .int (0 : Int32)])) : Nat × va_E) = (roC h0 u 13, cel Yc T (roC h0 u) SC0 13) := rfl
set_option maxRecDepth 20000 in
theorem ec_14 (T : Cy) (h0 : Nat) (u : Nat → Nat) : (((u 14), .inr (4, [.int (3000 : Int32), .ref (u 38), .int (0 : Int32), .int (0 : Int32)])) : Nat × va_E) = (roC h0 u 14, cel Yc T (roC h0 u) SC0 14) := rfl
set_option maxRecDepth 20000 in
theorem ec_15 (T : Cy) (h0 : Nat) (u : Nat → Nat) : (((u 15), .inr (4, [.int (24 : Int32), .ref (u 39), .int (0 : Int32), .int (0 : Int32)])) : Nat × va_E) = (roC h0 u 15, cel Yc T (roC h0 u) SC0 15) := rfl
set_option maxRecDepth 20000 in
theorem ec_16 (T : Cy) (h0 : Nat) (u : Nat → Nat) : (((u 16), .inr (4, [.int (20 : Int32), .ref (u 40), .int (0 : Int32), .int (0 : Int32)])) : Nat × va_E) = (roC h0 u 16, cel Yc T (roC h0 u) SC0 16) := rfl
set_option maxRecDepth 20000 in
theorem ec_17 (T : Cy) (h0 : Nat) (u : Nat → Nat) : (((u 17), .inr (4, [.int (400 : Int32), .ref (u 41), .int (0 : Int32), .int (0 : Int32)])) : Nat × va_E) = (roC h0 u 17, cel Yc T (roC h0 u) SC0 17) := rfl
set_option maxRecDepth 20000 in
theorem ec_18 (T : Cy) (h0 : Nat) (u : Nat → Nat) : (((u 18), .inr (4, [.int (27000 : Int32), .ref (u 42), .int (0 : Int32), .int (0 : Int32)])) : Nat × va_E) = (roC h0 u 18, cel Yc T (roC h0 u) SC0 18) := rfl
set_option maxRecDepth 20000 in
theorem ec_19 (T : Cy) (h0 : Nat) (u : Nat → Nat) : (((u 19), .inr (4, [.int (1465 : Int32), .ref (u 43), .int (1 : Int32), .int (0 : Int32)])) : Nat × va_E) = (roC h0 u 19, cel Yc T (roC h0 u) SC0 19) := rfl
set_option maxRecDepth 20000 in
theorem ec_20 (T : Cy) (h0 : Nat) (u : Nat → Nat) : (((u 20), .inr (4, [.int (85 : Int32), .ref (u 44), .int (1 : Int32), .int (0 : Int32)])) : Nat × va_E) = (roC h0 u 20, cel Yc T (roC h0 u) SC0 20) := rfl
set_option maxRecDepth 20000 in
theorem ec_21 (T : Cy) (h0 : Nat) (u : Nat → Nat) : (((u 21), .inr (4, [.int (24 : Int32), .ref (u 45), .int (0 : Int32), .int (0 : Int32)])) : Nat × va_E) = (roC h0 u 21, cel Yc T (roC h0 u) SC0 21) := rfl
set_option maxRecDepth 20000 in
theorem ec_22 (T : Cy) (h0 : Nat) (u : Nat → Nat) : (((u 22), .inr (4, [.int (24 : Int32), .ref (u 46), .int (0 : Int32), .int (0 : Int32)])) : Nat × va_E) = (roC h0 u 22, cel Yc T (roC h0 u) SC0 22) := rfl
set_option maxRecDepth 20000 in
theorem ec_23 (T : Cy) (h0 : Nat) (u : Nat → Nat) : (((u 23), .inr (4, [.int (400 : Int32), .ref (u 47), .int (0 : Int32), .int (0 : Int32)])) : Nat × va_E) = (roC h0 u 23, cel Yc T (roC h0 u) SC0 23) := rfl
set_option maxRecDepth 20000 in
theorem ec_24 (T : Cy) (h0 : Nat) (u : Nat → Nat) : (((u 24), .inr (4, [.int (400 : Int32), .ref (u 48), .int (0 : Int32), .int (0 : Int32)])) : Nat × va_E) = (roC h0 u 24, cel Yc T (roC h0 u) SC0 24) := rfl
set_option maxRecDepth 20000 in
theorem ec_25 (T : Cy) (h0 : Nat) (u : Nat → Nat) : (((u 25), .inr (4, [.int (400 : Int32), .ref (u 49), .int (0 : Int32), .int (0 : Int32)])) : Nat × va_E) = (roC h0 u 25, cel Yc T (roC h0 u) SC0 25) := rfl
set_option maxRecDepth 20000 in
theorem ec_26 (T : Cy) (h0 : Nat) (u : Nat → Nat) : (((u 26), .inr (4, [.int (400 : Int32), .ref (u 50), .int (0 : Int32), .int (0 : Int32)])) : Nat × va_E) = (roC h0 u 26, cel Yc T (roC h0 u) SC0 26) := rfl
set_option maxRecDepth 20000 in
theorem ec_27 (T : Cy) (h0 : Nat) (u : Nat → Nat) : (((u 27), .inr (4, [.int (400 : Int32), .ref (u 51), .int (0 : Int32), .int (0 : Int32)])) : Nat × va_E) = (roC h0 u 27, cel Yc T (roC h0 u) SC0 27) := rfl
set_option maxRecDepth 20000 in
theorem ec_28 (T : Cy) (h0 : Nat) (u : Nat → Nat) : (((u 28), .inr (4, [.int (400 : Int32), .ref (u 52), .int (0 : Int32), .int (0 : Int32)])) : Nat × va_E) = (roC h0 u 28, cel Yc T (roC h0 u) SC0 28) := rfl
set_option maxRecDepth 20000 in
theorem ec_29 (T : Cy) (h0 : Nat) (u : Nat → Nat) : (((u 29), .inr (4, [.int (400 : Int32), .ref (u 53), .int (0 : Int32), .int (0 : Int32)])) : Nat × va_E) = (roC h0 u 29, cel Yc T (roC h0 u) SC0 29) := rfl
set_option maxRecDepth 20000 in
theorem ec_30 (T : Cy) (h0 : Nat) (u : Nat → Nat) : (((u 30), .inr (4, [.int (401 : Int32), .ref (u 54), .int (0 : Int32), .int (0 : Int32)])) : Nat × va_E) = (roC h0 u 30, cel Yc T (roC h0 u) SC0 30) := rfl
set_option maxRecDepth 20000 in
theorem ec_31 (T : Cy) (h0 : Nat) (u : Nat → Nat) : (((u 31), .inr (4, [.int (401 : Int32), .ref (u 55), .int (0 : Int32), .int (0 : Int32)])) : Nat × va_E) = (roC h0 u 31, cel Yc T (roC h0 u) SC0 31) := rfl
set_option maxRecDepth 20000 in
theorem ec_32 (T : Cy) (h0 : Nat) (u : Nat → Nat) : (((u 32), .inr (4, [.int (60 : Int32), .ref (u 56), .int (0 : Int32), .int (0 : Int32)])) : Nat × va_E) = (roC h0 u 32, cel Yc T (roC h0 u) SC0 32) := rfl
set_option maxRecDepth 20000 in
theorem ec_33 (T : Cy) (h0 : Nat) (u : Nat → Nat) : (((u 33), .inr (4, [.int (60 : Int32), .ref (u 57), .int (0 : Int32), .int (0 : Int32)])) : Nat × va_E) = (roC h0 u 33, cel Yc T (roC h0 u) SC0 33) := rfl
set_option maxRecDepth 20000 in
theorem ec_34 (T : Cy) (h0 : Nat) (u : Nat → Nat) : (((u 34), .inl (T.1, 16, .inl (fun _ => 0))) : Nat × va_E) = (roC h0 u 34, cel Yc T (roC h0 u) SC0 34) := rfl
set_option maxRecDepth 20000 in
theorem ec_35 (T : Cy) (h0 : Nat) (u : Nat → Nat) : (((u 35), .inl (T.1, 16, .inl (fun _ => 0))) : Nat × va_E) = (roC h0 u 35, cel Yc T (roC h0 u) SC0 35) := rfl
set_option maxRecDepth 20000 in
theorem ec_36 (T : Cy) (h0 : Nat) (u : Nat → Nat) : (((u 36), .inl (T.1, 16, .inl (fun _ => 0))) : Nat × va_E) = (roC h0 u 36, cel Yc T (roC h0 u) SC0 36) := rfl
set_option maxRecDepth 20000 in
theorem ec_37 (T : Cy) (h0 : Nat) (u : Nat → Nat) : (((u 37), .inl (T.1, 16, .inl (fun _ => 0))) : Nat × va_E) = (roC h0 u 37, cel Yc T (roC h0 u) SC0 37) := rfl
set_option maxRecDepth 20000 in
theorem ec_38 (T : Cy) (h0 : Nat) (u : Nat → Nat) : (((u 38), .inl (T.1, 16, .inl (fun _ => 0))) : Nat × va_E) = (roC h0 u 38, cel Yc T (roC h0 u) SC0 38) := rfl
set_option maxRecDepth 20000 in
theorem ec_39 (T : Cy) (h0 : Nat) (u : Nat → Nat) : (((u 39), .inl (T.1, 16, .inl (fun _ => 0))) : Nat × va_E) = (roC h0 u 39, cel Yc T (roC h0 u) SC0 39) := rfl
set_option maxRecDepth 20000 in
theorem ec_40 (T : Cy) (h0 : Nat) (u : Nat → Nat) : (((u 40), .inl (T.1, 16, .inl (fun _ => 0))) : Nat × va_E) = (roC h0 u 40, cel Yc T (roC h0 u) SC0 40) := rfl
set_option maxRecDepth 20000 in
theorem ec_41 (T : Cy) (h0 : Nat) (u : Nat → Nat) : (((u 41), .inl (T.1, 16, .inl (fun _ => 0))) : Nat × va_E) = (roC h0 u 41, cel Yc T (roC h0 u) SC0 41) := rfl
set_option maxRecDepth 20000 in
theorem ec_42 (T : Cy) (h0 : Nat) (u : Nat → Nat) : (((u 42), .inl (T.1, 16, .inl (fun _ => 0))) : Nat × va_E) = (roC h0 u 42, cel Yc T (roC h0 u) SC0 42) := rfl
set_option maxRecDepth 20000 in
theorem ec_43 (T : Cy) (h0 : Nat) (u : Nat → Nat) : (((u 43), .inl (T.1, 16, .inl (fun _ => 0))) : Nat × va_E) = (roC h0 u 43, cel Yc T (roC h0 u) SC0 43) := rfl
set_option maxRecDepth 20000 in
theorem ec_44 (T : Cy) (h0 : Nat) (u : Nat → Nat) : (((u 44), .inl (T.1, 16, .inl (fun _ => 0))) : Nat × va_E) = (roC h0 u 44, cel Yc T (roC h0 u) SC0 44) := rfl
set_option maxRecDepth 20000 in
theorem ec_45 (T : Cy) (h0 : Nat) (u : Nat → Nat) : (((u 45), .inl (T.1, 16, .inl (fun _ => 0))) : Nat × va_E) = (roC h0 u 45, cel Yc T (roC h0 u) SC0 45) := rfl
set_option maxRecDepth 20000 in
theorem ec_46 (T : Cy) (h0 : Nat) (u : Nat → Nat) : (((u 46), .inl (T.1, 16, .inl (fun _ => 0))) : Nat × va_E) = (roC h0 u 46, cel Yc T (roC h0 u) SC0 46) := rfl
set_option maxRecDepth 20000 in
theorem ec_47 (T : Cy) (h0 : Nat) (u : Nat → Nat) : (((u 47), .inl (T.1, 16, .inl (fun _ => 0))) : Nat × va_E) = (roC h0 u 47, cel Yc T (roC h0 u) SC0 47) := rfl
set_option maxRecDepth 20000 in
theorem ec_48 (T : Cy) (h0 : Nat) (u : Nat → Nat) : (((u 48), .inl (T.1, 16, .inl (fun _ => 0))) : Nat × va_E) = (roC h0 u 48, cel Yc T (roC h0 u) SC0 48) := rfl
set_option maxRecDepth 20000 in
theorem ec_49 (T : Cy) (h0 : Nat) (u : Nat → Nat) : (((u 49), .inl (T.1, 16, .inl (fun _ => 0))) : Nat × va_E) = (roC h0 u 49, cel Yc T (roC h0 u) SC0 49) := rfl
set_option maxRecDepth 20000 in
theorem ec_50 (T : Cy) (h0 : Nat) (u : Nat → Nat) : (((u 50), .inl (T.1, 16, .inl (fun _ => 0))) : Nat × va_E) = (roC h0 u 50, cel Yc T (roC h0 u) SC0 50) := rfl
set_option maxRecDepth 20000 in
theorem ec_51 (T : Cy) (h0 : Nat) (u : Nat → Nat) : (((u 51), .inl (T.1, 16, .inl (fun _ => 0))) : Nat × va_E) = (roC h0 u 51, cel Yc T (roC h0 u) SC0 51) := rfl
set_option maxRecDepth 20000 in
theorem ec_52 (T : Cy) (h0 : Nat) (u : Nat → Nat) : (((u 52), .inl (T.1, 16, .inl (fun _ => 0))) : Nat × va_E) = (roC h0 u 52, cel Yc T (roC h0 u) SC0 52) := rfl
set_option maxRecDepth 20000 in
theorem ec_53 (T : Cy) (h0 : Nat) (u : Nat → Nat) : (((u 53), .inl (T.1, 16, .inl (fun _ => 0))) : Nat × va_E) = (roC h0 u 53, cel Yc T (roC h0 u) SC0 53) := rfl
set_option maxRecDepth 20000 in
theorem ec_54 (T : Cy) (h0 : Nat) (u : Nat → Nat) : (((u 54), .inl (T.1, 16, .inl (fun _ => 0))) : Nat × va_E) = (roC h0 u 54, cel Yc T (roC h0 u) SC0 54) := rfl
set_option maxRecDepth 20000 in
theorem ec_55 (T : Cy) (h0 : Nat) (u : Nat → Nat) : (((u 55), .inl (T.1, 16, .inl (fun _ => 0))) : Nat × va_E) = (roC h0 u 55, cel Yc T (roC h0 u) SC0 55) := rfl
set_option maxRecDepth 20000 in
theorem ec_56 (T : Cy) (h0 : Nat) (u : Nat → Nat) : (((u 56), .inl (T.1, 16, .inl (fun _ => 0))) : Nat × va_E) = (roC h0 u 56, cel Yc T (roC h0 u) SC0 56) := rfl
set_option maxRecDepth 20000 in
theorem ec_57 (T : Cy) (h0 : Nat) (u : Nat → Nat) : (((u 57), .inl (T.1, 16, .inl (fun _ => 0))) : Nat × va_E) = (roC h0 u 57, cel Yc T (roC h0 u) SC0 57) := rfl
set_option maxRecDepth 20000 in
theorem ec_58 (T : Cy) (h0 : Nat) (u : Nat → Nat) : (((u 58), .inl (T.1, 60, .inl (fun _ => 0))) : Nat × va_E) = (roC h0 u 58, cel Yc T (roC h0 u) SC0 58) := rfl
set_option maxRecDepth 20000 in
theorem ec_59 (T : Cy) (h0 : Nat) (u : Nat → Nat) : (((u 59), .inl (T.1, 61, .inl (fun _ => 0))) : Nat × va_E) = (roC h0 u 59, cel Yc T (roC h0 u) SC0 59) := rfl
set_option maxRecDepth 20000 in
theorem ec_60 (T : Cy) (h0 : Nat) (u : Nat → Nat) : (((u 60), .inl (T.1, 540, .inl (fun _ => 0))) : Nat × va_E) = (roC h0 u 60, cel Yc T (roC h0 u) SC0 60) := rfl
set_option maxRecDepth 20000 in
theorem ec_61 (T : Cy) (h0 : Nat) (u : Nat → Nat) : (((u 61), .inl (T.1, 540, .inl (fun _ => 0))) : Nat × va_E) = (roC h0 u 61, cel Yc T (roC h0 u) SC0 61) := rfl
set_option maxRecDepth 20000 in
theorem ec_62 (T : Cy) (h0 : Nat) (u : Nat → Nat) : (((u 62), .inl (T.2.1, 540, .inr (.inl (fun _ => 0)))) : Nat × va_E) = (roC h0 u 62, cel Yc T (roC h0 u) SC0 62) := rfl
set_option maxRecDepth 20000 in
theorem ec_63 (T : Cy) (h0 : Nat) (u : Nat → Nat) : (((u 63), .inl (T.1, 540, .inl (fun _ => 0))) : Nat × va_E) = (roC h0 u 63, cel Yc T (roC h0 u) SC0 63) := rfl
set_option maxRecDepth 20000 in
theorem ec_64 (T : Cy) (h0 : Nat) (u : Nat → Nat) : (((u 64), .inl (T.1, 60, .inl (fun _ => 0))) : Nat × va_E) = (roC h0 u 64, cel Yc T (roC h0 u) SC0 64) := rfl
set_option maxRecDepth 20000 in
theorem ec_65 (T : Cy) (h0 : Nat) (u : Nat → Nat) : (((u 65), .inl (T.2.1, 60, .inr (.inl (fun _ => 0)))) : Nat × va_E) = (roC h0 u 65, cel Yc T (roC h0 u) SC0 65) := rfl
set_option maxRecDepth 20000 in
theorem ec_66 (T : Cy) (h0 : Nat) (u : Nat → Nat) : (((u 66), .inl (T.1, 60, .inl (fun _ => 0))) : Nat × va_E) = (roC h0 u 66, cel Yc T (roC h0 u) SC0 66) := rfl
set_option maxRecDepth 20000 in
theorem ec_67 (T : Cy) (h0 : Nat) (u : Nat → Nat) : (((u 67), .inl (T.1, 61, .inl (fun _ => 0))) : Nat × va_E) = (roC h0 u 67, cel Yc T (roC h0 u) SC0 67) := rfl
set_option maxRecDepth 20000 in
theorem ec_68 (T : Cy) (h0 : Nat) (u : Nat → Nat) : (((u 68), .inl (T.1, 540, .inl (fun _ => 0))) : Nat × va_E) = (roC h0 u 68, cel Yc T (roC h0 u) SC0 68) := rfl
set_option maxRecDepth 20000 in
theorem ec_69 (T : Cy) (h0 : Nat) (u : Nat → Nat) : (((u 69), .inl (T.1, 540, .inl (fun _ => 0))) : Nat × va_E) = (roC h0 u 69, cel Yc T (roC h0 u) SC0 69) := rfl
set_option maxRecDepth 20000 in
theorem ec_70 (T : Cy) (h0 : Nat) (u : Nat → Nat) : (((u 70), .inl (T.2.1, 540, .inr (.inl (fun _ => 0)))) : Nat × va_E) = (roC h0 u 70, cel Yc T (roC h0 u) SC0 70) := rfl
set_option maxRecDepth 20000 in
theorem ec_71 (T : Cy) (h0 : Nat) (u : Nat → Nat) : (((u 71), .inl (T.1, 540, .inl (fun _ => 0))) : Nat × va_E) = (roC h0 u 71, cel Yc T (roC h0 u) SC0 71) := rfl
set_option maxRecDepth 20000 in
theorem ec_72 (T : Cy) (h0 : Nat) (u : Nat → Nat) : (((u 72), .inl (T.1, 60, .inl (fun _ => 0))) : Nat × va_E) = (roC h0 u 72, cel Yc T (roC h0 u) SC0 72) := rfl
set_option maxRecDepth 20000 in
theorem ec_73 (T : Cy) (h0 : Nat) (u : Nat → Nat) : (((u 73), .inl (T.2.1, 60, .inr (.inl (fun _ => 0)))) : Nat × va_E) = (roC h0 u 73, cel Yc T (roC h0 u) SC0 73) := rfl
set_option maxRecDepth 20000 in
theorem ec_74 (T : Cy) (h0 : Nat) (u : Nat → Nat) : (((u 74), .inl (T.1, 20, .inl (fun j => if j < 20 then (-1 : Int32) else (fun _ => 0) j))) : Nat × va_E) = (roC h0 u 74, cel Yc T (roC h0 u) SC0 74) := rfl
set_option maxRecDepth 20000 in
theorem ec_75 (T : Cy) (h0 : Nat) (u : Nat → Nat) : (((u 75), .inl (T.2.1, 12, .inr (.inl (fun _ => 0)))) : Nat × va_E) = (roC h0 u 75, cel Yc T (roC h0 u) SC0 75) := rfl
set_option maxRecDepth 20000 in
theorem ec_77 (T : Cy) (h0 : Nat) (u : Nat → Nat) : (((u 77), .inl (T.1, 6, .inl (fun j => if j < 6 then (-1 : Int32) else (fun _ => 0) j))) : Nat × va_E) = (roC h0 u 77, cel Yc T (roC h0 u) SC0 77) := rfl
set_option maxRecDepth 20000 in
theorem ec_78 (T : Cy) (h0 : Nat) (u : Nat → Nat) : (((u 78), .inl (T.2.1, 30, .inr (.inl (fun _ => 0)))) : Nat × va_E) = (roC h0 u 78, cel Yc T (roC h0 u) SC0 78) := rfl
set_option maxRecDepth 20000 in
theorem ec_79 (T : Cy) (h0 : Nat) (u : Nat → Nat) : (((u 79), .inl (T.1, 4, .inl (upd (fun _ => 0) 0 (-1 : Int32)))) : Nat × va_E) = (roC h0 u 79, cel Yc T (roC h0 u) SC0 79) := rfl
set_option maxRecDepth 20000 in
theorem ec_80 (T : Cy) (h0 : Nat) (u : Nat → Nat) : (((u 80), .inl (T.1, 56, .inl (fun _ => 0))) : Nat × va_E) = (roC h0 u 80, cel Yc T (roC h0 u) SC0 80) := rfl
theorem ec_76 (T : Cy) (h0 : Nat) (u : Nat → Nat) : (((u 76), .inl (T.2.2, 6, .inr (.inr (.inr (.inr (fun i => some (roC h0 u (Yc.2.2.2 76 i)))))))) : Nat × va_E) = (roC h0 u 76, cel Yc T (roC h0 u) SC0 76) := rfl
set_option maxRecDepth 100000 in
theorem eqC (T : Cy) (h0 : Nat) (u : Nat → Nat) : ([(h0, .inr (9, [.ref (u 10), .ref (u 3), .ref (u 4), .ref (u 6), .ref (u 1), .ref (u 2), .int (0 : Int32)])), ((u 1), .inr (2, [.ref (u 58), .ref (u 59), .ref (u 60), .ref (u 61), .ref (u 62), .ref (u 63), .ref (u 11), .ref (u 12), .int (0 : Int32), .ref (u 64), .ref (u 65), .int (0 : Int32), .long (0 : Int64), .int (0 : Int32), .int (-1 : Int32), .ref (u 13)])), ((u 2), .inr (2, [.ref (u 66), .ref (u 67), .ref (u 68), .ref (u 69), .ref (u 70), .ref (u 71), .ref (u 14), .ref (u 15), .int (0 : Int32), .ref (u 72), .ref (u 73), .int (0 : Int32), .long (0 : Int64), .int (0 : Int32), .int (-1 : Int32), .ref (u 16)])), ((u 3), .inr (3, [.ref (u 10), .ref (u 17), .ref (u 2), .int (0 : Int32), .int (0 : Int32)])), ((u 4), .inr (0, [.ref (u 5), .ref (u 74), .ref (u 75), .ref (u 76), .ref (u 77), .ref (u 22), .ref (u 78), .int (0 : Int32), .ref (u 23), .ref (u 1), .int (0 : Int32), .int (0 : Int32)])), ((u 5), .inr (7, [.ref (u 18), .ref (u 19), .ref (u 20), .ref (u 21), .int (1 : Int32)])), ((u 6), .inr (5, [.ref (u 79), .ref (u 80), .ref (u 4), .ref (u 7), .ref (u 8), .ref (u 9), .ref (u 32), .ref (u 33)])), ((u 7), .inr (6, [.ref (u 4), .ref (u 5), .ref (u 23), .ref (u 22), .ref (u 30), .ref (u 31)])), ((u 8), .inr (8, [.ref (u 4), .ref (u 5)])), ((u 9), .inr (1, [.ref (u 4), .ref (u 23)])), ((u 10), .inr (4, [.int (3000 : Int32), .ref (u 34), .int (0 : Int32), .int (0 : Int32)])), ((u 11), .inr (4, [.int (3000 : Int32), .ref (u 35), .int (0 : Int32), .int (0 : Int32)])), ((u 12), .inr (4, [.int (24 : Int32), .ref (u 36), .int (0 : Int32), .int (0 : Int32)])), ((u 13), .inr (4, [.int (20 : Int32), .ref (u 37), .int (0 : Int32), .int (0 : Int32)])), ((u 14), .inr (4, [.int (3000 : Int32), .ref (u 38), .int (0 : Int32), .int (0 : Int32)])), ((u 15), .inr (4, [.int (24 : Int32), .ref (u 39), .int (0 : Int32), .int (0 : Int32)])), ((u 16), .inr (4, [.int (20 : Int32), .ref (u 40), .int (0 : Int32), .int (0 : Int32)])), ((u 17), .inr (4, [.int (400 : Int32), .ref (u 41), .int (0 : Int32), .int (0 : Int32)])), ((u 18), .inr (4, [.int (27000 : Int32), .ref (u 42), .int (0 : Int32), .int (0 : Int32)])), ((u 19), .inr (4, [.int (1465 : Int32), .ref (u 43), .int (1 : Int32), .int (0 : Int32)])), ((u 20), .inr (4, [.int (85 : Int32), .ref (u 44), .int (1 : Int32), .int (0 : Int32)])), ((u 21), .inr (4, [.int (24 : Int32), .ref (u 45), .int (0 : Int32), .int (0 : Int32)])), ((u 22), .inr (4, [.int (24 : Int32), .ref (u 46), .int (0 : Int32), .int (0 : Int32)])), ((u 23), .inr (4, [.int (400 : Int32), .ref (u 47), .int (0 : Int32), .int (0 : Int32)])), ((u 24), .inr (4, [.int (400 : Int32), .ref (u 48), .int (0 : Int32), .int (0 : Int32)])), ((u 25), .inr (4, [.int (400 : Int32), .ref (u 49), .int (0 : Int32), .int (0 : Int32)])), ((u 26), .inr (4, [.int (400 : Int32), .ref (u 50), .int (0 : Int32), .int (0 : Int32)])), ((u 27), .inr (4, [.int (400 : Int32), .ref (u 51), .int (0 : Int32), .int (0 : Int32)])), ((u 28), .inr (4, [.int (400 : Int32), .ref (u 52), .int (0 : Int32), .int (0 : Int32)])), ((u 29), .inr (4, [.int (400 : Int32), .ref (u 53), .int (0 : Int32), .int (0 : Int32)])), ((u 30), .inr (4, [.int (401 : Int32), .ref (u 54), .int (0 : Int32), .int (0 : Int32)])), ((u 31), .inr (4, [.int (401 : Int32), .ref (u 55), .int (0 : Int32), .int (0 : Int32)])), ((u 32), .inr (4, [.int (60 : Int32), .ref (u 56), .int (0 : Int32), .int (0 : Int32)])), ((u 33), .inr (4, [.int (60 : Int32), .ref (u 57), .int (0 : Int32), .int (0 : Int32)])), ((u 34), .inl (T.1, 16, .inl (fun _ => 0))), ((u 35), .inl (T.1, 16, .inl (fun _ => 0))), ((u 36), .inl (T.1, 16, .inl (fun _ => 0))), ((u 37), .inl (T.1, 16, .inl (fun _ => 0))), ((u 38), .inl (T.1, 16, .inl (fun _ => 0))), ((u 39), .inl (T.1, 16, .inl (fun _ => 0))), ((u 40), .inl (T.1, 16, .inl (fun _ => 0))), ((u 41), .inl (T.1, 16, .inl (fun _ => 0))), ((u 42), .inl (T.1, 16, .inl (fun _ => 0))), ((u 43), .inl (T.1, 16, .inl (fun _ => 0))), ((u 44), .inl (T.1, 16, .inl (fun _ => 0))), ((u 45), .inl (T.1, 16, .inl (fun _ => 0))), ((u 46), .inl (T.1, 16, .inl (fun _ => 0))), ((u 47), .inl (T.1, 16, .inl (fun _ => 0))), ((u 48), .inl (T.1, 16, .inl (fun _ => 0))), ((u 49), .inl (T.1, 16, .inl (fun _ => 0))), ((u 50), .inl (T.1, 16, .inl (fun _ => 0))), ((u 51), .inl (T.1, 16, .inl (fun _ => 0))), ((u 52), .inl (T.1, 16, .inl (fun _ => 0))), ((u 53), .inl (T.1, 16, .inl (fun _ => 0))), ((u 54), .inl (T.1, 16, .inl (fun _ => 0))), ((u 55), .inl (T.1, 16, .inl (fun _ => 0))), ((u 56), .inl (T.1, 16, .inl (fun _ => 0))), ((u 57), .inl (T.1, 16, .inl (fun _ => 0))), ((u 58), .inl (T.1, 60, .inl (fun _ => 0))), ((u 59), .inl (T.1, 61, .inl (fun _ => 0))), ((u 60), .inl (T.1, 540, .inl (fun _ => 0))), ((u 61), .inl (T.1, 540, .inl (fun _ => 0))), ((u 62), .inl (T.2.1, 540, .inr (.inl (fun _ => 0)))), ((u 63), .inl (T.1, 540, .inl (fun _ => 0))), ((u 64), .inl (T.1, 60, .inl (fun _ => 0))), ((u 65), .inl (T.2.1, 60, .inr (.inl (fun _ => 0)))), ((u 66), .inl (T.1, 60, .inl (fun _ => 0))), ((u 67), .inl (T.1, 61, .inl (fun _ => 0))), ((u 68), .inl (T.1, 540, .inl (fun _ => 0))), ((u 69), .inl (T.1, 540, .inl (fun _ => 0))), ((u 70), .inl (T.2.1, 540, .inr (.inl (fun _ => 0)))), ((u 71), .inl (T.1, 540, .inl (fun _ => 0))), ((u 72), .inl (T.1, 60, .inl (fun _ => 0))), ((u 73), .inl (T.2.1, 60, .inr (.inl (fun _ => 0)))), ((u 74), .inl (T.1, 20, .inl (fun j => if j < 20 then (-1 : Int32) else (fun _ => 0) j))), ((u 75), .inl (T.2.1, 12, .inr (.inl (fun _ => 0)))), ((u 76), .inl (T.2.2, 6, .inr (.inr (.inr (.inr (fun i => some (roC h0 u (Yc.2.2.2 76 i)))))))), ((u 77), .inl (T.1, 6, .inl (fun j => if j < 6 then (-1 : Int32) else (fun _ => 0) j))), ((u 78), .inl (T.2.1, 30, .inr (.inl (fun _ => 0)))), ((u 79), .inl (T.1, 4, .inl (upd (fun _ => 0) 0 (-1 : Int32)))), ((u 80), .inl (T.1, 56, .inl (fun _ => 0)))] : va_W) = wl Yc T (roC h0 u) SC0 := Eq.trans (cons2 (ec_0 T h0 u) (cons2 (ec_1 T h0 u) (cons2 (ec_2 T h0 u) (cons2 (ec_3 T h0 u) (cons2 (ec_4 T h0 u) (cons2 (ec_5 T h0 u) (cons2 (ec_6 T h0 u) (cons2 (ec_7 T h0 u) (cons2 (ec_8 T h0 u) (cons2 (ec_9 T h0 u) (cons2 (ec_10 T h0 u) (cons2 (ec_11 T h0 u) (cons2 (ec_12 T h0 u) (cons2 (ec_13 T h0 u) (cons2 (ec_14 T h0 u) (cons2 (ec_15 T h0 u) (cons2 (ec_16 T h0 u) (cons2 (ec_17 T h0 u) (cons2 (ec_18 T h0 u) (cons2 (ec_19 T h0 u) (cons2 (ec_20 T h0 u) (cons2 (ec_21 T h0 u) (cons2 (ec_22 T h0 u) (cons2 (ec_23 T h0 u) (cons2 (ec_24 T h0 u) (cons2 (ec_25 T h0 u) (cons2 (ec_26 T h0 u) (cons2 (ec_27 T h0 u) (cons2 (ec_28 T h0 u) (cons2 (ec_29 T h0 u) (cons2 (ec_30 T h0 u) (cons2 (ec_31 T h0 u) (cons2 (ec_32 T h0 u) (cons2 (ec_33 T h0 u) (cons2 (ec_34 T h0 u) (cons2 (ec_35 T h0 u) (cons2 (ec_36 T h0 u) (cons2 (ec_37 T h0 u) (cons2 (ec_38 T h0 u) (cons2 (ec_39 T h0 u) (cons2 (ec_40 T h0 u) (cons2 (ec_41 T h0 u) (cons2 (ec_42 T h0 u) (cons2 (ec_43 T h0 u) (cons2 (ec_44 T h0 u) (cons2 (ec_45 T h0 u) (cons2 (ec_46 T h0 u) (cons2 (ec_47 T h0 u) (cons2 (ec_48 T h0 u) (cons2 (ec_49 T h0 u) (cons2 (ec_50 T h0 u) (cons2 (ec_51 T h0 u) (cons2 (ec_52 T h0 u) (cons2 (ec_53 T h0 u) (cons2 (ec_54 T h0 u) (cons2 (ec_55 T h0 u) (cons2 (ec_56 T h0 u) (cons2 (ec_57 T h0 u) (cons2 (ec_58 T h0 u) (cons2 (ec_59 T h0 u) (cons2 (ec_60 T h0 u) (cons2 (ec_61 T h0 u) (cons2 (ec_62 T h0 u) (cons2 (ec_63 T h0 u) (cons2 (ec_64 T h0 u) (cons2 (ec_65 T h0 u) (cons2 (ec_66 T h0 u) (cons2 (ec_67 T h0 u) (cons2 (ec_68 T h0 u) (cons2 (ec_69 T h0 u) (cons2 (ec_70 T h0 u) (cons2 (ec_71 T h0 u) (cons2 (ec_72 T h0 u) (cons2 (ec_73 T h0 u) (cons2 (ec_74 T h0 u) (cons2 (ec_75 T h0 u) (cons2 (ec_76 T h0 u) (cons2 (ec_77 T h0 u) (cons2 (ec_78 T h0 u) (cons2 (ec_79 T h0 u) (cons2 (ec_80 T h0 u) rfl))))))))))))))))))))))))))))))))))))))))))))))))))))))))))))))))))))))))))))))))) (rng81 (fun c => (roC h0 u c, cel Yc T (roC h0 u) SC0 c))).symm
def wC1 (T : Cy) (h0 : Nat) (u : Nat → Nat) : va_W := [(h0, .inr (9, [.ref (u 10), .ref (u 3), .ref (u 4), .ref (u 6), .ref (u 1), .ref (u 2), .int (0 : Int32)])), ((u 1), .inr (2, [.ref (u 58), .ref (u 59), .ref (u 60), .ref (u 61), .ref (u 62), .ref (u 63), .ref (u 11), .ref (u 12), .int (0 : Int32), .ref (u 64), .ref (u 65), .int (0 : Int32), .long (0 : Int64), .int (0 : Int32), .int (-1 : Int32), .ref (u 13)])), ((u 2), .inr (2, [.ref (u 66), .ref (u 67), .ref (u 68), .ref (u 69), .ref (u 70), .ref (u 71), .ref (u 14), .ref (u 15), .int (0 : Int32), .ref (u 72), .ref (u 73), .int (0 : Int32), .long (0 : Int64), .int (0 : Int32), .int (-1 : Int32), .ref (u 16)])), ((u 3), .inr (3, [.ref (u 10), .ref (u 17), .ref (u 2), .int (0 : Int32), .int (0 : Int32)])), ((u 4), .inr (0, [.ref (u 5), .ref (u 74), .ref (u 75), .ref (u 76), .ref (u 77), .ref (u 22), .ref (u 78), .int (0 : Int32), .ref (u 23), .ref (u 1), .int (0 : Int32), .int (0 : Int32)])), ((u 5), .inr (7, [.ref (u 18), .ref (u 19), .ref (u 20), .ref (u 21), .int (1 : Int32)])), ((u 6), .inr (5, [.ref (u 79), .ref (u 80), .ref (u 4), .ref (u 7), .ref (u 8), .ref (u 9), .ref (u 32), .ref (u 33)])), ((u 7), .inr (6, [.ref (u 4), .ref (u 5), .ref (u 23), .ref (u 22), .ref (u 30), .ref (u 31)])), ((u 8), .inr (8, [.ref (u 4), .ref (u 5)])), ((u 9), .inr (1, [.ref (u 4), .ref (u 23)])), ((u 10), .inr (4, [.int (3000 : Int32), .ref (u 34), .int (0 : Int32), .int (0 : Int32)])), ((u 11), .inr (4, [.int (3000 : Int32), .ref (u 35), .int (0 : Int32), .int (0 : Int32)])), ((u 12), .inr (4, [.int (24 : Int32), .ref (u 36), .int (0 : Int32), .int (0 : Int32)])), ((u 13), .inr (4, [.int (20 : Int32), .ref (u 37), .int (0 : Int32), .int (0 : Int32)])), ((u 14), .inr (4, [.int (3000 : Int32), .ref (u 38), .int (0 : Int32), .int (0 : Int32)])), ((u 15), .inr (4, [.int (24 : Int32), .ref (u 39), .int (0 : Int32), .int (0 : Int32)])), ((u 16), .inr (4, [.int (20 : Int32), .ref (u 40), .int (0 : Int32), .int (0 : Int32)])), ((u 17), .inr (4, [.int (400 : Int32), .ref (u 41), .int (0 : Int32), .int (0 : Int32)])), ((u 18), .inr (4, [.int (27000 : Int32), .ref (u 42), .int (0 : Int32), .int (0 : Int32)])), ((u 19), .inr (4, [.int (1465 : Int32), .ref (u 43), .int (1 : Int32), .int (0 : Int32)])), ((u 20), .inr (4, [.int (85 : Int32), .ref (u 44), .int (1 : Int32), .int (0 : Int32)])), ((u 21), .inr (4, [.int (24 : Int32), .ref (u 45), .int (0 : Int32), .int (0 : Int32)])), ((u 22), .inr (4, [.int (24 : Int32), .ref (u 46), .int (0 : Int32), .int (0 : Int32)])), ((u 23), .inr (4, [.int (400 : Int32), .ref (u 47), .int (0 : Int32), .int (0 : Int32)])), ((u 24), .inr (4, [.int (400 : Int32), .ref (u 48), .int (0 : Int32), .int (0 : Int32)])), ((u 25), .inr (4, [.int (400 : Int32), .ref (u 49), .int (0 : Int32), .int (0 : Int32)])), ((u 26), .inr (4, [.int (400 : Int32), .ref (u 50), .int (0 : Int32), .int (0 : Int32)])), ((u 27), .inr (4, [.int (400 : Int32), .ref (u 51), .int (0 : Int32), .int (0 : Int32)])), ((u 28), .inr (4, [.int (400 : Int32), .ref (u 52), .int (0 : Int32), .int (0 : Int32)])), ((u 29), .inr (4, [.int (400 : Int32), .ref (u 53), .int (0 : Int32), .int (0 : Int32)])), ((u 30), .inr (4, [.int (401 : Int32), .ref (u 54), .int (0 : Int32), .int (0 : Int32)])), ((u 31), .inr (4, [.int (401 : Int32), .ref (u 55), .int (0 : Int32), .int (0 : Int32)])), ((u 32), .inr (4, [.int (60 : Int32), .ref (u 56), .int (0 : Int32), .int (0 : Int32)])), ((u 33), .inr (4, [.int (60 : Int32), .ref (u 57), .int (0 : Int32), .int (0 : Int32)])), ((u 34), .inl (T.1, 16, .inl (fun _ => 0))), ((u 35), .inl (T.1, 16, .inl (fun _ => 0))), ((u 36), .inl (T.1, 16, .inl (fun _ => 0))), ((u 37), .inl (T.1, 16, .inl (fun _ => 0))), ((u 38), .inl (T.1, 16, .inl (fun _ => 0))), ((u 39), .inl (T.1, 16, .inl (fun _ => 0))), ((u 40), .inl (T.1, 16, .inl (fun _ => 0))), ((u 41), .inl (T.1, 16, .inl (fun _ => 0))), ((u 42), .inl (T.1, 16, .inl (fun _ => 0))), ((u 43), .inl (T.1, 16, .inl (fun _ => 0))), ((u 44), .inl (T.1, 16, .inl (fun _ => 0))), ((u 45), .inl (T.1, 16, .inl (fun _ => 0))), ((u 46), .inl (T.1, 16, .inl (fun _ => 0))), ((u 47), .inl (T.1, 16, .inl (fun _ => 0))), ((u 48), .inl (T.1, 16, .inl (fun _ => 0))), ((u 49), .inl (T.1, 16, .inl (fun _ => 0))), ((u 50), .inl (T.1, 16, .inl (fun _ => 0))), ((u 51), .inl (T.1, 16, .inl (fun _ => 0))), ((u 52), .inl (T.1, 16, .inl (fun _ => 0))), ((u 53), .inl (T.1, 16, .inl (fun _ => 0))), ((u 54), .inl (T.1, 16, .inl (fun _ => 0))), ((u 55), .inl (T.1, 16, .inl (fun _ => 0))), ((u 56), .inl (T.1, 16, .inl (fun _ => 0))), ((u 57), .inl (T.1, 16, .inl (fun _ => 0))), ((u 58), .inl (T.1, 60, .inl (fun _ => 0))), ((u 59), .inl (T.1, 61, .inl (fun _ => 0))), ((u 60), .inl (T.1, 540, .inl (fun _ => 0))), ((u 61), .inl (T.1, 540, .inl (fun _ => 0))), ((u 62), .inl (T.2.1, 540, .inr (.inl (fun _ => 0)))), ((u 63), .inl (T.1, 540, .inl (fun _ => 0))), ((u 64), .inl (T.1, 60, .inl (fun _ => 0))), ((u 65), .inl (T.2.1, 60, .inr (.inl (fun _ => 0)))), ((u 66), .inl (T.1, 60, .inl (fun _ => 0))), ((u 67), .inl (T.1, 61, .inl (fun _ => 0))), ((u 68), .inl (T.1, 540, .inl (fun _ => 0))), ((u 69), .inl (T.1, 540, .inl (fun _ => 0))), ((u 70), .inl (T.2.1, 540, .inr (.inl (fun _ => 0)))), ((u 71), .inl (T.1, 540, .inl (fun _ => 0))), ((u 72), .inl (T.1, 60, .inl (fun _ => 0))), ((u 73), .inl (T.2.1, 60, .inr (.inl (fun _ => 0)))), ((u 74), .inl (T.1, 20, .inl (fun j => if j < 20 then (-1 : Int32) else (fun _ => 0) j))), ((u 75), .inl (T.2.1, 12, .inr (.inl (fun _ => 0)))), ((u 76), .inl (T.2.2, 6, .inr (.inr (.inr (.inr (va_up (va_up (va_up (va_up (va_up (va_up (fun _ => none) 0 (some (u 24))) 1 (some (u 25))) 2 (some (u 26))) 3 (some (u 27))) 4 (some (u 28))) 5 (some (u 29)))))))), ((u 77), .inl (T.1, 6, .inl (fun j => if j < 6 then (-1 : Int32) else (fun _ => 0) j))), ((u 78), .inl (T.2.1, 30, .inr (.inl (fun _ => 0)))), ((u 79), .inl (T.1, 4, .inl (upd (fun _ => 0) 0 (-1 : Int32)))), ((u 80), .inl (T.1, 56, .inl (fun _ => 0)))]
set_option maxRecDepth 100000 in
set_option maxHeartbeats 4000000 in
theorem setC (T : Cy) (h0 : Nat) (u : Nat → Nat) : (wC1 T h0 u).set 76 ((u 76), .inl (T.2.2, 6, .inr (.inr (.inr (.inr (fun i => some (roC h0 u (Yc.2.2.2 76 i)))))))) = wl Yc T (roC h0 u) SC0 := by
  rw [← eqC]
  unfold wC1
  simp only [List.set_cons_zero, List.set_cons_succ]
theorem set_P {D : va_G} {cl : List vw_C} {ws : va_W} {H : Heap} {k q : Nat} {e e' : va_E} (hk : ws[k]? = some (q, e)) (h : va_P D cl ws H) (hx : va_at D cl (q, e) H → va_at D cl (q, e') H) : va_P D cl (ws.set k (q, e')) H := by
  intro i x hi
  rw [List.getElem?_set] at hi
  by_cases hc : k = i
  · subst hc
    have hl : k < ws.length := (List.getElem?_eq_some_iff.mp hk).1
    rw [if_pos rfl, if_pos hl] at hi
    have := Option.some.inj hi
    subst this
    exact hx (h k _ hk)
  · rw [if_neg hc] at hi
    exact h i x hi
theorem arrV_eq {cA : ClassId} {n : Nat} {f g : Nat → Value} (h : ∀ j, j < n → f j = g j) : arrV cA n f = arrV cA n g := by
  unfold arrV
  have : (fun j : Fin n => f j.val) = fun j : Fin n => g j.val := by
    funext j
    exact h j.val j.isLt
  rw [this]
theorem endC {D : va_G} {T : Cy} {h0 : Nat} {u : Nat → Nat} {H : Heap} {A : Nat → Prop} (hP : va_P D vwCl (wC1 T h0 u) H) (hD : va_D A (wC1 T h0 u)) : va_P D vwCl (wl Yc T (roC h0 u) SC0) H ∧ va_D A (wl Yc T (roC h0 u) SC0) := by
  rw [← setC]
  refine ⟨set_P (e := .inl (T.2.2, 6, .inr (.inr (.inr (.inr (va_up (va_up (va_up (va_up (va_up (va_up (fun _ => none) 0 (some (u 24))) 1 (some (u 25))) 2 (some (u 26))) 3 (some (u 27))) 4 (some (u 28))) 5 (some (u 29)))))))) rfl hP (fun hx => ?_), hD.set (e0 := .inl (T.2.2, 6, .inr (.inr (.inr (.inr (va_up (va_up (va_up (va_up (va_up (va_up (fun _ => none) 0 (some (u 24))) 1 (some (u 25))) 2 (some (u 26))) 3 (some (u 27))) 4 (some (u 28))) 5 (some (u 29)))))))) rfl⟩
  have hx : H[u 76]? = some (vp_cell T.2.2 (6, .inr (.inr (.inr (.inr (va_up (va_up (va_up (va_up (va_up (va_up (fun _ => none) 0 (some (u 24))) 1 (some (u 25))) 2 (some (u 26))) 3 (some (u 27))) 4 (some (u 28))) 5 (some (u 29)))))))) := hx
  show H[u 76]? = some (vp_cell T.2.2 (6, .inr (.inr (.inr (.inr (fun i => some (roC h0 u (Yc.2.2.2 76 i))))))))
  rw [hx, vp_cell_q, vp_cell_q]
  congr 1

