/-! THE CONSTANTS AT THE LAW'S START, out of what the Statement gives -/
def FLc : List Cond := flatC (Jvm.Cond.and given_1 narrow_1)
def FLp (k i : Nat) : Option Cond := if k = 1 then (flatC narrow_1_1)[i]? else if k = 2 then (flatC narrow_1_2)[i]? else if k = 3 then (flatC narrow_1_3)[i]? else (flatC narrow_1_4)[i]?
theorem FLp_in {k i : Nat} {c : Cond} (h : FLp k i = some c) : c ∈ FLc := by
  have e : FLc = flatC given_1 ++ ((flatC narrow_1_1 ++ flatC narrow_1_2) ++ (flatC narrow_1_3 ++ flatC narrow_1_4)) := rfl
  rw [e]
  unfold FLp at h
  by_cases h1 : k = 1
  · rw [if_pos h1] at h
    exact List.mem_append_right _ (List.mem_append_left _ (List.mem_append_left _ (List.mem_of_getElem? h)))
  rw [if_neg h1] at h
  by_cases h2 : k = 2
  · rw [if_pos h2] at h
    exact List.mem_append_right _ (List.mem_append_left _ (List.mem_append_right _ (List.mem_of_getElem? h)))
  rw [if_neg h2] at h
  by_cases h3 : k = 3
  · rw [if_pos h3] at h
    exact List.mem_append_right _ (List.mem_append_right _ (List.mem_append_left _ (List.mem_of_getElem? h)))
  rw [if_neg h3] at h
  exact List.mem_append_right _ (List.mem_append_right _ (List.mem_append_right _ (List.mem_of_getElem? h)))
def stT : List (String × Nat) := [("TextLessons$Reader", 99), ("TextLessons$Reader", 117), ("TextLessons$Reader", 122), ("TextLessons$Reader", 124), ("TextLessons$Reader", 126), ("TextLessons$Bench", 166), ("TextLessons$Bench", 168), ("TextLessons$Bench", 183), ("TextLessons$WholeSteps", 160), ("TextLessons$Sort", 448), ("TextLessons$Sort", 450), ("TextLessons$Sort", 453), ("TextLessons$Sort", 455), ("TextLessons$Sort", 458), ("TextLessons$Sort", 460), ("TextLessons$Sort", 221), ("TextLessons$Sort", 223), ("TextLessons$Sort", 229), ("TextLessons$Sort", 231), ("TextLessons$Sort", 234), ("TextLessons$Sort", 236), ("TextLessons$Sort", 239), ("TextLessons$Sort", 242), ("TextLessons$Sort", 244), ("TextLessons$Sort", 247), ("TextLessons$Sort", 249), ("TextLessons$Sort", 252), ("TextLessons$Sort", 254), ("TextLessons$Sort", 257), ("TextLessons$Sort", 260), ("TextLessons$Sort", 262), ("TextLessons$Sort", 265), ("TextLessons$Sort", 267), ("TextLessons$Sort", 270), ("TextLessons$Sort", 272), ("TextLessons$Sort", 274), ("TextLessons$Sort", 277), ("TextLessons$Sort", 280), ("TextLessons$Sort", 283), ("TextLessons$Sort", 285), ("TextLessons$Sort", 288), ("TextLessons$Sort", 291), ("TextLessons$Sort", 293), ("TextLessons$Sort", 296), ("TextLessons$Sort", 299), ("TextLessons$Sort", 302), ("TextLessons$Sort", 304), ("TextLessons$Sort", 307), ("TextLessons$Sort", 310), ("TextLessons$Sort", 312), ("TextLessons$Sort", 315), ("TextLessons$Sort", 317), ("TextLessons$Sort", 320), ("TextLessons$Sort", 323), ("TextLessons$Sort", 326), ("TextLessons$Sort", 329), ("TextLessons$Sort", 332), ("TextLessons$Sort", 334), ("TextLessons$Sort", 337), ("TextLessons$Sort", 339), ("TextLessons$Sort", 342), ("TextLessons$Sort", 344), ("TextLessons$Sort", 347), ("TextLessons$Sort", 349), ("TextLessons$Sort", 352), ("TextLessons$Sort", 355), ("TextLessons$Sort", 358), ("TextLessons$Sort", 361), ("TextLessons$Sort", 363), ("TextLessons$Sort", 366), ("TextLessons$Sort", 368), ("TextLessons$Sort", 371), ("TextLessons$Sort", 373), ("TextLessons$Sort", 376), ("TextLessons$Sort", 378), ("TextLessons$Sort", 381), ("TextLessons$Sort", 383), ("TextLessons$Sort", 386), ("TextLessons$Sort", 389), ("TextLessons$Sort", 391), ("TextLessons$Sort", 394), ("TextLessons$Sort", 396), ("TextLessons$Sort", 399), ("TextLessons$Sort", 401), ("TextLessons$Sort", 404), ("TextLessons$Sort", 406), ("TextLessons$Sort", 409), ("TextLessons$Sort", 411), ("TextLessons$Sort", 414), ("TextLessons$Sort", 416), ("TextLessons$Sort", 419), ("TextLessons$Sort", 421), ("TextLessons$Sort", 424), ("TextLessons$Sort", 426), ("TextLessons$Sort", 429), ("TextLessons$Sort", 432), ("TextLessons$Sort", 434), ("TextLessons$Sort", 437), ("TextLessons$Sort", 439), ("TextLessons$Sort", 442), ("TextLessons$Sort", 445)]
def stm (j : Nat) : Term := .string (stT.getD j ("", 0)).1 (stT.getD j ("", 0)).2
def vtm (j : Nat) : Term := .field (stm j) "java/lang/String" "value" "[B"
def ps_ex : List (Nat × Nat) := [(1, 145), (1, 151), (1, 157), (1, 163), (1, 169), (1, 175), (1, 181), (1, 187), (1, 193), (1, 199), (1, 205), (1, 211), (1, 217), (1, 223), (1, 229), (1, 235), (1, 241), (1, 247), (1, 253), (1, 259), (1, 265), (1, 271), (1, 277), (1, 283), (1, 289), (1, 295), (1, 301), (1, 307), (1, 313), (1, 319), (1, 325), (1, 331), (1, 337), (1, 343), (1, 349), (1, 355), (1, 361), (1, 367), (1, 373), (1, 379), (1, 385), (1, 391), (1, 397), (2, 3), (2, 9), (2, 15), (2, 21), (2, 27), (2, 33), (2, 39), (2, 45), (2, 51), (2, 57), (1, 68), (1, 74), (1, 139)]
set_option maxRecDepth 100000 in
theorem pq_ex : ∀ i, i < 56 → FLp (ps_ex.getD i (0, 0)).1 (ps_ex.getD i (0, 0)).2 = some (Cond.exactly (.static "TextLessons$Sort" (smN.getD i "") "LTextLessons$Sort;") "TextLessons$Sort") := by decide +kernel
theorem pr_ex : ∀ i, i < 56 → Cond.exactly (.static "TextLessons$Sort" (smN.getD i "") "LTextLessons$Sort;") "TextLessons$Sort" ∈ FLc := fun i hi => FLp_in (pq_ex i hi)
def ps_f0 : List (Nat × Nat) := [(1, 146), (1, 152), (1, 158), (1, 164), (1, 170), (1, 176), (1, 182), (1, 188), (1, 194), (1, 200), (1, 206), (1, 212), (1, 218), (1, 224), (1, 230), (1, 236), (1, 242), (1, 248), (1, 254), (1, 260), (1, 266), (1, 272), (1, 278), (1, 284), (1, 290), (1, 296), (1, 302), (1, 308), (1, 314), (1, 320), (1, 326), (1, 332), (1, 338), (1, 344), (1, 350), (1, 356), (1, 362), (1, 368), (1, 374), (1, 380), (1, 386), (1, 392), (1, 398), (2, 4), (2, 10), (2, 16), (2, 22), (2, 28), (2, 34), (2, 40), (2, 46), (2, 52), (2, 58), (1, 69), (1, 75), (1, 140)]
set_option maxRecDepth 100000 in
theorem pq_f0 : ∀ i, i < 56 → FLp (ps_f0.getD i (0, 0)).1 (ps_f0.getD i (0, 0)).2 = some (Cond.eq (.field (.static "TextLessons$Sort" (smN.getD i "") "LTextLessons$Sort;") "java/lang/Enum" "ordinal" "I") (.int (Int32.ofNat i))) := by decide +kernel
theorem pr_f0 : ∀ i, i < 56 → Cond.eq (.field (.static "TextLessons$Sort" (smN.getD i "") "LTextLessons$Sort;") "java/lang/Enum" "ordinal" "I") (.int (Int32.ofNat i)) ∈ FLc := fun i hi => FLp_in (pq_f0 i hi)
def ps_f1 : List (Nat × Nat) := [(1, 149), (1, 155), (1, 161), (1, 167), (1, 173), (1, 179), (1, 185), (1, 191), (1, 197), (1, 203), (1, 209), (1, 215), (1, 221), (1, 227), (1, 233), (1, 239), (1, 245), (1, 251), (1, 257), (1, 263), (1, 269), (1, 275), (1, 281), (1, 287), (1, 293), (1, 299), (1, 305), (1, 311), (1, 317), (1, 323), (1, 329), (1, 335), (1, 341), (1, 347), (1, 353), (1, 359), (1, 365), (1, 371), (1, 377), (1, 383), (1, 389), (1, 395), (2, 1), (2, 7), (2, 13), (2, 19), (2, 25), (2, 31), (2, 37), (2, 43), (2, 49), (2, 55), (2, 61), (1, 72), (1, 78), (1, 143)]
set_option maxRecDepth 100000 in
theorem pq_f1 : ∀ i, i < 56 → FLp (ps_f1.getD i (0, 0)).1 (ps_f1.getD i (0, 0)).2 = some (Cond.eq (.field (.static "TextLessons$Sort" (smN.getD i "") "LTextLessons$Sort;") "TextLessons$Sort" "least" "I") (.int (leT.getD i 0))) := by decide +kernel
theorem pr_f1 : ∀ i, i < 56 → Cond.eq (.field (.static "TextLessons$Sort" (smN.getD i "") "LTextLessons$Sort;") "TextLessons$Sort" "least" "I") (.int (leT.getD i 0)) ∈ FLc := fun i hi => FLp_in (pq_f1 i hi)
def ps_f2 : List (Nat × Nat) := [(1, 150), (1, 156), (1, 162), (1, 168), (1, 174), (1, 180), (1, 186), (1, 192), (1, 198), (1, 204), (1, 210), (1, 216), (1, 222), (1, 228), (1, 234), (1, 240), (1, 246), (1, 252), (1, 258), (1, 264), (1, 270), (1, 276), (1, 282), (1, 288), (1, 294), (1, 300), (1, 306), (1, 312), (1, 318), (1, 324), (1, 330), (1, 336), (1, 342), (1, 348), (1, 354), (1, 360), (1, 366), (1, 372), (1, 378), (1, 384), (1, 390), (1, 396), (2, 2), (2, 8), (2, 14), (2, 20), (2, 26), (2, 32), (2, 38), (2, 44), (2, 50), (2, 56), (2, 62), (1, 73), (1, 79), (1, 144)]
set_option maxRecDepth 100000 in
theorem pq_f2 : ∀ i, i < 56 → FLp (ps_f2.getD i (0, 0)).1 (ps_f2.getD i (0, 0)).2 = some (Cond.eq (.field (.static "TextLessons$Sort" (smN.getD i "") "LTextLessons$Sort;") "TextLessons$Sort" "group" "I") (.int (grT.getD i 0))) := by decide +kernel
theorem pr_f2 : ∀ i, i < 56 → Cond.eq (.field (.static "TextLessons$Sort" (smN.getD i "") "LTextLessons$Sort;") "TextLessons$Sort" "group" "I") (.int (grT.getD i 0)) ∈ FLc := fun i hi => FLp_in (pq_f2 i hi)
def ps_spT : List (Nat × Nat) := [(1, 147), (1, 153), (1, 159), (1, 165), (1, 171), (1, 177), (1, 183), (1, 189), (1, 195), (1, 201), (1, 207), (1, 213), (1, 219), (1, 225), (1, 231), (1, 237), (1, 243), (1, 249), (1, 255), (1, 261), (1, 267), (1, 273), (1, 279), (1, 285), (1, 291), (1, 297), (1, 303), (1, 309), (1, 315), (1, 321), (1, 327), (1, 333), (1, 339), (1, 345), (1, 351), (1, 357), (1, 363), (1, 369), (1, 375), (1, 381), (1, 387), (1, 393), (1, 399), (2, 5), (2, 11), (2, 17), (2, 23), (2, 29), (2, 35), (2, 41), (2, 47), (2, 53), (2, 59), (1, 70), (1, 76), (1, 141)]
set_option maxRecDepth 100000 in
theorem pq_spT : ∀ i, i < 56 → FLp (ps_spT.getD i (0, 0)).1 (ps_spT.getD i (0, 0)).2 = some (Cond.eq (.field (.static "TextLessons$Sort" (smN.getD i "") "LTextLessons$Sort;") "TextLessons$Sort" "spelling" "Ljava/lang/String;") (stm (spT.getD i 0))) := by decide +kernel
theorem pr_spT : ∀ i, i < 56 → Cond.eq (.field (.static "TextLessons$Sort" (smN.getD i "") "LTextLessons$Sort;") "TextLessons$Sort" "spelling" "Ljava/lang/String;") (stm (spT.getD i 0)) ∈ FLc := fun i hi => FLp_in (pq_spT i hi)
def ps_wdT : List (Nat × Nat) := [(1, 148), (1, 154), (1, 160), (1, 166), (1, 172), (1, 178), (1, 184), (1, 190), (1, 196), (1, 202), (1, 208), (1, 214), (1, 220), (1, 226), (1, 232), (1, 238), (1, 244), (1, 250), (1, 256), (1, 262), (1, 268), (1, 274), (1, 280), (1, 286), (1, 292), (1, 298), (1, 304), (1, 310), (1, 316), (1, 322), (1, 328), (1, 334), (1, 340), (1, 346), (1, 352), (1, 358), (1, 364), (1, 370), (1, 376), (1, 382), (1, 388), (1, 394), (2, 0), (2, 6), (2, 12), (2, 18), (2, 24), (2, 30), (2, 36), (2, 42), (2, 48), (2, 54), (2, 60), (1, 71), (1, 77), (1, 142)]
set_option maxRecDepth 100000 in
theorem pq_wdT : ∀ i, i < 56 → FLp (ps_wdT.getD i (0, 0)).1 (ps_wdT.getD i (0, 0)).2 = some (Cond.eq (.field (.static "TextLessons$Sort" (smN.getD i "") "LTextLessons$Sort;") "TextLessons$Sort" "words" "Ljava/lang/String;") (stm (wdT.getD i 0))) := by decide +kernel
theorem pr_wdT : ∀ i, i < 56 → Cond.eq (.field (.static "TextLessons$Sort" (smN.getD i "") "LTextLessons$Sort;") "TextLessons$Sort" "words" "Ljava/lang/String;") (stm (wdT.getD i 0)) ∈ FLc := fun i hi => FLp_in (pq_wdT i hi)
def ps_so : List (Nat × Nat) := [(1, 7), (1, 8), (1, 9), (1, 10), (1, 11), (1, 12), (1, 13), (1, 14), (1, 15), (1, 16), (1, 17), (1, 18), (1, 19), (1, 20), (1, 21), (1, 22), (1, 23), (1, 24), (1, 25), (1, 26), (1, 27), (1, 28), (1, 29), (1, 30), (1, 31), (1, 32), (1, 33), (1, 34), (1, 35), (1, 36), (1, 37), (1, 38), (1, 39), (1, 40), (1, 41), (1, 42), (1, 43), (1, 44), (1, 45), (1, 46), (1, 47), (1, 48), (1, 49), (1, 50), (1, 51), (1, 52), (1, 53), (1, 54), (1, 55), (1, 56), (1, 57), (1, 58), (1, 59), (1, 60), (1, 61), (1, 62)]
set_option maxRecDepth 100000 in
theorem pq_so : ∀ i, i < 56 → FLp (ps_so.getD i (0, 0)).1 (ps_so.getD i (0, 0)).2 = some (Cond.eq (.elem (.static "TextLessons" "SORTS" "[LTextLessons$Sort;") (.int (Int32.ofNat i))) (.static "TextLessons$Sort" (smN.getD i "") "LTextLessons$Sort;")) := by decide +kernel
theorem pr_so : ∀ i, i < 56 → Cond.eq (.elem (.static "TextLessons" "SORTS" "[LTextLessons$Sort;") (.int (Int32.ofNat i))) (.static "TextLessons$Sort" (smN.getD i "") "LTextLessons$Sort;") ∈ FLc := fun i hi => FLp_in (pq_so i hi)
def ps_sw : List (Nat × Nat) := [(1, 83), (1, 84), (1, 85), (1, 86), (1, 87), (1, 88), (1, 89), (1, 90), (1, 91), (1, 92), (1, 93), (1, 94), (1, 95), (1, 96), (1, 97), (1, 98), (1, 99), (1, 100), (1, 101), (1, 102), (1, 103), (1, 104), (1, 105), (1, 106), (1, 107), (1, 108), (1, 109), (1, 110), (1, 111), (1, 112), (1, 113), (1, 114), (1, 115), (1, 116), (1, 117), (1, 118), (1, 119), (1, 120), (1, 121), (1, 122), (1, 123), (1, 124), (1, 125), (1, 126), (1, 127), (1, 128), (1, 129), (1, 130), (1, 131), (1, 132), (1, 133), (1, 134), (1, 135), (1, 136), (1, 137), (1, 138)]
set_option maxRecDepth 100000 in
theorem pq_sw : ∀ i, i < 56 → FLp (ps_sw.getD i (0, 0)).1 (ps_sw.getD i (0, 0)).2 = some (Cond.eq (.elem (.static "TextLessons$1" "$SwitchMap$TextLessons$Sort" "[I") (.int (Int32.ofNat i))) (.int (swT.getD i 0))) := by decide +kernel
theorem pr_sw : ∀ i, i < 56 → Cond.eq (.elem (.static "TextLessons$1" "$SwitchMap$TextLessons$Sort" "[I") (.int (Int32.ofNat i))) (.int (swT.getD i 0)) ∈ FLc := fun i hi => FLp_in (pq_sw i hi)
def ps_st : List (Nat × Nat) := [(2, 63), (2, 70), (2, 78), (2, 85), (2, 92), (2, 98), (2, 107), (2, 115), (2, 123), (2, 132), (2, 138), (2, 144), (2, 153), (2, 159), (2, 167), (2, 172), (2, 179), (2, 185), (2, 194), (2, 199), (2, 207), (2, 213), (2, 223), (2, 231), (2, 244), (2, 252), (2, 259), (2, 268), (2, 275), (2, 284), (2, 293), (2, 300), (2, 308), (2, 314), (2, 324), (2, 332), (2, 339), (2, 348), (2, 358), (2, 368), (2, 376), (2, 386), (2, 394), (3, 2), (3, 10), (3, 19), (3, 29), (3, 36), (3, 46), (3, 57), (3, 65), (3, 73), (3, 81), (3, 89), (3, 97), (3, 107), (3, 115), (3, 124), (3, 131), (3, 140), (3, 145), (3, 154), (3, 160), (3, 170), (3, 175), (3, 184), (3, 193), (3, 202), (3, 211), (3, 217), (3, 225), (3, 231), (3, 238), (3, 244), (3, 254), (3, 261), (3, 271), (3, 278), (3, 285), (3, 293), (3, 298), (3, 306), (3, 312), (3, 320), (3, 326), (3, 334), (3, 340), (3, 349), (3, 356), (3, 364), (3, 377), (3, 387), (3, 394), (4, 3), (4, 10), (4, 19), (4, 28), (4, 34), (4, 42), (4, 49), (4, 58)]
set_option maxRecDepth 100000 in
theorem pq_st : ∀ i, i < 101 → FLp (ps_st.getD i (0, 0)).1 (ps_st.getD i (0, 0)).2 = some (Cond.exactly (stm i) "java/lang/String") := by decide +kernel
theorem pr_st : ∀ i, i < 101 → Cond.exactly (stm i) "java/lang/String" ∈ FLc := fun i hi => FLp_in (pq_st i hi)
def ps_co : List (Nat × Nat) := [(2, 64), (2, 71), (2, 79), (2, 86), (2, 93), (2, 99), (2, 108), (2, 116), (2, 124), (2, 133), (2, 139), (2, 145), (2, 154), (2, 160), (2, 168), (2, 173), (2, 180), (2, 186), (2, 195), (2, 200), (2, 208), (2, 214), (2, 224), (2, 232), (2, 245), (2, 253), (2, 260), (2, 269), (2, 276), (2, 285), (2, 294), (2, 301), (2, 309), (2, 315), (2, 325), (2, 333), (2, 340), (2, 349), (2, 359), (2, 369), (2, 377), (2, 387), (2, 395), (3, 3), (3, 11), (3, 20), (3, 30), (3, 37), (3, 47), (3, 58), (3, 66), (3, 74), (3, 82), (3, 90), (3, 98), (3, 108), (3, 116), (3, 125), (3, 132), (3, 141), (3, 146), (3, 155), (3, 161), (3, 171), (3, 176), (3, 185), (3, 194), (3, 203), (3, 212), (3, 218), (3, 226), (3, 232), (3, 239), (3, 245), (3, 255), (3, 262), (3, 272), (3, 279), (3, 286), (3, 294), (3, 299), (3, 307), (3, 313), (3, 321), (3, 327), (3, 335), (3, 341), (3, 350), (3, 357), (3, 365), (3, 378), (3, 388), (3, 395), (4, 4), (4, 11), (4, 20), (4, 29), (4, 35), (4, 43), (4, 50), (4, 59)]
set_option maxRecDepth 100000 in
theorem pq_co : ∀ i, i < 101 → FLp (ps_co.getD i (0, 0)).1 (ps_co.getD i (0, 0)).2 = some (Cond.eq (.field (stm i) "java/lang/String" "coder" "B") (.int 0)) := by decide +kernel
theorem pr_co : ∀ i, i < 101 → Cond.eq (.field (stm i) "java/lang/String" "coder" "B") (.int 0) ∈ FLc := fun i hi => FLp_in (pq_co i hi)
def ps_va : List (Nat × Nat) := [(2, 65), (2, 72), (2, 80), (2, 87), (2, 94), (2, 100), (2, 109), (2, 117), (2, 125), (2, 134), (2, 140), (2, 146), (2, 155), (2, 161), (2, 169), (2, 174), (2, 181), (2, 187), (2, 196), (2, 201), (2, 209), (2, 215), (2, 225), (2, 233), (2, 246), (2, 254), (2, 261), (2, 270), (2, 277), (2, 286), (2, 295), (2, 302), (2, 310), (2, 316), (2, 326), (2, 334), (2, 341), (2, 350), (2, 360), (2, 370), (2, 378), (2, 388), (2, 396), (3, 4), (3, 12), (3, 21), (3, 31), (3, 38), (3, 48), (3, 59), (3, 67), (3, 75), (3, 83), (3, 91), (3, 99), (3, 109), (3, 117), (3, 126), (3, 133), (3, 142), (3, 147), (3, 156), (3, 162), (3, 172), (3, 177), (3, 186), (3, 195), (3, 204), (3, 213), (3, 219), (3, 227), (3, 233), (3, 240), (3, 246), (3, 256), (3, 263), (3, 273), (3, 280), (3, 287), (3, 295), (3, 300), (3, 308), (3, 314), (3, 322), (3, 328), (3, 336), (3, 342), (3, 351), (3, 358), (3, 366), (3, 379), (3, 389), (3, 396), (4, 5), (4, 12), (4, 21), (4, 30), (4, 36), (4, 44), (4, 51), (4, 60)]
set_option maxRecDepth 100000 in
theorem pq_va : ∀ i, i < 101 → FLp (ps_va.getD i (0, 0)).1 (ps_va.getD i (0, 0)).2 = some (Cond.arrayOf (vtm i) .byte) := by decide +kernel
theorem pr_va : ∀ i, i < 101 → Cond.arrayOf (vtm i) .byte ∈ FLc := fun i hi => FLp_in (pq_va i hi)
def ps_le : List (Nat × Nat) := [(2, 66), (2, 73), (2, 81), (2, 88), (2, 95), (2, 101), (2, 110), (2, 118), (2, 126), (2, 135), (2, 141), (2, 147), (2, 156), (2, 162), (2, 170), (2, 175), (2, 182), (2, 188), (2, 197), (2, 202), (2, 210), (2, 216), (2, 226), (2, 234), (2, 247), (2, 255), (2, 262), (2, 271), (2, 278), (2, 287), (2, 296), (2, 303), (2, 311), (2, 317), (2, 327), (2, 335), (2, 342), (2, 351), (2, 361), (2, 371), (2, 379), (2, 389), (2, 397), (3, 5), (3, 13), (3, 22), (3, 32), (3, 39), (3, 49), (3, 60), (3, 68), (3, 76), (3, 84), (3, 92), (3, 100), (3, 110), (3, 118), (3, 127), (3, 134), (3, 143), (3, 148), (3, 157), (3, 163), (3, 173), (3, 178), (3, 187), (3, 196), (3, 205), (3, 214), (3, 220), (3, 228), (3, 234), (3, 241), (3, 247), (3, 257), (3, 264), (3, 274), (3, 281), (3, 288), (3, 296), (3, 301), (3, 309), (3, 315), (3, 323), (3, 329), (3, 337), (3, 343), (3, 352), (3, 359), (3, 367), (3, 380), (3, 390), (3, 397), (4, 6), (4, 13), (4, 22), (4, 31), (4, 37), (4, 45), (4, 52), (4, 61)]
set_option maxRecDepth 100000 in
theorem pq_le : ∀ i, i < 101 → FLp (ps_le.getD i (0, 0)).1 (ps_le.getD i (0, 0)).2 = some (Cond.eq (.length (vtm i)) (.int (Int32.ofNat (byT.getD i []).length))) := by decide +kernel
theorem pr_le : ∀ i, i < 101 → Cond.eq (.length (vtm i)) (.int (Int32.ofNat (byT.getD i []).length)) ∈ FLc := fun i hi => FLp_in (pq_le i hi)
def ps_el : List (List (Nat × Nat)) := [[(2, 67), (2, 68), (2, 69)], [(2, 74), (2, 75), (2, 76), (2, 77)], [(2, 82), (2, 83), (2, 84)], [(2, 89), (2, 90), (2, 91)], [(2, 96), (2, 97)], [(2, 102), (2, 103), (2, 104), (2, 105), (2, 106)], [(2, 111), (2, 112), (2, 113), (2, 114)], [(2, 119), (2, 120), (2, 121), (2, 122)], [(2, 127), (2, 128), (2, 129), (2, 130)], [(2, 136), (2, 137)], [(2, 142), (2, 143)], [(2, 148), (2, 149), (2, 150), (2, 151), (2, 152)], [(2, 157), (2, 158)], [(2, 163), (2, 164), (2, 165), (2, 166)], [(2, 171)], [(2, 176), (2, 177), (2, 178)], [(2, 183), (2, 184)], [(2, 189), (2, 190), (2, 191), (2, 192)], [(2, 198)], [(2, 203), (2, 204), (2, 205), (2, 206)], [(2, 211), (2, 212)], [(2, 217), (2, 218), (2, 219), (2, 220), (2, 221), (2, 222)], [(2, 227), (2, 228), (2, 229), (2, 230)], [(2, 235), (2, 236), (2, 237), (2, 238), (2, 239), (2, 240), (2, 241), (2, 242), (2, 243)], [(2, 248), (2, 249), (2, 250), (2, 251)], [(2, 256), (2, 257), (2, 258)], [(2, 263), (2, 264), (2, 265), (2, 266), (2, 267)], [(2, 272), (2, 273), (2, 274)], [(2, 279), (2, 280), (2, 281), (2, 282), (2, 283)], [(2, 288), (2, 289), (2, 290), (2, 291), (2, 292)], [(2, 297), (2, 298), (2, 299)], [(2, 304), (2, 305), (2, 306), (2, 307)], [(2, 312), (2, 313)], [(2, 318), (2, 319), (2, 320), (2, 321), (2, 322), (2, 323)], [(2, 328), (2, 329), (2, 330), (2, 331)], [(2, 336), (2, 337), (2, 338)], [(2, 343), (2, 344), (2, 345), (2, 346), (2, 347)], [(2, 352), (2, 353), (2, 354), (2, 355), (2, 356), (2, 357)], [(2, 362), (2, 363), (2, 364), (2, 365), (2, 366), (2, 367)], [(2, 372), (2, 373), (2, 374), (2, 375)], [(2, 380), (2, 381), (2, 382), (2, 383), (2, 384), (2, 385)], [(2, 390), (2, 391), (2, 392), (2, 393)], [(2, 398), (2, 399), (3, 0), (3, 1)], [(3, 6), (3, 7), (3, 8), (3, 9)], [(3, 14), (3, 15), (3, 16), (3, 17), (3, 18)], [(3, 23), (3, 24), (3, 25), (3, 26), (3, 27), (3, 28)], [(3, 33), (3, 34), (3, 35)], [(3, 40), (3, 41), (3, 42), (3, 43), (3, 44), (3, 45)], [(3, 50), (3, 51), (3, 52), (3, 53), (3, 54), (3, 55), (3, 56)], [(3, 61), (3, 62), (3, 63), (3, 64)], [(3, 69), (3, 70), (3, 71), (3, 72)], [(3, 77), (3, 78), (3, 79), (3, 80)], [(3, 85), (3, 86), (3, 87), (3, 88)], [(3, 93), (3, 94), (3, 95), (3, 96)], [(3, 101), (3, 102), (3, 103), (3, 104), (3, 105), (3, 106)], [(3, 111), (3, 112), (3, 113), (3, 114)], [(3, 119), (3, 120), (3, 121), (3, 122), (3, 123)], [(3, 128), (3, 129), (3, 130)], [(3, 135), (3, 136), (3, 137), (3, 138), (3, 139)], [(3, 144)], [(3, 149), (3, 150), (3, 151), (3, 152), (3, 153)], [(3, 158), (3, 159)], [(3, 164), (3, 165), (3, 166), (3, 167), (3, 168), (3, 169)], [(3, 174)], [(3, 179), (3, 180), (3, 181), (3, 182), (3, 183)], [(3, 188), (3, 189), (3, 190), (3, 191), (3, 192)], [(3, 197), (3, 198), (3, 199), (3, 200), (3, 201)], [(3, 206), (3, 207), (3, 208), (3, 209), (3, 210)], [(3, 215), (3, 216)], [(3, 221), (3, 222), (3, 223), (3, 224)], [(3, 229), (3, 230)], [(3, 235), (3, 236), (3, 237)], [(3, 242), (3, 243)], [(3, 248), (3, 249), (3, 250), (3, 251), (3, 252), (3, 253)], [(3, 258), (3, 259), (3, 260)], [(3, 265), (3, 266), (3, 267), (3, 268), (3, 269), (3, 270)], [(3, 275), (3, 276), (3, 277)], [(3, 282), (3, 283), (3, 284)], [(3, 289), (3, 290), (3, 291), (3, 292)], [(3, 297)], [(3, 302), (3, 303), (3, 304), (3, 305)], [(3, 310), (3, 311)], [(3, 316), (3, 317), (3, 318), (3, 319)], [(3, 324), (3, 325)], [(3, 330), (3, 331), (3, 332), (3, 333)], [(3, 338), (3, 339)], [(3, 344), (3, 345), (3, 346), (3, 347), (3, 348)], [(3, 353), (3, 354), (3, 355)], [(3, 360), (3, 361), (3, 362), (3, 363)], [(3, 368), (3, 369), (3, 370), (3, 371), (3, 372), (3, 373), (3, 374), (3, 375), (3, 376)], [(3, 381), (3, 382), (3, 383), (3, 384), (3, 385), (3, 386)], [(3, 391), (3, 392), (3, 393)], [(3, 398), (3, 399), (4, 0), (4, 1), (4, 2)], [(4, 7), (4, 8), (4, 9)], [(4, 14), (4, 15), (4, 16), (4, 17), (4, 18)], [(4, 23), (4, 24), (4, 25), (4, 26), (4, 27)], [(4, 32), (4, 33)], [(4, 38), (4, 39), (4, 40), (4, 41)], [(4, 46), (4, 47), (4, 48)], [(4, 53), (4, 54), (4, 55), (4, 56), (4, 57)], [(4, 62), (4, 63), (4, 64), (4, 65), (4, 66)]]
set_option maxRecDepth 100000 in
theorem pq_el : ∀ i, i < 101 → ∀ j, j < (byT.getD i []).length → FLp ((ps_el.getD i []).getD j (0, 0)).1 ((ps_el.getD i []).getD j (0, 0)).2 = some (Cond.eq (.elem (vtm i) (.int (Int32.ofNat j))) (.int ((byT.getD i []).getD j 0))) := by decide +kernel
theorem n_sa : (Cond.arrayOf (Term.static "TextLessons" "SORTS" "[LTextLessons$Sort;") (Jvm.ClassFile.FieldType.object "TextLessons$Sort")) ∈ FLc := FLp_in (k := 1) (i := 4) (by decide +kernel)
theorem n_sl : (Cond.eq (Term.length (Term.static "TextLessons" "SORTS" "[LTextLessons$Sort;")) (Term.int (56 : Int32))) ∈ FLc := FLp_in (k := 1) (i := 5) (by decide +kernel)
theorem n_wa : (Cond.arrayOf (Term.static "TextLessons$1" "$SwitchMap$TextLessons$Sort" "[I") Jvm.ClassFile.FieldType.int) ∈ FLc := FLp_in (k := 1) (i := 81) (by decide +kernel)
theorem n_wl : (Cond.eq (Term.length (Term.static "TextLessons$1" "$SwitchMap$TextLessons$Sort" "[I")) (Term.int (56 : Int32))) ∈ FLc := FLp_in (k := 1) (i := 82) (by decide +kernel)
theorem n_cs : (Cond.eq (Term.static "java/lang/String" "COMPACT_STRINGS" "Z") (Term.int (1 : Int32))) ∈ FLc := FLp_in (k := 1) (i := 63) (by decide +kernel)
theorem n_sf : (Cond.isRef (Term.static "jdk/internal/util/Preconditions" "SIOOBE_FORMATTER" "Ljava/util/function/BiFunction;")) ∈ FLc := FLp_in (k := 1) (i := 64) (by decide +kernel)
def tbl1 (k i : Nat) : Option Cond := if k = 1 then tables_1_1[i]? else if k = 2 then tables_1_2[i]? else if k = 3 then tables_1_3[i]? else if k = 4 then tables_1_4[i]? else if k = 5 then tables_1_5[i]? else if k = 6 then tables_1_6[i]? else if k = 7 then tables_1_7[i]? else if k = 8 then tables_1_8[i]? else if k = 9 then tables_1_9[i]? else tables_1_10[i]?
theorem tbl_in {k i : Nat} {w : Cond} (h : tbl1 k i = some w) : w ∈ lw_tbl := by
  refine List.mem_append_right _ ?_
  show w ∈ tables_1_1 ++ (tables_1_2 ++ (tables_1_3 ++ (tables_1_4 ++ (tables_1_5 ++ (tables_1_6 ++ (tables_1_7 ++ (tables_1_8 ++ (tables_1_9 ++ tables_1_10))))))))
  unfold tbl1 at h
  by_cases h1 : k = 1
  · rw [if_pos h1] at h
    exact (List.mem_append_left _ (List.mem_of_getElem? h))
  rw [if_neg h1] at h
  by_cases h2 : k = 2
  · rw [if_pos h2] at h
    exact (List.mem_append_right _ (List.mem_append_left _ (List.mem_of_getElem? h)))
  rw [if_neg h2] at h
  by_cases h3 : k = 3
  · rw [if_pos h3] at h
    exact (List.mem_append_right _ (List.mem_append_right _ (List.mem_append_left _ (List.mem_of_getElem? h))))
  rw [if_neg h3] at h
  by_cases h4 : k = 4
  · rw [if_pos h4] at h
    exact (List.mem_append_right _ (List.mem_append_right _ (List.mem_append_right _ (List.mem_append_left _ (List.mem_of_getElem? h)))))
  rw [if_neg h4] at h
  by_cases h5 : k = 5
  · rw [if_pos h5] at h
    exact (List.mem_append_right _ (List.mem_append_right _ (List.mem_append_right _ (List.mem_append_right _ (List.mem_append_left _ (List.mem_of_getElem? h))))))
  rw [if_neg h5] at h
  by_cases h6 : k = 6
  · rw [if_pos h6] at h
    exact (List.mem_append_right _ (List.mem_append_right _ (List.mem_append_right _ (List.mem_append_right _ (List.mem_append_right _ (List.mem_append_left _ (List.mem_of_getElem? h)))))))
  rw [if_neg h6] at h
  by_cases h7 : k = 7
  · rw [if_pos h7] at h
    exact (List.mem_append_right _ (List.mem_append_right _ (List.mem_append_right _ (List.mem_append_right _ (List.mem_append_right _ (List.mem_append_right _ (List.mem_append_left _ (List.mem_of_getElem? h))))))))
  rw [if_neg h7] at h
  by_cases h8 : k = 8
  · rw [if_pos h8] at h
    exact (List.mem_append_right _ (List.mem_append_right _ (List.mem_append_right _ (List.mem_append_right _ (List.mem_append_right _ (List.mem_append_right _ (List.mem_append_right _ (List.mem_append_left _ (List.mem_of_getElem? h)))))))))
  rw [if_neg h8] at h
  by_cases h9 : k = 9
  · rw [if_pos h9] at h
    exact (List.mem_append_right _ (List.mem_append_right _ (List.mem_append_right _ (List.mem_append_right _ (List.mem_append_right _ (List.mem_append_right _ (List.mem_append_right _ (List.mem_append_right _ (List.mem_append_left _ (List.mem_of_getElem? h))))))))))
  rw [if_neg h9] at h
  exact (List.mem_append_right _ (List.mem_append_right _ (List.mem_append_right _ (List.mem_append_right _ (List.mem_append_right _ (List.mem_append_right _ (List.mem_append_right _ (List.mem_append_right _ (List.mem_append_right _ (List.mem_of_getElem? h))))))))))
def ps_ly : List (Nat × Nat) := [(9, 239), (10, 0), (10, 1), (10, 2), (10, 3), (10, 4), (10, 5), (10, 6), (10, 7), (10, 8), (10, 9), (10, 10), (10, 11), (10, 12), (10, 13), (10, 14), (10, 15), (10, 16), (10, 17), (10, 18), (10, 19), (10, 20), (10, 21), (10, 22), (10, 23), (10, 24), (10, 25), (10, 26), (10, 27), (10, 28), (10, 29), (10, 30), (10, 31), (10, 32), (10, 33), (10, 34), (10, 35), (10, 36), (10, 37), (10, 38), (10, 39), (10, 40), (10, 41), (10, 42), (10, 43), (10, 44), (10, 45), (10, 46), (10, 47), (10, 48), (10, 49), (10, 50), (10, 51), (3, 198), (3, 200), (5, 237)]
set_option maxRecDepth 100000 in
theorem pq_ly : ∀ i, i < 56 → tbl1 (ps_ly.getD i (0, 0)).1 (ps_ly.getD i (0, 0)).2 = some (Cond.laysStatic "TextLessons$Sort" (smN.getD i "") "LTextLessons$Sort;") := by decide +kernel
theorem l_so : Cond.laysStatic "TextLessons" "SORTS" "[LTextLessons$Sort;" ∈ lw_tbl := tbl_in (k := 2) (i := 201) (by decide +kernel)
theorem l_sw : Cond.laysStatic "TextLessons$1" "$SwitchMap$TextLessons$Sort" "[I" ∈ lw_tbl := tbl_in (k := 4) (i := 51) (by decide +kernel)
theorem l_cs : Cond.laysStatic "java/lang/String" "COMPACT_STRINGS" "Z" ∈ lw_tbl := tbl_in (k := 2) (i := 211) (by decide +kernel)
theorem l_sf : Cond.laysStatic "jdk/internal/util/Preconditions" "SIOOBE_FORMATTER" "Ljava/util/function/BiFunction;" ∈ lw_tbl := tbl_in (k := 2) (i := 227) (by decide +kernel)
theorem i_so : Cond.initialized "TextLessons" ∈ lw_tbl := tbl_in (k := 1) (i := 1) (by decide +kernel)
theorem i_sw : Cond.initialized "TextLessons$1" ∈ lw_tbl := tbl_in (k := 1) (i := 23) (by decide +kernel)
theorem i_st : Cond.initialized "java/lang/String" ∈ lw_tbl := tbl_in (k := 1) (i := 15) (by decide +kernel)
theorem i_pc : Cond.initialized "jdk/internal/util/Preconditions" ∈ lw_tbl := tbl_in (k := 1) (i := 17) (by decide +kernel)
theorem i_se : Cond.initialized "TextLessons$Sort" ∈ lw_tbl := tbl_in (k := 1) (i := 22) (by decide +kernel)
theorem w_mln : Cond.methodLinkNest RX12 20 yX4_init "TextLessons" ∈ lw_tbl := tbl_in (k := 1) (i := 67) (by decide +kernel)
theorem w_ao : Cond.arrayOver (.object "TextLessons$Row") ∈ lw_tbl := tbl_in (k := 1) (i := 220) (by decide +kernel)
theorem w_59 : Cond.fieldLinkNest "TextLessons$Reader" 59 "TextLessons" "SORTS" "[LTextLessons$Sort;" "TextLessons" ∈ lw_tbl := tbl_in (k := 2) (i := 200) (by decide +kernel)
theorem w_72 : Cond.fieldLinkNest "TextLessons$Program" 72 "TextLessons" "SORTS" "[LTextLessons$Sort;" "TextLessons" ∈ lw_tbl := tbl_in (k := 3) (i := 172) (by decide +kernel)
theorem w_dec : Cond.declares ⟨"java/lang/Enum", "ordinal", "()I"⟩ ∈ lw_tbl := tbl_in (k := 4) (i := 54) (by decide +kernel)
def ps_ld : List (Nat × Nat) := [(3, 28), (3, 156), (3, 157), (3, 158), (3, 159), (4, 133), (4, 134), (4, 157), (5, 85)]
theorem pq_ld : ∀ i, i < 9 → tbl1 (ps_ld.getD i (0, 0)).1 (ps_ld.getD i (0, 0)).2 = some (Cond.stringRef (ldT.getD i ("", 0, "", 0)).1 (ldT.getD i ("", 0, "", 0)).2.1 (ldT.getD i ("", 0, "", 0)).2.2.1) ∧ stT.getD (ldT.getD i ("", 0, "", 0)).2.2.2 ("", 0) = ((ldT.getD i ("", 0, "", 0)).1, (ldT.getD i ("", 0, "", 0)).2.1) ∧ (ldT.getD i ("", 0, "", 0)).2.2.2 < 101 := by decide +kernel
theorem st_ex {args : Array Value} {s : State} {A : Nat → Prop} (hs : ∀ c ∈ FLc, c.before args s = true) (hA : ∀ a : Nat, a < s.heap.size → ¬ A a) : ∃ sa sb : Nat → Nat, ∀ j, j < 101 → (stm j).eval args s none [] s = some (.ref (sa j)) ∧ va_O "java/lang/String" (sa j) A s s.heap ∧ va_OF "java/lang/String" "coder" "B" (.int 0) (sa j) A s s.heap ∧ va_OF "java/lang/String" "value" "[B" (.ref (sb j)) (sa j) A s s.heap ∧ va_T .byte (sb j) (byT.getD j []).length (fun i => .int ((byT.getD j []).getD i 0)) A s s.heap := by
  have h0 : ∀ j : Nat, ∃ ab : Nat × Nat, j < 101 → (stm j).eval args s none [] s = some (.ref ab.1) ∧ va_O "java/lang/String" ab.1 A s s.heap ∧ va_OF "java/lang/String" "coder" "B" (.int 0) ab.1 A s s.heap ∧ va_OF "java/lang/String" "value" "[B" (.ref ab.2) ab.1 A s s.heap ∧ va_T .byte ab.2 (byT.getD j []).length (fun i => .int ((byT.getD j []).getD i 0)) A s s.heap := by
    intro j
    by_cases hj : j < 101
    · have hx := hs _ (pr_st j hj)
      obtain ⟨a, c, cell, k, q1, -⟩ := Cond.exactly_spec hx
      have hlen := byT_len j hj
      obtain ⟨t, ht, hT⟩ := va_Tof (args := args) (s := s) (A := A) (tm := vtm j) (ty := .byte) (N := (byT.getD j []).length) (f := fun i => .int ((byT.getD j []).getD i 0)) (by omega) (hs _ (pr_va j hj)) (va_eqt (hs _ (pr_le j hj))) (fun i hi => va_eqt (hs _ (FLp_in (pq_el j hj i hi)))) hA
      exact ⟨(a, t), fun _ => ⟨q1, va_Oof hx q1 hA, vk_OFof q1 (va_eqt (hs _ (pr_co j hj))) hA, vk_OFof q1 ht hA, hT⟩⟩
    · exact ⟨(0, 0), fun h => absurd h hj⟩
  obtain ⟨f, hf⟩ := Classical.axiomOfChoice h0
  exact ⟨fun j => (f j).1, fun j => (f j).2, hf⟩
theorem fSo_at : ∀ q ∈ fSo, ∀ i, i < 56 → Cond.eq (.field (.static "TextLessons$Sort" (smN.getD i "") "LTextLessons$Sort;") q.1 q.2.1 q.2.2.1) (.int (q.2.2.2.getD i 0)) ∈ FLc := by
  intro q hq i hi
  unfold fSo at hq
  simp only [List.mem_cons, List.not_mem_nil, or_false] at hq
  rcases hq with rfl | rfl | rfl
  · have h1 := pr_f0 i hi
    have h2 := orQ_at i hi
    have h3 : (Int32.ofNat i) = orQ.2.2.2.getD i 0 := h2.symm
    rw [h3] at h1
    exact h1
  · exact pr_f1 i hi
  · exact pr_f2 i hi
theorem en_ex {args : Array Value} {s : State} {A : Nat → Prop} (hs : ∀ c ∈ FLc, c.before args s = true) (hts : ∀ w ∈ lw_tbl, w.before args s = true) (hA : ∀ a : Nat, a < s.heap.size → ¬ A a) : ∃ ad : Nat → Nat, va_En "TextLessons$Sort" "LTextLessons$Sort;" smN fSo ad A s s.heap ∧ ∀ i, i < 56 → (Term.static "TextLessons$Sort" (smN.getD i "") "LTextLessons$Sort;").eval args s none [] s = some (.ref (ad i)) := by
  have h0 : ∀ i : Nat, ∃ t : Nat, i < 56 → (Term.static "TextLessons$Sort" (smN.getD i "") "LTextLessons$Sort;").eval args s none [] s = some (.ref t) ∧ va_O "TextLessons$Sort" t A s s.heap := by
    intro i
    by_cases hi : i < 56
    · have hx := hs _ (pr_ex i hi)
      obtain ⟨a, c, cell, k, q1, -⟩ := Cond.exactly_spec hx
      exact ⟨a, fun _ => ⟨q1, va_Oof hx q1 hA⟩⟩
    · exact ⟨0, fun h => absurd h hi⟩
  obtain ⟨ad, had⟩ := Classical.axiomOfChoice h0
  refine ⟨ad, ⟨fun i hi => ?_, fun i j hi hj e => ?_⟩, fun i hi => (had i hi).1⟩
  · rw [smN_len] at hi
    exact ⟨va_Zref (hts _ (tbl_in (pq_ly i hi))) (hts _ i_se) (had i hi).1 hA, (had i hi).2, fun q hq => vk_OFof (had i hi).1 (va_eqt (hs _ (fSo_at q hq i hi))) hA⟩
  · rw [smN_len] at hi hj
    have h1 := va_eqt (hs _ (pr_f0 i hi))
    have h2 := va_eqt (hs _ (pr_f0 j hj))
    rw [va_fe (had i hi).1] at h1
    rw [va_fe (had j hj).1, ← e, h1] at h2
    have h3 : Int32.ofNat i = Int32.ofNat j := by
      have := Option.some.inj h2
      injection this
    have h4 : (nI i).toNatClampNeg = (nI j).toNatClampNeg := congrArg _ h3
    rwa [nI_clamp (by omega), nI_clamp (by omega)] at h4
theorem start_K {args : Array Value} {s : State} {A : Nat → Prop} (hs : ∀ c ∈ FLc, c.before args s = true) (hts : ∀ w ∈ lw_tbl, w.before args s = true) (hA : ∀ a : Nat, a < s.heap.size → ¬ A a) : ∃ Z : Ad, Kn Z A s s.heap ∧ Kw Z s := by
  obtain ⟨sa, sb, hS⟩ := st_ex hs hA
  obtain ⟨ad, hE, hev⟩ := en_ex hs hts hA
  obtain ⟨t1, ht1, hT1⟩ := va_Tof (args := args) (s := s) (A := A) (tm := .static "TextLessons" "SORTS" "[LTextLessons$Sort;") (ty := .object "TextLessons$Sort") (N := 56) (f := fun i => .ref (ad i)) (by decide) (hs _ n_sa) (va_eqt (hs _ n_sl)) (fun i hi => va_eqv (hs _ (pr_so i hi)) (hev i hi)) hA
  obtain ⟨t2, ht2, hT2⟩ := va_Tof (args := args) (s := s) (A := A) (tm := .static "TextLessons$1" "$SwitchMap$TextLessons$Sort" "[I") (ty := .int) (N := 56) (f := fun i => .int (swT.getD i 0)) (by decide) (hs _ n_wa) (va_eqt (hs _ n_wl)) (fun i hi => va_eqt (hs _ (pr_sw i hi))) hA
  refine ⟨(ad, t1, t2, sa, sb), ⟨hE, ?_, ?_, va_Zref (hts _ l_so) (hts _ i_so) ht1 hA, hT1, va_Zref (hts _ l_sw) (hts _ i_sw) ht2 hA, hT2, fun j hj => (hS j hj).2, va_Zof (hts _ l_cs) (hts _ i_st) (va_eqt (hs _ n_cs)) hA, va_Zqof (hts _ l_sf) (hts _ i_pc) (hs _ n_sf) hA⟩, va_Nw.of rfl (hts _ w_59), va_Nw.of rfl (hts _ w_72), va_Nw.of rfl (hts _ w_dec), fun q hq => ?_⟩
  · exact va_Efof (nm := smN) hev (fun i hi => hs _ (pr_spT i hi)) (fun i hi => (hS _ (sp_lt i hi)).1) hA
  · exact va_Efof (nm := smN) hev (fun i hi => hs _ (pr_wdT i hi)) (fun i hi => (hS _ (wd_lt i hi)).1) hA
  · obtain ⟨i, hqe⟩ := List.getElem?_of_mem hq
    have hl : i < 9 := (List.getElem?_eq_some_iff.mp hqe).1
    obtain ⟨h1, h2, h3⟩ := pq_ld i hl
    have he : ldT.getD i ("", 0, "", 0) = q := by
      rw [List.getD_eq_getElem?_getD, hqe]
      rfl
    rw [he] at h1 h2 h3
    refine vk_R.of (A := args) (hts _ (tbl_in h1)) ?_
    have h4 := (hS _ h3).1
    unfold stm at h4
    rw [h2] at h4
    exact h4

