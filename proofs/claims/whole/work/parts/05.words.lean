/-! the words of lw_tbl that the code needs, by their places: FL fields, ML methods, MN nest constructors, CK CL constants, KL classes -/
def xi_cnA : List String := ["GuineaHours$Chances", "GuineaHours$Day", "GuineaHours$Pairs", "GuineaHours$Sights", "GuineaHours$Town", "GuineaHours$Values", "GuineaHours$Walk", "GuineaHours", "GuineaHoursModel", "GuineaHoursLaw", "java/lang/Integer", "java/lang/Math", "java/util/Arrays", "java/lang/System"]
def xi_cA (c : Nat) : String := xi_cnA.getD c ""
def xi_yM (m : xi_M) : MethodName := ⟨xi_cA m.1, m.2.1, m.2.2.1⟩
def xi_y (μ : Nat) : MethodName := if μ = 258 then objectInit else if μ = 259 then arraycopyName else match xi_tab[μ]? with
  | some q => xi_yM q.1
  | none => objectInit
def xi_FL : List (Nat × Nat × Nat × Nat) := [(4, 9, 4, 0), (5, 19, 4, 0), (0, 19, 4, 0), (6, 88, 4, 0), (7, 199, 4, 0), (4, 15, 4, 1), (5, 25, 4, 1), (0, 25, 4, 1), (2, 30, 4, 1), (6, 98, 4, 1), (7, 155, 4, 1), (4, 18, 4, 2), (4, 22, 4, 3), (4, 25, 4, 4), (4, 28, 4, 5), (1, 9, 1, 0), (7, 177, 1, 0), (1, 15, 1, 1), (7, 193, 1, 1), (1, 18, 1, 2), (6, 64, 1, 2), (7, 222, 1, 2), (1, 21, 1, 3), (6, 69, 1, 3), (7, 361, 1, 3), (3, 9, 3, 0), (7, 296, 3, 0), (3, 15, 3, 1), (7, 189, 3, 1), (3, 19, 3, 2), (7, 364, 3, 2), (3, 23, 3, 3), (7, 366, 3, 3), (3, 26, 3, 4), (7, 369, 3, 4), (6, 9, 6, 0), (7, 399, 6, 0), (6, 15, 6, 1), (7, 309, 6, 1), (6, 19, 6, 2), (7, 265, 6, 2), (6, 44, 6, 3), (6, 22, 6, 4), (6, 25, 6, 5), (6, 28, 6, 6), (6, 32, 6, 7), (6, 35, 6, 8), (6, 38, 6, 9), (6, 41, 6, 10), (5, 15, 5, 0), (5, 9, 5, 1), (0, 15, 0, 0), (0, 9, 0, 1), (2, 9, 2, 0), (2, 15, 2, 1), (7, 11, 7, 0), (7, 14, 7, 1), (7, 20, 7, 2), (7, 23, 7, 3), (7, 29, 7, 4), (7, 33, 7, 5), (7, 39, 7, 6), (7, 43, 7, 7), (7, 50, 7, 8), (7, 59, 7, 9), (7, 63, 7, 10), (7, 69, 7, 11), (7, 76, 7, 12), (7, 83, 7, 13), (7, 87, 7, 14), (7, 91, 7, 15), (7, 95, 7, 16), (7, 98, 7, 17), (7, 101, 7, 18), (8, 60, 8, 0), (8, 7, 8, 1), (8, 63, 8, 2), (8, 66, 8, 3), (8, 13, 8, 4), (8, 17, 8, 5), (8, 20, 8, 6), (8, 23, 8, 7), (8, 26, 8, 8), (8, 29, 8, 9), (8, 128, 8, 10), (8, 131, 8, 11), (8, 32, 8, 12), (8, 104, 8, 13), (8, 116, 8, 14), (8, 110, 8, 15), (8, 35, 8, 16), (8, 162, 8, 17), (8, 57, 8, 18), (8, 39, 8, 19), (8, 42, 8, 20), (8, 200, 8, 21), (8, 194, 8, 22), (8, 197, 8, 23), (8, 203, 8, 24), (8, 45, 8, 25), (8, 48, 8, 26), (8, 206, 8, 27), (8, 51, 8, 28), (8, 229, 8, 29), (8, 245, 8, 30), (8, 54, 8, 31), (8, 134, 8, 32), (8, 289, 8, 33)]
def xi_ML : List (Nat × Nat × Nat) := [(9, 9, 0), (7, 1, 258), (4, 3, 258), (1, 3, 258), (3, 3, 258), (7, 56, 4), (6, 3, 258), (7, 68, 5), (5, 3, 258), (7, 75, 6), (0, 3, 258), (2, 3, 258), (7, 104, 8), (9, 13, 9), (7, 110, 10), (7, 114, 11), (7, 118, 12), (9, 18, 13), (7, 122, 14), (7, 126, 15), (9, 23, 16), (9, 27, 17), (9, 32, 18), (7, 129, 19), (7, 133, 259), (9, 37, 20), (9, 41, 21), (7, 139, 22), (7, 142, 23), (9, 45, 24), (7, 145, 25), (9, 49, 26), (7, 148, 27), (4, 64, 28), (4, 69, 29), (4, 73, 30), (4, 79, 31), (4, 76, 32), (4, 86, 33), (4, 50, 34), (4, 46, 35), (4, 35, 36), (4, 31, 37), (4, 89, 38), (4, 54, 39), (9, 53, 40), (7, 152, 41), (7, 303, 42), (9, 57, 43), (7, 158, 37), (7, 161, 44), (7, 378, 36), (7, 381, 45), (7, 180, 46), (9, 61, 47), (7, 164, 48), (7, 167, 35), (9, 65, 49), (7, 170, 50), (7, 174, 51), (7, 183, 38), (7, 186, 52), (4, 42, 50), (9, 69, 53), (9, 73, 54), (9, 77, 55), (7, 196, 56), (9, 81, 57), (7, 202, 58), (7, 206, 59), (9, 85, 60), (7, 211, 61), (7, 215, 62), (7, 231, 63), (6, 48, 64), (6, 54, 46), (6, 58, 8), (7, 235, 65), (6, 70, 66), (6, 74, 37), (7, 384, 67), (6, 78, 48), (6, 81, 56), (6, 84, 68), (7, 219, 69), (9, 89, 70), (9, 94, 71), (7, 225, 72), (9, 98, 73), (7, 228, 74), (9, 102, 75), (9, 106, 76), (7, 239, 77), (6, 95, 78), (6, 91, 79), (4, 61, 56), (6, 101, 80), (6, 113, 67), (6, 116, 81), (6, 119, 59), (6, 105, 82), (6, 109, 83), (7, 242, 84), (6, 124, 85), (9, 110, 86), (7, 245, 87), (7, 248, 88), (1, 25, 259), (9, 114, 89), (9, 118, 90), (7, 251, 91), (7, 387, 66), (7, 390, 92), (9, 122, 93), (7, 255, 94), (7, 393, 95), (7, 396, 96), (9, 126, 97), (7, 258, 98), (7, 261, 99), (9, 130, 100), (9, 134, 101), (9, 138, 102), (7, 268, 103), (7, 271, 104), (5, 28, 105), (5, 54, 56), (5, 32, 106), (5, 42, 107), (5, 35, 103), (5, 39, 37), (5, 45, 45), (5, 49, 108), (7, 275, 105), (7, 278, 107), (9, 142, 109), (9, 146, 110), (7, 281, 64), (7, 284, 111), (4, 57, 79), (9, 150, 112), (9, 154, 113), (7, 288, 114), (7, 292, 115), (9, 158, 116), (7, 299, 117), (9, 162, 118), (9, 166, 119), (7, 306, 120), (9, 170, 121), (7, 312, 122), (9, 174, 123), (7, 315, 124), (6, 127, 108), (9, 178, 125), (7, 318, 126), (0, 28, 127), (0, 32, 56), (0, 36, 59), (0, 42, 128), (0, 46, 129), (0, 50, 103), (0, 54, 37), (7, 320, 129), (7, 323, 128), (7, 327, 130), (7, 402, 131), (9, 182, 132), (9, 186, 133), (9, 190, 134), (7, 331, 135), (2, 18, 8), (7, 333, 136), (2, 24, 259), (2, 36, 56), (2, 40, 137), (2, 48, 34), (2, 44, 138), (9, 194, 139), (7, 342, 140), (9, 198, 141), (9, 202, 142), (9, 207, 143), (9, 211, 144), (7, 345, 145), (7, 348, 146), (9, 215, 147), (9, 219, 148), (9, 223, 149), (7, 355, 144), (7, 357, 150), (7, 372, 151), (7, 375, 152), (9, 12, 153), (8, 1, 258), (9, 17, 154), (8, 73, 155), (8, 69, 156), (8, 77, 157), (8, 84, 158), (9, 26, 159), (8, 88, 160), (8, 91, 161), (8, 95, 162), (9, 22, 163), (8, 98, 159), (9, 31, 164), (9, 36, 165), (9, 40, 166), (9, 44, 167), (8, 81, 168), (9, 48, 169), (8, 101, 170), (9, 52, 171), (8, 125, 172), (8, 107, 173), (8, 119, 174), (8, 122, 175), (8, 113, 176), (9, 56, 177), (9, 60, 178), (8, 143, 179), (8, 146, 180), (8, 140, 181), (8, 137, 182), (9, 64, 183), (8, 149, 184), (8, 152, 185), (9, 68, 186), (8, 155, 187), (8, 159, 188), (9, 72, 189), (9, 76, 190), (9, 80, 191), (8, 168, 192), (8, 165, 193), (9, 84, 194), (8, 174, 195), (9, 88, 196), (8, 177, 197), (8, 171, 198), (9, 93, 199), (9, 97, 200), (9, 101, 201), (9, 105, 202), (8, 180, 203), (9, 109, 204), (8, 209, 205), (8, 212, 206), (8, 190, 207), (8, 184, 208), (8, 187, 209), (8, 216, 210), (9, 113, 211), (9, 117, 212), (9, 121, 213), (9, 125, 214), (8, 219, 215), (8, 222, 216), (9, 129, 217), (8, 226, 154), (9, 133, 218), (9, 137, 219), (9, 141, 220), (8, 235, 221), (8, 232, 222), (9, 145, 223), (9, 149, 224), (8, 248, 225), (8, 251, 226), (8, 238, 227), (8, 241, 228), (9, 153, 229), (9, 157, 230), (9, 161, 231), (9, 165, 232), (9, 169, 233), (8, 254, 234), (9, 173, 235), (8, 257, 236), (9, 177, 237), (9, 181, 238), (8, 260, 239), (8, 266, 240), (8, 270, 241), (9, 185, 242), (9, 189, 243), (9, 193, 244), (8, 276, 245), (9, 197, 246), (9, 201, 247), (9, 206, 248), (9, 210, 249), (9, 214, 250), (8, 284, 251), (9, 218, 252), (9, 222, 253), (9, 226, 254), (8, 292, 255), (8, 297, 256)]
def xi_MN : List (Nat × Nat × Nat) := [(7, 28, 1), (7, 38, 2), (7, 49, 3), (7, 82, 7)]
def xi_CK : List (Nat × Nat × Int32) := [(10, 265, 1431655765), (10, 266, 858993459), (10, 267, 252645135), (7, 337, 2147483647), (8, 279, 2147483646)]
def xi_CL : List (Nat × Nat × Int64) := [(0, 57, 60), (7, 338, 48271), (7, 340, 2147483647), (7, 351, 17), (7, 353, 31), (8, 264, 60), (8, 274, (-1)), (8, 280, 48271), (8, 282, 2147483647), (8, 295, 17), (8, 287, 31)]
def xi_KL : List (Nat × Nat × Nat) := [(9, 7, 7), (7, 9, 14), (7, 18, 13), (7, 26, 4), (7, 36, 1), (7, 47, 3), (7, 54, 6), (7, 66, 5), (7, 73, 0), (7, 80, 2), (9, 10, 8)]
def xi_kn (k : Nat) : String := if k = 14 then "[[I" else if k = 13 then "[[B" else xi_cn k
def xi_FN : List (Nat × Nat × Nat) := [(4, 82, 0), (4, 39, 1)]
/-- words by their places, one behind another: how many stand between -/
def xi_pk : List Nat → List Cond → List Cond → Bool
  | [], [], _ => true
  | d :: ds, w :: ws, tb => (match tb.drop d with
    | x :: r => decide (x = w) && xi_pk ds ws r
    | [] => false)
  | _, _, _ => false
theorem xi_pk_mem : ∀ (ds : List Nat) (ws tb : List Cond), xi_pk ds ws tb = true → ∀ w ∈ ws, w ∈ tb
  | [], [], _, _, w, hw => absurd hw List.not_mem_nil
  | [], _ :: _, _, h, _, _ => by simp [xi_pk] at h
  | _ :: _, [], _, h, _, _ => by simp [xi_pk] at h
  | d :: ds, w0 :: ws, tb, h, w, hw => by
    unfold xi_pk at h
    split at h
    · next x r hx =>
      simp only [Bool.and_eq_true, decide_eq_true_eq] at h
      have hsub : ∀ z ∈ x :: r, z ∈ tb := fun z hz => List.mem_of_mem_drop (i := d) (by rw [hx]; exact hz)
      rcases List.mem_cons.mp hw with rfl | hw
      · rw [← h.1]
        exact hsub x List.mem_cons_self
      · exact hsub w (List.mem_cons_of_mem _ (xi_pk_mem ds ws r h.2 w hw))
    · cases h
set_option maxRecDepth 100000 in
theorem xi_w_FL : xi_pk [32, 0, 0, 0, 0, 0, 0, 0, 0, 0, 0, 0, 0, 0, 0, 21, 0, 0, 0, 0, 0, 0, 0, 0, 0, 16, 0, 0, 0, 0, 0, 0, 0, 0, 0, 17, 0, 0, 0, 0, 0, 0, 0, 0, 0, 0, 0, 0, 0, 29, 0, 11, 0, 12, 0, 8, 0, 0, 0, 0, 0, 0, 0, 0, 0, 0, 0, 0, 0, 0, 0, 0, 0, 0, 658, 0, 0, 0, 0, 0, 0, 0, 0, 0, 0, 0, 0, 0, 0, 0, 0, 0, 0, 0, 0, 0, 0, 0, 0, 0, 0, 0, 0, 0, 0, 0, 0, 0] (xi_FL.map (fun q => Cond.fieldLink (xi_cA q.1) q.2.1 (xi_T q.2.2.1 q.2.2.2).1 (xi_T q.2.2.1 q.2.2.2).2.1 (xi_T q.2.2.1 q.2.2.2).2.2.1)) tables_1 = true := by decide +kernel
set_option maxRecDepth 100000 in
theorem xi_w_ML : xi_pk [16, 2, 11, 35, 25, 23, 2, 39, 2, 9, 2, 13, 7, 60, 3, 2, 3, 3, 3, 3, 3, 3, 3, 3, 2, 2, 3, 3, 2, 2, 3, 3, 3, 3, 2, 2, 3, 4, 3, 3, 3, 3, 3, 3, 3, 3, 3, 3, 3, 3, 0, 3, 0, 3, 5, 3, 3, 0, 3, 3, 3, 0, 3, 0, 3, 3, 3, 3, 3, 3, 5, 3, 3, 3, 3, 3, 0, 0, 3, 3, 0, 3, 0, 0, 3, 3, 3, 3, 3, 3, 3, 3, 3, 3, 3, 3, 0, 2, 0, 3, 0, 3, 3, 3, 3, 3, 2, 3, 0, 3, 3, 3, 0, 3, 3, 3, 3, 3, 3, 3, 3, 3, 3, 3, 3, 3, 3, 0, 3, 3, 0, 0, 0, 2, 0, 0, 3, 3, 0, 3, 0, 3, 3, 3, 3, 3, 3, 3, 3, 3, 3, 3, 3, 3, 0, 3, 3, 3, 0, 0, 4, 3, 0, 0, 0, 0, 3, 2, 3, 3, 3, 3, 0, 3, 0, 0, 3, 0, 3, 6, 2, 3, 3, 3, 3, 3, 2, 3, 3, 5, 0, 3, 3, 5, 2, 103, 3, 2, 2, 3, 3, 3, 3, 3, 3, 3, 0, 3, 3, 3, 3, 2, 3, 3, 3, 3, 3, 3, 3, 2, 3, 3, 3, 3, 3, 3, 3, 3, 3, 3, 3, 3, 3, 3, 3, 3, 3, 3, 2, 3, 3, 3, 3, 3, 3, 3, 3, 3, 3, 3, 3, 3, 3, 3, 3, 3, 3, 3, 3, 3, 3, 0, 3, 3, 3, 3, 3, 3, 3, 3, 3, 2, 3, 3, 3, 3, 3, 3, 3, 3, 3, 3, 3, 3, 4, 3, 3, 4, 3, 3, 6, 3, 3, 3, 3, 3, 3, 3, 4, 4] (xi_ML.map (fun q => Cond.methodLink (xi_cA q.1) q.2.1 (xi_y q.2.2))) tables_1 = true := by decide +kernel
set_option maxRecDepth 100000 in
theorem xi_w_MN : xi_pk [28, 35, 25, 96] (xi_MN.map (fun q => Cond.methodLinkNest (xi_cA q.1) q.2.1 (xi_y q.2.2) "GuineaHours")) tables_1 = true := by decide +kernel
set_option maxRecDepth 100000 in
theorem xi_w_CK : xi_pk [467, 0, 0, 346, 534] (xi_CK.map (fun q => Cond.constant (xi_cA q.1) q.2.1 q.2.2)) tables_1 = true := by decide +kernel
set_option maxRecDepth 100000 in
theorem xi_w_CL : xi_pk [764, 52, 0, 38, 0, 466, 12, 13, 0, 32, 4] (xi_CL.map (fun q => Cond.constantLong (xi_cA q.1) q.2.1 q.2.2)) tables_1 = true := by decide +kernel
set_option maxRecDepth 100000 in
theorem xi_w_KL : xi_pk [14, 7, 1, 1, 35, 25, 26, 42, 12, 13, 686] (xi_KL.map (fun q => Cond.classLink (xi_cA q.1) q.2.1 (xi_kn q.2.2))) tables_1 = true := by decide +kernel
set_option maxRecDepth 100000 in
theorem xi_w_FN : xi_pk [347, 63] (xi_FN.map (fun q => Cond.fieldLinkNest (xi_cA q.1) q.2.1 "GuineaHours" (if q.2.2 = 0 then "KIND_LETTERS" else "KIND_EXTRA") (if q.2.2 = 0 then "[B" else "[I") "GuineaHours")) tables_1 = true := by decide +kernel
set_option maxRecDepth 100000 in
theorem xi_w_in : xi_pk [0, 0, 0, 0, 0, 0, 0, 0, 0, 0, 0, 0, 0, 0] ([9, 7, 4, 1, 3, 6, 5, 0, 2, 12, 8, 13, 11, 10].map (fun c => Cond.initialized (xi_cA c))) tables_1 = true := by decide +kernel
def xi_inL : List Nat := [9, 7, 4, 1, 3, 6, 5, 0, 2, 12, 8, 13, 11, 10]
def xi_im : List Nat := [0, 1, 2, 3, 4, 5, 6, 7, 9, 11, 12, 13, 14, 15, 16, 17, 18, 20, 21, 24, 25, 26, 27, 30, 32, 33, 34, 35, 36, 37, 38, 39, 40, 41, 42, 43, 44, 45, 46, 47, 48, 49, 50, 51, 52, 53, 54, 55, 56, 57, 58, 60, 61, 62, 63, 64, 65, 66, 67, 68, 69, 70, 71, 72, 73, 74, 75, 76, 77, 78, 79, 81, 82, 83, 84, 85, 86, 88, 89, 90, 91, 92, 93, 94, 95, 96, 97, 98, 99, 100, 101, 102, 103, 104, 105, 106, 107, 109, 110, 111, 112, 113, 114, 115, 116, 117, 118, 119, 120, 121, 122, 123, 124, 125, 126, 127, 128, 129, 130, 132, 133, 134, 135, 136, 137, 138, 139, 141, 142, 143, 144, 145, 147, 148, 149, 150, 151, 152, 153, 154, 157, 158, 159, 160, 161, 162, 163, 164, 165, 166, 167, 169, 170, 171, 172, 173, 174, 175, 177, 178, 179, 180, 181, 182, 183, 184, 185, 186, 187, 188, 189, 190, 191, 192, 193, 194, 196, 197, 198, 199, 200, 201, 202, 203, 204, 205, 206, 207, 208, 209, 210, 211, 212, 213, 214, 215, 216, 217, 218, 219, 220, 221, 222, 223, 224, 225, 226, 228, 229, 230, 231, 232, 233, 234, 235, 236, 237, 238, 239, 240, 241, 242, 243, 244, 245, 246, 247, 248, 249, 250, 251, 252, 253, 254, 255, 256]
set_option maxRecDepth 100000 in
theorem xi_w_im : xi_pk [17, 11, 35, 25, 26, 42, 12, 13, 71, 7, 3, 2, 4, 3, 2, 3, 3, 9, 3, 9, 4, 2, 3, 10, 8, 3, 2, 3, 3, 3, 3, 4, 2, 4, 2, 3, 5, 3, 3, 5, 3, 4, 3, 3, 4, 4, 3, 3, 3, 3, 3, 9, 3, 4, 2, 3, 5, 3, 4, 6, 2, 3, 3, 3, 3, 3, 3, 3, 3, 4, 2, 9, 4, 3, 2, 4, 2, 6, 4, 3, 4, 3, 3, 4, 2, 3, 3, 4, 2, 3, 3, 3, 3, 3, 3, 5, 2, 11, 3, 4, 4, 3, 4, 3, 2, 3, 3, 3, 4, 2, 4, 2, 3, 4, 3, 4, 4, 4, 8, 5, 3, 3, 3, 4, 6, 4, 2, 9, 3, 3, 3, 4, 5, 3, 3, 7, 3, 3, 4, 106, 10, 3, 2, 4, 3, 3, 2, 4, 3, 3, 3, 6, 4, 2, 4, 3, 3, 3, 5, 3, 4, 3, 3, 3, 2, 4, 3, 2, 4, 3, 2, 3, 3, 4, 3, 2, 6, 4, 3, 2, 3, 3, 3, 4, 2, 4, 3, 3, 3, 3, 3, 2, 3, 3, 3, 4, 3, 2, 4, 3, 3, 4, 3, 2, 3, 4, 3, 6, 2, 3, 3, 3, 3, 4, 2, 4, 2, 3, 4, 3, 4, 2, 3, 4, 4, 2, 6, 3, 3, 3, 4, 2, 3, 3, 5, 4] (xi_im.map (fun μ => Cond.instanceMethod (xi_y μ))) tables_1 = true := by decide +kernel
def xi_sm : List Nat := [8, 10, 19, 22, 23, 28, 29, 31, 59, 80, 87, 108, 131, 140, 146, 155, 156, 168, 176, 195, 227]
set_option maxRecDepth 100000 in
theorem xi_w_sm : xi_pk [199, 64, 34, 13, 2, 18, 2, 6, 119, 91, 28, 88, 102, 41, 22, 142, 2, 47, 30, 74, 127] (xi_sm.map (fun μ => Cond.static (xi_y μ))) tables_1 = true := by decide +kernel
def xi_s1 : List Nat := [11, 12, 14, 15, 25, 30, 32, 33, 39, 41, 44, 62, 68, 78, 81, 82, 83, 85, 91, 94, 98, 106, 114, 115, 120, 122, 127, 130, 137, 138, 145, 150, 151, 152, 157, 158, 160, 161, 162, 170, 172, 173, 174, 175, 179, 180, 181, 182, 184, 185, 187, 188, 192, 193, 197, 198, 203, 205, 206, 207, 208, 209, 210, 215, 216, 221, 222, 225, 226, 228, 234, 236, 239, 240, 241, 245, 251, 255, 256]
def xi_s2 : List Nat := [9, 13, 16, 17, 18, 20, 21, 24, 26, 27, 34, 35, 36, 37, 38, 40, 42, 43, 45, 46, 47, 48, 49, 50, 51, 52, 53, 54, 55, 56, 57, 58, 60, 61, 63, 64, 65, 66, 67, 69, 70, 71, 72, 73, 74, 75, 76, 77, 79, 84, 86, 88, 89, 90, 92, 93, 95, 96, 97, 99, 100, 101, 102, 103, 104, 105, 107, 109, 110, 111, 112, 113, 116, 117, 118, 119, 121, 123, 124, 125, 126, 128, 129, 132, 133, 134, 135, 136, 139, 141, 142, 143, 144, 147, 148, 149, 154, 159, 163, 164, 165, 166, 167, 169, 171, 177, 178, 183, 186, 189, 190, 191, 194, 196, 199, 200, 201, 202, 204, 211, 212, 213, 214, 217, 218, 219, 220, 223, 224, 229, 230, 231, 232, 233, 235, 237, 238, 242, 243, 244, 246, 247, 248, 249, 250, 252, 253, 254]
set_option maxRecDepth 100000 in
theorem xi_w_s1 : xi_pk [0, 0, 0, 0, 0, 0, 0, 0, 0, 0, 0, 0, 0, 0, 0, 0, 0, 0, 0, 0, 0, 0, 0, 0, 0, 0, 0, 0, 0, 0, 0, 0, 0, 0, 0, 0, 0, 0, 0, 0, 0, 0, 0, 0, 0, 0, 0, 0, 0, 0, 0, 0, 0, 0, 0, 0, 0, 0, 0, 0, 0, 0, 0, 0, 0, 0, 0, 0, 0, 0, 0, 0, 0, 0, 0, 0, 0, 0, 0] (xi_s1.map (fun μ => Cond.selects (xi_y μ).cls (xi_y μ) (xi_y μ))) (k2_sels lw_privs) = true := by decide +kernel
set_option maxRecDepth 100000 in
theorem xi_w_s2 : xi_pk [261, 14, 11, 3, 3, 9, 3, 9, 7, 3, 26, 3, 3, 3, 3, 7, 7, 3, 9, 3, 5, 3, 4, 3, 3, 4, 4, 3, 3, 3, 3, 3, 9, 3, 7, 3, 5, 3, 4, 9, 3, 3, 3, 3, 3, 3, 3, 3, 7, 21, 7, 6, 4, 3, 8, 3, 7, 3, 3, 7, 3, 3, 3, 3, 3, 3, 8, 11, 3, 4, 4, 3, 11, 3, 3, 3, 7, 7, 3, 4, 3, 9, 4, 14, 3, 3, 3, 4, 14, 9, 3, 3, 3, 10, 3, 3, 127, 17, 15, 4, 3, 3, 3, 6, 7, 22, 3, 19, 11, 11, 3, 3, 11, 6, 11, 3, 3, 3, 7, 27, 3, 3, 3, 11, 4, 3, 3, 11, 3, 18, 3, 3, 3, 3, 7, 7, 3, 16, 3, 4, 7, 6, 3, 3, 3, 7, 3, 3] (xi_s2.map (fun μ => Cond.selects (xi_y μ).cls (xi_y μ) (xi_y μ))) tables_1 = true := by decide +kernel
/-- the words at these places -/
def xi_pkl : List Nat → List Cond → List Cond
  | [], _ => []
  | d :: ds, tb => (match tb.drop d with
    | x :: r => x :: xi_pkl ds r
    | [] => [])
theorem xi_pkl_mem : ∀ (ds : List Nat) (tb : List Cond), ∀ w ∈ xi_pkl ds tb, w ∈ tb
  | [], _, w, hw => absurd hw List.not_mem_nil
  | d :: ds, tb, w, hw => by
    unfold xi_pkl at hw
    split at hw
    · next x r hx =>
      have hsub : ∀ z ∈ x :: r, z ∈ tb := fun z hz => List.mem_of_mem_drop (i := d) (by rw [hx]; exact hz)
      rcases List.mem_cons.mp hw with rfl | hw
      · exact hsub _ List.mem_cons_self
      · exact hsub w (List.mem_cons_of_mem _ (xi_pkl_mem ds r w hw))
    · cases hw
def xi_cw (q : xi_M × Nat × Nat × List xi_E) : Cond := Cond.code (xi_yM q.1) q.1.2.2.2.1 q.2.1 q.1.2.2.2.2.1
def xi_wl_0 : List Cond := [xi_cw (xm_0, 2, 1, xc_0), xi_cw (xm_1, 1, 1, xc_1), xi_cw (xm_2, 1, 1, xc_2), xi_cw (xm_3, 1, 1, xc_3), xi_cw (xm_4, 2, 2, xc_4), xi_cw (xm_5, 2, 2, xc_5), xi_cw (xm_6, 2, 2, xc_6), xi_cw (xm_7, 1, 1, xc_7), xi_cw (xm_8, 4, 2, xc_8), xi_cw (xm_9, 3, 3, xc_9), xi_cw (xm_10, 1, 1, xc_10), xi_cw (xm_11, 2, 2, xc_11), xi_cw (xm_12, 3, 3, xc_12), xi_cw (xm_13, 5, 4, xc_13), xi_cw (xm_14, 4, 3, xc_14), xi_cw (xm_15, 2, 2, xc_15), xi_cw (xm_16, 4, 3, xc_16), xi_cw (xm_17, 3, 2, xc_17), xi_cw (xm_18, 6, 6, xc_18), xi_cw (xm_19, 3, 3, xc_19), xi_cw (xm_20, 7, 2, xc_20), xi_cw (xm_21, 3, 3, xc_21), xi_cw (xm_22, 1, 1, xc_22), xi_cw (xm_23, 4, 2, xc_23), xi_cw (xm_24, 6, 4, xc_24), xi_cw (xm_25, 2, 2, xc_25), xi_cw (xm_26, 3, 2, xc_26), xi_cw (xm_27, 7, 3, xc_27), xi_cw (xm_28, 2, 2, xc_28), xi_cw (xm_29, 4, 3, xc_29), xi_cw (xm_30, 7, 4, xc_30), xi_cw (xm_31, 2, 1, xc_31)]
set_option maxRecDepth 100000 in
set_option maxHeartbeats 4000000 in
theorem xi_w_code_0 : xi_pkl [18, 11, 35, 25, 26, 42, 12, 13, 10, 61, 2, 3, 3, 3, 3, 3, 3, 3, 3, 2, 6, 3, 2, 2, 3, 3, 3, 3, 2, 2, 3, 2] tables_1 = xi_wl_0 := by rfl
theorem xi_wm_0 : ∀ w ∈ xi_wl_0, w ∈ tables_1 := by rw [← xi_w_code_0]; exact xi_pkl_mem _ _
def xi_wl_1 : List Cond := [xi_cw (xm_32, 5, 1, xc_32), xi_cw (xm_33, 4, 4, xc_33), xi_cw (xm_34, 5, 4, xc_34), xi_cw (xm_35, 3, 3, xc_35), xi_cw (xm_36, 2, 2, xc_36), xi_cw (xm_37, 2, 2, xc_37), xi_cw (xm_38, 2, 2, xc_38), xi_cw (xm_39, 5, 3, xc_39), xi_cw (xm_40, 4, 2, xc_40), xi_cw (xm_41, 2, 1, xc_41), xi_cw (xm_42, 2, 2, xc_42), xi_cw (xm_43, 3, 3, xc_43), xi_cw (xm_44, 3, 3, xc_44), xi_cw (xm_45, 2, 2, xc_45), xi_cw (xm_46, 4, 3, xc_46), xi_cw (xm_47, 3, 3, xc_47), xi_cw (xm_48, 2, 2, xc_48), xi_cw (xm_49, 3, 3, xc_49), xi_cw (xm_50, 4, 3, xc_50), xi_cw (xm_51, 4, 2, xc_51), xi_cw (xm_52, 4, 2, xc_52), xi_cw (xm_53, 3, 2, xc_53), xi_cw (xm_54, 3, 2, xc_54), xi_cw (xm_55, 3, 3, xc_55), xi_cw (xm_56, 3, 3, xc_56), xi_cw (xm_57, 2, 2, xc_57), xi_cw (xm_58, 2, 2, xc_58), xi_cw (xm_59, 1, 1, xc_59), xi_cw (xm_60, 2, 2, xc_60), xi_cw (xm_61, 1, 1, xc_61), xi_cw (xm_62, 1, 1, xc_62), xi_cw (xm_63, 5, 4, xc_63)]
set_option maxRecDepth 100000 in
set_option maxHeartbeats 4000000 in
theorem xi_w_code_1 : xi_pkl [352, 3, 3, 3, 3, 3, 3, 3, 3, 3, 3, 3, 4, 4, 3, 5, 3, 4, 3, 3, 4, 4, 3, 3, 3, 3, 3, 2, 6, 3, 3, 3] tables_1 = xi_wl_1 := by rfl
theorem xi_wm_1 : ∀ w ∈ xi_wl_1, w ∈ tables_1 := by rw [← xi_w_code_1]; exact xi_pkl_mem _ _
def xi_wl_2 : List Cond := [xi_cw (xm_64, 1, 1, xc_64), xi_cw (xm_65, 3, 2, xc_65), xi_cw (xm_66, 3, 3, xc_66), xi_cw (xm_67, 2, 2, xc_67), xi_cw (xm_68, 2, 2, xc_68), xi_cw (xm_69, 2, 2, xc_69), xi_cw (xm_70, 1, 1, xc_70), xi_cw (xm_71, 1, 1, xc_71), xi_cw (xm_72, 1, 1, xc_72), xi_cw (xm_73, 2, 2, xc_73), xi_cw (xm_74, 4, 2, xc_74), xi_cw (xm_75, 1, 1, xc_75), xi_cw (xm_76, 2, 1, xc_76), xi_cw (xm_77, 3, 2, xc_77), xi_cw (xm_78, 2, 1, xc_78), xi_cw (xm_79, 6, 4, xc_79), xi_cw (xm_80, 7, 3, xc_80), xi_cw (xm_81, 5, 3, xc_81), xi_cw (xm_82, 2, 2, xc_82), xi_cw (xm_83, 4, 4, xc_83), xi_cw (xm_84, 4, 2, xc_84), xi_cw (xm_85, 4, 3, xc_85), xi_cw (xm_86, 2, 2, xc_86), xi_cw (xm_87, 1, 1, xc_87), xi_cw (xm_88, 2, 2, xc_88), xi_cw (xm_89, 2, 2, xc_89), xi_cw (xm_90, 3, 2, xc_90), xi_cw (xm_91, 4, 2, xc_91), xi_cw (xm_92, 3, 3, xc_92), xi_cw (xm_93, 3, 3, xc_93), xi_cw (xm_94, 3, 3, xc_94), xi_cw (xm_95, 3, 3, xc_95)]
set_option maxRecDepth 100000 in
set_option maxHeartbeats 4000000 in
theorem xi_w_code_2 : xi_pkl [489, 5, 3, 4, 5, 3, 3, 3, 3, 3, 3, 3, 3, 3, 3, 3, 3, 4, 4, 3, 3, 3, 3, 2, 3, 4, 3, 3, 4, 3, 3, 3] tables_1 = xi_wl_2 := by rfl
theorem xi_wm_2 : ∀ w ∈ xi_wl_2, w ∈ tables_1 := by rw [← xi_w_code_2]; exact xi_pkl_mem _ _
def xi_wl_3 : List Cond := [xi_cw (xm_96, 3, 1, xc_96), xi_cw (xm_97, 4, 4, xc_97), xi_cw (xm_98, 4, 4, xc_98), xi_cw (xm_99, 3, 2, xc_99), xi_cw (xm_100, 3, 3, xc_100), xi_cw (xm_101, 4, 3, xc_101), xi_cw (xm_102, 3, 3, xc_102), xi_cw (xm_103, 2, 2, xc_103), xi_cw (xm_104, 7, 3, xc_104), xi_cw (xm_105, 7, 3, xc_105), xi_cw (xm_106, 3, 3, xc_106), xi_cw (xm_107, 3, 3, xc_107), xi_cw (xm_108, 2, 2, xc_108), xi_cw (xm_109, 4, 2, xc_109), xi_cw (xm_110, 4, 3, xc_110), xi_cw (xm_111, 6, 4, xc_111), xi_cw (xm_112, 5, 2, xc_112), xi_cw (xm_113, 4, 3, xc_113), xi_cw (xm_114, 3, 2, xc_114), xi_cw (xm_115, 5, 3, xc_115), xi_cw (xm_116, 4, 4, xc_116), xi_cw (xm_117, 4, 4, xc_117), xi_cw (xm_118, 3, 2, xc_118), xi_cw (xm_119, 1, 1, xc_119), xi_cw (xm_120, 3, 1, xc_120), xi_cw (xm_121, 5, 2, xc_121), xi_cw (xm_122, 2, 2, xc_122), xi_cw (xm_123, 5, 2, xc_123), xi_cw (xm_124, 4, 3, xc_124), xi_cw (xm_125, 4, 4, xc_125), xi_cw (xm_126, 8, 4, xc_126), xi_cw (xm_127, 9, 4, xc_127)]
set_option maxRecDepth 100000 in
set_option maxHeartbeats 4000000 in
theorem xi_w_code_3 : xi_pkl [625, 3, 3, 3, 3, 3, 3, 3, 3, 3, 4, 3, 5, 5, 3, 4, 4, 3, 3, 3, 3, 3, 3, 3, 3, 3, 3, 3, 3, 4, 3, 3] tables_1 = xi_wl_3 := by rfl
theorem xi_wm_3 : ∀ w ∈ xi_wl_3, w ∈ tables_1 := by rw [← xi_w_code_3]; exact xi_pkl_mem _ _
def xi_wl_4 : List Cond := [xi_cw (xm_128, 5, 2, xc_128), xi_cw (xm_129, 3, 3, xc_129), xi_cw (xm_130, 7, 3, xc_130), xi_cw (xm_131, 11, 2, xc_131), xi_cw (xm_132, 3, 3, xc_132), xi_cw (xm_133, 8, 4, xc_133), xi_cw (xm_134, 4, 3, xc_134), xi_cw (xm_135, 3, 3, xc_135), xi_cw (xm_136, 7, 3, xc_136), xi_cw (xm_137, 6, 4, xc_137), xi_cw (xm_138, 4, 3, xc_138), xi_cw (xm_139, 7, 3, xc_139), xi_cw (xm_140, 4, 2, xc_140), xi_cw (xm_141, 1, 1, xc_141), xi_cw (xm_142, 1, 1, xc_142), xi_cw (xm_143, 1, 1, xc_143), xi_cw (xm_144, 2, 2, xc_144), xi_cw (xm_145, 3, 1, xc_145), xi_cw (xm_146, 3, 1, xc_146), xi_cw (xm_147, 1, 1, xc_147), xi_cw (xm_148, 2, 2, xc_148), xi_cw (xm_149, 4, 1, xc_149), xi_cw (xm_150, 7, 2, xc_150), xi_cw (xm_151, 7, 2, xc_151), xi_cw (xm_152, 7, 2, xc_152), xi_cw (xm_153, 2, 1, xc_153), xi_cw (xm_154, 4, 3, xc_154), xi_cw (xm_155, 1, 1, xc_155), xi_cw (xm_156, 3, 3, xc_156), xi_cw (xm_157, 2, 2, xc_157), xi_cw (xm_158, 4, 4, xc_158), xi_cw (xm_159, 4, 3, xc_159)]
set_option maxRecDepth 100000 in
set_option maxHeartbeats 4000000 in
theorem xi_w_code_4 : xi_pkl [763, 4, 7, 2, 3, 3, 3, 3, 4, 5, 4, 3, 5, 3, 3, 3, 3, 3, 2, 3, 3, 3, 6, 3, 3, 4, 107, 2, 2, 3, 3, 3] tables_1 = xi_wl_4 := by rfl
theorem xi_wm_4 : ∀ w ∈ xi_wl_4, w ∈ tables_1 := by rw [← xi_w_code_4]; exact xi_pkl_mem _ _
def xi_wl_5 : List Cond := [xi_cw (xm_160, 2, 2, xc_160), xi_cw (xm_161, 3, 3, xc_161), xi_cw (xm_162, 3, 3, xc_162), xi_cw (xm_163, 5, 4, xc_163), xi_cw (xm_164, 3, 2, xc_164), xi_cw (xm_165, 7, 6, xc_165), xi_cw (xm_166, 6, 2, xc_166), xi_cw (xm_167, 4, 3, xc_167), xi_cw (xm_168, 1, 1, xc_168), xi_cw (xm_169, 6, 4, xc_169), xi_cw (xm_170, 2, 2, xc_170), xi_cw (xm_171, 3, 2, xc_171), xi_cw (xm_172, 2, 2, xc_172), xi_cw (xm_173, 2, 2, xc_173), xi_cw (xm_174, 2, 2, xc_174), xi_cw (xm_175, 6, 2, xc_175), xi_cw (xm_176, 1, 1, xc_176), xi_cw (xm_177, 4, 2, xc_177), xi_cw (xm_178, 3, 3, xc_178), xi_cw (xm_179, 2, 2, xc_179), xi_cw (xm_180, 3, 3, xc_180), xi_cw (xm_181, 2, 2, xc_181), xi_cw (xm_182, 3, 3, xc_182), xi_cw (xm_183, 3, 3, xc_183), xi_cw (xm_184, 2, 2, xc_184), xi_cw (xm_185, 3, 3, xc_185), xi_cw (xm_186, 5, 3, xc_186), xi_cw (xm_187, 3, 3, xc_187), xi_cw (xm_188, 5, 3, xc_188), xi_cw (xm_189, 3, 2, xc_189), xi_cw (xm_190, 3, 2, xc_190), xi_cw (xm_191, 3, 3, xc_191)]
set_option maxRecDepth 100000 in
set_option maxHeartbeats 4000000 in
theorem xi_w_code_5 : xi_pkl [1006, 3, 3, 3, 4, 3, 3, 3, 2, 3, 3, 3, 3, 3, 3, 3, 2, 3, 3, 3, 3, 3, 3, 3, 3, 3, 3, 3, 3, 3, 3, 3] tables_1 = xi_wl_5 := by rfl
theorem xi_wm_5 : ∀ w ∈ xi_wl_5, w ∈ tables_1 := by rw [← xi_w_code_5]; exact xi_pkl_mem _ _
def xi_wl_6 : List Cond := [xi_cw (xm_192, 5, 3, xc_192), xi_cw (xm_193, 8, 4, xc_193), xi_cw (xm_194, 2, 2, xc_194), xi_cw (xm_195, 3, 1, xc_195), xi_cw (xm_196, 2, 2, xc_196), xi_cw (xm_197, 3, 3, xc_197), xi_cw (xm_198, 5, 3, xc_198), xi_cw (xm_199, 1, 1, xc_199), xi_cw (xm_200, 1, 1, xc_200), xi_cw (xm_201, 2, 2, xc_201), xi_cw (xm_202, 1, 1, xc_202), xi_cw (xm_203, 3, 1, xc_203), xi_cw (xm_204, 1, 1, xc_204), xi_cw (xm_205, 2, 1, xc_205), xi_cw (xm_206, 3, 2, xc_206), xi_cw (xm_207, 4, 3, xc_207), xi_cw (xm_208, 4, 2, xc_208), xi_cw (xm_209, 4, 1, xc_209), xi_cw (xm_210, 2, 1, xc_210), xi_cw (xm_211, 4, 2, xc_211), xi_cw (xm_212, 4, 2, xc_212), xi_cw (xm_213, 5, 2, xc_213), xi_cw (xm_214, 3, 3, xc_214), xi_cw (xm_215, 3, 3, xc_215), xi_cw (xm_216, 3, 3, xc_216), xi_cw (xm_217, 5, 4, xc_217), xi_cw (xm_218, 3, 3, xc_218), xi_cw (xm_219, 6, 3, xc_219), xi_cw (xm_220, 4, 3, xc_220), xi_cw (xm_221, 2, 2, xc_221), xi_cw (xm_222, 8, 3, xc_222), xi_cw (xm_223, 6, 2, xc_223)]
set_option maxRecDepth 100000 in
set_option maxHeartbeats 4000000 in
theorem xi_w_code_6 : xi_pkl [1133, 3, 3, 2, 3, 3, 3, 3, 3, 3, 3, 3, 3, 3, 3, 3, 3, 3, 3, 3, 3, 3, 3, 3, 3, 3, 4, 3, 3, 3, 3, 3] tables_1 = xi_wl_6 := by rfl
theorem xi_wm_6 : ∀ w ∈ xi_wl_6, w ∈ tables_1 := by rw [← xi_w_code_6]; exact xi_pkl_mem _ _
def xi_wl_7 : List Cond := [xi_cw (xm_224, 4, 3, xc_224), xi_cw (xm_225, 2, 2, xc_225), xi_cw (xm_226, 6, 3, xc_226), xi_cw (xm_227, 2, 2, xc_227), xi_cw (xm_228, 7, 4, xc_228), xi_cw (xm_229, 4, 2, xc_229), xi_cw (xm_230, 8, 3, xc_230), xi_cw (xm_231, 4, 4, xc_231), xi_cw (xm_232, 3, 2, xc_232), xi_cw (xm_233, 1, 1, xc_233), xi_cw (xm_234, 2, 1, xc_234), xi_cw (xm_235, 6, 2, xc_235), xi_cw (xm_236, 2, 2, xc_236), xi_cw (xm_237, 8, 2, xc_237), xi_cw (xm_238, 4, 4, xc_238), xi_cw (xm_239, 8, 4, xc_239), xi_cw (xm_240, 5, 2, xc_240), xi_cw (xm_241, 12, 4, xc_241), xi_cw (xm_242, 6, 3, xc_242), xi_cw (xm_243, 10, 4, xc_243), xi_cw (xm_244, 3, 3, xc_244), xi_cw (xm_245, 8, 4, xc_245), xi_cw (xm_246, 8, 3, xc_246), xi_cw (xm_247, 1, 1, xc_247), xi_cw (xm_248, 1, 1, xc_248), xi_cw (xm_249, 1, 1, xc_249), xi_cw (xm_250, 2, 2, xc_250), xi_cw (xm_251, 4, 2, xc_251), xi_cw (xm_252, 1, 1, xc_252), xi_cw (xm_253, 2, 2, xc_253), xi_cw (xm_254, 3, 1, xc_254), xi_cw (xm_255, 2, 2, xc_255)]
set_option maxRecDepth 100000 in
set_option maxHeartbeats 4000000 in
theorem xi_w_code_7 : xi_pkl [1261, 3, 3, 2, 3, 3, 3, 3, 3, 3, 3, 3, 3, 3, 3, 3, 3, 4, 3, 3, 4, 3, 3, 6, 3, 3, 3, 3, 3, 3, 3, 4] tables_1 = xi_wl_7 := by rfl
theorem xi_wm_7 : ∀ w ∈ xi_wl_7, w ∈ tables_1 := by rw [← xi_w_code_7]; exact xi_pkl_mem _ _
def xi_wl_8 : List Cond := [xi_cw (xm_256, 3, 1, xc_256)]
set_option maxRecDepth 100000 in
set_option maxHeartbeats 4000000 in
theorem xi_w_code_8 : xi_pkl [1395] tables_1 = xi_wl_8 := by rfl
theorem xi_wm_8 : ∀ w ∈ xi_wl_8, w ∈ tables_1 := by rw [← xi_w_code_8]; exact xi_pkl_mem _ _
set_option maxRecDepth 100000 in
set_option maxHeartbeats 4000000 in
theorem xi_wl_eq : (xi_tab.take 257).map xi_cw = xi_wl_0 ++ (xi_wl_1 ++ (xi_wl_2 ++ (xi_wl_3 ++ (xi_wl_4 ++ (xi_wl_5 ++ (xi_wl_6 ++ (xi_wl_7 ++ (xi_wl_8)))))))) := by rfl
theorem xi_wm : ∀ w ∈ (xi_tab.take 257).map xi_cw, w ∈ tables_1 := by
  rw [xi_wl_eq]
  exact List.forall_mem_append.mpr ⟨xi_wm_0, List.forall_mem_append.mpr ⟨xi_wm_1, List.forall_mem_append.mpr ⟨xi_wm_2, List.forall_mem_append.mpr ⟨xi_wm_3, List.forall_mem_append.mpr ⟨xi_wm_4, List.forall_mem_append.mpr ⟨xi_wm_5, List.forall_mem_append.mpr ⟨xi_wm_6, List.forall_mem_append.mpr ⟨xi_wm_7, xi_wm_8⟩⟩⟩⟩⟩⟩⟩⟩
theorem xi_code_mem {μ : Nat} {q : xi_M × Nat × Nat × List xi_E} (h : xi_tab[μ]? = some q) (hμ : μ < 257) : Cond.code (xi_yM q.1) q.1.2.2.2.1 q.2.1 q.1.2.2.2.2.1 ∈ xi_tb := by
  have h2 : (xi_tab.take 257)[μ]? = some q := by rw [List.getElem?_take, if_pos hμ]; exact h
  exact xi_tb_of (List.mem_append_right _ (xi_wm _ (List.mem_map.mpr ⟨q, List.mem_of_getElem? h2, rfl⟩))) rfl
theorem xi_y_eq {μ : Nat} {q : xi_M × Nat × Nat × List xi_E} (h : xi_tab[μ]? = some q) (hμ : μ < 257) : xi_y μ = xi_yM q.1 := by
  unfold xi_y
  rw [if_neg (by omega), if_neg (by omega), h]
theorem xi_im_mem {μ : Nat} (h : μ ∈ xi_im) : Cond.instanceMethod (xi_y μ) ∈ xi_tb := xi_tb_of (List.mem_append_right _ (xi_pk_mem _ _ _ xi_w_im _ (List.mem_map.mpr ⟨μ, h, rfl⟩))) rfl
theorem xi_sm_mem {μ : Nat} (h : μ ∈ xi_sm) : Cond.static (xi_y μ) ∈ xi_tb := xi_tb_of (List.mem_append_right _ (xi_pk_mem _ _ _ xi_w_sm _ (List.mem_map.mpr ⟨μ, h, rfl⟩))) rfl
theorem xi_sel_mem {μ : Nat} (h : μ ∈ xi_s1 ++ xi_s2) : Cond.selects (xi_y μ).cls (xi_y μ) (xi_y μ) ∈ xi_tb := by
  rcases List.mem_append.mp h with h | h
  · exact xi_tb_of (List.mem_append_left _ (xi_pk_mem _ _ _ xi_w_s1 _ (List.mem_map.mpr ⟨μ, h, rfl⟩))) rfl
  · exact xi_tb_of (List.mem_append_right _ (xi_pk_mem _ _ _ xi_w_s2 _ (List.mem_map.mpr ⟨μ, h, rfl⟩))) rfl
theorem xi_in_mem {c : Nat} (h : c ∈ xi_inL) : Cond.initialized (xi_cA c) ∈ xi_tb := xi_tb_of (List.mem_append_right _ (xi_pk_mem _ _ _ xi_w_in _ (List.mem_map.mpr ⟨c, h, rfl⟩))) rfl
/-- a method's words: those that stay -/
def xi_gw : List Cond := lw_tbl.filter goodWord
theorem xi_gw_tb {w : Cond} (h : w ∈ xi_gw) : w ∈ xi_tb := by
  obtain ⟨h1, h2⟩ := List.mem_filter.mp h
  exact xi_tb_of h1 (by rw [h2]; rfl)
theorem xi_gw_of {w : Cond} (h : w ∈ xi_tb) (h2 : goodWord w = true) : w ∈ xi_gw := List.mem_filter.mpr ⟨xi_tb_lw h, h2⟩
theorem xi_goodIn {ws : List Cond} (h : ∀ w ∈ ws, w ∈ xi_gw) : GoodIn xi_gw ws := fun w hw => ⟨h w hw, good_of_word (List.mem_filter.mp (h w hw)).2⟩
