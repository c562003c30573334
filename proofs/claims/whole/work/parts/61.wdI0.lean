def zPT : List (List Cond) := [k2_sels lw_privs, tables_1_1, tables_1_2, tables_1_3, tables_1_4, tables_1_5, tables_1_6, tables_1_7, tables_1_8]
theorem zPT_in : ∀ l ∈ zPT, ∀ w ∈ l, w ∈ lw_tbl := by
  have h0 : ∀ w ∈ k2_sels lw_privs, w ∈ lw_tbl := fun w h => List.mem_append_left _ h
  have hT : ∀ w ∈ tables_1, w ∈ lw_tbl := fun w h => List.mem_append_right _ h
  intro l hl
  simp only [zPT, List.mem_cons, List.not_mem_nil, or_false] at hl
  rcases hl with rfl | rfl | rfl | rfl | rfl | rfl | rfl | rfl | rfl
  · exact h0
  · exact fun w h => hT w (List.mem_append_left _ h)
  · exact fun w h => hT w (List.mem_append_right _ (List.mem_append_left _ h))
  · exact fun w h => hT w (List.mem_append_right _ (List.mem_append_right _ (List.mem_append_left _ h)))
  · exact fun w h => hT w (List.mem_append_right _ (List.mem_append_right _ (List.mem_append_right _ (List.mem_append_left _ h))))
  · exact fun w h => hT w (List.mem_append_right _ (List.mem_append_right _ (List.mem_append_right _ (List.mem_append_right _ (List.mem_append_left _ h)))))
  · exact fun w h => hT w (List.mem_append_right _ (List.mem_append_right _ (List.mem_append_right _ (List.mem_append_right _ (List.mem_append_right _ (List.mem_append_left _ h))))))
  · exact fun w h => hT w (List.mem_append_right _ (List.mem_append_right _ (List.mem_append_right _ (List.mem_append_right _ (List.mem_append_right _ (List.mem_append_right _ (List.mem_append_left _ h)))))))
  · exact fun w h => hT w (List.mem_append_right _ (List.mem_append_right _ (List.mem_append_right _ (List.mem_append_right _ (List.mem_append_right _ (List.mem_append_right _ (List.mem_append_right _ h)))))))
theorem zin_ps (ws : List Cond) (ps : List (Nat × Nat)) (h : ws = ps.filterMap (fun q => (zPT[q.1]?).bind (fun l => l[q.2]?))) : ∀ w ∈ ws, w ∈ lw_tbl := by
  intro w hw
  rw [h] at hw
  obtain ⟨q, -, hq⟩ := List.mem_filterMap.mp hw
  cases hl : zPT[q.1]? with
  | none => rw [hl] at hq; cases hq
  | some l =>
    rw [hl] at hq
    exact zPT_in l (List.mem_of_getElem? hl) w (List.mem_of_getElem? hq)
theorem zin_app {big a b : List Cond} (ha : ∀ w ∈ a, w ∈ big) (hb : ∀ w ∈ b, w ∈ big) : ∀ w ∈ a ++ b, w ∈ big := fun w h => (List.mem_append.mp h).elim (ha w) (hb w)
set_option maxRecDepth 20000 in
theorem in_wsL_law0_r1 : ∀ w ∈ wsL_law0_r1, w ∈ lw_tbl := zin_ps _ [(1, 28), (1, 29), (1, 1), (6, 68), (6, 69), (1, 11), (7, 71), (8, 99), (1, 30), (1, 31), (1, 32), (1, 33), (1, 34), (1, 35), (1, 51), (2, 8), (1, 36), (2, 9), (1, 52), (2, 10), (1, 38), (1, 39), (1, 2), (2, 11)] rfl
set_option maxRecDepth 20000 in
theorem in_wsL_law0_r2 : ∀ w ∈ wsL_law0_r2, w ∈ lw_tbl := zin_ps _ [(2, 12), (1, 53), (1, 54), (1, 3), (2, 13), (1, 84), (1, 85), (1, 4), (2, 14), (2, 15), (1, 106), (1, 107), (1, 5), (2, 16), (1, 119), (1, 120), (1, 6), (2, 17), (1, 135), (1, 136), (1, 7), (2, 18), (1, 163), (1, 164)] rfl
set_option maxRecDepth 20000 in
theorem in_wsL_law0_r3 : ∀ w ∈ wsL_law0_r3, w ∈ lw_tbl := zin_ps _ [(1, 8), (2, 19), (1, 188), (1, 189), (1, 9), (2, 20), (2, 21), (2, 22), (2, 23), (2, 24), (2, 25), (2, 26), (1, 218), (1, 10), (1, 40), (1, 41), (1, 42), (1, 43), (1, 45), (1, 44), (1, 56), (1, 57), (1, 58), (1, 59)] rfl
set_option maxRecDepth 20000 in
theorem in_wsL_law0_r4 : ∀ w ∈ wsL_law0_r4, w ∈ lw_tbl := zin_ps _ [(1, 60), (1, 61), (1, 62), (1, 63), (1, 64), (1, 65), (1, 66), (1, 87), (1, 88), (1, 89), (1, 90), (1, 91), (1, 92), (1, 93), (1, 94), (1, 109), (1, 110), (1, 111), (1, 112), (1, 113), (1, 121), (1, 122), (1, 123), (1, 124)] rfl
set_option maxRecDepth 20000 in
theorem in_wsL_law0_r5 : ∀ w ∈ wsL_law0_r5, w ∈ lw_tbl := zin_ps _ [(1, 126), (1, 127), (1, 125), (1, 137), (1, 138), (1, 139), (1, 140), (1, 143), (1, 144), (1, 145), (1, 146), (1, 147), (1, 141), (1, 142), (1, 165), (1, 166), (1, 167), (1, 168), (1, 170), (1, 171), (1, 172), (1, 173), (1, 174), (1, 169)] rfl
set_option maxRecDepth 20000 in
theorem in_wsL_law0_r6 : ∀ w ∈ wsL_law0_r6, w ∈ lw_tbl := zin_ps _ [(1, 190), (1, 191), (1, 192), (1, 193), (1, 201), (1, 202), (1, 196), (1, 197), (1, 198), (1, 199), (1, 194), (1, 200), (1, 195), (1, 220), (1, 221), (1, 222), (1, 223), (1, 225), (1, 227), (1, 229), (1, 231), (1, 233), (6, 70), (6, 71)] rfl
set_option maxRecDepth 20000 in
theorem in_wsL_law0_r7 : ∀ w ∈ wsL_law0_r7, w ∈ lw_tbl := zin_ps _ [(6, 72), (6, 73), (6, 74), (6, 75), (6, 76), (6, 77), (6, 78), (6, 79), (6, 80), (6, 81), (6, 82), (6, 83), (6, 84), (6, 85), (6, 86), (6, 87), (6, 88), (6, 89), (6, 90), (6, 91), (6, 92), (6, 93), (6, 94), (6, 95)] rfl
set_option maxRecDepth 20000 in
theorem in_wsL_law0_r8 : ∀ w ∈ wsL_law0_r8, w ∈ lw_tbl := zin_ps _ [(6, 96), (6, 97), (6, 98), (6, 99), (6, 100), (6, 101), (6, 102), (6, 103), (6, 104), (6, 105), (6, 106), (6, 107), (6, 108), (6, 109), (6, 110), (6, 111), (6, 112), (6, 113), (6, 114), (6, 115), (6, 116), (6, 117), (6, 118), (6, 119)] rfl
set_option maxRecDepth 20000 in
theorem in_wsL_law0_r9 : ∀ w ∈ wsL_law0_r9, w ∈ lw_tbl := zin_ps _ [(6, 120), (6, 121), (6, 122), (6, 123), (6, 124), (6, 125), (6, 126), (6, 127), (6, 128), (6, 129), (6, 130), (6, 131), (6, 132), (6, 133), (6, 134), (6, 135), (6, 136), (6, 137), (6, 153), (7, 70), (6, 157), (6, 158), (6, 159), (6, 160)] rfl
set_option maxRecDepth 20000 in
theorem in_wsL_law0_r10 : ∀ w ∈ wsL_law0_r10, w ∈ lw_tbl := zin_ps _ [(6, 161), (6, 162), (6, 163), (6, 164), (6, 165), (6, 166), (6, 167), (6, 169), (6, 178), (6, 179), (6, 138), (6, 180), (6, 181), (6, 182), (6, 183), (6, 184), (6, 185), (6, 186), (6, 188), (6, 189), (6, 190), (6, 192), (6, 193), (6, 194)] rfl
set_option maxRecDepth 20000 in
theorem in_wsL_law0_r11 : ∀ w ∈ wsL_law0_r11, w ∈ lw_tbl := zin_ps _ [(6, 196), (6, 197), (6, 198), (6, 199), (6, 139), (6, 140), (6, 141), (6, 142), (6, 143), (6, 144), (6, 145), (6, 146), (6, 200), (6, 147), (6, 148), (6, 149), (6, 150), (6, 151), (6, 152), (2, 66), (2, 67), (2, 68), (2, 69), (2, 70)] rfl
set_option maxRecDepth 20000 in
theorem in_wsL_law0_r12 : ∀ w ∈ wsL_law0_r12, w ∈ lw_tbl := zin_ps _ [(2, 71), (2, 72), (2, 73), (2, 74), (2, 75), (2, 76), (2, 77), (2, 78), (2, 79), (1, 12), (2, 80), (2, 81), (2, 82), (2, 83), (2, 84), (2, 85), (2, 86), (2, 87), (2, 88), (7, 76), (7, 77), (7, 78), (7, 79), (6, 154)] rfl
set_option maxRecDepth 20000 in
theorem in_wsL_law0_r13 : ∀ w ∈ wsL_law0_r13, w ∈ lw_tbl := zin_ps _ [(6, 155), (6, 168), (6, 170), (6, 172), (6, 174), (6, 156), (7, 80), (7, 82), (0, 49), (7, 83), (6, 176), (2, 89), (2, 90), (2, 91), (2, 92), (2, 93), (2, 94), (2, 95), (2, 96), (2, 97), (2, 168), (3, 15), (3, 32), (2, 99)] rfl
set_option maxRecDepth 20000 in
theorem in_wsL_law0_r14 : ∀ w ∈ wsL_law0_r14, w ∈ lw_tbl := zin_ps _ [(2, 101), (0, 0), (2, 102), (2, 103), (2, 130), (2, 105), (2, 107), (0, 1), (2, 108), (2, 110), (2, 111), (2, 112), (2, 113), (2, 114), (2, 115), (2, 116), (2, 117), (2, 118), (2, 122), (2, 128), (2, 129), (2, 120), (2, 121), (2, 123)] rfl
set_option maxRecDepth 20000 in
theorem in_wsL_law0_r15 : ∀ w ∈ wsL_law0_r15, w ∈ lw_tbl := zin_ps _ [(2, 124), (2, 125), (2, 126), (2, 132), (2, 134), (0, 2), (2, 135), (2, 136), (2, 137), (2, 138), (2, 139), (2, 140), (2, 141), (2, 142), (2, 143), (2, 144), (2, 146), (2, 148), (0, 3), (2, 149), (2, 151), (2, 152), (2, 154), (2, 153)] rfl
set_option maxRecDepth 20000 in
theorem in_wsL_law0_r16 : ∀ w ∈ wsL_law0_r16, w ∈ lw_tbl := zin_ps _ [(2, 155), (2, 156), (2, 157), (2, 158), (2, 159), (2, 160), (2, 161), (2, 162), (2, 164), (2, 165), (2, 166), (2, 167), (2, 170), (2, 172), (0, 4), (2, 173), (2, 174), (2, 176), (2, 186), (2, 178), (2, 179), (2, 180), (2, 181), (2, 183)] rfl
set_option maxRecDepth 20000 in
theorem in_wsL_law0_r17 : ∀ w ∈ wsL_law0_r17, w ∈ lw_tbl := zin_ps _ [(2, 184), (2, 185), (2, 188), (2, 190), (0, 5), (2, 191), (2, 192), (2, 212), (2, 194), (2, 195), (2, 196), (2, 197), (2, 198), (2, 200), (2, 199), (1, 13), (2, 201), (2, 203), (0, 6), (2, 204), (2, 205), (2, 206), (1, 14), (2, 207)] rfl
set_option maxRecDepth 20000 in
theorem in_wsL_law0_r18 : ∀ w ∈ wsL_law0_r18, w ∈ lw_tbl := zin_ps _ [(2, 208), (2, 210), (0, 7), (2, 211), (2, 214), (2, 216), (0, 8), (2, 217), (2, 218), (3, 13), (2, 220), (2, 221), (2, 222), (2, 223), (2, 224), (3, 10), (2, 225), (2, 226), (2, 227), (2, 228), (2, 230), (2, 232), (0, 9), (2, 233)] rfl
set_option maxRecDepth 20000 in
theorem in_wsL_law0_r19 : ∀ w ∈ wsL_law0_r19, w ∈ lw_tbl := zin_ps _ [(3, 9), (2, 234), (2, 235), (2, 237), (2, 239), (0, 10), (3, 0), (3, 1), (3, 2), (3, 3), (3, 4), (3, 6), (0, 11), (3, 7), (3, 8), (3, 17), (3, 19), (0, 12), (3, 20), (3, 21), (3, 22), (3, 23), (3, 24), (3, 25)] rfl
set_option maxRecDepth 20000 in
theorem in_wsL_law0_r20 : ∀ w ∈ wsL_law0_r20, w ∈ lw_tbl := zin_ps _ [(3, 26), (3, 28), (0, 13), (3, 29), (3, 34), (3, 36), (0, 14), (3, 37), (3, 38), (4, 129), (3, 40), (3, 41), (3, 42), (3, 43), (3, 44), (3, 46), (3, 47), (3, 48), (3, 49), (3, 50), (3, 51), (3, 53), (0, 15), (3, 54)] rfl
set_option maxRecDepth 20000 in
theorem in_wsL_law0_r21 : ∀ w ∈ wsL_law0_r21, w ∈ lw_tbl := zin_ps _ [(3, 55), (3, 57), (3, 58), (3, 59), (3, 60), (3, 61), (3, 62), (3, 63), (3, 64), (3, 65), (3, 66), (3, 107), (3, 108), (1, 20), (4, 131), (4, 133), (0, 17), (4, 134), (4, 135), (4, 137), (4, 150), (4, 139), (4, 140), (4, 141)] rfl
