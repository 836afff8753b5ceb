-- PURE: the law's words among the tables', by piece and place
theorem goodIn_ix {big : List Cond} (pcs : List (List Cond)) (hb : ∀ l ∈ pcs, ∀ w ∈ l, w ∈ big) (ws : List Cond) (ps : List (Nat × Nat)) (hp : ws = ps.filterMap (fun q => (pcs.getD q.1 [])[q.2]?)) (h : ws.all goodWord = true) : GoodIn big ws := by
  refine goodIn_sub (fun w hw => ?_) h
  rw [hp] at hw
  obtain ⟨q, -, hq⟩ := List.mem_filterMap.mp hw
  have hm : w ∈ pcs.getD q.1 [] := List.mem_of_getElem? hq
  by_cases hl : q.1 < pcs.length
  · rw [List.getD_eq_getElem?_getD, List.getElem?_eq_getElem hl] at hm
    exact hb _ (List.getElem_mem hl) w hm
  · rw [List.getD_eq_getElem?_getD, List.getElem?_eq_none (by omega)] at hm
    exact absurd hm (by simp)
def tbPcs : List (List Cond) := [k2_sels lw_privs, tables_1_1, tables_1_2, tables_1_3, tables_1_4, tables_1_5, tables_1_6, tables_1_7]
theorem tbPcs_in : ∀ l ∈ tbPcs, ∀ w ∈ l, w ∈ lw_tbl := by
  have ht : ∀ w, w ∈ tables_1 → w ∈ lw_tbl := fun w h => List.mem_append_right _ h
  exact (List.forall_mem_cons.mpr ⟨(fun w h => List.mem_append_left _ h), (List.forall_mem_cons.mpr ⟨(fun w h => ht w (List.mem_append_left _ h)), (List.forall_mem_cons.mpr ⟨(fun w h => ht w (List.mem_append_right _ (List.mem_append_left _ h))), (List.forall_mem_cons.mpr ⟨(fun w h => ht w (List.mem_append_right _ (List.mem_append_right _ (List.mem_append_left _ h)))), (List.forall_mem_cons.mpr ⟨(fun w h => ht w (List.mem_append_right _ (List.mem_append_right _ (List.mem_append_right _ (List.mem_append_left _ h))))), (List.forall_mem_cons.mpr ⟨(fun w h => ht w (List.mem_append_right _ (List.mem_append_right _ (List.mem_append_right _ (List.mem_append_right _ (List.mem_append_left _ h)))))), (List.forall_mem_cons.mpr ⟨(fun w h => ht w (List.mem_append_right _ (List.mem_append_right _ (List.mem_append_right _ (List.mem_append_right _ (List.mem_append_right _ (List.mem_append_left _ h))))))), (List.forall_mem_cons.mpr ⟨(fun w h => ht w (List.mem_append_right _ (List.mem_append_right _ (List.mem_append_right _ (List.mem_append_right _ (List.mem_append_right _ (List.mem_append_right _ (h)))))))), (fun _ h => absurd h List.not_mem_nil)⟩)⟩)⟩)⟩)⟩)⟩)⟩)⟩)
set_option maxRecDepth 20000 in
theorem in_wsL_law_r1 : GoodIn lw_tbl wsL_law_r1 := goodIn_ix tbPcs tbPcs_in _ [(1, 21), (1, 22), (1, 1), (5, 43), (5, 44), (1, 9), (1, 23), (1, 24), (1, 25), (1, 26), (1, 27), (1, 28), (1, 75), (2, 25), (1, 29), (2, 27), (1, 31), (1, 32), (1, 2), (2, 29), (2, 30), (1, 174), (1, 38), (1, 3)] rfl (by decide +kernel)
set_option maxRecDepth 20000 in
theorem in_wsL_law_r2 : GoodIn lw_tbl wsL_law_r2 := goodIn_ix tbPcs tbPcs_in _ [(2, 31), (1, 176), (1, 77), (1, 4), (2, 32), (1, 178), (1, 179), (1, 6), (2, 33), (1, 219), (1, 220), (1, 7), (2, 34), (1, 238), (1, 239), (1, 8), (2, 35), (1, 218), (2, 36), (1, 34), (1, 35), (1, 36), (1, 37), (1, 152)] rfl (by decide +kernel)
set_option maxRecDepth 20000 in
theorem in_wsL_law_r3 : GoodIn lw_tbl wsL_law_r3 := goodIn_ix tbPcs tbPcs_in _ [(1, 76), (1, 154), (1, 130), (1, 131), (1, 5), (1, 156), (1, 158), (1, 40), (1, 41), (1, 42), (1, 46), (1, 53), (1, 59), (1, 79), (1, 80), (1, 81), (1, 85), (1, 100), (1, 103), (1, 105), (1, 107), (1, 133), (1, 134), (1, 135)] rfl (by decide +kernel)
set_option maxRecDepth 20000 in
theorem in_wsL_law_r4 : GoodIn lw_tbl wsL_law_r4 := goodIn_ix tbPcs tbPcs_in _ [(1, 139), (1, 140), (1, 141), (1, 180), (1, 181), (1, 182), (1, 183), (1, 184), (1, 185), (1, 186), (1, 187), (1, 222), (1, 223), (1, 224), (1, 225), (1, 226), (2, 1), (2, 2), (2, 3), (5, 45), (5, 46), (5, 47), (5, 48), (3, 33)] rfl (by decide +kernel)
set_option maxRecDepth 20000 in
theorem in_wsL_law_r5 : GoodIn lw_tbl wsL_law_r5 := goodIn_ix tbPcs tbPcs_in _ [(5, 49), (5, 52), (5, 53), (5, 54), (5, 55), (5, 59), (5, 60), (5, 61), (5, 69), (5, 71), (5, 73), (5, 74), (5, 76), (5, 77), (5, 78), (5, 79), (5, 80), (5, 81), (5, 83), (5, 84), (5, 161), (5, 85), (2, 62), (2, 63)] rfl (by decide +kernel)
set_option maxRecDepth 20000 in
theorem in_wsL_law_r6 : GoodIn lw_tbl wsL_law_r6 := goodIn_ix tbPcs tbPcs_in _ [(2, 64), (2, 65), (2, 26), (2, 66), (2, 68), (0, 0), (2, 69), (5, 162), (5, 163), (5, 164), (5, 165), (5, 50), (5, 166), (5, 168), (0, 43), (5, 169), (2, 70), (2, 71), (2, 72), (2, 73), (5, 170), (5, 171), (5, 172), (5, 173)] rfl (by decide +kernel)
set_option maxRecDepth 20000 in
theorem in_wsL_law_r7 : GoodIn lw_tbl wsL_law_r7 := goodIn_ix tbPcs tbPcs_in _ [(2, 74), (2, 75), (2, 76), (2, 77), (2, 78), (2, 79), (1, 10), (2, 117), (2, 118), (1, 12), (1, 45), (2, 80), (2, 81), (2, 82), (2, 83), (2, 87), (2, 84), (2, 85), (1, 11), (2, 86), (2, 88), (2, 119), (2, 120), (2, 121)] rfl (by decide +kernel)
set_option maxRecDepth 20000 in
theorem in_wsL_law_r8 : GoodIn lw_tbl wsL_law_r8 := goodIn_ix tbPcs tbPcs_in _ [(2, 122), (2, 123), (2, 124), (2, 130), (2, 131), (2, 132), (2, 133), (1, 44), (1, 49), (1, 56), (1, 60), (3, 10), (3, 11), (3, 12), (2, 98), (2, 134), (2, 135), (2, 136), (2, 137), (2, 90), (2, 89), (2, 91), (2, 138), (2, 139)] rfl (by decide +kernel)
set_option maxRecDepth 20000 in
theorem in_wsL_law_r9 : GoodIn lw_tbl wsL_law_r9 := goodIn_ix tbPcs tbPcs_in _ [(2, 140), (2, 141), (2, 143), (0, 1), (2, 144), (2, 145), (2, 146), (2, 147), (2, 148), (2, 150), (0, 2), (2, 151), (2, 95), (2, 152), (2, 154), (0, 3), (2, 155), (2, 93), (2, 156), (2, 158), (0, 4), (2, 159), (2, 161), (2, 162)] rfl (by decide +kernel)
set_option maxRecDepth 20000 in
theorem in_wsL_law_r10 : GoodIn lw_tbl wsL_law_r10 := goodIn_ix tbPcs tbPcs_in _ [(2, 163), (2, 164), (2, 165), (2, 166), (2, 167), (1, 13), (2, 168), (7, 109), (2, 169), (2, 170), (2, 171), (2, 172), (2, 173), (7, 110), (2, 175), (2, 176), (2, 177), (2, 178), (2, 179), (2, 180), (2, 181), (2, 182), (2, 183), (2, 184)] rfl (by decide +kernel)
set_option maxRecDepth 20000 in
theorem in_wsL_law_r11 : GoodIn lw_tbl wsL_law_r11 := goodIn_ix tbPcs tbPcs_in _ [(1, 14), (2, 185), (2, 186), (2, 187), (2, 188), (2, 189), (2, 191), (2, 192), (1, 15), (2, 193), (2, 194), (2, 195), (1, 16), (2, 196), (2, 197), (2, 198), (2, 199), (2, 200), (2, 201), (2, 202), (2, 203), (2, 204), (2, 205), (2, 206)] rfl (by decide +kernel)
set_option maxRecDepth 20000 in
theorem in_wsL_law_r12 : GoodIn lw_tbl wsL_law_r12 := goodIn_ix tbPcs tbPcs_in _ [(2, 207), (2, 209), (2, 211), (2, 213), (2, 215), (0, 5), (2, 216), (1, 47), (2, 217), (2, 218), (2, 219), (2, 220), (2, 99), (2, 221), (2, 222), (2, 223), (2, 224), (2, 225), (2, 226), (2, 227), (2, 229), (0, 6), (2, 230), (1, 54)] rfl (by decide +kernel)
set_option maxRecDepth 20000 in
theorem in_wsL_law_r13 : GoodIn lw_tbl wsL_law_r13 := goodIn_ix tbPcs tbPcs_in _ [(2, 231), (2, 233), (0, 7), (2, 234), (2, 236), (2, 237), (2, 238), (3, 0), (0, 8), (3, 1), (3, 2), (3, 3), (3, 4), (3, 5), (3, 6), (3, 7), (3, 8), (3, 9), (3, 13), (3, 14), (3, 15), (3, 16), (1, 137), (3, 17)] rfl (by decide +kernel)
set_option maxRecDepth 20000 in
theorem in_wsL_law_r14 : GoodIn lw_tbl wsL_law_r14 := goodIn_ix tbPcs tbPcs_in _ [(3, 18), (3, 19), (3, 20), (1, 43), (1, 48), (1, 55), (3, 21), (3, 23), (3, 22), (1, 17), (3, 24), (3, 25), (3, 26), (3, 27), (1, 82), (1, 98), (1, 61), (3, 28), (3, 29), (3, 31), (0, 9), (3, 32), (1, 96), (6, 81)] rfl (by decide +kernel)
set_option maxRecDepth 20000 in
theorem in_wsL_law_r15 : GoodIn lw_tbl wsL_law_r15 := goodIn_ix tbPcs tbPcs_in _ [(6, 82), (6, 83), (6, 84), (5, 65), (5, 56), (5, 57), (5, 58), (5, 63), (5, 178), (5, 180), (0, 44), (5, 181), (5, 68), (5, 62), (5, 66), (5, 182), (5, 184), (0, 45), (5, 185), (5, 190), (5, 199), (5, 200), (5, 201), (5, 186)] rfl (by decide +kernel)
set_option maxRecDepth 20000 in
theorem in_wsL_law_r16 : GoodIn lw_tbl wsL_law_r16 := goodIn_ix tbPcs tbPcs_in _ [(5, 188), (0, 46), (5, 189), (5, 191), (5, 193), (0, 47), (5, 194), (5, 195), (5, 197), (0, 48), (5, 198), (5, 202), (5, 204), (0, 49), (5, 205), (5, 206), (5, 207), (5, 208), (5, 209), (5, 211), (0, 50), (5, 212), (5, 213), (5, 215)] rfl (by decide +kernel)
set_option maxRecDepth 20000 in
theorem in_wsL_law_r17 : GoodIn lw_tbl wsL_law_r17 := goodIn_ix tbPcs tbPcs_in _ [(0, 51), (5, 216), (5, 64), (5, 232), (5, 217), (5, 219), (0, 52), (5, 220), (5, 221), (5, 223), (0, 53), (5, 224), (5, 225), (5, 227), (0, 54), (5, 228), (5, 229), (5, 230), (5, 231), (5, 233), (5, 235), (0, 55), (5, 236), (5, 237)] rfl (by decide +kernel)
set_option maxRecDepth 20000 in
theorem in_wsL_law_r18 : GoodIn lw_tbl wsL_law_r18 := goodIn_ix tbPcs tbPcs_in _ [(5, 239), (0, 56), (6, 0), (5, 70), (5, 67), (6, 63), (6, 64), (6, 1), (6, 3), (0, 57), (6, 4), (6, 5), (6, 6), (6, 8), (0, 58), (6, 9), (6, 10), (6, 12), (0, 59), (6, 13), (6, 14), (6, 16), (0, 60), (6, 17)] rfl (by decide +kernel)
set_option maxRecDepth 20000 in
theorem in_wsL_law_r19 : GoodIn lw_tbl wsL_law_r19 := goodIn_ix tbPcs tbPcs_in _ [(6, 18), (6, 20), (0, 61), (6, 21), (6, 22), (6, 24), (0, 62), (6, 25), (6, 26), (6, 27), (6, 29), (0, 63), (6, 30), (6, 31), (6, 33), (0, 64), (6, 34), (6, 35), (6, 37), (0, 65), (6, 38), (6, 39), (6, 40), (6, 41)] rfl (by decide +kernel)
set_option maxRecDepth 20000 in
theorem in_wsL_law_r20 : GoodIn lw_tbl wsL_law_r20 := goodIn_ix tbPcs tbPcs_in _ [(6, 42), (6, 43), (6, 44), (6, 45), (6, 46), (6, 47), (6, 48), (6, 50), (0, 66), (6, 51), (6, 52), (6, 54), (0, 67), (6, 55), (6, 56), (6, 57), (6, 58), (6, 59), (6, 61), (0, 68), (6, 62), (6, 65), (6, 67), (0, 69)] rfl (by decide +kernel)
set_option maxRecDepth 20000 in
theorem in_wsL_law_r21 : GoodIn lw_tbl wsL_law_r21 := goodIn_ix tbPcs tbPcs_in _ [(6, 68), (6, 69), (6, 71), (0, 70), (6, 72), (6, 73), (6, 75), (0, 71), (6, 76), (6, 77), (6, 79), (0, 72), (6, 80), (3, 34), (3, 35), (3, 36), (3, 37), (2, 28), (3, 38), (1, 18), (3, 62), (3, 63), (1, 19), (3, 40)] rfl (by decide +kernel)
set_option maxRecDepth 20000 in
theorem in_wsL_law_r22 : GoodIn lw_tbl wsL_law_r22 := goodIn_ix tbPcs tbPcs_in _ [(3, 41), (3, 42), (3, 44), (3, 45), (3, 46), (3, 48), (3, 64), (3, 65), (3, 66), (3, 67), (3, 68), (3, 69), (3, 78), (3, 79), (3, 80), (3, 81), (2, 97), (3, 82), (3, 83), (3, 84), (3, 85), (3, 43), (3, 47), (3, 86)] rfl (by decide +kernel)
set_option maxRecDepth 20000 in
theorem in_wsL_law_r23 : GoodIn lw_tbl wsL_law_r23 := goodIn_ix tbPcs tbPcs_in _ [(3, 87), (3, 89), (0, 10), (3, 90), (3, 92), (3, 93), (3, 94), (3, 96), (3, 98), (0, 11), (3, 99), (3, 100), (3, 102), (0, 12), (3, 110), (3, 111), (3, 112), (3, 113), (3, 103), (3, 105), (3, 106), (3, 108), (0, 13), (3, 114)] rfl (by decide +kernel)
set_option maxRecDepth 20000 in
theorem in_wsL_law_r24 : GoodIn lw_tbl wsL_law_r24 := goodIn_ix tbPcs tbPcs_in _ [(3, 116), (0, 14), (3, 117), (3, 118), (3, 120), (0, 15), (3, 121), (2, 92), (2, 96), (3, 123), (3, 125), (0, 16), (3, 126), (3, 70), (3, 127), (3, 129), (0, 17), (3, 130), (3, 131), (3, 133), (0, 18), (3, 134), (2, 94), (3, 109)] rfl (by decide +kernel)
set_option maxRecDepth 20000 in
theorem in_wsL_law_r25 : GoodIn lw_tbl wsL_law_r25 := goodIn_ix tbPcs tbPcs_in _ [(3, 136), (3, 137), (3, 138), (3, 139), (3, 140), (5, 174), (5, 175), (5, 176), (5, 177), (5, 51), (3, 141), (3, 142), (3, 143), (3, 144), (1, 153), (1, 155), (1, 92), (3, 145), (3, 146), (3, 147), (3, 148), (3, 149), (3, 150), (3, 151)] rfl (by decide +kernel)
set_option maxRecDepth 20000 in
theorem in_wsL_law_r26 : GoodIn lw_tbl wsL_law_r26 := goodIn_ix tbPcs tbPcs_in _ [(3, 152), (3, 153), (1, 89), (1, 93), (3, 154), (3, 155), (3, 156), (3, 157), (3, 158), (3, 159), (3, 160), (3, 161), (3, 162), (3, 163), (3, 164), (3, 165), (3, 166), (3, 167), (3, 168), (3, 169), (3, 170), (3, 171), (3, 172), (3, 173)] rfl (by decide +kernel)
set_option maxRecDepth 20000 in
theorem in_wsL_law_r27 : GoodIn lw_tbl wsL_law_r27 := goodIn_ix tbPcs tbPcs_in _ [(3, 174), (3, 175), (3, 177), (0, 19), (3, 178), (3, 179), (3, 180), (3, 181), (3, 182), (1, 83), (1, 101), (6, 85), (6, 86), (6, 87), (6, 88), (6, 89), (6, 90), (6, 91), (6, 92), (6, 94), (0, 73), (6, 95), (6, 96), (6, 98)] rfl (by decide +kernel)
