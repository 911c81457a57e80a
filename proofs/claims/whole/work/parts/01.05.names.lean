set_option maxRecDepth 20000 in
theorem wsL_in_r1 : GoodIn lw_tbl wsL_law_r1 := goodIn_p wsL_law_r1 [51, 54] (by decide +kernel) (by decide +kernel)
set_option maxRecDepth 20000 in
theorem wsL_in_r2 : GoodIn lw_tbl wsL_law_r2 := goodIn_p wsL_law_r2 [61, 118, 140, 155] (by decide +kernel) (by decide +kernel)
set_option maxRecDepth 20000 in
theorem wsL_in_r3 : GoodIn lw_tbl wsL_law_r3 := goodIn_p wsL_law_r3 [173, 498] (by decide +kernel) (by decide +kernel)
set_option maxRecDepth 20000 in
theorem wsL_in_r4 : GoodIn lw_tbl wsL_law_r4 := goodIn_p wsL_law_r4 [503, 247, 250, 253, 256, 259] (by decide +kernel) (by decide +kernel)
set_option maxRecDepth 20000 in
theorem wsL_in_r5 : GoodIn lw_tbl wsL_law_r5 := goodIn_p wsL_law_r5 [262, 266, 270, 274, 574, 577, 580, 583] (by decide +kernel) (by decide +kernel)
set_option maxRecDepth 20000 in
theorem wsL_in_r6 : GoodIn lw_tbl wsL_law_r6 := goodIn_p wsL_law_r6 [586, 278, 282, 590, 286, 290, 594] (by decide +kernel) (by decide +kernel)
set_option maxRecDepth 20000 in
theorem wsL_in_r7 : GoodIn lw_tbl wsL_law_r7 := goodIn_p wsL_law_r7 [294, 298, 598, 307] (by decide +kernel) (by decide +kernel)
set_option maxRecDepth 20000 in
theorem wsL_in_r8 : GoodIn lw_tbl wsL_law_r8 := goodIn_p wsL_law_r8 [312, 316, 319, 324] (by decide +kernel) (by decide +kernel)
set_option maxRecDepth 20000 in
theorem wsL_in_r9 : GoodIn lw_tbl wsL_law_r9 := goodIn_p wsL_law_r9 [329, 336, 341, 348] (by decide +kernel) (by decide +kernel)
set_option maxRecDepth 20000 in
theorem wsL_in_r10 : GoodIn lw_tbl wsL_law_r10 := goodIn_p wsL_law_r10 [352, 356, 360, 364, 368, 602] (by decide +kernel) (by decide +kernel)
set_option maxRecDepth 20000 in
theorem wsL_in_r11 : GoodIn lw_tbl wsL_law_r11 := goodIn_p wsL_law_r11 [607, 611, 614, 623] (by decide +kernel) (by decide +kernel)
set_option maxRecDepth 20000 in
theorem wsL_in_r12 : GoodIn lw_tbl wsL_law_r12 := goodIn_p wsL_law_r12 [627, 633, 637, 641] (by decide +kernel) (by decide +kernel)
set_option maxRecDepth 20000 in
theorem wsL_in_r13 : GoodIn lw_tbl wsL_law_r13 := goodIn_p wsL_law_r13 [372, 375, 645, 379, 384, 649] (by decide +kernel) (by decide +kernel)
set_option maxRecDepth 20000 in
theorem wsL_in_r14 : GoodIn lw_tbl wsL_law_r14 := goodIn_p wsL_law_r14 [388, 393, 654, 397] (by decide +kernel) (by decide +kernel)
set_option maxRecDepth 20000 in
theorem wsL_in_r15 : GoodIn lw_tbl wsL_law_r15 := goodIn_p wsL_law_r15 [401, 659, 406, 410, 664] (by decide +kernel) (by decide +kernel)
set_option maxRecDepth 20000 in
theorem wsL_in_r16 : GoodIn lw_tbl wsL_law_r16 := goodIn_p wsL_law_r16 [414, 418, 431, 421, 428, 668] (by decide +kernel) (by decide +kernel)
set_option maxRecDepth 20000 in
theorem wsL_in_r17 : GoodIn lw_tbl wsL_law_r17 := goodIn_p wsL_law_r17 [435, 439, 672, 443, 676, 447] (by decide +kernel) (by decide +kernel)
set_option maxRecDepth 20000 in
theorem wsL_in_r18 : GoodIn lw_tbl wsL_law_r18 := goodIn_p wsL_law_r18 [451, 680, 684, 457, 688] (by decide +kernel) (by decide +kernel)
set_option maxRecDepth 20000 in
theorem wsL_in_r19 : GoodIn lw_tbl wsL_law_r19 := goodIn_p wsL_law_r19 [461, 465, 692, 696, 469, 700] (by decide +kernel) (by decide +kernel)
set_option maxRecDepth 20000 in
theorem wsL_in_r20 : GoodIn lw_tbl wsL_law_r20 := goodIn_p wsL_law_r20 [473, 477, 482, 487, 492, 704] (by decide +kernel) (by decide +kernel)
set_option maxRecDepth 20000 in
theorem wsL_in_X6 : GoodIn lw_tbl wsX60 := goodIn_p wsX60 [] (by decide +kernel) (by decide +kernel)
set_option maxRecDepth 20000 in
theorem wsL_in_X7 : GoodIn lw_tbl wsX70 := goodIn_p wsX70 [] (by decide +kernel) (by decide +kernel)
set_option maxRecDepth 20000 in
theorem wsL_in_X5 : GoodIn lw_tbl wsX50 := goodIn_p wsX50 [] (by decide +kernel) (by decide +kernel)
set_option maxRecDepth 20000 in
theorem wsL_in_X0 : GoodIn lw_tbl wsX00 := goodIn_p wsX00 [] (by decide +kernel) (by decide +kernel)
set_option maxRecDepth 20000 in
theorem wsL_in_X4 : GoodIn lw_tbl wsX40 := goodIn_p wsX40 [] (by decide +kernel) (by decide +kernel)
set_option maxRecDepth 20000 in
theorem wsL_in_X3 : GoodIn lw_tbl wsX30 := goodIn_p wsX30 [] (by decide +kernel) (by decide +kernel)
set_option maxRecDepth 20000 in
theorem wsL_in_X2 : GoodIn lw_tbl wsX20 := goodIn_p wsX20 [] (by decide +kernel) (by decide +kernel)
theorem wsL_law_in : ∀ w ∈ wsL_law, w ∈ lw_tbl := fun w h => ((goodIn_app (goodIn_app (goodIn_app (goodIn_app (goodIn_app (goodIn_app (goodIn_app (goodIn_app (goodIn_app wsL_in_r1 (goodIn_app wsL_in_r2 (goodIn_app wsL_in_r3 (goodIn_app wsL_in_r4 (goodIn_app wsL_in_r5 (goodIn_app wsL_in_r6 (goodIn_app wsL_in_r7 (goodIn_app wsL_in_r8 (goodIn_app wsL_in_r9 (goodIn_app wsL_in_r10 (goodIn_app wsL_in_r11 (goodIn_app wsL_in_r12 (goodIn_app wsL_in_r13 (goodIn_app wsL_in_r14 (goodIn_app wsL_in_r15 (goodIn_app wsL_in_r16 (goodIn_app wsL_in_r17 (goodIn_app wsL_in_r18 (goodIn_app wsL_in_r19 (wsL_in_r20)))))))))))))))))))) wsL_in_X6) wsL_in_X7) wsL_in_X5) wsL_in_X0) wsL_in_X4) wsL_in_X3) wsL_in_X2) (fun _ h => absurd h List.not_mem_nil)) w h).1
theorem inlX0 : ∀ w ∈ wsX00, w ∈ wsL_law := fun _ h => List.mem_append_left _ (List.mem_append_left _ (List.mem_append_left _ (List.mem_append_left _ (List.mem_append_right _ h))))
theorem inX0 : ∀ w ∈ wsX00, w ∈ lw_tbl := fun w h => wsL_law_in w (inlX0 w h)
theorem inX1 : ∀ w ∈ wsX10, w ∈ lw_tbl := by decide +kernel
theorem inlX2 : ∀ w ∈ wsX20, w ∈ wsL_law := fun _ h => List.mem_append_left _ (List.mem_append_right _ h)
theorem inX2 : ∀ w ∈ wsX20, w ∈ lw_tbl := fun w h => wsL_law_in w (inlX2 w h)
theorem inlX3 : ∀ w ∈ wsX30, w ∈ wsL_law := fun _ h => List.mem_append_left _ (List.mem_append_left _ (List.mem_append_right _ h))
theorem inX3 : ∀ w ∈ wsX30, w ∈ lw_tbl := fun w h => wsL_law_in w (inlX3 w h)
theorem inlX4 : ∀ w ∈ wsX40, w ∈ wsL_law := fun _ h => List.mem_append_left _ (List.mem_append_left _ (List.mem_append_left _ (List.mem_append_right _ h)))
theorem inX4 : ∀ w ∈ wsX40, w ∈ lw_tbl := fun w h => wsL_law_in w (inlX4 w h)
theorem inlX5 : ∀ w ∈ wsX50, w ∈ wsL_law := fun _ h => List.mem_append_left _ (List.mem_append_left _ (List.mem_append_left _ (List.mem_append_left _ (List.mem_append_left _ (List.mem_append_right _ h)))))
theorem inX5 : ∀ w ∈ wsX50, w ∈ lw_tbl := fun w h => wsL_law_in w (inlX5 w h)
theorem inlX6 : ∀ w ∈ wsX60, w ∈ wsL_law := fun _ h => List.mem_append_left _ (List.mem_append_left _ (List.mem_append_left _ (List.mem_append_left _ (List.mem_append_left _ (List.mem_append_left _ (List.mem_append_left _ (List.mem_append_right _ h)))))))
theorem inX6 : ∀ w ∈ wsX60, w ∈ lw_tbl := fun w h => wsL_law_in w (inlX6 w h)
theorem inlX7 : ∀ w ∈ wsX70, w ∈ wsL_law := fun _ h => List.mem_append_left _ (List.mem_append_left _ (List.mem_append_left _ (List.mem_append_left _ (List.mem_append_left _ (List.mem_append_left _ (List.mem_append_right _ h))))))
theorem inX7 : ∀ w ∈ wsX70, w ∈ lw_tbl := fun w h => wsL_law_in w (inlX7 w h)
theorem inJ6 : ∀ w ∈ wsJ60, w ∈ lw_tbl := by decide +kernel
theorem inJ9 : ∀ w ∈ wsJ90, w ∈ lw_tbl := by decide +kernel

