theorem wsL_in_wsX50 : ∀ w ∈ wsX50, w ∈ lw_tbl := by decide +kernel
theorem wsL_in_wsX60 : ∀ w ∈ wsX60, w ∈ lw_tbl := by decide +kernel
theorem wsL_in_wsX30 : ∀ w ∈ wsX30, w ∈ lw_tbl := by decide +kernel
theorem wsL_in_wsX10 : ∀ w ∈ wsX10, w ∈ lw_tbl := by decide +kernel
theorem wsL_in_wsX40 : ∀ w ∈ wsX40, w ∈ lw_tbl := by decide +kernel
theorem wsL_in_wsX00 : ∀ w ∈ wsX00, w ∈ lw_tbl := by decide +kernel
theorem wsL_in_wsX20 : ∀ w ∈ wsX20, w ∈ lw_tbl := by decide +kernel
theorem mem_ap {big a b : List Cond} (ha : ∀ w ∈ a, w ∈ big) (hb : ∀ w ∈ b, w ∈ big) : ∀ w ∈ a ++ b, w ∈ big := fun w h => (List.mem_append.mp h).elim (ha w) (hb w)
theorem wsL_law_in : ∀ w ∈ wsL_law, w ∈ lw_tbl := mem_ap (mem_ap (mem_ap (mem_ap (mem_ap (mem_ap (mem_ap (mem_ap (mem_ap wsL_in_r1 (mem_ap wsL_in_r2 (mem_ap wsL_in_r3 (mem_ap wsL_in_r4 (mem_ap wsL_in_r5 (mem_ap wsL_in_r6 (mem_ap wsL_in_r7 (mem_ap wsL_in_r8 (mem_ap wsL_in_r9 (mem_ap wsL_in_r10 (mem_ap wsL_in_r11 (mem_ap wsL_in_r12 (mem_ap wsL_in_r13 (mem_ap wsL_in_r14 (mem_ap wsL_in_r15 (mem_ap wsL_in_r16 (mem_ap wsL_in_r17 (mem_ap wsL_in_r18 (mem_ap wsL_in_r19 (mem_ap wsL_in_r20 (mem_ap wsL_in_r21 (mem_ap wsL_in_r22 (mem_ap wsL_in_r23 (mem_ap wsL_in_r24 (mem_ap wsL_in_r25 (mem_ap wsL_in_r26 (mem_ap wsL_in_r27 (mem_ap wsL_in_r28 (mem_ap wsL_in_r29 (mem_ap wsL_in_r30 (mem_ap wsL_in_r31 (mem_ap wsL_in_r32 (mem_ap wsL_in_r33 (mem_ap wsL_in_r34 (mem_ap wsL_in_r35 (mem_ap wsL_in_r36 (mem_ap wsL_in_r37 (mem_ap wsL_in_r38 (mem_ap wsL_in_r39 (mem_ap wsL_in_r40 (mem_ap wsL_in_r41 (mem_ap wsL_in_r42 (mem_ap wsL_in_r43 (mem_ap wsL_in_r44 (wsL_in_r45))))))))))))))))))))))))))))))))))))))))))))) wsL_in_wsX50) wsL_in_wsX60) wsL_in_wsX30) wsL_in_wsX10) wsL_in_wsX40) wsL_in_wsX00) wsL_in_wsX20) (fun _ h => absurd h List.not_mem_nil)
theorem inlX0 : ∀ w ∈ wsX00, w ∈ wsL_law := fun _ h => List.mem_append_left _ (List.mem_append_left _ (List.mem_append_right _ h))
theorem inX0 : ∀ w ∈ wsX00, w ∈ lw_tbl := fun w h => wsL_law_in w (inlX0 w h)
theorem inlX1 : ∀ w ∈ wsX10, w ∈ wsL_law := fun _ h => List.mem_append_left _ (List.mem_append_left _ (List.mem_append_left _ (List.mem_append_left _ (List.mem_append_right _ h))))
theorem inX1 : ∀ w ∈ wsX10, w ∈ lw_tbl := fun w h => wsL_law_in w (inlX1 w h)
theorem inlX2 : ∀ w ∈ wsX20, w ∈ wsL_law := fun _ h => List.mem_append_left _ (List.mem_append_right _ h)
theorem inX2 : ∀ w ∈ wsX20, w ∈ lw_tbl := fun w h => wsL_law_in w (inlX2 w h)
theorem inlX3 : ∀ w ∈ wsX30, w ∈ wsL_law := fun _ h => List.mem_append_left _ (List.mem_append_left _ (List.mem_append_left _ (List.mem_append_left _ (List.mem_append_left _ (List.mem_append_right _ h)))))
theorem inX3 : ∀ w ∈ wsX30, w ∈ lw_tbl := fun w h => wsL_law_in w (inlX3 w h)
theorem inlX4 : ∀ w ∈ wsX40, w ∈ wsL_law := fun _ h => List.mem_append_left _ (List.mem_append_left _ (List.mem_append_left _ (List.mem_append_right _ h)))
theorem inX4 : ∀ w ∈ wsX40, w ∈ lw_tbl := fun w h => wsL_law_in w (inlX4 w h)
theorem inlX5 : ∀ w ∈ wsX50, w ∈ wsL_law := fun _ h => List.mem_append_left _ (List.mem_append_left _ (List.mem_append_left _ (List.mem_append_left _ (List.mem_append_left _ (List.mem_append_left _ (List.mem_append_left _ (List.mem_append_right _ h)))))))
theorem inX5 : ∀ w ∈ wsX50, w ∈ lw_tbl := fun w h => wsL_law_in w (inlX5 w h)
theorem inlX6 : ∀ w ∈ wsX60, w ∈ wsL_law := fun _ h => List.mem_append_left _ (List.mem_append_left _ (List.mem_append_left _ (List.mem_append_left _ (List.mem_append_left _ (List.mem_append_left _ (List.mem_append_right _ h))))))
theorem inX6 : ∀ w ∈ wsX60, w ∈ lw_tbl := fun w h => wsL_law_in w (inlX6 w h)
