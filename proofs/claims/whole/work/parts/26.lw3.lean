theorem mw_r21 : ∀ w ∈ wsL_law_r21, w ∈ lw_tbl := by decide +kernel
theorem mw_r22 : ∀ w ∈ wsL_law_r22, w ∈ lw_tbl := by decide +kernel
theorem mw_r23 : ∀ w ∈ wsL_law_r23, w ∈ lw_tbl := by decide +kernel
theorem mw_r24 : ∀ w ∈ wsL_law_r24, w ∈ lw_tbl := by decide +kernel
theorem mw_r25 : ∀ w ∈ wsL_law_r25, w ∈ lw_tbl := by decide +kernel
theorem mw_r26 : ∀ w ∈ wsL_law_r26, w ∈ lw_tbl := by decide +kernel
theorem mw_r27 : ∀ w ∈ wsL_law_r27, w ∈ lw_tbl := by decide +kernel
theorem mw_r28 : ∀ w ∈ wsL_law_r28, w ∈ lw_tbl := by decide +kernel
theorem mw_x1 : ∀ w ∈ wsX10, w ∈ lw_tbl := by decide +kernel
theorem mw_x2 : ∀ w ∈ wsX20, w ∈ lw_tbl := by decide +kernel
theorem mw_x3 : ∀ w ∈ wsX30, w ∈ lw_tbl := by decide +kernel
theorem mw_x4 : ∀ w ∈ wsX40, w ∈ lw_tbl := by decide +kernel
theorem mw_x5 : ∀ w ∈ wsX50, w ∈ lw_tbl := by decide +kernel
theorem mw_x6 : ∀ w ∈ wsX60, w ∈ lw_tbl := by decide +kernel
theorem mw_x7 : ∀ w ∈ wsX70, w ∈ lw_tbl := by decide +kernel
theorem mw_x8 : ∀ w ∈ wsX80, w ∈ lw_tbl := by decide +kernel
theorem wsL_law_in : ∀ w ∈ wsL_law, w ∈ lw_tbl := by
  have ap : ∀ {a b : List Cond}, (∀ w ∈ a, w ∈ lw_tbl) → (∀ w ∈ b, w ∈ lw_tbl) → ∀ w ∈ a ++ b, w ∈ lw_tbl := fun ha hb w h => (List.mem_append.mp h).elim (ha w) (hb w)
  have h0 : ∀ w ∈ ([] : List Cond), w ∈ lw_tbl := fun _ h => absurd h List.not_mem_nil
  have hr := ap mw_r1 (ap mw_r2 (ap mw_r3 (ap mw_r4 (ap mw_r5 (ap mw_r6 (ap mw_r7 (ap mw_r8 (ap mw_r9 (ap mw_r10 (ap mw_r11 (ap mw_r12 (ap mw_r13 (ap mw_r14 (ap mw_r15 (ap mw_r16 (ap mw_r17 (ap mw_r18 (ap mw_r19 (ap mw_r20 (ap mw_r21 (ap mw_r22 (ap mw_r23 (ap mw_r24 (ap mw_r25 (ap mw_r26 (ap mw_r27 mw_r28))))))))))))))))))))))))))
  exact ap (ap (ap (ap (ap (ap (ap (ap (ap hr mw_x7) mw_x8) mw_x5) mw_x1) mw_x4) mw_x2) mw_x3) mw_x6) h0
theorem inX0 : ∀ w ∈ wsX00, w ∈ lw_tbl := by decide +kernel
theorem inlX1 : ∀ w ∈ wsX10, w ∈ wsL_law := fun _ h => List.mem_append_left _ (List.mem_append_left _ (List.mem_append_left _ (List.mem_append_left _ (List.mem_append_left _ (List.mem_append_right _ h)))))
theorem inX1 : ∀ w ∈ wsX10, w ∈ lw_tbl := fun w h => wsL_law_in w (inlX1 w h)
theorem inlX2 : ∀ w ∈ wsX20, w ∈ wsL_law := fun _ h => List.mem_append_left _ (List.mem_append_left _ (List.mem_append_left _ (List.mem_append_right _ h)))
theorem inX2 : ∀ w ∈ wsX20, w ∈ lw_tbl := fun w h => wsL_law_in w (inlX2 w h)
theorem inlX3 : ∀ w ∈ wsX30, w ∈ wsL_law := fun _ h => List.mem_append_left _ (List.mem_append_left _ (List.mem_append_right _ h))
theorem inX3 : ∀ w ∈ wsX30, w ∈ lw_tbl := fun w h => wsL_law_in w (inlX3 w h)
theorem inlX4 : ∀ w ∈ wsX40, w ∈ wsL_law := fun _ h => List.mem_append_left _ (List.mem_append_left _ (List.mem_append_left _ (List.mem_append_left _ (List.mem_append_right _ h))))
theorem inX4 : ∀ w ∈ wsX40, w ∈ lw_tbl := fun w h => wsL_law_in w (inlX4 w h)
theorem inlX5 : ∀ w ∈ wsX50, w ∈ wsL_law := fun _ h => List.mem_append_left _ (List.mem_append_left _ (List.mem_append_left _ (List.mem_append_left _ (List.mem_append_left _ (List.mem_append_left _ (List.mem_append_right _ h))))))
theorem inX5 : ∀ w ∈ wsX50, w ∈ lw_tbl := fun w h => wsL_law_in w (inlX5 w h)
theorem inlX6 : ∀ w ∈ wsX60, w ∈ wsL_law := fun _ h => List.mem_append_left _ (List.mem_append_right _ h)
theorem inX6 : ∀ w ∈ wsX60, w ∈ lw_tbl := fun w h => wsL_law_in w (inlX6 w h)
theorem inlX7 : ∀ w ∈ wsX70, w ∈ wsL_law := fun _ h => List.mem_append_left _ (List.mem_append_left _ (List.mem_append_left _ (List.mem_append_left _ (List.mem_append_left _ (List.mem_append_left _ (List.mem_append_left _ (List.mem_append_left _ (List.mem_append_right _ h))))))))
theorem inX7 : ∀ w ∈ wsX70, w ∈ lw_tbl := fun w h => wsL_law_in w (inlX7 w h)
theorem inlX8 : ∀ w ∈ wsX80, w ∈ wsL_law := fun _ h => List.mem_append_left _ (List.mem_append_left _ (List.mem_append_left _ (List.mem_append_left _ (List.mem_append_left _ (List.mem_append_left _ (List.mem_append_left _ (List.mem_append_right _ h)))))))
theorem inX8 : ∀ w ∈ wsX80, w ∈ lw_tbl := fun w h => wsL_law_in w (inlX8 w h)
