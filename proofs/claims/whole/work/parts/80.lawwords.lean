theorem lwi_1 : ∀ w ∈ wsL_law_r1, w ∈ lw_tbl := by decide +kernel
theorem lwi_2 : ∀ w ∈ wsL_law_r2, w ∈ lw_tbl := by decide +kernel
theorem lwi_3 : ∀ w ∈ wsL_law_r3, w ∈ lw_tbl := by decide +kernel
theorem lwi_4 : ∀ w ∈ wsL_law_r4, w ∈ lw_tbl := by decide +kernel
theorem lwi_5 : ∀ w ∈ wsL_law_r5, w ∈ lw_tbl := by decide +kernel
theorem lwi_6 : ∀ w ∈ wsL_law_r6, w ∈ lw_tbl := by decide +kernel
theorem lwi_7 : ∀ w ∈ wsL_law_r7, w ∈ lw_tbl := by decide +kernel
theorem lwi_8 : ∀ w ∈ wsL_law_r8, w ∈ lw_tbl := by decide +kernel
theorem lwi_9 : ∀ w ∈ wsL_law_r9, w ∈ lw_tbl := by decide +kernel
theorem lwi_10 : ∀ w ∈ wsL_law_r10, w ∈ lw_tbl := by decide +kernel
theorem lwi_11 : ∀ w ∈ wsL_law_r11, w ∈ lw_tbl := by decide +kernel
theorem lwi_12 : ∀ w ∈ wsL_law_r12, w ∈ lw_tbl := by decide +kernel
theorem lwi_13 : ∀ w ∈ wsL_law_r13, w ∈ lw_tbl := by decide +kernel
theorem lwi_14 : ∀ w ∈ wsL_law_r14, w ∈ lw_tbl := by decide +kernel
theorem lwi_15 : ∀ w ∈ wsL_law_r15, w ∈ lw_tbl := by decide +kernel
theorem lwi_16 : ∀ w ∈ wsL_law_r16, w ∈ lw_tbl := by decide +kernel
theorem lwi_17 : ∀ w ∈ wsL_law_r17, w ∈ lw_tbl := by decide +kernel
theorem lwi_18 : ∀ w ∈ wsL_law_r18, w ∈ lw_tbl := by decide +kernel
theorem lwi_19 : ∀ w ∈ wsL_law_r19, w ∈ lw_tbl := by decide +kernel
theorem lwi_20 : ∀ w ∈ wsL_law_r20, w ∈ lw_tbl := by decide +kernel
theorem lwi_21 : ∀ w ∈ wsL_law_r21, w ∈ lw_tbl := by decide +kernel
theorem lwi_22 : ∀ w ∈ wsL_law_r22, w ∈ lw_tbl := by decide +kernel
theorem lwi_23 : ∀ w ∈ wsL_law_r23, w ∈ lw_tbl := by decide +kernel
theorem lwi_24 : ∀ w ∈ wsL_law_r24, w ∈ lw_tbl := by decide +kernel
theorem lwi_25 : ∀ w ∈ wsL_law_r25, w ∈ lw_tbl := by decide +kernel
theorem lwi_26 : ∀ w ∈ wsL_law_r26, w ∈ lw_tbl := by decide +kernel
theorem lwi_27 : ∀ w ∈ wsL_law_r27, w ∈ lw_tbl := by decide +kernel
theorem lwi_28 : ∀ w ∈ wsL_law_r28, w ∈ lw_tbl := by decide +kernel
theorem lwi_29 : ∀ w ∈ wsL_law_r29, w ∈ lw_tbl := by decide +kernel
theorem lwi_30 : ∀ w ∈ wsL_law_r30, w ∈ lw_tbl := by decide +kernel
theorem lwi_31 : ∀ w ∈ wsL_law_r31, w ∈ lw_tbl := by decide +kernel
theorem lwi_32 : ∀ w ∈ wsL_law_r32, w ∈ lw_tbl := by decide +kernel
theorem lwi_33 : ∀ w ∈ wsL_law_r33, w ∈ lw_tbl := by decide +kernel
theorem lwi_34 : ∀ w ∈ wsL_law_r34, w ∈ lw_tbl := by decide +kernel
theorem lwi_35 : ∀ w ∈ wsL_law_r35, w ∈ lw_tbl := by decide +kernel
theorem lwi_36 : ∀ w ∈ wsL_law_r36, w ∈ lw_tbl := by decide +kernel
theorem lwi_37 : ∀ w ∈ wsL_law_r37, w ∈ lw_tbl := by decide +kernel
theorem lwi_38 : ∀ w ∈ wsL_law_r38, w ∈ lw_tbl := by decide +kernel
theorem lwj_wsX110 : ∀ w ∈ wsX110, w ∈ lw_tbl := by decide +kernel
theorem lwj_wsX120 : ∀ w ∈ wsX120, w ∈ lw_tbl := by decide +kernel
theorem lwj_wsX90 : ∀ w ∈ wsX90, w ∈ lw_tbl := by decide +kernel
theorem lwj_wsX30 : ∀ w ∈ wsX30, w ∈ lw_tbl := by decide +kernel
theorem lwj_wsX70 : ∀ w ∈ wsX70, w ∈ lw_tbl := by decide +kernel
theorem lwj_wsX10 : ∀ w ∈ wsX10, w ∈ lw_tbl := by decide +kernel
theorem lwj_wsX100 : ∀ w ∈ wsX100, w ∈ lw_tbl := by decide +kernel
theorem lwj_wsX40 : ∀ w ∈ wsX40, w ∈ lw_tbl := by decide +kernel
theorem lwj_wsX00 : ∀ w ∈ wsX00, w ∈ lw_tbl := by decide +kernel
theorem lwj_wsX50 : ∀ w ∈ wsX50, w ∈ lw_tbl := by decide +kernel
theorem lwj_wsX80 : ∀ w ∈ wsX80, w ∈ lw_tbl := by decide +kernel
theorem lwj_wsX20 : ∀ w ∈ wsX20, w ∈ lw_tbl := by decide +kernel
theorem lwj_wsX60 : ∀ w ∈ wsX60, w ∈ lw_tbl := by decide +kernel
theorem lw_ap {a b : List Cond} (ha : ∀ w ∈ a, w ∈ lw_tbl) (hb : ∀ w ∈ b, w ∈ lw_tbl) : ∀ w ∈ a ++ b, w ∈ lw_tbl := fun w h => (List.mem_append.mp h).elim (ha w) (hb w)
theorem wsL_law_in : ∀ w ∈ wsL_law, w ∈ lw_tbl := (lw_ap (lw_ap (lw_ap (lw_ap (lw_ap (lw_ap (lw_ap (lw_ap (lw_ap (lw_ap (lw_ap (lw_ap (lw_ap (lw_ap (lw_ap lwi_1 (lw_ap lwi_2 (lw_ap lwi_3 (lw_ap lwi_4 (lw_ap lwi_5 (lw_ap lwi_6 (lw_ap lwi_7 (lw_ap lwi_8 (lw_ap lwi_9 (lw_ap lwi_10 (lw_ap lwi_11 (lw_ap lwi_12 (lw_ap lwi_13 (lw_ap lwi_14 (lw_ap lwi_15 (lw_ap lwi_16 (lw_ap lwi_17 (lw_ap lwi_18 (lw_ap lwi_19 (lw_ap lwi_20 (lw_ap lwi_21 (lw_ap lwi_22 (lw_ap lwi_23 (lw_ap lwi_24 (lw_ap lwi_25 (lw_ap lwi_26 (lw_ap lwi_27 (lw_ap lwi_28 (lw_ap lwi_29 (lw_ap lwi_30 (lw_ap lwi_31 (lw_ap lwi_32 (lw_ap lwi_33 (lw_ap lwi_34 (lw_ap lwi_35 (lw_ap lwi_36 (lw_ap lwi_37 lwi_38))))))))))))))))))))))))))))))))))))) lwj_wsX110) lwj_wsX120) lwj_wsX90) lwj_wsX30) lwj_wsX70) lwj_wsX10) lwj_wsX100) lwj_wsX40) lwj_wsX00) lwj_wsX50) lwj_wsX80) lwj_wsX20) lwj_wsX60) (fun _ h => absurd h List.not_mem_nil))
theorem inlX0 : ∀ w ∈ wsX00, w ∈ wsL_law := fun _ h => List.mem_append_left _ (List.mem_append_left _ (List.mem_append_left _ (List.mem_append_left _ (List.mem_append_left _ (List.mem_append_right _ h)))))
theorem inX0 : ∀ w ∈ wsX00, w ∈ lw_tbl := fun w h => wsL_law_in w (inlX0 w h)
theorem inlX1 : ∀ w ∈ wsX10, w ∈ wsL_law := fun _ h => List.mem_append_left _ (List.mem_append_left _ (List.mem_append_left _ (List.mem_append_left _ (List.mem_append_left _ (List.mem_append_left _ (List.mem_append_left _ (List.mem_append_left _ (List.mem_append_right _ h))))))))
theorem inX1 : ∀ w ∈ wsX10, w ∈ lw_tbl := fun w h => wsL_law_in w (inlX1 w h)
theorem inlX2 : ∀ w ∈ wsX20, w ∈ wsL_law := fun _ h => List.mem_append_left _ (List.mem_append_left _ (List.mem_append_right _ h))
theorem inX2 : ∀ w ∈ wsX20, w ∈ lw_tbl := fun w h => wsL_law_in w (inlX2 w h)
theorem inlX3 : ∀ w ∈ wsX30, w ∈ wsL_law := fun _ h => List.mem_append_left _ (List.mem_append_left _ (List.mem_append_left _ (List.mem_append_left _ (List.mem_append_left _ (List.mem_append_left _ (List.mem_append_left _ (List.mem_append_left _ (List.mem_append_left _ (List.mem_append_left _ (List.mem_append_right _ h))))))))))
theorem inX3 : ∀ w ∈ wsX30, w ∈ lw_tbl := fun w h => wsL_law_in w (inlX3 w h)
theorem inlX4 : ∀ w ∈ wsX40, w ∈ wsL_law := fun _ h => List.mem_append_left _ (List.mem_append_left _ (List.mem_append_left _ (List.mem_append_left _ (List.mem_append_left _ (List.mem_append_left _ (List.mem_append_right _ h))))))
theorem inX4 : ∀ w ∈ wsX40, w ∈ lw_tbl := fun w h => wsL_law_in w (inlX4 w h)
theorem inlX5 : ∀ w ∈ wsX50, w ∈ wsL_law := fun _ h => List.mem_append_left _ (List.mem_append_left _ (List.mem_append_left _ (List.mem_append_left _ (List.mem_append_right _ h))))
theorem inX5 : ∀ w ∈ wsX50, w ∈ lw_tbl := fun w h => wsL_law_in w (inlX5 w h)
theorem inlX6 : ∀ w ∈ wsX60, w ∈ wsL_law := fun _ h => List.mem_append_left _ (List.mem_append_right _ h)
theorem inX6 : ∀ w ∈ wsX60, w ∈ lw_tbl := fun w h => wsL_law_in w (inlX6 w h)
theorem inlX7 : ∀ w ∈ wsX70, w ∈ wsL_law := fun _ h => List.mem_append_left _ (List.mem_append_left _ (List.mem_append_left _ (List.mem_append_left _ (List.mem_append_left _ (List.mem_append_left _ (List.mem_append_left _ (List.mem_append_left _ (List.mem_append_left _ (List.mem_append_right _ h)))))))))
theorem inX7 : ∀ w ∈ wsX70, w ∈ lw_tbl := fun w h => wsL_law_in w (inlX7 w h)
theorem inlX8 : ∀ w ∈ wsX80, w ∈ wsL_law := fun _ h => List.mem_append_left _ (List.mem_append_left _ (List.mem_append_left _ (List.mem_append_right _ h)))
theorem inX8 : ∀ w ∈ wsX80, w ∈ lw_tbl := fun w h => wsL_law_in w (inlX8 w h)
theorem inlX9 : ∀ w ∈ wsX90, w ∈ wsL_law := fun _ h => List.mem_append_left _ (List.mem_append_left _ (List.mem_append_left _ (List.mem_append_left _ (List.mem_append_left _ (List.mem_append_left _ (List.mem_append_left _ (List.mem_append_left _ (List.mem_append_left _ (List.mem_append_left _ (List.mem_append_left _ (List.mem_append_right _ h)))))))))))
theorem inX9 : ∀ w ∈ wsX90, w ∈ lw_tbl := fun w h => wsL_law_in w (inlX9 w h)
theorem inlX10 : ∀ w ∈ wsX100, w ∈ wsL_law := fun _ h => List.mem_append_left _ (List.mem_append_left _ (List.mem_append_left _ (List.mem_append_left _ (List.mem_append_left _ (List.mem_append_left _ (List.mem_append_left _ (List.mem_append_right _ h)))))))
theorem inX10 : ∀ w ∈ wsX100, w ∈ lw_tbl := fun w h => wsL_law_in w (inlX10 w h)
theorem inlX11 : ∀ w ∈ wsX110, w ∈ wsL_law := fun _ h => List.mem_append_left _ (List.mem_append_left _ (List.mem_append_left _ (List.mem_append_left _ (List.mem_append_left _ (List.mem_append_left _ (List.mem_append_left _ (List.mem_append_left _ (List.mem_append_left _ (List.mem_append_left _ (List.mem_append_left _ (List.mem_append_left _ (List.mem_append_left _ (List.mem_append_right _ h)))))))))))))
theorem inX11 : ∀ w ∈ wsX110, w ∈ lw_tbl := fun w h => wsL_law_in w (inlX11 w h)
theorem inlX12 : ∀ w ∈ wsX120, w ∈ wsL_law := fun _ h => List.mem_append_left _ (List.mem_append_left _ (List.mem_append_left _ (List.mem_append_left _ (List.mem_append_left _ (List.mem_append_left _ (List.mem_append_left _ (List.mem_append_left _ (List.mem_append_left _ (List.mem_append_left _ (List.mem_append_left _ (List.mem_append_left _ (List.mem_append_right _ h))))))))))))
theorem inX12 : ∀ w ∈ wsX120, w ∈ lw_tbl := fun w h => wsL_law_in w (inlX12 w h)
