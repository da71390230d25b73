set_option maxRecDepth 20000 in
theorem inL_x2 : GoodIn lw_tbl wsX20 := goodIn_p _ [] (by decide +kernel) (by decide +kernel)
set_option maxRecDepth 20000 in
theorem inL_x3 : GoodIn lw_tbl wsX30 := goodIn_p _ [] (by decide +kernel) (by decide +kernel)
theorem inL_all : GoodIn lw_tbl wsL_law := goodIn_app (goodIn_app (goodIn_app (goodIn_app (goodIn_app inL_r1 (goodIn_app inL_r2 (goodIn_app inL_r3 (goodIn_app inL_r4 (goodIn_app inL_r5 (goodIn_app inL_r6 (goodIn_app inL_r7 (goodIn_app inL_r8 (goodIn_app inL_r9 (goodIn_app inL_r10 (goodIn_app inL_r11 (goodIn_app inL_r12 (goodIn_app inL_r13 (goodIn_app inL_r14 (goodIn_app inL_r15 (goodIn_app inL_r16 (goodIn_app inL_r17 (goodIn_app inL_r18 (goodIn_app inL_r19 (goodIn_app inL_r20 (goodIn_app inL_r21 (goodIn_app inL_r22 inL_r23)))))))))))))))))))))) inL_x2) inL_x3) inL_x1) (fun _ h => absurd h List.not_mem_nil)
theorem lw_of {args : Array Value} {s : State} (hts : ∀ w ∈ lw_tbl, w.before args s = true) : ∀ w ∈ wsL_law, w.before args s = true := fun w h => hts w (inL_all w h).1
