set_option maxRecDepth 20000 in
theorem wLr37 : ∀ w ∈ wsL_law_r37, w ∈ lw_tbl := fun w h => (goodIn_p wsL_law_r37 [1232, 1235, 1239, 1244, 1248, 1252] (by decide +kernel) (by decide +kernel) w h).1
set_option maxRecDepth 20000 in
theorem wLr38 : ∀ w ∈ wsL_law_r38, w ∈ lw_tbl := fun w h => (goodIn_p wsL_law_r38 [812, 815, 818, 1256, 1260, 1263, 822] (by decide +kernel) (by decide +kernel) w h).1
set_option maxRecDepth 20000 in
theorem wLr39 : ∀ w ∈ wsL_law_r39, w ∈ lw_tbl := fun w h => (goodIn_p wsL_law_r39 [826, 830, 835, 1267, 839, 1271] (by decide +kernel) (by decide +kernel) w h).1
set_option maxRecDepth 20000 in
theorem wLr40 : ∀ w ∈ wsL_law_r40, w ∈ lw_tbl := fun w h => (goodIn_p wsL_law_r40 [843, 847, 853, 1275] (by decide +kernel) (by decide +kernel) w h).1
set_option maxRecDepth 20000 in
theorem wLr41 : ∀ w ∈ wsL_law_r41, w ∈ lw_tbl := fun w h => (goodIn_p wsL_law_r41 [1279, 1283, 860, 864] (by decide +kernel) (by decide +kernel) w h).1
set_option maxRecDepth 20000 in
theorem wLr42 : ∀ w ∈ wsL_law_r42, w ∈ lw_tbl := fun w h => (goodIn_p wsL_law_r42 [876, 1291, 881] (by decide +kernel) (by decide +kernel) w h).1
set_option maxRecDepth 20000 in
theorem wLr43 : ∀ w ∈ wsL_law_r43, w ∈ lw_tbl := fun w h => (goodIn_p wsL_law_r43 [890, 1295, 894, 898] (by decide +kernel) (by decide +kernel) w h).1
set_option maxRecDepth 20000 in
theorem wLr44 : ∀ w ∈ wsL_law_r44, w ∈ lw_tbl := fun w h => (goodIn_p wsL_law_r44 [903, 907, 1299, 1303, 1307, 1311] (by decide +kernel) (by decide +kernel) w h).1
set_option maxRecDepth 20000 in
theorem wLr45 : ∀ w ∈ wsL_law_r45, w ∈ lw_tbl := fun w h => (goodIn_p wsL_law_r45 [911, 916, 1315, 1320] (by decide +kernel) (by decide +kernel) w h).1
set_option maxRecDepth 20000 in
theorem wLr46 : ∀ w ∈ wsL_law_r46, w ∈ lw_tbl := fun w h => (goodIn_p wsL_law_r46 [1325] (by decide +kernel) (by decide +kernel) w h).1
set_option maxRecDepth 20000 in
theorem wLx_wsX110 : ∀ w ∈ wsX110, w ∈ lw_tbl := fun w h => (goodIn_p wsX110 [] (by decide +kernel) (by decide +kernel) w h).1
set_option maxRecDepth 20000 in
theorem wLx_wsX120 : ∀ w ∈ wsX120, w ∈ lw_tbl := fun w h => (goodIn_p wsX120 [] (by decide +kernel) (by decide +kernel) w h).1
set_option maxRecDepth 20000 in
theorem wLx_wsX30 : ∀ w ∈ wsX30, w ∈ lw_tbl := fun w h => (goodIn_p wsX30 [] (by decide +kernel) (by decide +kernel) w h).1
set_option maxRecDepth 20000 in
theorem wLx_wsX70 : ∀ w ∈ wsX70, w ∈ lw_tbl := fun w h => (goodIn_p wsX70 [] (by decide +kernel) (by decide +kernel) w h).1
set_option maxRecDepth 20000 in
theorem wLx_wsX80 : ∀ w ∈ wsX80, w ∈ lw_tbl := fun w h => (goodIn_p wsX80 [] (by decide +kernel) (by decide +kernel) w h).1
set_option maxRecDepth 20000 in
theorem wLx_wsX40 : ∀ w ∈ wsX40, w ∈ lw_tbl := fun w h => (goodIn_p wsX40 [] (by decide +kernel) (by decide +kernel) w h).1
set_option maxRecDepth 20000 in
theorem wLx_wsX50 : ∀ w ∈ wsX50, w ∈ lw_tbl := fun w h => (goodIn_p wsX50 [] (by decide +kernel) (by decide +kernel) w h).1
set_option maxRecDepth 20000 in
theorem wLx_wsX90 : ∀ w ∈ wsX90, w ∈ lw_tbl := fun w h => (goodIn_p wsX90 [] (by decide +kernel) (by decide +kernel) w h).1
set_option maxRecDepth 20000 in
theorem wLx_wsX10 : ∀ w ∈ wsX10, w ∈ lw_tbl := fun w h => (goodIn_p wsX10 [] (by decide +kernel) (by decide +kernel) w h).1
set_option maxRecDepth 20000 in
theorem wLx_wsX60 : ∀ w ∈ wsX60, w ∈ lw_tbl := fun w h => (goodIn_p wsX60 [] (by decide +kernel) (by decide +kernel) w h).1
set_option maxRecDepth 20000 in
theorem wLx_wsX100 : ∀ w ∈ wsX100, w ∈ lw_tbl := fun w h => (goodIn_p wsX100 [] (by decide +kernel) (by decide +kernel) w h).1
set_option maxRecDepth 20000 in
theorem wLx_wsX20 : ∀ w ∈ wsX20, w ∈ lw_tbl := fun w h => (goodIn_p wsX20 [] (by decide +kernel) (by decide +kernel) w h).1
set_option maxRecDepth 20000 in
theorem wLx_wsX00 : ∀ w ∈ wsX00, w ∈ lw_tbl := fun w h => (goodIn_p wsX00 [] (by decide +kernel) (by decide +kernel) w h).1
