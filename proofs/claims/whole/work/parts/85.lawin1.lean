set_option maxRecDepth 20000 in
theorem wLr13 : ∀ w ∈ wsL_law_r13, w ∈ lw_tbl := fun w h => (goodIn_p wsL_law_r13 [401, 405, 410, 414, 418] (by decide +kernel) (by decide +kernel) w h).1
set_option maxRecDepth 20000 in
theorem wLr14 : ∀ w ∈ wsL_law_r14, w ∈ lw_tbl := fun w h => (goodIn_p wsL_law_r14 [422, 428, 432, 436] (by decide +kernel) (by decide +kernel) w h).1
set_option maxRecDepth 20000 in
theorem wLr15 : ∀ w ∈ wsL_law_r15, w ∈ lw_tbl := fun w h => (goodIn_p wsL_law_r15 [440, 444, 450, 453] (by decide +kernel) (by decide +kernel) w h).1
set_option maxRecDepth 20000 in
theorem wLr16 : ∀ w ∈ wsL_law_r16, w ∈ lw_tbl := fun w h => (goodIn_p wsL_law_r16 [458, 461, 474, 483, 492, 505] (by decide +kernel) (by decide +kernel) w h).1
set_option maxRecDepth 20000 in
theorem wLr17 : ∀ w ∈ wsL_law_r17, w ∈ lw_tbl := fun w h => (goodIn_p wsL_law_r17 [1088, 509, 513, 517, 521] (by decide +kernel) (by decide +kernel) w h).1
set_option maxRecDepth 20000 in
theorem wLr18 : ∀ w ∈ wsL_law_r18, w ∈ lw_tbl := fun w h => (goodIn_p wsL_law_r18 [525, 529, 533, 537, 542, 545] (by decide +kernel) (by decide +kernel) w h).1
set_option maxRecDepth 20000 in
theorem wLr19 : ∀ w ∈ wsL_law_r19, w ∈ lw_tbl := fun w h => (goodIn_p wsL_law_r19 [548, 1092, 1096, 1100, 1104] (by decide +kernel) (by decide +kernel) w h).1
set_option maxRecDepth 20000 in
theorem wLr20 : ∀ w ∈ wsL_law_r20, w ∈ lw_tbl := fun w h => (goodIn_p wsL_law_r20 [1108, 1112, 1116, 1121, 1124, 556] (by decide +kernel) (by decide +kernel) w h).1
set_option maxRecDepth 20000 in
theorem wLr21 : ∀ w ∈ wsL_law_r21, w ∈ lw_tbl := fun w h => (goodIn_p wsL_law_r21 [560, 563, 580, 570, 573, 576] (by decide +kernel) (by decide +kernel) w h).1
set_option maxRecDepth 20000 in
theorem wLr22 : ∀ w ∈ wsL_law_r22, w ∈ lw_tbl := fun w h => (goodIn_p wsL_law_r22 [579, 589, 598, 615] (by decide +kernel) (by decide +kernel) w h).1
set_option maxRecDepth 20000 in
theorem wLr23 : ∀ w ∈ wsL_law_r23, w ∈ lw_tbl := fun w h => (goodIn_p wsL_law_r23 [605, 609, 612, 630, 623] (by decide +kernel) (by decide +kernel) w h).1
set_option maxRecDepth 20000 in
theorem wLr24 : ∀ w ∈ wsL_law_r24, w ∈ lw_tbl := fun w h => (goodIn_p wsL_law_r24 [626, 646, 637, 640, 643] (by decide +kernel) (by decide +kernel) w h).1
