set_option maxRecDepth 20000 in
theorem wsL_in_27 : ∀ w ∈ wsL_law_r27, w ∈ lw_tbl := fun w h => (goodIn_p wsL_law_r27 [619, 623, 627, 631, 1126] (by decide +kernel) (by decide +kernel) w h).1
set_option maxRecDepth 20000 in
theorem wsL_in_28 : ∀ w ∈ wsL_law_r28, w ∈ lw_tbl := fun w h => (goodIn_p wsL_law_r28 [1131, 1135, 1139, 635, 640] (by decide +kernel) (by decide +kernel) w h).1
set_option maxRecDepth 20000 in
theorem wsL_in_29 : ∀ w ∈ wsL_law_r29, w ∈ lw_tbl := fun w h => (goodIn_p wsL_law_r29 [1143, 647, 651, 1151, 655] (by decide +kernel) (by decide +kernel) w h).1
set_option maxRecDepth 20000 in
theorem wsL_in_30 : ∀ w ∈ wsL_law_r30, w ∈ lw_tbl := fun w h => (goodIn_p wsL_law_r30 [660, 664, 668, 1155, 1159, 1163] (by decide +kernel) (by decide +kernel) w h).1
set_option maxRecDepth 20000 in
theorem wsL_in_31 : ∀ w ∈ wsL_law_r31, w ∈ lw_tbl := fun w h => (goodIn_p wsL_law_r31 [1167, 673, 1171, 678, 682, 685] (by decide +kernel) (by decide +kernel) w h).1
set_option maxRecDepth 20000 in
theorem wsL_in_32 : ∀ w ∈ wsL_law_r32, w ∈ lw_tbl := fun w h => (goodIn_p wsL_law_r32 [1175, 689, 693, 697, 1179] (by decide +kernel) (by decide +kernel) w h).1
set_option maxRecDepth 20000 in
theorem wsL_in_33 : ∀ w ∈ wsL_law_r33, w ∈ lw_tbl := fun w h => (goodIn_p wsL_law_r33 [1184, 701, 705, 709, 1188, 713] (by decide +kernel) (by decide +kernel) w h).1
set_option maxRecDepth 20000 in
theorem wsL_in_34 : ∀ w ∈ wsL_law_r34, w ∈ lw_tbl := fun w h => (goodIn_p wsL_law_r34 [717, 720, 727, 732] (by decide +kernel) (by decide +kernel) w h).1
set_option maxRecDepth 20000 in
theorem wsL_in_35 : ∀ w ∈ wsL_law_r35, w ∈ lw_tbl := fun w h => (goodIn_p wsL_law_r35 [738, 742, 1192, 1196, 1200, 1204] (by decide +kernel) (by decide +kernel) w h).1
set_option maxRecDepth 20000 in
theorem wsL_in_36 : ∀ w ∈ wsL_law_r36, w ∈ lw_tbl := fun w h => (goodIn_p wsL_law_r36 [1208, 747, 751, 755, 1212, 1216] (by decide +kernel) (by decide +kernel) w h).1
set_option maxRecDepth 20000 in
theorem wsL_in_37 : ∀ w ∈ wsL_law_r37, w ∈ lw_tbl := fun w h => (goodIn_p wsL_law_r37 [760, 764, 768, 1220, 772, 775, 778] (by decide +kernel) (by decide +kernel) w h).1
set_option maxRecDepth 20000 in
theorem wsL_in_38 : ∀ w ∈ wsL_law_r38, w ∈ lw_tbl := fun w h => (goodIn_p wsL_law_r38 [781, 1224, 1228, 785, 789, 1232] (by decide +kernel) (by decide +kernel) w h).1
set_option maxRecDepth 20000 in
theorem wsL_in_39 : ∀ w ∈ wsL_law_r39, w ∈ lw_tbl := fun w h => (goodIn_p wsL_law_r39 [794, 1236, 798, 1240, 802] (by decide +kernel) (by decide +kernel) w h).1
set_option maxRecDepth 20000 in
theorem wsL_in_40 : ∀ w ∈ wsL_law_r40, w ∈ lw_tbl := fun w h => (goodIn_p wsL_law_r40 [805, 808, 1244, 1248, 815, 819] (by decide +kernel) (by decide +kernel) w h).1
set_option maxRecDepth 20000 in
theorem wsL_in_41 : ∀ w ∈ wsL_law_r41, w ∈ lw_tbl := fun w h => (goodIn_p wsL_law_r41 [825, 835, 839, 1252] (by decide +kernel) (by decide +kernel) w h).1
set_option maxRecDepth 20000 in
theorem wsL_in_42 : ∀ w ∈ wsL_law_r42, w ∈ lw_tbl := fun w h => (goodIn_p wsL_law_r42 [1256, 1260, 1264, 1268, 1272, 843] (by decide +kernel) (by decide +kernel) w h).1
set_option maxRecDepth 20000 in
theorem wsL_in_43 : ∀ w ∈ wsL_law_r43, w ∈ lw_tbl := fun w h => (goodIn_p wsL_law_r43 [847, 1276, 853, 857, 861, 1280] (by decide +kernel) (by decide +kernel) w h).1
set_option maxRecDepth 20000 in
theorem wsL_in_44 : ∀ w ∈ wsL_law_r44, w ∈ lw_tbl := fun w h => (goodIn_p wsL_law_r44 [865, 1284] (by decide +kernel) (by decide +kernel) w h).1
set_option maxRecDepth 20000 in
theorem wsL_in_X8 : ∀ w ∈ wsX80, w ∈ lw_tbl := fun w h => (goodIn_p wsX80 [] (by decide +kernel) (by decide +kernel) w h).1
set_option maxRecDepth 20000 in
theorem wsL_in_X9 : ∀ w ∈ wsX90, w ∈ lw_tbl := fun w h => (goodIn_p wsX90 [] (by decide +kernel) (by decide +kernel) w h).1
set_option maxRecDepth 20000 in
theorem wsL_in_X4 : ∀ w ∈ wsX40, w ∈ lw_tbl := fun w h => (goodIn_p wsX40 [] (by decide +kernel) (by decide +kernel) w h).1
set_option maxRecDepth 20000 in
theorem wsL_in_X0 : ∀ w ∈ wsX00, w ∈ lw_tbl := fun w h => (goodIn_p wsX00 [] (by decide +kernel) (by decide +kernel) w h).1
set_option maxRecDepth 20000 in
theorem wsL_in_X2 : ∀ w ∈ wsX20, w ∈ lw_tbl := fun w h => (goodIn_p wsX20 [] (by decide +kernel) (by decide +kernel) w h).1
set_option maxRecDepth 20000 in
theorem wsL_in_X1 : ∀ w ∈ wsX10, w ∈ lw_tbl := fun w h => (goodIn_p wsX10 [] (by decide +kernel) (by decide +kernel) w h).1
set_option maxRecDepth 20000 in
theorem wsL_in_X5 : ∀ w ∈ wsX50, w ∈ lw_tbl := fun w h => (goodIn_p wsX50 [] (by decide +kernel) (by decide +kernel) w h).1
set_option maxRecDepth 20000 in
theorem wsL_in_X6 : ∀ w ∈ wsX60, w ∈ lw_tbl := fun w h => (goodIn_p wsX60 [] (by decide +kernel) (by decide +kernel) w h).1
set_option maxRecDepth 20000 in
theorem wsL_in_X7 : ∀ w ∈ wsX70, w ∈ lw_tbl := fun w h => (goodIn_p wsX70 [] (by decide +kernel) (by decide +kernel) w h).1
theorem wsL_law_in : ∀ w ∈ wsL_law, w ∈ lw_tbl := by
  intro w h
  unfold wsL_law at h
  have e0 : ∀ w ∈ ([] : List Cond), w ∈ lw_tbl := fun _ h => absurd h List.not_mem_nil
  refine (List.mem_append.mp h).elim (fun h => ?_) (e0 w)
  refine (List.mem_append.mp h).elim (fun h => ?_) (wsL_in_X7 w)
  refine (List.mem_append.mp h).elim (fun h => ?_) (wsL_in_X6 w)
  refine (List.mem_append.mp h).elim (fun h => ?_) (wsL_in_X5 w)
  refine (List.mem_append.mp h).elim (fun h => ?_) (wsL_in_X1 w)
  refine (List.mem_append.mp h).elim (fun h => ?_) (wsL_in_X2 w)
  refine (List.mem_append.mp h).elim (fun h => ?_) (wsL_in_X0 w)
  refine (List.mem_append.mp h).elim (fun h => ?_) (wsL_in_X4 w)
  refine (List.mem_append.mp h).elim (fun h => ?_) (wsL_in_X9 w)
  refine (List.mem_append.mp h).elim (fun h => ?_) (wsL_in_X8 w)
  refine (List.mem_append.mp h).elim (wsL_in_1 w) (fun h => ?_)
  refine (List.mem_append.mp h).elim (wsL_in_2 w) (fun h => ?_)
  refine (List.mem_append.mp h).elim (wsL_in_3 w) (fun h => ?_)
  refine (List.mem_append.mp h).elim (wsL_in_4 w) (fun h => ?_)
  refine (List.mem_append.mp h).elim (wsL_in_5 w) (fun h => ?_)
  refine (List.mem_append.mp h).elim (wsL_in_6 w) (fun h => ?_)
  refine (List.mem_append.mp h).elim (wsL_in_7 w) (fun h => ?_)
  refine (List.mem_append.mp h).elim (wsL_in_8 w) (fun h => ?_)
  refine (List.mem_append.mp h).elim (wsL_in_9 w) (fun h => ?_)
  refine (List.mem_append.mp h).elim (wsL_in_10 w) (fun h => ?_)
  refine (List.mem_append.mp h).elim (wsL_in_11 w) (fun h => ?_)
  refine (List.mem_append.mp h).elim (wsL_in_12 w) (fun h => ?_)
  refine (List.mem_append.mp h).elim (wsL_in_13 w) (fun h => ?_)
  refine (List.mem_append.mp h).elim (wsL_in_14 w) (fun h => ?_)
  refine (List.mem_append.mp h).elim (wsL_in_15 w) (fun h => ?_)
  refine (List.mem_append.mp h).elim (wsL_in_16 w) (fun h => ?_)
  refine (List.mem_append.mp h).elim (wsL_in_17 w) (fun h => ?_)
  refine (List.mem_append.mp h).elim (wsL_in_18 w) (fun h => ?_)
  refine (List.mem_append.mp h).elim (wsL_in_19 w) (fun h => ?_)
  refine (List.mem_append.mp h).elim (wsL_in_20 w) (fun h => ?_)
  refine (List.mem_append.mp h).elim (wsL_in_21 w) (fun h => ?_)
  refine (List.mem_append.mp h).elim (wsL_in_22 w) (fun h => ?_)
  refine (List.mem_append.mp h).elim (wsL_in_23 w) (fun h => ?_)
  refine (List.mem_append.mp h).elim (wsL_in_24 w) (fun h => ?_)
  refine (List.mem_append.mp h).elim (wsL_in_25 w) (fun h => ?_)
  refine (List.mem_append.mp h).elim (wsL_in_26 w) (fun h => ?_)
  refine (List.mem_append.mp h).elim (wsL_in_27 w) (fun h => ?_)
  refine (List.mem_append.mp h).elim (wsL_in_28 w) (fun h => ?_)
  refine (List.mem_append.mp h).elim (wsL_in_29 w) (fun h => ?_)
  refine (List.mem_append.mp h).elim (wsL_in_30 w) (fun h => ?_)
  refine (List.mem_append.mp h).elim (wsL_in_31 w) (fun h => ?_)
  refine (List.mem_append.mp h).elim (wsL_in_32 w) (fun h => ?_)
  refine (List.mem_append.mp h).elim (wsL_in_33 w) (fun h => ?_)
  refine (List.mem_append.mp h).elim (wsL_in_34 w) (fun h => ?_)
  refine (List.mem_append.mp h).elim (wsL_in_35 w) (fun h => ?_)
  refine (List.mem_append.mp h).elim (wsL_in_36 w) (fun h => ?_)
  refine (List.mem_append.mp h).elim (wsL_in_37 w) (fun h => ?_)
  refine (List.mem_append.mp h).elim (wsL_in_38 w) (fun h => ?_)
  refine (List.mem_append.mp h).elim (wsL_in_39 w) (fun h => ?_)
  refine (List.mem_append.mp h).elim (wsL_in_40 w) (fun h => ?_)
  refine (List.mem_append.mp h).elim (wsL_in_41 w) (fun h => ?_)
  refine (List.mem_append.mp h).elim (wsL_in_42 w) (fun h => ?_)
  refine (List.mem_append.mp h).elim (wsL_in_43 w) (fun h => ?_)
  exact wsL_in_44 w h
