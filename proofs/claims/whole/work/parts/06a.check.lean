set_option maxRecDepth 100000 in
theorem am_tw0 : am_aP (fun q => am_wo q.2 ∈ lw_tbl) am_tr0 := am_all_P (T := k2_sels lw_privs) (fun w hw => List.mem_append_left _ hw) (by decide +kernel)
set_option maxRecDepth 100000 in
theorem am_tw1 : am_aP (fun q => am_wo q.2 ∈ lw_tbl) am_tr1 := am_all_P (T := tables_1_1) (fun w hw => List.mem_append_right _ (List.mem_append_left _ hw)) (by decide +kernel)
set_option maxRecDepth 100000 in
theorem am_tw2 : am_aP (fun q => am_wo q.2 ∈ lw_tbl) am_tr2 := am_all_P (T := tables_1_2) (fun w hw => List.mem_append_right _ (List.mem_append_right _ (List.mem_append_left _ hw))) (by decide +kernel)
set_option maxRecDepth 100000 in
theorem am_tw3 : am_aP (fun q => am_wo q.2 ∈ lw_tbl) am_tr3 := am_all_P (T := tables_1_3) (fun w hw => List.mem_append_right _ (List.mem_append_right _ (List.mem_append_right _ (List.mem_append_left _ hw)))) (by decide +kernel)
set_option maxRecDepth 100000 in
theorem am_tw4 : am_aP (fun q => am_wo q.2 ∈ lw_tbl) am_tr4 := am_all_P (T := tables_1_4) (fun w hw => List.mem_append_right _ (List.mem_append_right _ (List.mem_append_right _ (List.mem_append_right _ (List.mem_append_left _ hw))))) (by decide +kernel)
set_option maxRecDepth 100000 in
theorem am_tw5 : am_aP (fun q => am_wo q.2 ∈ lw_tbl) am_tr5 := am_all_P (T := tables_1_5) (fun w hw => List.mem_append_right _ (List.mem_append_right _ (List.mem_append_right _ (List.mem_append_right _ (List.mem_append_right _ (List.mem_append_left _ hw)))))) (by decide +kernel)
set_option maxRecDepth 100000 in
theorem am_tw6 : am_aP (fun q => am_wo q.2 ∈ lw_tbl) am_tr6 := am_all_P (T := tables_1_6) (fun w hw => List.mem_append_right _ (List.mem_append_right _ (List.mem_append_right _ (List.mem_append_right _ (List.mem_append_right _ (List.mem_append_right _ (List.mem_append_left _ hw))))))) (by decide +kernel)
set_option maxRecDepth 100000 in
theorem am_tw7 : am_aP (fun q => am_wo q.2 ∈ lw_tbl) am_tr7 := am_all_P (T := tables_1_7) (fun w hw => List.mem_append_right _ (List.mem_append_right _ (List.mem_append_right _ (List.mem_append_right _ (List.mem_append_right _ (List.mem_append_right _ (List.mem_append_right _ (List.mem_append_left _ hw)))))))) (by decide +kernel)
set_option maxRecDepth 100000 in
theorem am_tw8 : am_aP (fun q => am_wo q.2 ∈ lw_tbl) am_tr8 := am_all_P (T := tables_1_8) (fun w hw => List.mem_append_right _ (List.mem_append_right _ (List.mem_append_right _ (List.mem_append_right _ (List.mem_append_right _ (List.mem_append_right _ (List.mem_append_right _ (List.mem_append_right _ (List.mem_append_left _ hw))))))))) (by decide +kernel)
set_option maxRecDepth 100000 in
theorem am_tw9 : am_aP (fun q => am_wo q.2 ∈ lw_tbl) am_tr9 := am_all_P (T := tables_1_9) (fun w hw => List.mem_append_right _ (List.mem_append_right _ (List.mem_append_right _ (List.mem_append_right _ (List.mem_append_right _ (List.mem_append_right _ (List.mem_append_right _ (List.mem_append_right _ (List.mem_append_right _ (hw)))))))))) (by decide +kernel)
theorem am_w_in (i : Nat) : am_wo (am_tr.get i).2 ∈ lw_tbl := am_aP_get (t := am_tr) ⟨⟨⟨am_tw0, am_tw1⟩, ⟨am_tw2, ⟨am_tw3, am_tw4⟩⟩⟩, ⟨⟨am_tw5, am_tw6⟩, ⟨am_tw7, ⟨am_tw8, am_tw9⟩⟩⟩⟩ i
