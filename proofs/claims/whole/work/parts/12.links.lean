theorem tb_1 (w : Cond) (h : w ∈ tables_1_1) : w ∈ lw_tbl := by
  unfold lw_tbl tables_1
  simp only [List.mem_append]
  exact Or.inr (Or.inl h)
theorem tb_2 (w : Cond) (h : w ∈ tables_1_2) : w ∈ lw_tbl := by
  unfold lw_tbl tables_1
  simp only [List.mem_append]
  exact Or.inr (Or.inr (Or.inl h))
theorem tb_3 (w : Cond) (h : w ∈ tables_1_3) : w ∈ lw_tbl := by
  unfold lw_tbl tables_1
  simp only [List.mem_append]
  exact Or.inr (Or.inr (Or.inr (Or.inl h)))
theorem tb_4 (w : Cond) (h : w ∈ tables_1_4) : w ∈ lw_tbl := by
  unfold lw_tbl tables_1
  simp only [List.mem_append]
  exact Or.inr (Or.inr (Or.inr (Or.inr (Or.inl h))))
theorem tb_5 (w : Cond) (h : w ∈ tables_1_5) : w ∈ lw_tbl := by
  unfold lw_tbl tables_1
  simp only [List.mem_append]
  exact Or.inr (Or.inr (Or.inr (Or.inr (Or.inr (Or.inl h)))))
theorem tb_6 (w : Cond) (h : w ∈ tables_1_6) : w ∈ lw_tbl := by
  unfold lw_tbl tables_1
  simp only [List.mem_append]
  exact Or.inr (Or.inr (Or.inr (Or.inr (Or.inr (Or.inr (Or.inl h))))))
theorem tb_7 (w : Cond) (h : w ∈ tables_1_7) : w ∈ lw_tbl := by
  unfold lw_tbl tables_1
  simp only [List.mem_append]
  exact Or.inr (Or.inr (Or.inr (Or.inr (Or.inr (Or.inr (Or.inr (Or.inl h)))))))
theorem tb_8 (w : Cond) (h : w ∈ tables_1_8) : w ∈ lw_tbl := by
  unfold lw_tbl tables_1
  simp only [List.mem_append]
  exact Or.inr (Or.inr (Or.inr (Or.inr (Or.inr (Or.inr (Or.inr (Or.inr (h))))))))
theorem tp_1 (q : MethodName × Nat) (h : q ∈ lw_privs_1) : Cond.selects q.1.cls q.1 q.1 ∈ lw_tbl := by
  refine List.mem_append_left _ (List.mem_map.mpr ⟨q, ?_, rfl⟩)
  unfold lw_privs
  simp only [List.mem_append]
  exact Or.inl h
theorem tp_2 (q : MethodName × Nat) (h : q ∈ lw_privs_2) : Cond.selects q.1.cls q.1 q.1 ∈ lw_tbl := by
  refine List.mem_append_left _ (List.mem_map.mpr ⟨q, ?_, rfl⟩)
  unfold lw_privs
  simp only [List.mem_append]
  exact Or.inr (Or.inl h)
theorem tp_3 (q : MethodName × Nat) (h : q ∈ lw_privs_3) : Cond.selects q.1.cls q.1 q.1 ∈ lw_tbl := by
  refine List.mem_append_left _ (List.mem_map.mpr ⟨q, ?_, rfl⟩)
  unfold lw_privs
  simp only [List.mem_append]
  exact Or.inr (Or.inr (Or.inl h))
theorem tp_4 (q : MethodName × Nat) (h : q ∈ lw_privs_4) : Cond.selects q.1.cls q.1 q.1 ∈ lw_tbl := by
  refine List.mem_append_left _ (List.mem_map.mpr ⟨q, ?_, rfl⟩)
  unfold lw_privs
  simp only [List.mem_append]
  exact Or.inr (Or.inr (Or.inr (Or.inl h)))
theorem tp_5 (q : MethodName × Nat) (h : q ∈ lw_privs_5) : Cond.selects q.1.cls q.1 q.1 ∈ lw_tbl := by
  refine List.mem_append_left _ (List.mem_map.mpr ⟨q, ?_, rfl⟩)
  unfold lw_privs
  simp only [List.mem_append]
  exact Or.inr (Or.inr (Or.inr (Or.inr (Or.inl h))))
theorem tp_6 (q : MethodName × Nat) (h : q ∈ lw_privs_6) : Cond.selects q.1.cls q.1 q.1 ∈ lw_tbl := by
  refine List.mem_append_left _ (List.mem_map.mpr ⟨q, ?_, rfl⟩)
  unfold lw_privs
  simp only [List.mem_append]
  exact Or.inr (Or.inr (Or.inr (Or.inr (Or.inr (Or.inl h)))))
theorem tp_7 (q : MethodName × Nat) (h : q ∈ lw_privs_7) : Cond.selects q.1.cls q.1 q.1 ∈ lw_tbl := by
  refine List.mem_append_left _ (List.mem_map.mpr ⟨q, ?_, rfl⟩)
  unfold lw_privs
  simp only [List.mem_append]
  exact Or.inr (Or.inr (Or.inr (Or.inr (Or.inr (Or.inr (h))))))
set_option maxRecDepth 20000 in
theorem cw_0 : ∀ w ∈ u_ws RX0 TX0 12, w ∈ lw_tbl ∧ ab_fit w = true := by
  show ∀ w ∈ ([.lays "TurnedHeadings$Book" "TurnedHeadings$Book" "size" "I", .laysFinal "TurnedHeadings$Book" "TurnedHeadings$Book" "addresses" "[I", .laysFinal "TurnedHeadings$Book" "TurnedHeadings$Book" "sizes" "[I", .laysFinal "TurnedHeadings$Book" "TurnedHeadings$Book" "roles" "[I", .laysFinal "TurnedHeadings$Book" "TurnedHeadings$Book" "leads" "[I", .laysFinal "TurnedHeadings$Book" "TurnedHeadings$Book" "names" "[J", .laysFinal "TurnedHeadings$Book" "TurnedHeadings$Book" "vias" "[J", .laysFinal "TurnedHeadings$Book" "TurnedHeadings$Book" "backs" "[J", .laysFinal "TurnedHeadings$Book" "TurnedHeadings$Book" "ways" "[I", .lays "TurnedHeadings$Book" "TurnedHeadings$Book" "sees" "I", .laysFinal "TurnedHeadings$Book" "TurnedHeadings$Book" "seeFrom" "[J", .laysFinal "TurnedHeadings$Book" "TurnedHeadings$Book" "seeTo" "[J"] : List Cond), _
  exact List.forall_mem_cons.mpr ⟨⟨tb_1 _ (List.mem_of_getElem? (i := 201) rfl), rfl⟩, List.forall_mem_cons.mpr ⟨⟨tb_1 _ (List.mem_of_getElem? (i := 203) rfl), rfl⟩, List.forall_mem_cons.mpr ⟨⟨tb_1 _ (List.mem_of_getElem? (i := 205) rfl), rfl⟩, List.forall_mem_cons.mpr ⟨⟨tb_1 _ (List.mem_of_getElem? (i := 207) rfl), rfl⟩, List.forall_mem_cons.mpr ⟨⟨tb_1 _ (List.mem_of_getElem? (i := 209) rfl), rfl⟩, List.forall_mem_cons.mpr ⟨⟨tb_1 _ (List.mem_of_getElem? (i := 211) rfl), rfl⟩, List.forall_mem_cons.mpr ⟨⟨tb_1 _ (List.mem_of_getElem? (i := 213) rfl), rfl⟩, List.forall_mem_cons.mpr ⟨⟨tb_1 _ (List.mem_of_getElem? (i := 215) rfl), rfl⟩, List.forall_mem_cons.mpr ⟨⟨tb_1 _ (List.mem_of_getElem? (i := 217) rfl), rfl⟩, List.forall_mem_cons.mpr ⟨⟨tb_1 _ (List.mem_of_getElem? (i := 219) rfl), rfl⟩, List.forall_mem_cons.mpr ⟨⟨tb_1 _ (List.mem_of_getElem? (i := 221) rfl), rfl⟩, List.forall_mem_cons.mpr ⟨⟨tb_1 _ (List.mem_of_getElem? (i := 223) rfl), rfl⟩, fun _ h => absurd h List.not_mem_nil⟩⟩⟩⟩⟩⟩⟩⟩⟩⟩⟩⟩
theorem cf_0 : ab_CF 0 RX0 TX0 12 := ⟨rfl, rfl, cw_0, tyX0_ok, nmX0, by decide +kernel, by decide⟩
set_option maxRecDepth 20000 in
theorem cw_1 : ∀ w ∈ u_ws RX1 TX1 2, w ∈ lw_tbl ∧ ab_fit w = true := by
  show ∀ w ∈ ([.laysFinal "TurnedHeadings$Bytes" "TurnedHeadings$Bytes" "bytes" "[B", .lays "TurnedHeadings$Bytes" "TurnedHeadings$Bytes" "size" "I"] : List Cond), _
  exact List.forall_mem_cons.mpr ⟨⟨tb_1 _ (List.mem_of_getElem? (i := 41) rfl), rfl⟩, List.forall_mem_cons.mpr ⟨⟨tb_1 _ (List.mem_of_getElem? (i := 43) rfl), rfl⟩, fun _ h => absurd h List.not_mem_nil⟩⟩
theorem cf_1 : ab_CF 1 RX1 TX1 2 := ⟨rfl, rfl, cw_1, tyX1_ok, nmX1, by decide +kernel, by decide⟩
set_option maxRecDepth 20000 in
theorem cw_2 : ∀ w ∈ u_ws RX2 TX2 11, w ∈ lw_tbl ∧ ab_fit w = true := by
  show ∀ w ∈ ([.lays "TurnedHeadings$Entry" "TurnedHeadings$Entry" "string" "I", .lays "TurnedHeadings$Entry" "TurnedHeadings$Entry" "address" "I", .lays "TurnedHeadings$Entry" "TurnedHeadings$Entry" "place" "I", .lays "TurnedHeadings$Entry" "TurnedHeadings$Entry" "lead" "I", .laysFinal "TurnedHeadings$Entry" "TurnedHeadings$Entry" "places" "[I", .laysFinal "TurnedHeadings$Entry" "TurnedHeadings$Entry" "words" "[I", .lays "TurnedHeadings$Entry" "TurnedHeadings$Entry" "above" "I", .lays "TurnedHeadings$Entry" "TurnedHeadings$Entry" "size" "I", .lays "TurnedHeadings$Entry" "TurnedHeadings$Entry" "gone" "I", .lays "TurnedHeadings$Entry" "TurnedHeadings$Entry" "line" "I", .lays "TurnedHeadings$Entry" "TurnedHeadings$Entry" "head" "I"] : List Cond), _
  exact List.forall_mem_cons.mpr ⟨⟨tb_2 _ (List.mem_of_getElem? (i := 101) rfl), rfl⟩, List.forall_mem_cons.mpr ⟨⟨tb_2 _ (List.mem_of_getElem? (i := 103) rfl), rfl⟩, List.forall_mem_cons.mpr ⟨⟨tb_2 _ (List.mem_of_getElem? (i := 105) rfl), rfl⟩, List.forall_mem_cons.mpr ⟨⟨tb_2 _ (List.mem_of_getElem? (i := 107) rfl), rfl⟩, List.forall_mem_cons.mpr ⟨⟨tb_2 _ (List.mem_of_getElem? (i := 109) rfl), rfl⟩, List.forall_mem_cons.mpr ⟨⟨tb_2 _ (List.mem_of_getElem? (i := 111) rfl), rfl⟩, List.forall_mem_cons.mpr ⟨⟨tb_2 _ (List.mem_of_getElem? (i := 113) rfl), rfl⟩, List.forall_mem_cons.mpr ⟨⟨tb_2 _ (List.mem_of_getElem? (i := 115) rfl), rfl⟩, List.forall_mem_cons.mpr ⟨⟨tb_2 _ (List.mem_of_getElem? (i := 117) rfl), rfl⟩, List.forall_mem_cons.mpr ⟨⟨tb_2 _ (List.mem_of_getElem? (i := 119) rfl), rfl⟩, List.forall_mem_cons.mpr ⟨⟨tb_2 _ (List.mem_of_getElem? (i := 121) rfl), rfl⟩, fun _ h => absurd h List.not_mem_nil⟩⟩⟩⟩⟩⟩⟩⟩⟩⟩⟩
theorem cf_2 : ab_CF 2 RX2 TX2 11 := ⟨rfl, rfl, cw_2, tyX2_ok, nmX2, by decide +kernel, by decide⟩
set_option maxRecDepth 20000 in
theorem cw_3 : ∀ w ∈ u_ws RX3 TX3 3, w ∈ lw_tbl ∧ ab_fit w = true := by
  show ∀ w ∈ ([.laysFinal "TurnedHeadings$History" "TurnedHeadings$History" "kept" "[LTurnedHeadings$Book;", .lays "TurnedHeadings$History" "TurnedHeadings$History" "first" "I", .lays "TurnedHeadings$History" "TurnedHeadings$History" "size" "I"] : List Cond), _
  exact List.forall_mem_cons.mpr ⟨⟨tb_1 _ (List.mem_of_getElem? (i := 239) rfl), rfl⟩, List.forall_mem_cons.mpr ⟨⟨tb_2 _ (List.mem_of_getElem? (i := 1) rfl), rfl⟩, List.forall_mem_cons.mpr ⟨⟨tb_2 _ (List.mem_of_getElem? (i := 3) rfl), rfl⟩, fun _ h => absurd h List.not_mem_nil⟩⟩⟩
theorem cf_3 : ab_CF 3 RX3 TX3 3 := ⟨rfl, rfl, cw_3, tyX3_ok, nmX3, by decide +kernel, by decide⟩
set_option maxRecDepth 20000 in
theorem cw_4 : ∀ w ∈ u_ws RX4 TX4 11, w ∈ lw_tbl ∧ ab_fit w = true := by
  show ∀ w ∈ ([.laysFinal "TurnedHeadings$Reader" "TurnedHeadings$Reader" "keyNames" "[J", .laysFinal "TurnedHeadings$Reader" "TurnedHeadings$Reader" "kinds" "[I", .laysFinal "TurnedHeadings$Reader" "TurnedHeadings$Reader" "starts" "[I", .laysFinal "TurnedHeadings$Reader" "TurnedHeadings$Reader" "values" "[J", .lays "TurnedHeadings$Reader" "TurnedHeadings$Reader" "tokens" "I", .lays "TurnedHeadings$Reader" "TurnedHeadings$Reader" "next" "I", .lays "TurnedHeadings$Reader" "TurnedHeadings$Reader" "lawsTold" "I", .lays "TurnedHeadings$Reader" "TurnedHeadings$Reader" "join" "J", .lays "TurnedHeadings$Reader" "TurnedHeadings$Reader" "lines" "I", .lays "TurnedHeadings$Reader" "TurnedHeadings$Reader" "fault" "I", .lays "TurnedHeadings$Reader" "TurnedHeadings$Reader" "place" "I"] : List Cond), _
  exact List.forall_mem_cons.mpr ⟨⟨tb_1 _ (List.mem_of_getElem? (i := 126) rfl), rfl⟩, List.forall_mem_cons.mpr ⟨⟨tb_1 _ (List.mem_of_getElem? (i := 128) rfl), rfl⟩, List.forall_mem_cons.mpr ⟨⟨tb_1 _ (List.mem_of_getElem? (i := 130) rfl), rfl⟩, List.forall_mem_cons.mpr ⟨⟨tb_1 _ (List.mem_of_getElem? (i := 132) rfl), rfl⟩, List.forall_mem_cons.mpr ⟨⟨tb_1 _ (List.mem_of_getElem? (i := 134) rfl), rfl⟩, List.forall_mem_cons.mpr ⟨⟨tb_1 _ (List.mem_of_getElem? (i := 136) rfl), rfl⟩, List.forall_mem_cons.mpr ⟨⟨tb_1 _ (List.mem_of_getElem? (i := 138) rfl), rfl⟩, List.forall_mem_cons.mpr ⟨⟨tb_1 _ (List.mem_of_getElem? (i := 140) rfl), rfl⟩, List.forall_mem_cons.mpr ⟨⟨tb_1 _ (List.mem_of_getElem? (i := 142) rfl), rfl⟩, List.forall_mem_cons.mpr ⟨⟨tb_1 _ (List.mem_of_getElem? (i := 144) rfl), rfl⟩, List.forall_mem_cons.mpr ⟨⟨tb_1 _ (List.mem_of_getElem? (i := 146) rfl), rfl⟩, fun _ h => absurd h List.not_mem_nil⟩⟩⟩⟩⟩⟩⟩⟩⟩⟩⟩
theorem cf_4 : ab_CF 4 RX4 TX4 11 := ⟨rfl, rfl, cw_4, tyX4_ok, nmX4, by decide +kernel, by decide⟩
set_option maxRecDepth 20000 in
theorem cw_5 : ∀ w ∈ u_ws RX5 TX5 6, w ∈ lw_tbl ∧ ab_fit w = true := by
  show ∀ w ∈ ([.lays "TurnedHeadings$Terms" "TurnedHeadings$Terms" "strings" "I", .laysFinal "TurnedHeadings$Terms" "TurnedHeadings$Terms" "sizes" "[I", .laysFinal "TurnedHeadings$Terms" "TurnedHeadings$Terms" "roles" "[I", .laysFinal "TurnedHeadings$Terms" "TurnedHeadings$Terms" "words" "[I", .laysFinal "TurnedHeadings$Terms" "TurnedHeadings$Terms" "vias" "[J", .laysFinal "TurnedHeadings$Terms" "TurnedHeadings$Terms" "backs" "[J"] : List Cond), _
  exact List.forall_mem_cons.mpr ⟨⟨tb_2 _ (List.mem_of_getElem? (i := 45) rfl), rfl⟩, List.forall_mem_cons.mpr ⟨⟨tb_2 _ (List.mem_of_getElem? (i := 47) rfl), rfl⟩, List.forall_mem_cons.mpr ⟨⟨tb_2 _ (List.mem_of_getElem? (i := 49) rfl), rfl⟩, List.forall_mem_cons.mpr ⟨⟨tb_2 _ (List.mem_of_getElem? (i := 51) rfl), rfl⟩, List.forall_mem_cons.mpr ⟨⟨tb_2 _ (List.mem_of_getElem? (i := 53) rfl), rfl⟩, List.forall_mem_cons.mpr ⟨⟨tb_2 _ (List.mem_of_getElem? (i := 55) rfl), rfl⟩, fun _ h => absurd h List.not_mem_nil⟩⟩⟩⟩⟩⟩
theorem cf_5 : ab_CF 5 RX5 TX5 6 := ⟨rfl, rfl, cw_5, tyX5_ok, nmX5, by decide +kernel, by decide⟩
set_option maxRecDepth 20000 in
theorem cw_6 : ∀ w ∈ u_ws RX6 TX6 6, w ∈ lw_tbl ∧ ab_fit w = true := by
  show ∀ w ∈ ([.laysFinal "TurnedHeadings$Turning" "TurnedHeadings$Turning" "entries" "[LTurnedHeadings$Entry;", .lays "TurnedHeadings$Turning" "TurnedHeadings$Turning" "size" "I", .laysFinal "TurnedHeadings$Turning" "TurnedHeadings$Turning" "lineFirst" "[I", .lays "TurnedHeadings$Turning" "TurnedHeadings$Turning" "lines" "I", .laysFinal "TurnedHeadings$Turning" "TurnedHeadings$Turning" "headFirst" "[I", .lays "TurnedHeadings$Turning" "TurnedHeadings$Turning" "heads" "I"] : List Cond), _
  exact List.forall_mem_cons.mpr ⟨⟨tb_2 _ (List.mem_of_getElem? (i := 136) rfl), rfl⟩, List.forall_mem_cons.mpr ⟨⟨tb_2 _ (List.mem_of_getElem? (i := 138) rfl), rfl⟩, List.forall_mem_cons.mpr ⟨⟨tb_2 _ (List.mem_of_getElem? (i := 140) rfl), rfl⟩, List.forall_mem_cons.mpr ⟨⟨tb_2 _ (List.mem_of_getElem? (i := 142) rfl), rfl⟩, List.forall_mem_cons.mpr ⟨⟨tb_2 _ (List.mem_of_getElem? (i := 144) rfl), rfl⟩, List.forall_mem_cons.mpr ⟨⟨tb_2 _ (List.mem_of_getElem? (i := 146) rfl), rfl⟩, fun _ h => absurd h List.not_mem_nil⟩⟩⟩⟩⟩⟩
theorem cf_6 : ab_CF 6 RX6 TX6 6 := ⟨rfl, rfl, cw_6, tyX6_ok, nmX6, by decide +kernel, by decide⟩
set_option maxRecDepth 20000 in
theorem cw_7 : ∀ w ∈ u_ws RX7 TX7 3, w ∈ lw_tbl ∧ ab_fit w = true := by
  show ∀ w ∈ ([.lays "TurnedHeadings$Words" "TurnedHeadings$Words" "size" "I", .laysFinal "TurnedHeadings$Words" "TurnedHeadings$Words" "names" "[J", .laysFinal "TurnedHeadings$Words" "TurnedHeadings$Words" "strings" "[I"] : List Cond), _
  exact List.forall_mem_cons.mpr ⟨⟨tb_2 _ (List.mem_of_getElem? (i := 19) rfl), rfl⟩, List.forall_mem_cons.mpr ⟨⟨tb_2 _ (List.mem_of_getElem? (i := 21) rfl), rfl⟩, List.forall_mem_cons.mpr ⟨⟨tb_2 _ (List.mem_of_getElem? (i := 23) rfl), rfl⟩, fun _ h => absurd h List.not_mem_nil⟩⟩⟩
theorem cf_7 : ab_CF 7 RX7 TX7 3 := ⟨rfl, rfl, cw_7, tyX7_ok, nmX7, by decide +kernel, by decide⟩
set_option maxRecDepth 20000 in
theorem cw_8 : ∀ w ∈ u_ws RX8 TX8 11, w ∈ lw_tbl ∧ ab_fit w = true := by
  show ∀ w ∈ ([.laysFinal "TurnedHeadings" "TurnedHeadings" "tape" "LTurnedHeadings$Bytes;", .laysFinal "TurnedHeadings" "TurnedHeadings" "out" "LTurnedHeadings$Bytes;", .laysFinal "TurnedHeadings" "TurnedHeadings" "printed" "LTurnedHeadings$Bytes;", .laysFinal "TurnedHeadings" "TurnedHeadings" "reader" "LTurnedHeadings$Reader;", .laysFinal "TurnedHeadings" "TurnedHeadings" "book" "LTurnedHeadings$Book;", .laysFinal "TurnedHeadings" "TurnedHeadings" "spare" "LTurnedHeadings$Book;", .laysFinal "TurnedHeadings" "TurnedHeadings" "history" "LTurnedHeadings$History;", .laysFinal "TurnedHeadings" "TurnedHeadings" "words" "LTurnedHeadings$Words;", .laysFinal "TurnedHeadings" "TurnedHeadings" "terms" "LTurnedHeadings$Terms;", .laysFinal "TurnedHeadings" "TurnedHeadings" "turning" "LTurnedHeadings$Turning;", .laysFinal "TurnedHeadings" "TurnedHeadings" "trial" "LTurnedHeadings$Turning;"] : List Cond), _
  exact List.forall_mem_cons.mpr ⟨⟨tb_2 _ (List.mem_of_getElem? (i := 160) rfl), rfl⟩, List.forall_mem_cons.mpr ⟨⟨tb_2 _ (List.mem_of_getElem? (i := 162) rfl), rfl⟩, List.forall_mem_cons.mpr ⟨⟨tb_2 _ (List.mem_of_getElem? (i := 164) rfl), rfl⟩, List.forall_mem_cons.mpr ⟨⟨tb_2 _ (List.mem_of_getElem? (i := 166) rfl), rfl⟩, List.forall_mem_cons.mpr ⟨⟨tb_2 _ (List.mem_of_getElem? (i := 168) rfl), rfl⟩, List.forall_mem_cons.mpr ⟨⟨tb_2 _ (List.mem_of_getElem? (i := 170) rfl), rfl⟩, List.forall_mem_cons.mpr ⟨⟨tb_2 _ (List.mem_of_getElem? (i := 172) rfl), rfl⟩, List.forall_mem_cons.mpr ⟨⟨tb_2 _ (List.mem_of_getElem? (i := 174) rfl), rfl⟩, List.forall_mem_cons.mpr ⟨⟨tb_2 _ (List.mem_of_getElem? (i := 176) rfl), rfl⟩, List.forall_mem_cons.mpr ⟨⟨tb_2 _ (List.mem_of_getElem? (i := 178) rfl), rfl⟩, List.forall_mem_cons.mpr ⟨⟨tb_2 _ (List.mem_of_getElem? (i := 180) rfl), rfl⟩, fun _ h => absurd h List.not_mem_nil⟩⟩⟩⟩⟩⟩⟩⟩⟩⟩⟩
theorem cf_8 : ab_CF 8 RX8 TX8 11 := ⟨rfl, rfl, cw_8, tyX8_ok, nmX8, by decide +kernel, by decide⟩
set_option maxRecDepth 20000 in
theorem cw_9 : ∀ w ∈ u_ws RX9 TX9 36, w ∈ lw_tbl ∧ ab_fit w = true := by
  show ∀ w ∈ ([.lays "TurnedHeadingsModel" "TurnedHeadingsModel" "thrown" "I", .laysFinal "TurnedHeadingsModel" "TurnedHeadingsModel" "now" "[J", .laysFinal "TurnedHeadingsModel" "TurnedHeadingsModel" "fresh" "[J", .laysFinal "TurnedHeadingsModel" "TurnedHeadingsModel" "tape" "[B", .lays "TurnedHeadingsModel" "TurnedHeadingsModel" "taped" "I", .lays "TurnedHeadingsModel" "TurnedHeadingsModel" "size" "I", .lays "TurnedHeadingsModel" "TurnedHeadingsModel" "at" "I", .lays "TurnedHeadingsModel" "TurnedHeadingsModel" "from" "I", .lays "TurnedHeadingsModel" "TurnedHeadingsModel" "token" "I", .lays "TurnedHeadingsModel" "TurnedHeadingsModel" "value" "I", .lays "TurnedHeadingsModel" "TurnedHeadingsModel" "faultKind" "I", .lays "TurnedHeadingsModel" "TurnedHeadingsModel" "faultPlace" "I", .lays "TurnedHeadingsModel" "TurnedHeadingsModel" "lawsTold" "I", .laysFinal "TurnedHeadingsModel" "TurnedHeadingsModel" "word" "[J", .lays "TurnedHeadingsModel" "TurnedHeadingsModel" "words" "I", .laysFinal "TurnedHeadingsModel" "TurnedHeadingsModel" "wordOf" "[I", .lays "TurnedHeadingsModel" "TurnedHeadingsModel" "entries" "I", .lays "TurnedHeadingsModel" "TurnedHeadingsModel" "lines" "I", .lays "TurnedHeadingsModel" "TurnedHeadingsModel" "heads" "I", .laysFinal "TurnedHeadingsModel" "TurnedHeadingsModel" "stringOf" "[I", .laysFinal "TurnedHeadingsModel" "TurnedHeadingsModel" "termOf" "[I", .laysFinal "TurnedHeadingsModel" "TurnedHeadingsModel" "doubles" "[I", .laysFinal "TurnedHeadingsModel" "TurnedHeadingsModel" "lineOf" "[I", .laysFinal "TurnedHeadingsModel" "TurnedHeadingsModel" "headOf" "[I", .laysFinal "TurnedHeadingsModel" "TurnedHeadingsModel" "rows" "[I", .lays "TurnedHeadingsModel" "TurnedHeadingsModel" "gone" "I", .laysFinal "TurnedHeadingsModel" "TurnedHeadingsModel" "order" "[I", .laysFinal "TurnedHeadingsModel" "TurnedHeadingsModel" "out" "[B", .lays "TurnedHeadingsModel" "TurnedHeadingsModel" "outMany" "I", .laysFinal "TurnedHeadingsModel" "TurnedHeadingsModel" "printed" "[B", .lays "TurnedHeadingsModel" "TurnedHeadingsModel" "printedMany" "I", .laysFinal "TurnedHeadingsModel" "TurnedHeadingsModel" "lowOf" "[J", .laysFinal "TurnedHeadingsModel" "TurnedHeadingsModel" "highOf" "[J", .laysFinal "TurnedHeadingsModel" "TurnedHeadingsModel" "far" "[I", .lays "TurnedHeadingsModel" "TurnedHeadingsModel" "acts" "I", .laysFinal "TurnedHeadingsModel" "TurnedHeadingsModel" "kept" "[J"] : List Cond), _
  exact List.forall_mem_cons.mpr ⟨⟨tb_5 _ (List.mem_of_getElem? (i := 121) rfl), rfl⟩, List.forall_mem_cons.mpr ⟨⟨tb_5 _ (List.mem_of_getElem? (i := 123) rfl), rfl⟩, List.forall_mem_cons.mpr ⟨⟨tb_5 _ (List.mem_of_getElem? (i := 125) rfl), rfl⟩, List.forall_mem_cons.mpr ⟨⟨tb_5 _ (List.mem_of_getElem? (i := 127) rfl), rfl⟩, List.forall_mem_cons.mpr ⟨⟨tb_5 _ (List.mem_of_getElem? (i := 129) rfl), rfl⟩, List.forall_mem_cons.mpr ⟨⟨tb_5 _ (List.mem_of_getElem? (i := 131) rfl), rfl⟩, List.forall_mem_cons.mpr ⟨⟨tb_5 _ (List.mem_of_getElem? (i := 133) rfl), rfl⟩, List.forall_mem_cons.mpr ⟨⟨tb_5 _ (List.mem_of_getElem? (i := 135) rfl), rfl⟩, List.forall_mem_cons.mpr ⟨⟨tb_5 _ (List.mem_of_getElem? (i := 137) rfl), rfl⟩, List.forall_mem_cons.mpr ⟨⟨tb_5 _ (List.mem_of_getElem? (i := 139) rfl), rfl⟩, List.forall_mem_cons.mpr ⟨⟨tb_5 _ (List.mem_of_getElem? (i := 141) rfl), rfl⟩, List.forall_mem_cons.mpr ⟨⟨tb_5 _ (List.mem_of_getElem? (i := 143) rfl), rfl⟩, List.forall_mem_cons.mpr ⟨⟨tb_5 _ (List.mem_of_getElem? (i := 145) rfl), rfl⟩, List.forall_mem_cons.mpr ⟨⟨tb_5 _ (List.mem_of_getElem? (i := 147) rfl), rfl⟩, List.forall_mem_cons.mpr ⟨⟨tb_5 _ (List.mem_of_getElem? (i := 149) rfl), rfl⟩, List.forall_mem_cons.mpr ⟨⟨tb_5 _ (List.mem_of_getElem? (i := 151) rfl), rfl⟩, List.forall_mem_cons.mpr ⟨⟨tb_5 _ (List.mem_of_getElem? (i := 153) rfl), rfl⟩, List.forall_mem_cons.mpr ⟨⟨tb_5 _ (List.mem_of_getElem? (i := 155) rfl), rfl⟩, List.forall_mem_cons.mpr ⟨⟨tb_5 _ (List.mem_of_getElem? (i := 157) rfl), rfl⟩, List.forall_mem_cons.mpr ⟨⟨tb_5 _ (List.mem_of_getElem? (i := 159) rfl), rfl⟩, List.forall_mem_cons.mpr ⟨⟨tb_5 _ (List.mem_of_getElem? (i := 161) rfl), rfl⟩, List.forall_mem_cons.mpr ⟨⟨tb_5 _ (List.mem_of_getElem? (i := 163) rfl), rfl⟩, List.forall_mem_cons.mpr ⟨⟨tb_5 _ (List.mem_of_getElem? (i := 165) rfl), rfl⟩, List.forall_mem_cons.mpr ⟨⟨tb_5 _ (List.mem_of_getElem? (i := 167) rfl), rfl⟩, List.forall_mem_cons.mpr ⟨⟨tb_5 _ (List.mem_of_getElem? (i := 169) rfl), rfl⟩, List.forall_mem_cons.mpr ⟨⟨tb_5 _ (List.mem_of_getElem? (i := 171) rfl), rfl⟩, List.forall_mem_cons.mpr ⟨⟨tb_5 _ (List.mem_of_getElem? (i := 173) rfl), rfl⟩, List.forall_mem_cons.mpr ⟨⟨tb_5 _ (List.mem_of_getElem? (i := 175) rfl), rfl⟩, List.forall_mem_cons.mpr ⟨⟨tb_5 _ (List.mem_of_getElem? (i := 177) rfl), rfl⟩, List.forall_mem_cons.mpr ⟨⟨tb_5 _ (List.mem_of_getElem? (i := 179) rfl), rfl⟩, List.forall_mem_cons.mpr ⟨⟨tb_5 _ (List.mem_of_getElem? (i := 181) rfl), rfl⟩, List.forall_mem_cons.mpr ⟨⟨tb_5 _ (List.mem_of_getElem? (i := 183) rfl), rfl⟩, List.forall_mem_cons.mpr ⟨⟨tb_5 _ (List.mem_of_getElem? (i := 185) rfl), rfl⟩, List.forall_mem_cons.mpr ⟨⟨tb_5 _ (List.mem_of_getElem? (i := 187) rfl), rfl⟩, List.forall_mem_cons.mpr ⟨⟨tb_5 _ (List.mem_of_getElem? (i := 189) rfl), rfl⟩, List.forall_mem_cons.mpr ⟨⟨tb_5 _ (List.mem_of_getElem? (i := 191) rfl), rfl⟩, fun _ h => absurd h List.not_mem_nil⟩⟩⟩⟩⟩⟩⟩⟩⟩⟩⟩⟩⟩⟩⟩⟩⟩⟩⟩⟩⟩⟩⟩⟩⟩⟩⟩⟩⟩⟩⟩⟩⟩⟩⟩⟩
theorem cf_9 : ab_CF 9 RX9 TX9 36 := ⟨rfl, rfl, cw_9, tyX9_ok, nmX9, by decide +kernel, by decide⟩
theorem ab_k_m6 : ab_i32 (-6) := ⟨by decide, by decide⟩
theorem ab_k_m5 : ab_i32 (-5) := ⟨by decide, by decide⟩
theorem ab_k_m4 : ab_i32 (-4) := ⟨by decide, by decide⟩
theorem ab_k_m2 : ab_i32 (-2) := ⟨by decide, by decide⟩
theorem ab_k_m1 : ab_i32 (-1) := ⟨by decide, by decide⟩
theorem ab_k_0 : ab_i32 (0) := ⟨by decide, by decide⟩
theorem ab_k_1 : ab_i32 (1) := ⟨by decide, by decide⟩
theorem ab_k_2 : ab_i32 (2) := ⟨by decide, by decide⟩
theorem ab_k_3 : ab_i32 (3) := ⟨by decide, by decide⟩
theorem ab_k_4 : ab_i32 (4) := ⟨by decide, by decide⟩
theorem ab_k_5 : ab_i32 (5) := ⟨by decide, by decide⟩
theorem ab_k_6 : ab_i32 (6) := ⟨by decide, by decide⟩
theorem ab_k_7 : ab_i32 (7) := ⟨by decide, by decide⟩
theorem ab_k_8 : ab_i32 (8) := ⟨by decide, by decide⟩
theorem ab_k_9 : ab_i32 (9) := ⟨by decide, by decide⟩
theorem ab_k_10 : ab_i32 (10) := ⟨by decide, by decide⟩
theorem ab_k_12 : ab_i32 (12) := ⟨by decide, by decide⟩
theorem ab_k_13 : ab_i32 (13) := ⟨by decide, by decide⟩
theorem ab_k_14 : ab_i32 (14) := ⟨by decide, by decide⟩
theorem ab_k_15 : ab_i32 (15) := ⟨by decide, by decide⟩
theorem ab_k_16 : ab_i32 (16) := ⟨by decide, by decide⟩
theorem ab_k_20 : ab_i32 (20) := ⟨by decide, by decide⟩
theorem ab_k_24 : ab_i32 (24) := ⟨by decide, by decide⟩
theorem ab_k_30 : ab_i32 (30) := ⟨by decide, by decide⟩
theorem ab_k_31 : ab_i32 (31) := ⟨by decide, by decide⟩
theorem ab_k_32 : ab_i32 (32) := ⟨by decide, by decide⟩
theorem ab_k_36 : ab_i32 (36) := ⟨by decide, by decide⟩
theorem ab_k_44 : ab_i32 (44) := ⟨by decide, by decide⟩
theorem ab_k_46 : ab_i32 (46) := ⟨by decide, by decide⟩
theorem ab_k_48 : ab_i32 (48) := ⟨by decide, by decide⟩
theorem ab_k_57 : ab_i32 (57) := ⟨by decide, by decide⟩
theorem ab_k_58 : ab_i32 (58) := ⟨by decide, by decide⟩
theorem ab_k_59 : ab_i32 (59) := ⟨by decide, by decide⟩
theorem ab_k_63 : ab_i32 (63) := ⟨by decide, by decide⟩
theorem ab_k_72 : ab_i32 (72) := ⟨by decide, by decide⟩
theorem ab_k_73 : ab_i32 (73) := ⟨by decide, by decide⟩
theorem ab_k_96 : ab_i32 (96) := ⟨by decide, by decide⟩
theorem ab_k_97 : ab_i32 (97) := ⟨by decide, by decide⟩
theorem ab_k_100 : ab_i32 (100) := ⟨by decide, by decide⟩
theorem ab_k_122 : ab_i32 (122) := ⟨by decide, by decide⟩
theorem ab_k_160 : ab_i32 (160) := ⟨by decide, by decide⟩
theorem ab_k_255 : ab_i32 (255) := ⟨by decide, by decide⟩
theorem ab_k_384 : ab_i32 (384) := ⟨by decide, by decide⟩
theorem ab_k_400 : ab_i32 (400) := ⟨by decide, by decide⟩
theorem ab_k_416 : ab_i32 (416) := ⟨by decide, by decide⟩
theorem ab_k_864 : ab_i32 (864) := ⟨by decide, by decide⟩
theorem ab_k_1000 : ab_i32 (1000) := ⟨by decide, by decide⟩
theorem ab_k_1200 : ab_i32 (1200) := ⟨by decide, by decide⟩
theorem ab_k_1201 : ab_i32 (1201) := ⟨by decide, by decide⟩
theorem ab_k_2000 : ab_i32 (2000) := ⟨by decide, by decide⟩
theorem ab_k_4160 : ab_i32 (4160) := ⟨by decide, by decide⟩
theorem ab_k_99999 : ab_i32 (99999) := ⟨by decide, by decide⟩
theorem ab_k_252645135 : ab_i32 (252645135) := ⟨by decide, by decide⟩
theorem ab_k_858993459 : ab_i32 (858993459) := ⟨by decide, by decide⟩
theorem ab_k_1431655765 : ab_i32 (1431655765) := ⟨by decide, by decide⟩
theorem ab_kl_m1 : ab_i64 (-1) := ⟨by decide, by decide⟩
theorem ab_kl_0 : ab_i64 (0) := ⟨by decide, by decide⟩
theorem ab_kl_1 : ab_i64 (1) := ⟨by decide, by decide⟩
theorem ab_kl_2 : ab_i64 (2) := ⟨by decide, by decide⟩
theorem ab_kl_3 : ab_i64 (3) := ⟨by decide, by decide⟩
theorem ab_kl_4 : ab_i64 (4) := ⟨by decide, by decide⟩
theorem ab_kl_5 : ab_i64 (5) := ⟨by decide, by decide⟩
theorem ab_kl_6 : ab_i64 (6) := ⟨by decide, by decide⟩
theorem ab_kl_10 : ab_i64 (10) := ⟨by decide, by decide⟩
theorem ab_kl_12 : ab_i64 (12) := ⟨by decide, by decide⟩
theorem ab_kl_31 : ab_i64 (31) := ⟨by decide, by decide⟩
theorem ab_kl_48 : ab_i64 (48) := ⟨by decide, by decide⟩
theorem ab_kl_57 : ab_i64 (57) := ⟨by decide, by decide⟩
theorem ab_kl_97 : ab_i64 (97) := ⟨by decide, by decide⟩
theorem ab_kl_122 : ab_i64 (122) := ⟨by decide, by decide⟩
theorem ab_kl_999 : ab_i64 (999) := ⟨by decide, by decide⟩
theorem ab_kl_1000 : ab_i64 (1000) := ⟨by decide, by decide⟩
theorem ab_kl_1073741824 : ab_i64 (1073741824) := ⟨by decide, by decide⟩
theorem ab_p8_m6 : (Int8.ofInt (-6)).toInt32 = Int32.ofInt (-6) := by decide +kernel
theorem ab_p8_m5 : (Int8.ofInt (-5)).toInt32 = Int32.ofInt (-5) := by decide +kernel
theorem ab_p8_m4 : (Int8.ofInt (-4)).toInt32 = Int32.ofInt (-4) := by decide +kernel
theorem ab_p8_m2 : (Int8.ofInt (-2)).toInt32 = Int32.ofInt (-2) := by decide +kernel
theorem ab_p8_6 : (Int8.ofInt (6)).toInt32 = Int32.ofInt (6) := by decide +kernel
theorem ab_p8_7 : (Int8.ofInt (7)).toInt32 = Int32.ofInt (7) := by decide +kernel
theorem ab_p8_8 : (Int8.ofInt (8)).toInt32 = Int32.ofInt (8) := by decide +kernel
theorem ab_p8_9 : (Int8.ofInt (9)).toInt32 = Int32.ofInt (9) := by decide +kernel
theorem ab_p8_10 : (Int8.ofInt (10)).toInt32 = Int32.ofInt (10) := by decide +kernel
theorem ab_p8_12 : (Int8.ofInt (12)).toInt32 = Int32.ofInt (12) := by decide +kernel
theorem ab_p8_13 : (Int8.ofInt (13)).toInt32 = Int32.ofInt (13) := by decide +kernel
theorem ab_p8_14 : (Int8.ofInt (14)).toInt32 = Int32.ofInt (14) := by decide +kernel
theorem ab_p8_15 : (Int8.ofInt (15)).toInt32 = Int32.ofInt (15) := by decide +kernel
theorem ab_p8_16 : (Int8.ofInt (16)).toInt32 = Int32.ofInt (16) := by decide +kernel
theorem ab_p8_20 : (Int8.ofInt (20)).toInt32 = Int32.ofInt (20) := by decide +kernel
theorem ab_p8_24 : (Int8.ofInt (24)).toInt32 = Int32.ofInt (24) := by decide +kernel
theorem ab_p8_30 : (Int8.ofInt (30)).toInt32 = Int32.ofInt (30) := by decide +kernel
theorem ab_p8_31 : (Int8.ofInt (31)).toInt32 = Int32.ofInt (31) := by decide +kernel
theorem ab_p8_32 : (Int8.ofInt (32)).toInt32 = Int32.ofInt (32) := by decide +kernel
theorem ab_p8_36 : (Int8.ofInt (36)).toInt32 = Int32.ofInt (36) := by decide +kernel
theorem ab_p8_44 : (Int8.ofInt (44)).toInt32 = Int32.ofInt (44) := by decide +kernel
theorem ab_p8_46 : (Int8.ofInt (46)).toInt32 = Int32.ofInt (46) := by decide +kernel
theorem ab_p8_48 : (Int8.ofInt (48)).toInt32 = Int32.ofInt (48) := by decide +kernel
theorem ab_p8_57 : (Int8.ofInt (57)).toInt32 = Int32.ofInt (57) := by decide +kernel
theorem ab_p8_58 : (Int8.ofInt (58)).toInt32 = Int32.ofInt (58) := by decide +kernel
theorem ab_p8_59 : (Int8.ofInt (59)).toInt32 = Int32.ofInt (59) := by decide +kernel
theorem ab_p8_63 : (Int8.ofInt (63)).toInt32 = Int32.ofInt (63) := by decide +kernel
theorem ab_p8_72 : (Int8.ofInt (72)).toInt32 = Int32.ofInt (72) := by decide +kernel
theorem ab_p8_73 : (Int8.ofInt (73)).toInt32 = Int32.ofInt (73) := by decide +kernel
theorem ab_p8_96 : (Int8.ofInt (96)).toInt32 = Int32.ofInt (96) := by decide +kernel
theorem ab_p8_97 : (Int8.ofInt (97)).toInt32 = Int32.ofInt (97) := by decide +kernel
theorem ab_p8_100 : (Int8.ofInt (100)).toInt32 = Int32.ofInt (100) := by decide +kernel
theorem ab_p8_122 : (Int8.ofInt (122)).toInt32 = Int32.ofInt (122) := by decide +kernel
theorem ab_p16_160 : (Int16.ofInt (160)).toInt32 = Int32.ofInt (160) := by decide +kernel
theorem ab_p16_255 : (Int16.ofInt (255)).toInt32 = Int32.ofInt (255) := by decide +kernel
theorem ab_p16_384 : (Int16.ofInt (384)).toInt32 = Int32.ofInt (384) := by decide +kernel
theorem ab_p16_400 : (Int16.ofInt (400)).toInt32 = Int32.ofInt (400) := by decide +kernel
theorem ab_p16_416 : (Int16.ofInt (416)).toInt32 = Int32.ofInt (416) := by decide +kernel
theorem ab_p16_864 : (Int16.ofInt (864)).toInt32 = Int32.ofInt (864) := by decide +kernel
theorem ab_p16_1000 : (Int16.ofInt (1000)).toInt32 = Int32.ofInt (1000) := by decide +kernel
theorem ab_p16_1200 : (Int16.ofInt (1200)).toInt32 = Int32.ofInt (1200) := by decide +kernel
theorem ab_p16_1201 : (Int16.ofInt (1201)).toInt32 = Int32.ofInt (1201) := by decide +kernel
theorem ab_p16_2000 : (Int16.ofInt (2000)).toInt32 = Int32.ofInt (2000) := by decide +kernel
theorem ab_p16_4160 : (Int16.ofInt (4160)).toInt32 = Int32.ofInt (4160) := by decide +kernel
theorem ab_ld_RX9_122 : Cond.constant RX9 122 (Int32.ofInt (99999)) ∈ lw_tbl := tb_5 _ (List.mem_of_getElem? (i := 229) rfl)
theorem ab_ld_RJ6_265 : Cond.constant RJ6 265 (Int32.ofInt (1431655765)) ∈ lw_tbl := tb_3 _ (List.mem_of_getElem? (i := 175) rfl)
theorem ab_ld_RJ6_266 : Cond.constant RJ6 266 (Int32.ofInt (858993459)) ∈ lw_tbl := tb_3 _ (List.mem_of_getElem? (i := 176) rfl)
theorem ab_ld_RJ6_267 : Cond.constant RJ6 267 (Int32.ofInt (252645135)) ∈ lw_tbl := tb_3 _ (List.mem_of_getElem? (i := 177) rfl)
theorem ab_ld2_RX8_181 : Cond.constantLong RX8 181 (Int64.ofInt (-1)) ∈ lw_tbl := tb_3 _ (List.mem_of_getElem? (i := 223) rfl)
theorem ab_ld2_RX8_360 : Cond.constantLong RX8 360 (Int64.ofInt (1073741824)) ∈ lw_tbl := tb_1 _ (List.mem_of_getElem? (i := 111) rfl)
theorem ab_ld2_RX1_33 : Cond.constantLong RX1 33 (Int64.ofInt (-1)) ∈ lw_tbl := tb_3 _ (List.mem_of_getElem? (i := 219) rfl)
theorem ab_ld2_RX4_118 : Cond.constantLong RX4 118 (Int64.ofInt (10)) ∈ lw_tbl := tb_2 _ (List.mem_of_getElem? (i := 226) rfl)
theorem ab_ld2_RX4_120 : Cond.constantLong RX4 120 (Int64.ofInt (48)) ∈ lw_tbl := tb_2 _ (List.mem_of_getElem? (i := 227) rfl)
theorem ab_ld2_RX4_122 : Cond.constantLong RX4 122 (Int64.ofInt (1000)) ∈ lw_tbl := tb_2 _ (List.mem_of_getElem? (i := 228) rfl)
theorem ab_ld2_RX4_130 : Cond.constantLong RX4 130 (Int64.ofInt (1073741824)) ∈ lw_tbl := tb_2 _ (List.mem_of_getElem? (i := 232) rfl)
theorem ab_ld2_RX9_111 : Cond.constantLong RX9 111 (Int64.ofInt (97)) ∈ lw_tbl := tb_5 _ (List.mem_of_getElem? (i := 225) rfl)
theorem ab_ld2_RX9_113 : Cond.constantLong RX9 113 (Int64.ofInt (122)) ∈ lw_tbl := tb_5 _ (List.mem_of_getElem? (i := 226) rfl)
theorem ab_ld2_RX9_115 : Cond.constantLong RX9 115 (Int64.ofInt (48)) ∈ lw_tbl := tb_5 _ (List.mem_of_getElem? (i := 227) rfl)
theorem ab_ld2_RX9_117 : Cond.constantLong RX9 117 (Int64.ofInt (57)) ∈ lw_tbl := tb_5 _ (List.mem_of_getElem? (i := 228) rfl)
theorem ab_ld2_RX9_214 : Cond.constantLong RX9 214 (Int64.ofInt (999)) ∈ lw_tbl := tb_6 _ (List.mem_of_getElem? (i := 62) rfl)
theorem ab_ld2_RX9_229 : Cond.constantLong RX9 229 (Int64.ofInt (12)) ∈ lw_tbl := tb_6 _ (List.mem_of_getElem? (i := 30) rfl)
theorem ab_ld2_RX9_312 : Cond.constantLong RX9 312 (Int64.ofInt (6)) ∈ lw_tbl := tb_6 _ (List.mem_of_getElem? (i := 110) rfl)
theorem ab_ld2_RX9_326 : Cond.constantLong RX9 326 (Int64.ofInt (4)) ∈ lw_tbl := tb_6 _ (List.mem_of_getElem? (i := 182) rfl)
theorem ab_ld2_RX9_338 : Cond.constantLong RX9 338 (Int64.ofInt (31)) ∈ lw_tbl := tb_6 _ (List.mem_of_getElem? (i := 205) rfl)
theorem ab_ld2_RX9_349 : Cond.constantLong RX9 349 (Int64.ofInt (5)) ∈ lw_tbl := tb_6 _ (List.mem_of_getElem? (i := 218) rfl)
theorem ab_ld2_RX9_360 : Cond.constantLong RX9 360 (Int64.ofInt (3)) ∈ lw_tbl := tb_7 _ (List.mem_of_getElem? (i := 7) rfl)
theorem ab_ld2_RX9_406 : Cond.constantLong RX9 406 (Int64.ofInt (-1)) ∈ lw_tbl := tb_7 _ (List.mem_of_getElem? (i := 95) rfl)
theorem ab_ld2_RX9_438 : Cond.constantLong RX9 438 (Int64.ofInt (2)) ∈ lw_tbl := tb_7 _ (List.mem_of_getElem? (i := 181) rfl)
theorem fl_RX8_14 : ab_FL RX8 14 8 0 2 true := ⟨RX8, TX8, 11, cf_8, by decide, tb_2 _ (List.mem_of_getElem? (i := 149) rfl), rfl, rfl⟩
theorem fl_RX8_18 : ab_FL RX8 18 8 1 2 true := ⟨RX8, TX8, 11, cf_8, by decide, tb_2 _ (List.mem_of_getElem? (i := 150) rfl), rfl, rfl⟩
theorem fl_RX8_21 : ab_FL RX8 21 8 2 2 true := ⟨RX8, TX8, 11, cf_8, by decide, tb_2 _ (List.mem_of_getElem? (i := 151) rfl), rfl, rfl⟩
theorem fl_RX8_27 : ab_FL RX8 27 8 3 2 true := ⟨RX8, TX8, 11, cf_8, by decide, tb_2 _ (List.mem_of_getElem? (i := 152) rfl), rfl, rfl⟩
theorem fl_RX8_34 : ab_FL RX8 34 8 4 2 true := ⟨RX8, TX8, 11, cf_8, by decide, tb_2 _ (List.mem_of_getElem? (i := 153) rfl), rfl, rfl⟩
theorem fl_RX8_38 : ab_FL RX8 38 8 5 2 true := ⟨RX8, TX8, 11, cf_8, by decide, tb_2 _ (List.mem_of_getElem? (i := 154) rfl), rfl, rfl⟩
theorem fl_RX8_44 : ab_FL RX8 44 8 6 2 true := ⟨RX8, TX8, 11, cf_8, by decide, tb_2 _ (List.mem_of_getElem? (i := 155) rfl), rfl, rfl⟩
theorem fl_RX8_51 : ab_FL RX8 51 8 7 2 true := ⟨RX8, TX8, 11, cf_8, by decide, tb_2 _ (List.mem_of_getElem? (i := 156) rfl), rfl, rfl⟩
theorem fl_RX8_58 : ab_FL RX8 58 8 8 2 true := ⟨RX8, TX8, 11, cf_8, by decide, tb_2 _ (List.mem_of_getElem? (i := 157) rfl), rfl, rfl⟩
theorem fl_RX8_65 : ab_FL RX8 65 8 9 2 true := ⟨RX8, TX8, 11, cf_8, by decide, tb_2 _ (List.mem_of_getElem? (i := 158) rfl), rfl, rfl⟩
theorem fl_RX8_69 : ab_FL RX8 69 8 10 2 true := ⟨RX8, TX8, 11, cf_8, by decide, tb_2 _ (List.mem_of_getElem? (i := 159) rfl), rfl, rfl⟩
theorem fl_RX8_72 : ab_FL RX8 72 1 1 0 false := ⟨RX1, TX1, 2, cf_1, by decide, tb_1 _ (List.mem_of_getElem? (i := 39) rfl), rfl, rfl⟩
theorem fl_RX8_93 : ab_FL RX8 93 4 8 0 false := ⟨RX4, TX4, 11, cf_4, by decide, tb_1 _ (List.mem_of_getElem? (i := 121) rfl), rfl, rfl⟩
theorem fl_RX8_96 : ab_FL RX8 96 4 9 0 false := ⟨RX4, TX4, 11, cf_4, by decide, tb_1 _ (List.mem_of_getElem? (i := 123) rfl), rfl, rfl⟩
theorem fl_RX8_99 : ab_FL RX8 99 4 10 0 false := ⟨RX4, TX4, 11, cf_4, by decide, tb_1 _ (List.mem_of_getElem? (i := 125) rfl), rfl, rfl⟩
theorem fl_RX8_102 : ab_FL RX8 102 0 0 0 false := ⟨RX0, TX0, 12, cf_0, by decide, tb_1 _ (List.mem_of_getElem? (i := 161) rfl), rfl, rfl⟩
theorem fl_RX8_107 : ab_FL RX8 107 0 9 0 false := ⟨RX0, TX0, 12, cf_0, by decide, tb_1 _ (List.mem_of_getElem? (i := 197) rfl), rfl, rfl⟩
theorem fl_RX8_110 : ab_FL RX8 110 7 0 0 false := ⟨RX7, TX7, 3, cf_7, by decide, tb_2 _ (List.mem_of_getElem? (i := 13) rfl), rfl, rfl⟩
theorem fl_RX8_111 : ab_FL RX8 111 6 1 0 false := ⟨RX6, TX6, 6, cf_6, by decide, tb_2 _ (List.mem_of_getElem? (i := 127) rfl), rfl, rfl⟩
theorem fl_RX8_112 : ab_FL RX8 112 6 3 0 false := ⟨RX6, TX6, 6, cf_6, by decide, tb_2 _ (List.mem_of_getElem? (i := 131) rfl), rfl, rfl⟩
theorem fl_RX8_113 : ab_FL RX8 113 6 5 0 false := ⟨RX6, TX6, 6, cf_6, by decide, tb_2 _ (List.mem_of_getElem? (i := 135) rfl), rfl, rfl⟩
theorem fl_RX8_116 : ab_FL RX8 116 3 2 0 false := ⟨RX3, TX3, 3, cf_3, by decide, tb_1 _ (List.mem_of_getElem? (i := 238) rfl), rfl, rfl⟩
theorem fl_RX8_121 : ab_FL RX8 121 0 1 2 true := ⟨RX0, TX0, 12, cf_0, by decide, tb_1 _ (List.mem_of_getElem? (i := 165) rfl), rfl, rfl⟩
theorem fl_RX8_125 : ab_FL RX8 125 0 2 2 true := ⟨RX0, TX0, 12, cf_0, by decide, tb_1 _ (List.mem_of_getElem? (i := 171) rfl), rfl, rfl⟩
theorem fl_RX8_142 : ab_FL RX8 142 0 3 2 true := ⟨RX0, TX0, 12, cf_0, by decide, tb_1 _ (List.mem_of_getElem? (i := 176) rfl), rfl, rfl⟩
theorem fl_RX8_145 : ab_FL RX8 145 0 4 2 true := ⟨RX0, TX0, 12, cf_0, by decide, tb_1 _ (List.mem_of_getElem? (i := 180) rfl), rfl, rfl⟩
theorem fl_RX8_148 : ab_FL RX8 148 5 3 2 true := ⟨RX5, TX5, 6, cf_5, by decide, tb_2 _ (List.mem_of_getElem? (i := 38) rfl), rfl, rfl⟩
theorem fl_RX8_150 : ab_FL RX8 150 5 4 2 true := ⟨RX5, TX5, 6, cf_5, by decide, tb_2 _ (List.mem_of_getElem? (i := 40) rfl), rfl, rfl⟩
theorem fl_RX8_158 : ab_FL RX8 158 5 5 2 true := ⟨RX5, TX5, 6, cf_5, by decide, tb_2 _ (List.mem_of_getElem? (i := 43) rfl), rfl, rfl⟩
theorem fl_RX8_164 : ab_FL RX8 164 7 1 2 true := ⟨RX7, TX7, 3, cf_7, by decide, tb_2 _ (List.mem_of_getElem? (i := 15) rfl), rfl, rfl⟩
theorem fl_RX8_174 : ab_FL RX8 174 0 8 2 true := ⟨RX0, TX0, 12, cf_0, by decide, tb_1 _ (List.mem_of_getElem? (i := 194) rfl), rfl, rfl⟩
theorem fl_RX8_196 : ab_FL RX8 196 6 0 2 true := ⟨RX6, TX6, 6, cf_6, by decide, tb_2 _ (List.mem_of_getElem? (i := 125) rfl), rfl, rfl⟩
theorem fl_RX8_200 : ab_FL RX8 200 2 0 0 false := ⟨RX2, TX2, 11, cf_2, by decide, tb_2 _ (List.mem_of_getElem? (i := 73) rfl), rfl, rfl⟩
theorem fl_RX8_205 : ab_FL RX8 205 2 2 0 false := ⟨RX2, TX2, 11, cf_2, by decide, tb_2 _ (List.mem_of_getElem? (i := 79) rfl), rfl, rfl⟩
theorem fl_RX8_206 : ab_FL RX8 206 2 9 0 false := ⟨RX2, TX2, 11, cf_2, by decide, tb_2 _ (List.mem_of_getElem? (i := 98) rfl), rfl, rfl⟩
theorem fl_RX8_209 : ab_FL RX8 209 2 6 0 false := ⟨RX2, TX2, 11, cf_2, by decide, tb_2 _ (List.mem_of_getElem? (i := 90) rfl), rfl, rfl⟩
theorem fl_RX8_212 : ab_FL RX8 212 2 7 0 false := ⟨RX2, TX2, 11, cf_2, by decide, tb_2 _ (List.mem_of_getElem? (i := 93) rfl), rfl, rfl⟩
theorem fl_RX8_213 : ab_FL RX8 213 2 8 0 false := ⟨RX2, TX2, 11, cf_2, by decide, tb_2 _ (List.mem_of_getElem? (i := 96) rfl), rfl, rfl⟩
theorem fl_RX8_221 : ab_FL RX8 221 2 5 2 true := ⟨RX2, TX2, 11, cf_2, by decide, tb_2 _ (List.mem_of_getElem? (i := 87) rfl), rfl, rfl⟩
theorem fl_RX8_225 : ab_FL RX8 225 6 2 2 true := ⟨RX6, TX6, 6, cf_6, by decide, tb_2 _ (List.mem_of_getElem? (i := 129) rfl), rfl, rfl⟩
theorem fl_RX8_231 : ab_FL RX8 231 2 10 0 false := ⟨RX2, TX2, 11, cf_2, by decide, tb_2 _ (List.mem_of_getElem? (i := 100) rfl), rfl, rfl⟩
theorem fl_RX8_234 : ab_FL RX8 234 2 1 0 false := ⟨RX2, TX2, 11, cf_2, by decide, tb_2 _ (List.mem_of_getElem? (i := 76) rfl), rfl, rfl⟩
theorem fl_RX8_240 : ab_FL RX8 240 6 4 2 true := ⟨RX6, TX6, 6, cf_6, by decide, tb_2 _ (List.mem_of_getElem? (i := 133) rfl), rfl, rfl⟩
theorem fl_RX8_243 : ab_FL RX8 243 2 3 0 false := ⟨RX2, TX2, 11, cf_2, by decide, tb_2 _ (List.mem_of_getElem? (i := 82) rfl), rfl, rfl⟩
theorem fl_RX8_279 : ab_FL RX8 279 1 0 2 true := ⟨RX1, TX1, 2, cf_1, by decide, tb_1 _ (List.mem_of_getElem? (i := 37) rfl), rfl, rfl⟩
theorem fl_RX8_287 : ab_FL RX8 287 7 2 2 true := ⟨RX7, TX7, 3, cf_7, by decide, tb_2 _ (List.mem_of_getElem? (i := 18) rfl), rfl, rfl⟩
theorem fl_RX0_9 : ab_FL RX0 9 0 1 2 true := ⟨RX0, TX0, 12, cf_0, by decide, tb_1 _ (List.mem_of_getElem? (i := 163) rfl), rfl, rfl⟩
theorem fl_RX0_15 : ab_FL RX0 15 0 2 2 true := ⟨RX0, TX0, 12, cf_0, by decide, tb_1 _ (List.mem_of_getElem? (i := 167) rfl), rfl, rfl⟩
theorem fl_RX0_18 : ab_FL RX0 18 0 3 2 true := ⟨RX0, TX0, 12, cf_0, by decide, tb_1 _ (List.mem_of_getElem? (i := 173) rfl), rfl, rfl⟩
theorem fl_RX0_21 : ab_FL RX0 21 0 4 2 true := ⟨RX0, TX0, 12, cf_0, by decide, tb_1 _ (List.mem_of_getElem? (i := 178) rfl), rfl, rfl⟩
theorem fl_RX0_24 : ab_FL RX0 24 0 5 2 true := ⟨RX0, TX0, 12, cf_0, by decide, tb_1 _ (List.mem_of_getElem? (i := 182) rfl), rfl, rfl⟩
theorem fl_RX0_28 : ab_FL RX0 28 0 6 2 true := ⟨RX0, TX0, 12, cf_0, by decide, tb_1 _ (List.mem_of_getElem? (i := 186) rfl), rfl, rfl⟩
theorem fl_RX0_31 : ab_FL RX0 31 0 7 2 true := ⟨RX0, TX0, 12, cf_0, by decide, tb_1 _ (List.mem_of_getElem? (i := 189) rfl), rfl, rfl⟩
theorem fl_RX0_34 : ab_FL RX0 34 0 8 2 true := ⟨RX0, TX0, 12, cf_0, by decide, tb_1 _ (List.mem_of_getElem? (i := 192) rfl), rfl, rfl⟩
theorem fl_RX0_37 : ab_FL RX0 37 0 10 2 true := ⟨RX0, TX0, 12, cf_0, by decide, tb_1 _ (List.mem_of_getElem? (i := 199) rfl), rfl, rfl⟩
theorem fl_RX0_40 : ab_FL RX0 40 0 11 2 true := ⟨RX0, TX0, 12, cf_0, by decide, tb_1 _ (List.mem_of_getElem? (i := 200) rfl), rfl, rfl⟩
theorem fl_RX0_43 : ab_FL RX0 43 0 0 0 false := ⟨RX0, TX0, 12, cf_0, by decide, tb_1 _ (List.mem_of_getElem? (i := 157) rfl), rfl, rfl⟩
theorem fl_RX0_47 : ab_FL RX0 47 0 9 0 false := ⟨RX0, TX0, 12, cf_0, by decide, tb_1 _ (List.mem_of_getElem? (i := 196) rfl), rfl, rfl⟩
theorem fl_RX1_15 : ab_FL RX1 15 1 0 2 true := ⟨RX1, TX1, 2, cf_1, by decide, tb_1 _ (List.mem_of_getElem? (i := 35) rfl), rfl, rfl⟩
theorem fl_RX1_21 : ab_FL RX1 21 1 1 0 false := ⟨RX1, TX1, 2, cf_1, by decide, tb_1 _ (List.mem_of_getElem? (i := 38) rfl), rfl, rfl⟩
theorem fl_RX2_9 : ab_FL RX2 9 2 4 2 true := ⟨RX2, TX2, 11, cf_2, by decide, tb_2 _ (List.mem_of_getElem? (i := 83) rfl), rfl, rfl⟩
theorem fl_RX2_15 : ab_FL RX2 15 2 5 2 true := ⟨RX2, TX2, 11, cf_2, by decide, tb_2 _ (List.mem_of_getElem? (i := 85) rfl), rfl, rfl⟩
theorem fl_RX2_18 : ab_FL RX2 18 2 0 0 false := ⟨RX2, TX2, 11, cf_2, by decide, tb_2 _ (List.mem_of_getElem? (i := 71) rfl), rfl, rfl⟩
theorem fl_RX2_22 : ab_FL RX2 22 5 3 2 true := ⟨RX5, TX5, 6, cf_5, by decide, tb_2 _ (List.mem_of_getElem? (i := 37) rfl), rfl, rfl⟩
theorem fl_RX2_25 : ab_FL RX2 25 2 2 0 false := ⟨RX2, TX2, 11, cf_2, by decide, tb_2 _ (List.mem_of_getElem? (i := 77) rfl), rfl, rfl⟩
theorem fl_RX2_28 : ab_FL RX2 28 2 3 0 false := ⟨RX2, TX2, 11, cf_2, by decide, tb_2 _ (List.mem_of_getElem? (i := 80) rfl), rfl, rfl⟩
theorem fl_RX2_31 : ab_FL RX2 31 2 6 0 false := ⟨RX2, TX2, 11, cf_2, by decide, tb_2 _ (List.mem_of_getElem? (i := 88) rfl), rfl, rfl⟩
theorem fl_RX2_34 : ab_FL RX2 34 2 7 0 false := ⟨RX2, TX2, 11, cf_2, by decide, tb_2 _ (List.mem_of_getElem? (i := 91) rfl), rfl, rfl⟩
theorem fl_RX2_37 : ab_FL RX2 37 2 8 0 false := ⟨RX2, TX2, 11, cf_2, by decide, tb_2 _ (List.mem_of_getElem? (i := 94) rfl), rfl, rfl⟩
theorem fl_RX2_44 : ab_FL RX2 44 5 1 2 true := ⟨RX5, TX5, 6, cf_5, by decide, tb_2 _ (List.mem_of_getElem? (i := 34) rfl), rfl, rfl⟩
theorem fl_RX2_55 : ab_FL RX2 55 2 1 0 false := ⟨RX2, TX2, 11, cf_2, by decide, tb_2 _ (List.mem_of_getElem? (i := 75) rfl), rfl, rfl⟩
theorem fl_RX3_11 : ab_FL RX3 11 3 0 2 true := ⟨RX3, TX3, 3, cf_3, by decide, tb_1 _ (List.mem_of_getElem? (i := 235) rfl), rfl, rfl⟩
theorem fl_RX3_18 : ab_FL RX3 18 3 2 0 false := ⟨RX3, TX3, 3, cf_3, by decide, tb_1 _ (List.mem_of_getElem? (i := 237) rfl), rfl, rfl⟩
theorem fl_RX3_22 : ab_FL RX3 22 3 1 0 false := ⟨RX3, TX3, 3, cf_3, by decide, tb_1 _ (List.mem_of_getElem? (i := 236) rfl), rfl, rfl⟩
theorem fl_RX4_11 : ab_FL RX4 11 4 0 2 true := ⟨RX4, TX4, 11, cf_4, by decide, tb_1 _ (List.mem_of_getElem? (i := 112) rfl), rfl, rfl⟩
theorem fl_RX4_15 : ab_FL RX4 15 4 1 2 true := ⟨RX4, TX4, 11, cf_4, by decide, tb_1 _ (List.mem_of_getElem? (i := 113) rfl), rfl, rfl⟩
theorem fl_RX4_19 : ab_FL RX4 19 4 2 2 true := ⟨RX4, TX4, 11, cf_4, by decide, tb_1 _ (List.mem_of_getElem? (i := 114) rfl), rfl, rfl⟩
theorem fl_RX4_22 : ab_FL RX4 22 4 3 2 true := ⟨RX4, TX4, 11, cf_4, by decide, tb_1 _ (List.mem_of_getElem? (i := 115) rfl), rfl, rfl⟩
theorem fl_RX4_25 : ab_FL RX4 25 4 10 0 false := ⟨RX4, TX4, 11, cf_4, by decide, tb_1 _ (List.mem_of_getElem? (i := 124) rfl), rfl, rfl⟩
theorem fl_RX4_62 : ab_FL RX4 62 4 8 0 false := ⟨RX4, TX4, 11, cf_4, by decide, tb_1 _ (List.mem_of_getElem? (i := 120) rfl), rfl, rfl⟩
theorem fl_RX4_65 : ab_FL RX4 65 4 4 0 false := ⟨RX4, TX4, 11, cf_4, by decide, tb_1 _ (List.mem_of_getElem? (i := 116) rfl), rfl, rfl⟩
theorem fl_RX4_68 : ab_FL RX4 68 4 5 0 false := ⟨RX4, TX4, 11, cf_4, by decide, tb_1 _ (List.mem_of_getElem? (i := 117) rfl), rfl, rfl⟩
theorem fl_RX4_84 : ab_FL RX4 84 4 9 0 false := ⟨RX4, TX4, 11, cf_4, by decide, tb_1 _ (List.mem_of_getElem? (i := 122) rfl), rfl, rfl⟩
theorem fl_RX4_87 : ab_FL RX4 87 4 6 0 false := ⟨RX4, TX4, 11, cf_4, by decide, tb_1 _ (List.mem_of_getElem? (i := 118) rfl), rfl, rfl⟩
theorem fl_RX4_97 : ab_FL RX4 97 1 1 0 false := ⟨RX1, TX1, 2, cf_1, by decide, tb_1 _ (List.mem_of_getElem? (i := 40) rfl), rfl, rfl⟩
theorem fl_RX4_102 : ab_FL RX4 102 1 0 2 true := ⟨RX1, TX1, 2, cf_1, by decide, tb_1 _ (List.mem_of_getElem? (i := 36) rfl), rfl, rfl⟩
theorem fl_RX4_147 : ab_FL RX4 147 0 0 0 false := ⟨RX0, TX0, 12, cf_0, by decide, tb_1 _ (List.mem_of_getElem? (i := 162) rfl), rfl, rfl⟩
theorem fl_RX4_156 : ab_FL RX4 156 0 8 2 true := ⟨RX0, TX0, 12, cf_0, by decide, tb_1 _ (List.mem_of_getElem? (i := 195) rfl), rfl, rfl⟩
theorem fl_RX4_159 : ab_FL RX4 159 0 9 0 false := ⟨RX0, TX0, 12, cf_0, by decide, tb_1 _ (List.mem_of_getElem? (i := 198) rfl), rfl, rfl⟩
theorem fl_RX4_183 : ab_FL RX4 183 0 1 2 true := ⟨RX0, TX0, 12, cf_0, by decide, tb_1 _ (List.mem_of_getElem? (i := 166) rfl), rfl, rfl⟩
theorem fl_RX4_186 : ab_FL RX4 186 0 2 2 true := ⟨RX0, TX0, 12, cf_0, by decide, tb_1 _ (List.mem_of_getElem? (i := 172) rfl), rfl, rfl⟩
theorem fl_RX4_189 : ab_FL RX4 189 0 3 2 true := ⟨RX0, TX0, 12, cf_0, by decide, tb_1 _ (List.mem_of_getElem? (i := 177) rfl), rfl, rfl⟩
theorem fl_RX4_192 : ab_FL RX4 192 0 4 2 true := ⟨RX0, TX0, 12, cf_0, by decide, tb_1 _ (List.mem_of_getElem? (i := 181) rfl), rfl, rfl⟩
theorem fl_RX4_195 : ab_FL RX4 195 0 5 2 true := ⟨RX0, TX0, 12, cf_0, by decide, tb_1 _ (List.mem_of_getElem? (i := 185) rfl), rfl, rfl⟩
theorem fl_RX4_201 : ab_FL RX4 201 0 6 2 true := ⟨RX0, TX0, 12, cf_0, by decide, tb_1 _ (List.mem_of_getElem? (i := 188) rfl), rfl, rfl⟩
theorem fl_RX4_204 : ab_FL RX4 204 4 7 1 false := ⟨RX4, TX4, 11, cf_4, by decide, tb_1 _ (List.mem_of_getElem? (i := 119) rfl), rfl, rfl⟩
theorem fl_RX4_208 : ab_FL RX4 208 0 7 2 true := ⟨RX0, TX0, 12, cf_0, by decide, tb_1 _ (List.mem_of_getElem? (i := 191) rfl), rfl, rfl⟩
theorem fl_RX5_9 : ab_FL RX5 9 5 1 2 true := ⟨RX5, TX5, 6, cf_5, by decide, tb_2 _ (List.mem_of_getElem? (i := 33) rfl), rfl, rfl⟩
theorem fl_RX5_15 : ab_FL RX5 15 5 2 2 true := ⟨RX5, TX5, 6, cf_5, by decide, tb_2 _ (List.mem_of_getElem? (i := 35) rfl), rfl, rfl⟩
theorem fl_RX5_18 : ab_FL RX5 18 5 3 2 true := ⟨RX5, TX5, 6, cf_5, by decide, tb_2 _ (List.mem_of_getElem? (i := 36) rfl), rfl, rfl⟩
theorem fl_RX5_21 : ab_FL RX5 21 5 4 2 true := ⟨RX5, TX5, 6, cf_5, by decide, tb_2 _ (List.mem_of_getElem? (i := 39) rfl), rfl, rfl⟩
theorem fl_RX5_25 : ab_FL RX5 25 5 5 2 true := ⟨RX5, TX5, 6, cf_5, by decide, tb_2 _ (List.mem_of_getElem? (i := 42) rfl), rfl, rfl⟩
theorem fl_RX5_28 : ab_FL RX5 28 0 0 0 false := ⟨RX0, TX0, 12, cf_0, by decide, tb_1 _ (List.mem_of_getElem? (i := 158) rfl), rfl, rfl⟩
theorem fl_RX5_34 : ab_FL RX5 34 5 0 0 false := ⟨RX5, TX5, 6, cf_5, by decide, tb_2 _ (List.mem_of_getElem? (i := 32) rfl), rfl, rfl⟩
theorem fl_RX5_37 : ab_FL RX5 37 0 2 2 true := ⟨RX0, TX0, 12, cf_0, by decide, tb_1 _ (List.mem_of_getElem? (i := 170) rfl), rfl, rfl⟩
theorem fl_RX5_38 : ab_FL RX5 38 0 3 2 true := ⟨RX0, TX0, 12, cf_0, by decide, tb_1 _ (List.mem_of_getElem? (i := 174) rfl), rfl, rfl⟩
theorem fl_RX5_39 : ab_FL RX5 39 0 5 2 true := ⟨RX0, TX0, 12, cf_0, by decide, tb_1 _ (List.mem_of_getElem? (i := 184) rfl), rfl, rfl⟩
theorem fl_RX5_58 : ab_FL RX5 58 0 6 2 true := ⟨RX0, TX0, 12, cf_0, by decide, tb_1 _ (List.mem_of_getElem? (i := 187) rfl), rfl, rfl⟩
theorem fl_RX5_59 : ab_FL RX5 59 0 7 2 true := ⟨RX0, TX0, 12, cf_0, by decide, tb_1 _ (List.mem_of_getElem? (i := 190) rfl), rfl, rfl⟩
theorem fl_RX6_11 : ab_FL RX6 11 6 0 2 true := ⟨RX6, TX6, 6, cf_6, by decide, tb_2 _ (List.mem_of_getElem? (i := 124) rfl), rfl, rfl⟩
theorem fl_RX6_17 : ab_FL RX6 17 6 2 2 true := ⟨RX6, TX6, 6, cf_6, by decide, tb_2 _ (List.mem_of_getElem? (i := 128) rfl), rfl, rfl⟩
theorem fl_RX6_21 : ab_FL RX6 21 6 4 2 true := ⟨RX6, TX6, 6, cf_6, by decide, tb_2 _ (List.mem_of_getElem? (i := 132) rfl), rfl, rfl⟩
theorem fl_RX6_25 : ab_FL RX6 25 6 1 0 false := ⟨RX6, TX6, 6, cf_6, by decide, tb_2 _ (List.mem_of_getElem? (i := 126) rfl), rfl, rfl⟩
theorem fl_RX6_29 : ab_FL RX6 29 0 0 0 false := ⟨RX0, TX0, 12, cf_0, by decide, tb_1 _ (List.mem_of_getElem? (i := 160) rfl), rfl, rfl⟩
theorem fl_RX6_32 : ab_FL RX6 32 0 2 2 true := ⟨RX0, TX0, 12, cf_0, by decide, tb_1 _ (List.mem_of_getElem? (i := 169) rfl), rfl, rfl⟩
theorem fl_RX6_35 : ab_FL RX6 35 0 4 2 true := ⟨RX0, TX0, 12, cf_0, by decide, tb_1 _ (List.mem_of_getElem? (i := 179) rfl), rfl, rfl⟩
theorem fl_RX6_45 : ab_FL RX6 45 2 0 0 false := ⟨RX2, TX2, 11, cf_2, by decide, tb_2 _ (List.mem_of_getElem? (i := 72) rfl), rfl, rfl⟩
theorem fl_RX6_48 : ab_FL RX6 48 0 1 2 true := ⟨RX0, TX0, 12, cf_0, by decide, tb_1 _ (List.mem_of_getElem? (i := 164) rfl), rfl, rfl⟩
theorem fl_RX6_51 : ab_FL RX6 51 2 1 0 false := ⟨RX2, TX2, 11, cf_2, by decide, tb_2 _ (List.mem_of_getElem? (i := 74) rfl), rfl, rfl⟩
theorem fl_RX6_54 : ab_FL RX6 54 2 2 0 false := ⟨RX2, TX2, 11, cf_2, by decide, tb_2 _ (List.mem_of_getElem? (i := 78) rfl), rfl, rfl⟩
theorem fl_RX6_57 : ab_FL RX6 57 0 8 2 true := ⟨RX0, TX0, 12, cf_0, by decide, tb_1 _ (List.mem_of_getElem? (i := 193) rfl), rfl, rfl⟩
theorem fl_RX6_60 : ab_FL RX6 60 0 3 2 true := ⟨RX0, TX0, 12, cf_0, by decide, tb_1 _ (List.mem_of_getElem? (i := 175) rfl), rfl, rfl⟩
theorem fl_RX6_71 : ab_FL RX6 71 6 3 0 false := ⟨RX6, TX6, 6, cf_6, by decide, tb_2 _ (List.mem_of_getElem? (i := 130) rfl), rfl, rfl⟩
theorem fl_RX6_74 : ab_FL RX6 74 6 5 0 false := ⟨RX6, TX6, 6, cf_6, by decide, tb_2 _ (List.mem_of_getElem? (i := 134) rfl), rfl, rfl⟩
theorem fl_RX6_80 : ab_FL RX6 80 2 3 0 false := ⟨RX2, TX2, 11, cf_2, by decide, tb_2 _ (List.mem_of_getElem? (i := 81) rfl), rfl, rfl⟩
theorem fl_RX6_83 : ab_FL RX6 83 2 9 0 false := ⟨RX2, TX2, 11, cf_2, by decide, tb_2 _ (List.mem_of_getElem? (i := 97) rfl), rfl, rfl⟩
theorem fl_RX6_86 : ab_FL RX6 86 2 10 0 false := ⟨RX2, TX2, 11, cf_2, by decide, tb_2 _ (List.mem_of_getElem? (i := 99) rfl), rfl, rfl⟩
theorem fl_RX6_93 : ab_FL RX6 93 2 8 0 false := ⟨RX2, TX2, 11, cf_2, by decide, tb_2 _ (List.mem_of_getElem? (i := 95) rfl), rfl, rfl⟩
theorem fl_RX6_102 : ab_FL RX6 102 7 1 2 true := ⟨RX7, TX7, 3, cf_7, by decide, tb_2 _ (List.mem_of_getElem? (i := 16) rfl), rfl, rfl⟩
theorem fl_RX6_114 : ab_FL RX6 114 2 7 0 false := ⟨RX2, TX2, 11, cf_2, by decide, tb_2 _ (List.mem_of_getElem? (i := 92) rfl), rfl, rfl⟩
theorem fl_RX6_115 : ab_FL RX6 115 2 4 2 true := ⟨RX2, TX2, 11, cf_2, by decide, tb_2 _ (List.mem_of_getElem? (i := 84) rfl), rfl, rfl⟩
theorem fl_RX6_118 : ab_FL RX6 118 2 5 2 true := ⟨RX2, TX2, 11, cf_2, by decide, tb_2 _ (List.mem_of_getElem? (i := 86) rfl), rfl, rfl⟩
theorem fl_RX6_121 : ab_FL RX6 121 2 6 0 false := ⟨RX2, TX2, 11, cf_2, by decide, tb_2 _ (List.mem_of_getElem? (i := 89) rfl), rfl, rfl⟩
theorem fl_RX6_124 : ab_FL RX6 124 5 5 2 true := ⟨RX5, TX5, 6, cf_5, by decide, tb_2 _ (List.mem_of_getElem? (i := 44) rfl), rfl, rfl⟩
theorem fl_RX6_133 : ab_FL RX6 133 5 4 2 true := ⟨RX5, TX5, 6, cf_5, by decide, tb_2 _ (List.mem_of_getElem? (i := 41) rfl), rfl, rfl⟩
theorem fl_RX7_9 : ab_FL RX7 9 7 1 2 true := ⟨RX7, TX7, 3, cf_7, by decide, tb_2 _ (List.mem_of_getElem? (i := 14) rfl), rfl, rfl⟩
theorem fl_RX7_15 : ab_FL RX7 15 7 2 2 true := ⟨RX7, TX7, 3, cf_7, by decide, tb_2 _ (List.mem_of_getElem? (i := 17) rfl), rfl, rfl⟩
theorem fl_RX7_19 : ab_FL RX7 19 7 0 0 false := ⟨RX7, TX7, 3, cf_7, by decide, tb_2 _ (List.mem_of_getElem? (i := 12) rfl), rfl, rfl⟩
theorem fl_RX7_23 : ab_FL RX7 23 0 0 0 false := ⟨RX0, TX0, 12, cf_0, by decide, tb_1 _ (List.mem_of_getElem? (i := 159) rfl), rfl, rfl⟩
theorem fl_RX7_26 : ab_FL RX7 26 0 2 2 true := ⟨RX0, TX0, 12, cf_0, by decide, tb_1 _ (List.mem_of_getElem? (i := 168) rfl), rfl, rfl⟩
theorem fl_RX7_29 : ab_FL RX7 29 0 5 2 true := ⟨RX0, TX0, 12, cf_0, by decide, tb_1 _ (List.mem_of_getElem? (i := 183) rfl), rfl, rfl⟩
theorem fl_RX9_9 : ab_FL RX9 9 9 1 2 true := ⟨RX9, TX9, 36, cf_9, by decide, tb_5 _ (List.mem_of_getElem? (i := 86) rfl), rfl, rfl⟩
theorem fl_RX9_13 : ab_FL RX9 13 9 2 2 true := ⟨RX9, TX9, 36, cf_9, by decide, tb_5 _ (List.mem_of_getElem? (i := 87) rfl), rfl, rfl⟩
theorem fl_RX9_16 : ab_FL RX9 16 9 3 2 true := ⟨RX9, TX9, 36, cf_9, by decide, tb_5 _ (List.mem_of_getElem? (i := 88) rfl), rfl, rfl⟩
theorem fl_RX9_20 : ab_FL RX9 20 9 11 0 false := ⟨RX9, TX9, 36, cf_9, by decide, tb_5 _ (List.mem_of_getElem? (i := 96) rfl), rfl, rfl⟩
theorem fl_RX9_24 : ab_FL RX9 24 9 13 2 true := ⟨RX9, TX9, 36, cf_9, by decide, tb_5 _ (List.mem_of_getElem? (i := 98) rfl), rfl, rfl⟩
theorem fl_RX9_27 : ab_FL RX9 27 9 15 2 true := ⟨RX9, TX9, 36, cf_9, by decide, tb_5 _ (List.mem_of_getElem? (i := 100) rfl), rfl, rfl⟩
theorem fl_RX9_31 : ab_FL RX9 31 9 19 2 true := ⟨RX9, TX9, 36, cf_9, by decide, tb_5 _ (List.mem_of_getElem? (i := 104) rfl), rfl, rfl⟩
theorem fl_RX9_34 : ab_FL RX9 34 9 20 2 true := ⟨RX9, TX9, 36, cf_9, by decide, tb_5 _ (List.mem_of_getElem? (i := 105) rfl), rfl, rfl⟩
theorem fl_RX9_37 : ab_FL RX9 37 9 21 2 true := ⟨RX9, TX9, 36, cf_9, by decide, tb_5 _ (List.mem_of_getElem? (i := 106) rfl), rfl, rfl⟩
theorem fl_RX9_40 : ab_FL RX9 40 9 22 2 true := ⟨RX9, TX9, 36, cf_9, by decide, tb_5 _ (List.mem_of_getElem? (i := 107) rfl), rfl, rfl⟩
theorem fl_RX9_43 : ab_FL RX9 43 9 23 2 true := ⟨RX9, TX9, 36, cf_9, by decide, tb_5 _ (List.mem_of_getElem? (i := 108) rfl), rfl, rfl⟩
theorem fl_RX9_46 : ab_FL RX9 46 9 24 2 true := ⟨RX9, TX9, 36, cf_9, by decide, tb_5 _ (List.mem_of_getElem? (i := 109) rfl), rfl, rfl⟩
theorem fl_RX9_49 : ab_FL RX9 49 9 26 2 true := ⟨RX9, TX9, 36, cf_9, by decide, tb_5 _ (List.mem_of_getElem? (i := 111) rfl), rfl, rfl⟩
theorem fl_RX9_52 : ab_FL RX9 52 9 27 2 true := ⟨RX9, TX9, 36, cf_9, by decide, tb_5 _ (List.mem_of_getElem? (i := 112) rfl), rfl, rfl⟩
theorem fl_RX9_55 : ab_FL RX9 55 9 29 2 true := ⟨RX9, TX9, 36, cf_9, by decide, tb_5 _ (List.mem_of_getElem? (i := 114) rfl), rfl, rfl⟩
theorem fl_RX9_58 : ab_FL RX9 58 9 31 2 true := ⟨RX9, TX9, 36, cf_9, by decide, tb_5 _ (List.mem_of_getElem? (i := 116) rfl), rfl, rfl⟩
theorem fl_RX9_61 : ab_FL RX9 61 9 32 2 true := ⟨RX9, TX9, 36, cf_9, by decide, tb_5 _ (List.mem_of_getElem? (i := 117) rfl), rfl, rfl⟩
theorem fl_RX9_64 : ab_FL RX9 64 9 33 2 true := ⟨RX9, TX9, 36, cf_9, by decide, tb_5 _ (List.mem_of_getElem? (i := 118) rfl), rfl, rfl⟩
theorem fl_RX9_67 : ab_FL RX9 67 9 35 2 true := ⟨RX9, TX9, 36, cf_9, by decide, tb_5 _ (List.mem_of_getElem? (i := 120) rfl), rfl, rfl⟩
theorem fl_RX9_77 : ab_FL RX9 77 9 4 0 false := ⟨RX9, TX9, 36, cf_9, by decide, tb_5 _ (List.mem_of_getElem? (i := 89) rfl), rfl, rfl⟩
theorem fl_RX9_88 : ab_FL RX9 88 9 10 0 false := ⟨RX9, TX9, 36, cf_9, by decide, tb_5 _ (List.mem_of_getElem? (i := 95) rfl), rfl, rfl⟩
theorem fl_RX9_95 : ab_FL RX9 95 9 5 0 false := ⟨RX9, TX9, 36, cf_9, by decide, tb_5 _ (List.mem_of_getElem? (i := 90) rfl), rfl, rfl⟩
theorem fl_RX9_98 : ab_FL RX9 98 9 6 0 false := ⟨RX9, TX9, 36, cf_9, by decide, tb_5 _ (List.mem_of_getElem? (i := 91) rfl), rfl, rfl⟩
theorem fl_RX9_105 : ab_FL RX9 105 9 7 0 false := ⟨RX9, TX9, 36, cf_9, by decide, tb_5 _ (List.mem_of_getElem? (i := 92) rfl), rfl, rfl⟩
theorem fl_RX9_108 : ab_FL RX9 108 9 8 0 false := ⟨RX9, TX9, 36, cf_9, by decide, tb_5 _ (List.mem_of_getElem? (i := 93) rfl), rfl, rfl⟩
theorem fl_RX9_119 : ab_FL RX9 119 9 9 0 false := ⟨RX9, TX9, 36, cf_9, by decide, tb_5 _ (List.mem_of_getElem? (i := 94) rfl), rfl, rfl⟩
theorem fl_RX9_197 : ab_FL RX9 197 9 12 0 false := ⟨RX9, TX9, 36, cf_9, by decide, tb_5 _ (List.mem_of_getElem? (i := 97) rfl), rfl, rfl⟩
theorem fl_RX9_243 : ab_FL RX9 243 9 34 0 false := ⟨RX9, TX9, 36, cf_9, by decide, tb_5 _ (List.mem_of_getElem? (i := 119) rfl), rfl, rfl⟩
theorem fl_RX9_252 : ab_FL RX9 252 9 14 0 false := ⟨RX9, TX9, 36, cf_9, by decide, tb_5 _ (List.mem_of_getElem? (i := 99) rfl), rfl, rfl⟩
theorem fl_RX9_264 : ab_FL RX9 264 9 25 0 false := ⟨RX9, TX9, 36, cf_9, by decide, tb_5 _ (List.mem_of_getElem? (i := 110) rfl), rfl, rfl⟩
theorem fl_RX9_267 : ab_FL RX9 267 9 16 0 false := ⟨RX9, TX9, 36, cf_9, by decide, tb_5 _ (List.mem_of_getElem? (i := 101) rfl), rfl, rfl⟩
theorem fl_RX9_303 : ab_FL RX9 303 9 17 0 false := ⟨RX9, TX9, 36, cf_9, by decide, tb_5 _ (List.mem_of_getElem? (i := 102) rfl), rfl, rfl⟩
theorem fl_RX9_306 : ab_FL RX9 306 9 18 0 false := ⟨RX9, TX9, 36, cf_9, by decide, tb_5 _ (List.mem_of_getElem? (i := 103) rfl), rfl, rfl⟩
theorem fl_RX9_320 : ab_FL RX9 320 9 28 0 false := ⟨RX9, TX9, 36, cf_9, by decide, tb_5 _ (List.mem_of_getElem? (i := 113) rfl), rfl, rfl⟩
theorem fl_RX9_380 : ab_FL RX9 380 9 30 0 false := ⟨RX9, TX9, 36, cf_9, by decide, tb_5 _ (List.mem_of_getElem? (i := 115) rfl), rfl, rfl⟩
theorem ml_RX8_11 : ab_ML RX8 11 yX1_init := Or.inl (tb_1 _ (List.mem_of_getElem? (i := 28) rfl))
theorem ml_RX8_26 : ab_ML RX8 26 yX4_init := Or.inl (tb_1 _ (List.mem_of_getElem? (i := 49) rfl))
theorem ml_RX8_33 : ab_ML RX8 33 yX0_init := Or.inr ⟨"TurnedHeadings", tb_1 _ (List.mem_of_getElem? (i := 153) rfl)⟩
theorem ml_RX8_43 : ab_ML RX8 43 yX3_init := Or.inl (tb_1 _ (List.mem_of_getElem? (i := 228) rfl))
theorem ml_RX8_50 : ab_ML RX8 50 yX7_init := Or.inr ⟨"TurnedHeadings", tb_2 _ (List.mem_of_getElem? (i := 8) rfl)⟩
theorem ml_RX8_57 : ab_ML RX8 57 yX5_init := Or.inr ⟨"TurnedHeadings", tb_2 _ (List.mem_of_getElem? (i := 28) rfl)⟩
theorem ml_RX8_64 : ab_ML RX8 64 yX6_init := Or.inl (tb_2 _ (List.mem_of_getElem? (i := 60) rfl))
theorem ml_RX8_76 : ab_ML RX8 76 yX1_putFour := Or.inl (tb_2 _ (List.mem_of_getElem? (i := 187) rfl))
theorem ml_RX8_79 : ab_ML RX8 79 yX4_readText := Or.inl (tb_2 _ (List.mem_of_getElem? (i := 203) rfl))
theorem ml_RX8_83 : ab_ML RX8 83 yX3_forgetAll := Or.inl (tb_3 _ (List.mem_of_getElem? (i := 72) rfl))
theorem ml_RX8_86 : ab_ML RX8 86 yX0_copyFrom := Or.inl (tb_3 _ (List.mem_of_getElem? (i := 76) rfl))
theorem ml_RX8_90 : ab_ML RX8 90 yX8_renew := Or.inl (tb_3 _ (List.mem_of_getElem? (i := 87) rfl))
theorem ml_RX8_103 : ab_ML RX8 103 yX0_termsOfAll := Or.inl (tb_3 _ (List.mem_of_getElem? (i := 152) rfl))
theorem ml_RX8_117 : ab_ML RX8 117 yX8_isString := Or.inl (tb_3 _ (List.mem_of_getElem? (i := 160) rfl))
theorem ml_RX8_128 : ab_ML RX8 128 yX0_leadingOf := Or.inl (tb_3 _ (List.mem_of_getElem? (i := 164) rfl))
theorem ml_RX8_132 : ab_ML RX8 132 yX6_doublesOf := Or.inl (tb_3 _ (List.mem_of_getElem? (i := 168) rfl))
theorem ml_RX8_135 : ab_ML RX8 135 yX5_repeatedIn := Or.inl (tb_3 _ (List.mem_of_getElem? (i := 178) rfl))
theorem ml_RX8_138 : ab_ML RX8 138 yX8_isTerm := Or.inl (tb_3 _ (List.mem_of_getElem? (i := 186) rfl))
theorem ml_RX8_154 : ab_ML RX8 154 yX8_lettersOf := Or.inl (tb_3 _ (List.mem_of_getElem? (i := 190) rfl))
theorem ml_RX8_161 : ab_ML RX8 161 yX8_isWord := Or.inl (tb_3 _ (List.mem_of_getElem? (i := 200) rfl))
theorem ml_RX8_167 : ab_ML RX8 167 yX8_letterOf := Or.inl (tb_3 _ (List.mem_of_getElem? (i := 193) rfl))
theorem ml_RX8_171 : ab_ML RX8 171 yX8_isRole := Or.inl (tb_3 _ (List.mem_of_getElem? (i := 208) rfl))
theorem ml_RX8_177 : ab_ML RX8 177 yX1_asName := Or.inl (tb_3 _ (List.mem_of_getElem? (i := 215) rfl))
theorem ml_RX8_183 : ab_ML RX8 183 yX0_used := Or.inl (tb_3 _ (List.mem_of_getElem? (i := 224) rfl))
theorem ml_RX8_187 : ab_ML RX8 187 yX7_numberOf := Or.inl (tb_3 _ (List.mem_of_getElem? (i := 225) rfl))
theorem ml_RX8_190 : ab_ML RX8 190 yX8_isAddress := Or.inl (tb_3 _ (List.mem_of_getElem? (i := 230) rfl))
theorem ml_RX8_193 : ab_ML RX8 193 yX0_stringAt := Or.inl (tb_3 _ (List.mem_of_getElem? (i := 231) rfl))
theorem ml_RX8_216 : ab_ML RX8 216 yJ6_bitCount_0f7a4 := Or.inl (tb_3 _ (List.mem_of_getElem? (i := 236) rfl))
theorem ml_RX8_222 : ab_ML RX8 222 yX8_isLine := Or.inl (tb_4 _ (List.mem_of_getElem? (i := 5) rfl))
theorem ml_RX8_228 : ab_ML RX8 228 yX6_stringsOfLine := Or.inl (tb_4 _ (List.mem_of_getElem? (i := 9) rfl))
theorem ml_RX8_237 : ab_ML RX8 237 yX8_isHead := Or.inl (tb_4 _ (List.mem_of_getElem? (i := 25) rfl))
theorem ml_RX8_246 : ab_ML RX8 246 yX6_stringsOfHead := Or.inl (tb_4 _ (List.mem_of_getElem? (i := 29) rfl))
theorem ml_RX8_249 : ab_ML RX8 249 yX8_hasBit := Or.inl (tb_4 _ (List.mem_of_getElem? (i := 37) rfl))
theorem ml_RX8_252 : ab_ML RX8 252 yX2_shows := Or.inl (tb_4 _ (List.mem_of_getElem? (i := 46) rfl))
theorem ml_RX8_255 : ab_ML RX8 255 yX8_isWay := Or.inl (tb_4 _ (List.mem_of_getElem? (i := 62) rfl))
theorem ml_RX8_258 : ab_ML RX8 258 yX6_turnAll := Or.inl (tb_3 _ (List.mem_of_getElem? (i := 111) rfl))
theorem ml_RX8_262 : ab_ML RX8 262 yX6_doublesOfAll := Or.inl (tb_4 _ (List.mem_of_getElem? (i := 65) rfl))
theorem ml_RX8_265 : ab_ML RX8 265 yX6_printLine := Or.inl (tb_4 _ (List.mem_of_getElem? (i := 73) rfl))
theorem ml_RX8_269 : ab_ML RX8 269 yX8_printedSize := Or.inl (tb_4 _ (List.mem_of_getElem? (i := 98) rfl))
theorem ml_RX8_272 : ab_ML RX8 272 yX1_putAll := Or.inl (tb_4 _ (List.mem_of_getElem? (i := 102) rfl))
theorem ml_RX8_276 : ab_ML RX8 276 yX1_put := Or.inl (tb_4 _ (List.mem_of_getElem? (i := 106) rfl))
theorem ml_RX8_283 : ab_ML RX8 283 yX8_beginsWith := Or.inl (tb_4 _ (List.mem_of_getElem? (i := 119) rfl))
theorem ml_RX8_290 : ab_ML RX8 290 yX5_stringsWith := Or.inl (tb_4 _ (List.mem_of_getElem? (i := 126) rfl))
theorem ml_RX8_294 : ab_ML RX8 294 yX8_stringsSharing := Or.inl (tb_4 _ (List.mem_of_getElem? (i := 138) rfl))
theorem ml_RX8_297 : ab_ML RX8 297 yX7_stringCount := Or.inl (tb_4 _ (List.mem_of_getElem? (i := 146) rfl))
theorem ml_RX8_300 : ab_ML RX8 300 yX7_rankOf := Or.inl (tb_4 _ (List.mem_of_getElem? (i := 155) rfl))
theorem ml_RX8_303 : ab_ML RX8 303 yX5_follow := Or.inl (tb_4 _ (List.mem_of_getElem? (i := 176) rfl))
theorem ml_RX8_306 : ab_ML RX8 306 yX7_stepsBetween := Or.inl (tb_4 _ (List.mem_of_getElem? (i := 184) rfl))
theorem ml_RX8_309 : ab_ML RX8 309 yX7_groupOf := Or.inl (tb_4 _ (List.mem_of_getElem? (i := 196) rfl))
theorem ml_RX8_312 : ab_ML RX8 312 yX7_areAllIn := Or.inl (tb_4 _ (List.mem_of_getElem? (i := 204) rfl))
theorem ml_RX8_315 : ab_ML RX8 315 yX5_areSame := Or.inl (tb_4 _ (List.mem_of_getElem? (i := 212) rfl))
theorem ml_RX8_318 : ab_ML RX8 318 yX5_areOfOneSense := Or.inl (tb_4 _ (List.mem_of_getElem? (i := 216) rfl))
theorem ml_RX8_321 : ab_ML RX8 321 yX5_inBoth := Or.inl (tb_4 _ (List.mem_of_getElem? (i := 236) rfl))
theorem ml_RX8_324 : ab_ML RX8 324 yX5_senseSize := Or.inl (tb_4 _ (List.mem_of_getElem? (i := 237) rfl))
theorem ml_RX8_327 : ab_ML RX8 327 yX5_isFirstOfSense := Or.inl (tb_5 _ (List.mem_of_getElem? (i := 6) rfl))
theorem ml_RX8_330 : ab_ML RX8 330 yX4_readAdded := Or.inl (tb_5 _ (List.mem_of_getElem? (i := 19) rfl))
theorem ml_RX8_333 : ab_ML RX8 333 yX3_keep := Or.inl (tb_5 _ (List.mem_of_getElem? (i := 23) rfl))
theorem ml_RX8_336 : ab_ML RX8 336 yX0_dropString := Or.inl (tb_5 _ (List.mem_of_getElem? (i := 32) rfl))
theorem ml_RX8_339 : ab_ML RX8 339 yX0_exchange := Or.inl (tb_5 _ (List.mem_of_getElem? (i := 48) rfl))
theorem ml_RX8_343 : ab_ML RX8 343 yX0_addSee := Or.inl (tb_5 _ (List.mem_of_getElem? (i := 59) rfl))
theorem ml_RX8_347 : ab_ML RX8 347 yX0_dropSee := Or.inl (tb_5 _ (List.mem_of_getElem? (i := 64) rfl))
theorem ml_RX8_350 : ab_ML RX8 350 yX3_takeBack := Or.inl (tb_5 _ (List.mem_of_getElem? (i := 76) rfl))
theorem ml_RX8_353 : ab_ML RX8 353 yX7_gatherFrom := Or.inl (tb_3 _ (List.mem_of_getElem? (i := 91) rfl))
theorem ml_RX8_356 : ab_ML RX8 356 yX5_takeFrom := Or.inl (tb_3 _ (List.mem_of_getElem? (i := 104) rfl))
theorem ml_RX0_50 : ab_ML RX0 50 yX0_copyStrings := Or.inl (tb_3 _ (List.mem_of_getElem? (i := 80) rfl))
theorem ml_RX0_60 : ab_ML RX0 60 yX0_exchangeIn := Or.inl (tb_5 _ (List.mem_of_getElem? (i := 52) rfl))
theorem ml_RX0_64 : ab_ML RX0 64 yX0_seeOf := Or.inl (tb_3 _ (List.mem_of_getElem? (i := 40) rfl))
theorem ml_RX1_25 : ab_ML RX1 25 yX1_put := Or.inl (tb_2 _ (List.mem_of_getElem? (i := 191) rfl))
theorem ml_RX1_29 : ab_ML RX1 29 yX8_letterOf := Or.inr ⟨"TurnedHeadings", tb_4 _ (List.mem_of_getElem? (i := 81) rfl)⟩
theorem ml_RX1_35 : ab_ML RX1 35 yX8_isLetter := Or.inr ⟨"TurnedHeadings", tb_3 _ (List.mem_of_getElem? (i := 220) rfl)⟩
theorem ml_RX1_39 : ab_ML RX1 39 yX8_grown := Or.inr ⟨"TurnedHeadings", tb_3 _ (List.mem_of_getElem? (i := 221) rfl)⟩
theorem ml_RX1_43 : ab_ML RX1 43 yX8_aligned := Or.inr ⟨"TurnedHeadings", tb_3 _ (List.mem_of_getElem? (i := 222) rfl)⟩
theorem ml_RX2_40 : ab_ML RX2 40 yX2_offer := Or.inl (tb_3 _ (List.mem_of_getElem? (i := 123) rfl))
theorem ml_RX2_47 : ab_ML RX2 47 yX2_compareRows := Or.inl (tb_3 _ (List.mem_of_getElem? (i := 135) rfl))
theorem ml_RX2_51 : ab_ML RX2 51 yX2_compareWords := Or.inl (tb_3 _ (List.mem_of_getElem? (i := 131) rfl))
theorem ml_RX3_17 : ab_ML RX3 17 yX0_init := Or.inr ⟨"TurnedHeadings", tb_1 _ (List.mem_of_getElem? (i := 234) rfl)⟩
theorem ml_RX3_25 : ab_ML RX3 25 yX0_copyFrom := Or.inl (tb_5 _ (List.mem_of_getElem? (i := 27) rfl))
theorem ml_RX4_41 : ab_ML RX4 41 yX8_isLetter := Or.inr ⟨"TurnedHeadings", tb_1 _ (List.mem_of_getElem? (i := 102) rfl)⟩
theorem ml_RX4_45 : ab_ML RX4 45 yX8_grown := Or.inr ⟨"TurnedHeadings", tb_1 _ (List.mem_of_getElem? (i := 105) rfl)⟩
theorem ml_RX4_49 : ab_ML RX4 49 yX8_aligned := Or.inr ⟨"TurnedHeadings", tb_1 _ (List.mem_of_getElem? (i := 108) rfl)⟩
theorem ml_RX4_53 : ab_ML RX4 53 yX4_begin := Or.inl (tb_2 _ (List.mem_of_getElem? (i := 207) rfl))
theorem ml_RX4_57 : ab_ML RX4 57 yX0_clear := Or.inl (tb_2 _ (List.mem_of_getElem? (i := 237) rfl))
theorem ml_RX4_71 : ab_ML RX4 71 yX4_readLine := Or.inl (tb_3 _ (List.mem_of_getElem? (i := 1) rfl))
theorem ml_RX4_75 : ab_ML RX4 75 yX4_readHeading := Or.inl (tb_3 _ (List.mem_of_getElem? (i := 45) rfl))
theorem ml_RX4_78 : ab_ML RX4 78 yX4_takeSign := Or.inl (tb_3 _ (List.mem_of_getElem? (i := 56) rfl))
theorem ml_RX4_81 : ab_ML RX4 81 yX4_fail := Or.inl (tb_3 _ (List.mem_of_getElem? (i := 21) rfl))
theorem ml_RX4_90 : ab_ML RX4 90 yX4_scan := Or.inl (tb_2 _ (List.mem_of_getElem? (i := 211) rfl))
theorem ml_RX4_93 : ab_ML RX4 93 yX4_settle := Or.inl (tb_2 _ (List.mem_of_getElem? (i := 233) rfl))
theorem ml_RX4_106 : ab_ML RX4 106 yX4_kindOf := Or.inl (tb_2 _ (List.mem_of_getElem? (i := 215) rfl))
theorem ml_RX4_110 : ab_ML RX4 110 yX4_open := Or.inl (tb_2 _ (List.mem_of_getElem? (i := 218) rfl))
theorem ml_RX4_114 : ab_ML RX4 114 yX4_extend := Or.inl (tb_2 _ (List.mem_of_getElem? (i := 222) rfl))
theorem ml_RX4_132 : ab_ML RX4 132 yX4_isSign := Or.inl (tb_3 _ (List.mem_of_getElem? (i := 60) rfl))
theorem ml_RX4_135 : ab_ML RX4 135 yX4_step := Or.inl (tb_3 _ (List.mem_of_getElem? (i := 13) rfl))
theorem ml_RX4_138 : ab_ML RX4 138 yX4_isKey := Or.inl (tb_3 _ (List.mem_of_getElem? (i := 5) rfl))
theorem ml_RX4_141 : ab_ML RX4 141 yX4_readLaw := Or.inl (tb_3 _ (List.mem_of_getElem? (i := 9) rfl))
theorem ml_RX4_144 : ab_ML RX4 144 yX4_readSee := Or.inl (tb_3 _ (List.mem_of_getElem? (i := 28) rfl))
theorem ml_RX4_148 : ab_ML RX4 148 yX4_choice := Or.inl (tb_3 _ (List.mem_of_getElem? (i := 17) rfl))
theorem ml_RX4_152 : ab_ML RX4 152 yX8_hasBit := Or.inr ⟨"TurnedHeadings", tb_3 _ (List.mem_of_getElem? (i := 25) rfl)⟩
theorem ml_RX4_162 : ab_ML RX4 162 yX0_seeOf := Or.inl (tb_3 _ (List.mem_of_getElem? (i := 32) rfl))
theorem ml_RX4_166 : ab_ML RX4 166 yX0_used := Or.inl (tb_3 _ (List.mem_of_getElem? (i := 36) rfl))
theorem ml_RX4_169 : ab_ML RX4 169 yX0_addSee := Or.inl (tb_3 _ (List.mem_of_getElem? (i := 41) rfl))
theorem ml_RX4_173 : ab_ML RX4 173 yX8_isAddress := Or.inr ⟨"TurnedHeadings", tb_3 _ (List.mem_of_getElem? (i := 49) rfl)⟩
theorem ml_RX4_176 : ab_ML RX4 176 yX0_stringAt := Or.inl (tb_3 _ (List.mem_of_getElem? (i := 52) rfl))
theorem ml_RX4_179 : ab_ML RX4 179 yX4_readTerm := Or.inl (tb_3 _ (List.mem_of_getElem? (i := 64) rfl))
theorem ml_RX4_198 : ab_ML RX4 198 yX4_readJoin := Or.inl (tb_3 _ (List.mem_of_getElem? (i := 68) rfl))
theorem ml_RX5_42 : ab_ML RX5 42 yX0_used := Or.inl (tb_3 _ (List.mem_of_getElem? (i := 108) rfl))
theorem ml_RX5_46 : ab_ML RX5 46 yX7_numberOf := Or.inl (tb_3 _ (List.mem_of_getElem? (i := 109) rfl))
theorem ml_RX5_60 : ab_ML RX5 60 yX5_hasTwo := Or.inl (tb_4 _ (List.mem_of_getElem? (i := 130) rfl))
theorem ml_RX5_64 : ab_ML RX5 64 yX5_isAgain := Or.inl (tb_4 _ (List.mem_of_getElem? (i := 224) rfl))
theorem ml_RX5_68 : ab_ML RX5 68 yX5_inBoth := Or.inl (tb_4 _ (List.mem_of_getElem? (i := 220) rfl))
theorem ml_RX5_71 : ab_ML RX5 71 yX5_senseSize := Or.inl (tb_4 _ (List.mem_of_getElem? (i := 228) rfl))
theorem ml_RX5_75 : ab_ML RX5 75 yX5_areOfOneSense := Or.inl (tb_5 _ (List.mem_of_getElem? (i := 10) rfl))
theorem ml_RX6_24 : ab_ML RX6 24 yX2_init := Or.inr ⟨"TurnedHeadings", tb_2 _ (List.mem_of_getElem? (i := 67) rfl)⟩
theorem ml_RX6_38 : ab_ML RX6 38 yX6_addEntry := Or.inl (tb_3 _ (List.mem_of_getElem? (i := 115) rfl))
theorem ml_RX6_42 : ab_ML RX6 42 yX6_numberLinesAndHeads := Or.inl (tb_3 _ (List.mem_of_getElem? (i := 139) rfl))
theorem ml_RX6_63 : ab_ML RX6 63 yX2_turn := Or.inl (tb_3 _ (List.mem_of_getElem? (i := 119) rfl))
theorem ml_RX6_67 : ab_ML RX6 67 yX2_compare := Or.inl (tb_3 _ (List.mem_of_getElem? (i := 127) rfl))
theorem ml_RX6_77 : ab_ML RX6 77 yX2_compareWords := Or.inl (tb_3 _ (List.mem_of_getElem? (i := 143) rfl))
theorem ml_RX6_89 : ab_ML RX6 89 yX6_stringsAmong := Or.inl (tb_4 _ (List.mem_of_getElem? (i := 13) rfl))
theorem ml_RX6_96 : ab_ML RX6 96 yJ6_bitCount_0f7a4 := Or.inl (tb_3 _ (List.mem_of_getElem? (i := 172) rfl))
theorem ml_RX6_108 : ab_ML RX6 108 yX1_putName := Or.inl (tb_4 _ (List.mem_of_getElem? (i := 77) rfl))
theorem ml_RX6_129 : ab_ML RX6 129 yX6_putJoined := Or.inl (tb_4 _ (List.mem_of_getElem? (i := 82) rfl))
theorem ml_RX6_136 : ab_ML RX6 136 yX6_printAddresses := Or.inl (tb_4 _ (List.mem_of_getElem? (i := 86) rfl))
theorem ml_RX6_140 : ab_ML RX6 140 yX1_put := Or.inl (tb_4 _ (List.mem_of_getElem? (i := 85) rfl))
theorem ml_RX6_144 : ab_ML RX6 144 yX1_putAddress := Or.inl (tb_4 _ (List.mem_of_getElem? (i := 90) rfl))
theorem ml_RX7_30 : ab_ML RX7 30 yX0_used := Or.inl (tb_3 _ (List.mem_of_getElem? (i := 95) rfl))
theorem ml_RX7_34 : ab_ML RX7 34 yX7_sortIn := Or.inl (tb_3 _ (List.mem_of_getElem? (i := 96) rfl))
theorem ml_RX7_38 : ab_ML RX7 38 yX7_numberOf := Or.inl (tb_3 _ (List.mem_of_getElem? (i := 100) rfl))
theorem ml_RX7_42 : ab_ML RX7 42 yJ6_bitCount_0f7a4 := Or.inl (tb_4 _ (List.mem_of_getElem? (i := 150) rfl))
theorem ml_RX7_48 : ab_ML RX7 48 yX7_stringCount := Or.inl (tb_4 _ (List.mem_of_getElem? (i := 159) rfl))
theorem ml_RX7_51 : ab_ML RX7 51 yX7_spread := Or.inl (tb_4 _ (List.mem_of_getElem? (i := 188) rfl))
theorem ml_RX9_73 : ab_ML RX9 73 yX9_termAt := Or.inl (tb_6 _ (List.mem_of_getElem? (i := 79) rfl))
theorem ml_RX9_80 : ab_ML RX9 80 yX9_puts4 := Or.inl (tb_5 _ (List.mem_of_getElem? (i := 198) rfl))
theorem ml_RX9_84 : ab_ML RX9 84 yX9_in := Or.inl (tb_5 _ (List.mem_of_getElem? (i := 206) rfl))
theorem ml_RX9_91 : ab_ML RX9 91 yX9_good := Or.inl (tb_5 _ (List.mem_of_getElem? (i := 233) rfl))
theorem ml_RX9_101 : ab_ML RX9 101 yX9_see0 := Or.inl (tb_5 _ (List.mem_of_getElem? (i := 221) rfl))
theorem ml_RX9_138 : ab_ML RX9 138 yX9_isWord := Or.inl (tb_6 _ (List.mem_of_getElem? (i := 2) rfl))
theorem ml_RX9_142 : ab_ML RX9 142 yX9_advance := Or.inl (tb_5 _ (List.mem_of_getElem? (i := 217) rfl))
theorem ml_RX9_145 : ab_ML RX9 145 yX9_eatsByte := Or.inl (tb_6 _ (List.mem_of_getElem? (i := 71) rfl))
theorem ml_RX9_149 : ab_ML RX9 149 yX9_errs := Or.inl (tb_6 _ (List.mem_of_getElem? (i := 22) rfl))
theorem ml_RX9_165 : ab_ML RX9 165 yX9_roleHere := Or.inl (tb_6 _ (List.mem_of_getElem? (i := 12) rfl))
theorem ml_RX9_186 : ab_ML RX9 186 yX9_isOwnWord := Or.inl (tb_6 _ (List.mem_of_getElem? (i := 39) rfl))
theorem ml_RX9_189 : ab_ML RX9 189 yX9_packed := Or.inl (tb_6 _ (List.mem_of_getElem? (i := 47) rfl))
theorem ml_RX9_193 : ab_ML RX9 193 yX9_wordHere := Or.inl (tb_6 _ (List.mem_of_getElem? (i := 35) rfl))
theorem ml_RX9_200 : ab_ML RX9 200 yX9_isSeen := Or.inl (tb_6 _ (List.mem_of_getElem? (i := 51) rfl))
theorem ml_RX9_204 : ab_ML RX9 204 yX9_usedOf := Or.inl (tb_6 _ (List.mem_of_getElem? (i := 55) rfl))
theorem ml_RX9_208 : ab_ML RX9 208 yX9_eats := Or.inl (tb_6 _ (List.mem_of_getElem? (i := 82) rfl))
theorem ml_RX9_211 : ab_ML RX9 211 yX9_wordRead := Or.inl (tb_6 _ (List.mem_of_getElem? (i := 86) rfl))
theorem ml_RX9_216 : ab_ML RX9 216 yX9_isAddress := Or.inl (tb_6 _ (List.mem_of_getElem? (i := 63) rfl))
theorem ml_RX9_219 : ab_ML RX9 219 yX9_passesByte := Or.inl (tb_6 _ (List.mem_of_getElem? (i := 67) rfl))
theorem ml_RX9_222 : ab_ML RX9 222 yX9_readTerm := Or.inl (tb_6 _ (List.mem_of_getElem? (i := 75) rfl))
theorem ml_RX9_226 : ab_ML RX9 226 yX9_readLaw := Or.inl (tb_6 _ (List.mem_of_getElem? (i := 8) rfl))
theorem ml_RX9_231 : ab_ML RX9 231 yX9_readSee := Or.inl (tb_6 _ (List.mem_of_getElem? (i := 31) rfl))
theorem ml_RX9_234 : ab_ML RX9 234 yX9_readString := Or.inl (tb_6 _ (List.mem_of_getElem? (i := 58) rfl))
theorem ml_RX9_237 : ab_ML RX9 237 yX9_beginsTape := Or.inl (tb_5 _ (List.mem_of_getElem? (i := 213) rfl))
theorem ml_RX9_240 : ab_ML RX9 240 yX9_readLine := Or.inl (tb_5 _ (List.mem_of_getElem? (i := 237) rfl))
theorem ml_RX9_246 : ab_ML RX9 246 yX9_strings := Or.inl (tb_6 _ (List.mem_of_getElem? (i := 94) rfl))
theorem ml_RX9_249 : ab_ML RX9 249 yX9_keeps := Or.inl (tb_6 _ (List.mem_of_getElem? (i := 98) rfl))
theorem ml_RX9_255 : ab_ML RX9 255 yX9_terms := Or.inl (tb_6 _ (List.mem_of_getElem? (i := 123) rfl))
theorem ml_RX9_258 : ab_ML RX9 258 yX9_findWord := Or.inl (tb_6 _ (List.mem_of_getElem? (i := 127) rfl))
theorem ml_RX9_262 : ab_ML RX9 262 yX9_place := Or.inl (tb_6 _ (List.mem_of_getElem? (i := 131) rfl))
theorem ml_RX9_270 : ab_ML RX9 270 yX9_puts := Or.inl (tb_6 _ (List.mem_of_getElem? (i := 146) rfl))
theorem ml_RX9_274 : ab_ML RX9 274 yX9_leadWord := Or.inl (tb_6 _ (List.mem_of_getElem? (i := 158) rfl))
theorem ml_RX9_277 : ab_ML RX9 277 yX9_comparesRows := Or.inl (tb_6 _ (List.mem_of_getElem? (i := 162) rfl))
theorem ml_RX9_281 : ab_ML RX9 281 yX9_comparesWords := Or.inl (tb_6 _ (List.mem_of_getElem? (i := 154) rfl))
theorem ml_RX9_284 : ab_ML RX9 284 yX9_addressOf := Or.inl (tb_6 _ (List.mem_of_getElem? (i := 166) rfl))
theorem ml_RX9_287 : ab_ML RX9 287 yX9_laysWords := Or.inl (tb_6 _ (List.mem_of_getElem? (i := 119) rfl))
theorem ml_RX9_290 : ab_ML RX9 290 yX9_doesLead := Or.inl (tb_6 _ (List.mem_of_getElem? (i := 134) rfl))
theorem ml_RX9_294 : ab_ML RX9 294 yX9_roleOf := Or.inl (tb_6 _ (List.mem_of_getElem? (i := 138) rfl))
theorem ml_RX9_297 : ab_ML RX9 297 yX9_laysEntry := Or.inl (tb_6 _ (List.mem_of_getElem? (i := 142) rfl))
theorem ml_RX9_300 : ab_ML RX9 300 yX9_compares := Or.inl (tb_6 _ (List.mem_of_getElem? (i := 150) rfl))
theorem ml_RX9_309 : ab_ML RX9 309 yX9_laysBy := Or.inl (tb_6 _ (List.mem_of_getElem? (i := 115) rfl))
theorem ml_RX9_314 : ab_ML RX9 314 yX9_lays := Or.inl (tb_6 _ (List.mem_of_getElem? (i := 111) rfl))
theorem ml_RX9_317 : ab_ML RX9 317 yX9_sees := Or.inl (tb_6 _ (List.mem_of_getElem? (i := 170) rfl))
theorem ml_RX9_323 : ab_ML RX9 323 yX9_isString := Or.inl (tb_6 _ (List.mem_of_getElem? (i := 178) rfl))
theorem ml_RX9_328 : ab_ML RX9 328 yX9_doublesOf := Or.inl (tb_6 _ (List.mem_of_getElem? (i := 183) rfl))
theorem ml_RX9_331 : ab_ML RX9 331 yX9_twiceIn := Or.inl (tb_6 _ (List.mem_of_getElem? (i := 187) rfl))
theorem ml_RX9_334 : ab_ML RX9 334 yX9_letterOf := Or.inl (tb_6 _ (List.mem_of_getElem? (i := 202) rfl))
theorem ml_RX9_340 : ab_ML RX9 340 yX9_isTerm := Or.inl (tb_6 _ (List.mem_of_getElem? (i := 195) rfl))
theorem ml_RX9_343 : ab_ML RX9 343 yX9_lettersOf := Or.inl (tb_6 _ (List.mem_of_getElem? (i := 199) rfl))
theorem ml_RX9_346 : ab_ML RX9 346 yX9_isWordNow := Or.inl (tb_6 _ (List.mem_of_getElem? (i := 210) rfl))
theorem ml_RX9_351 : ab_ML RX9 351 yX9_lettersTold := Or.inl (tb_6 _ (List.mem_of_getElem? (i := 223) rfl))
theorem ml_RX9_354 : ab_ML RX9 354 yX9_addressAbove := Or.inl (tb_7 _ (List.mem_of_getElem? (i := 20) rfl))
theorem ml_RX9_357 : ab_ML RX9 357 yX9_isLineNow := Or.inl (tb_7 _ (List.mem_of_getElem? (i := 3) rfl))
theorem ml_RX9_362 : ab_ML RX9 362 yX9_firstOf := Or.inl (tb_7 _ (List.mem_of_getElem? (i := 8) rfl))
theorem ml_RX9_365 : ab_ML RX9 365 yX9_manyOf := Or.inl (tb_7 _ (List.mem_of_getElem? (i := 12) rfl))
theorem ml_RX9_368 : ab_ML RX9 368 yX9_addressesOf := Or.inl (tb_7 _ (List.mem_of_getElem? (i := 16) rfl))
theorem ml_RX9_371 : ab_ML RX9 371 yX9_headWord := Or.inl (tb_7 _ (List.mem_of_getElem? (i := 32) rfl))
theorem ml_RX9_374 : ab_ML RX9 374 yX9_stringsUnder := Or.inl (tb_7 _ (List.mem_of_getElem? (i := 36) rfl))
theorem ml_RX9_377 : ab_ML RX9 377 yX9_bits := Or.inl (tb_7 _ (List.mem_of_getElem? (i := 40) rfl))
theorem ml_RX9_383 : ab_ML RX9 383 yX9_says := Or.inl (tb_7 _ (List.mem_of_getElem? (i := 55) rfl))
theorem ml_RX9_386 : ab_ML RX9 386 yX9_saysWord := Or.inl (tb_7 _ (List.mem_of_getElem? (i := 51) rfl))
theorem ml_RX9_390 : ab_ML RX9 390 yX9_joinOf := Or.inl (tb_7 _ (List.mem_of_getElem? (i := 59) rfl))
theorem ml_RX9_393 : ab_ML RX9 393 yX9_saysNumber := Or.inl (tb_7 _ (List.mem_of_getElem? (i := 63) rfl))
theorem ml_RX9_396 : ab_ML RX9 396 yX9_prints := Or.inl (tb_7 _ (List.mem_of_getElem? (i := 47) rfl))
theorem ml_RX9_399 : ab_ML RX9 399 yX9_comesOut := Or.inl (tb_7 _ (List.mem_of_getElem? (i := 67) rfl))
theorem ml_RX9_402 : ab_ML RX9 402 yX9_hasWord := Or.inl (tb_7 _ (List.mem_of_getElem? (i := 100) rfl))
theorem ml_RX9_408 : ab_ML RX9 408 yX9_having0 := Or.inl (tb_7 _ (List.mem_of_getElem? (i := 96) rfl))
theorem ml_RX9_411 : ab_ML RX9 411 yX9_sharing0 := Or.inl (tb_7 _ (List.mem_of_getElem? (i := 108) rfl))
theorem ml_RX9_414 : ab_ML RX9 414 yX9_isFirst := Or.inl (tb_7 _ (List.mem_of_getElem? (i := 128) rfl))
theorem ml_RX9_417 : ab_ML RX9 417 yX9_hasSense := Or.inl (tb_7 _ (List.mem_of_getElem? (i := 132) rfl))
theorem ml_RX9_420 : ab_ML RX9 420 yX9_commonOf := Or.inl (tb_7 _ (List.mem_of_getElem? (i := 124) rfl))
theorem ml_RX9_423 : ab_ML RX9 423 yX9_areSame := Or.inl (tb_7 _ (List.mem_of_getElem? (i := 116) rfl))
theorem ml_RX9_426 : ab_ML RX9 426 yX9_areOneSense := Or.inl (tb_7 _ (List.mem_of_getElem? (i := 120) rfl))
theorem ml_RX9_429 : ab_ML RX9 429 yX9_isBeside := Or.inl (tb_7 _ (List.mem_of_getElem? (i := 152) rfl))
theorem ml_RX9_432 : ab_ML RX9 432 yX9_oftenOf := Or.inl (tb_7 _ (List.mem_of_getElem? (i := 160) rfl))
theorem ml_RX9_440 : ab_ML RX9 440 yX9_isIn := Or.inl (tb_7 _ (List.mem_of_getElem? (i := 186) rfl))
theorem ml_RX9_443 : ab_ML RX9 443 yX9_laysFar := Or.inl (tb_7 _ (List.mem_of_getElem? (i := 202) rfl))
theorem ml_RX9_446 : ab_ML RX9 446 yX9_roleIf := Or.inl (tb_8 _ (List.mem_of_getElem? (i := 6) rfl))
theorem my_J6_bitCount_0f7a4 : ab_MY yJ6_bitCount_0f7a4 cJ6_bitCount_0f7a4 1 1 (some .int) := ⟨tb_3 _ (List.mem_of_getElem? (i := 174) rfl), tb_1 _ (List.mem_of_getElem? (i := 17) rfl), ⟨by decide +kernel, by decide +kernel⟩, by decide +kernel⟩
theorem my_X0_addSee : ab_MY yX0_addSee cX0_addSee 5 2 none := ⟨tb_3 _ (List.mem_of_getElem? (i := 44) rfl), tb_1 _ (List.mem_of_getElem? (i := 9) rfl), ⟨by decide +kernel, by decide +kernel⟩, by decide +kernel⟩
theorem my_X0_clear : ab_MY yX0_clear cX0_clear 2 0 none := ⟨tb_3 _ (List.mem_of_getElem? (i := 0) rfl), tb_1 _ (List.mem_of_getElem? (i := 9) rfl), ⟨by decide +kernel, by decide +kernel⟩, by decide +kernel⟩
theorem my_X0_copyFrom : ab_MY yX0_copyFrom cX0_copyFrom 2 1 none := ⟨tb_3 _ (List.mem_of_getElem? (i := 79) rfl), tb_1 _ (List.mem_of_getElem? (i := 9) rfl), ⟨by decide +kernel, by decide +kernel⟩, by decide +kernel⟩
theorem my_X0_copyStrings : ab_MY yX0_copyStrings cX0_copyStrings 8 4 none := ⟨tb_3 _ (List.mem_of_getElem? (i := 83) rfl), tb_1 _ (List.mem_of_getElem? (i := 9) rfl), ⟨by decide +kernel, by decide +kernel⟩, by decide +kernel⟩
theorem my_X0_dropSee : ab_MY yX0_dropSee cX0_dropSee 3 1 none := ⟨tb_5 _ (List.mem_of_getElem? (i := 67) rfl), tb_1 _ (List.mem_of_getElem? (i := 9) rfl), ⟨by decide +kernel, by decide +kernel⟩, by decide +kernel⟩
theorem my_X0_dropString : ab_MY yX0_dropString cX0_dropString 2 1 none := ⟨tb_5 _ (List.mem_of_getElem? (i := 35) rfl), tb_1 _ (List.mem_of_getElem? (i := 9) rfl), ⟨by decide +kernel, by decide +kernel⟩, by decide +kernel⟩
theorem my_X0_exchange : ab_MY yX0_exchange cX0_exchange 4 2 none := ⟨tb_5 _ (List.mem_of_getElem? (i := 51) rfl), tb_1 _ (List.mem_of_getElem? (i := 9) rfl), ⟨by decide +kernel, by decide +kernel⟩, by decide +kernel⟩
theorem my_X0_exchangeIn : ab_MY yX0_exchangeIn cX0_exchangeIn 5 3 none := ⟨tb_5 _ (List.mem_of_getElem? (i := 54) rfl), tb_1 _ (List.mem_of_getElem? (i := 9) rfl), ⟨by decide +kernel, by decide +kernel⟩, by decide +kernel⟩
theorem my_X0_init : ab_MY yX0_init cX0_init 1 0 none := ⟨tb_1 _ (List.mem_of_getElem? (i := 155) rfl), tb_1 _ (List.mem_of_getElem? (i := 9) rfl), ⟨by decide +kernel, by decide +kernel⟩, by decide +kernel⟩
theorem my_X0_leadingOf : ab_MY yX0_leadingOf cX0_leadingOf 4 1 (some .int) := ⟨tb_3 _ (List.mem_of_getElem? (i := 167) rfl), tb_1 _ (List.mem_of_getElem? (i := 9) rfl), ⟨by decide +kernel, by decide +kernel⟩, by decide +kernel⟩
theorem my_X0_seeOf : ab_MY yX0_seeOf cX0_seeOf 4 1 (some .int) := ⟨tb_3 _ (List.mem_of_getElem? (i := 35) rfl), tb_1 _ (List.mem_of_getElem? (i := 9) rfl), ⟨by decide +kernel, by decide +kernel⟩, by decide +kernel⟩
theorem my_X0_stringAt : ab_MY yX0_stringAt cX0_stringAt 3 1 (some .int) := ⟨tb_3 _ (List.mem_of_getElem? (i := 55) rfl), tb_1 _ (List.mem_of_getElem? (i := 9) rfl), ⟨by decide +kernel, by decide +kernel⟩, by decide +kernel⟩
theorem my_X0_termsOfAll : ab_MY yX0_termsOfAll cX0_termsOfAll 3 0 (some .int) := ⟨tb_3 _ (List.mem_of_getElem? (i := 155) rfl), tb_1 _ (List.mem_of_getElem? (i := 9) rfl), ⟨by decide +kernel, by decide +kernel⟩, by decide +kernel⟩
theorem my_X0_used : ab_MY yX0_used cX0_used 7 1 (some .long) := ⟨tb_3 _ (List.mem_of_getElem? (i := 39) rfl), tb_1 _ (List.mem_of_getElem? (i := 9) rfl), ⟨by decide +kernel, by decide +kernel⟩, by decide +kernel⟩
theorem my_X1_asName : ab_MY yX1_asName cX1_asName 4 0 (some .long) := ⟨tb_3 _ (List.mem_of_getElem? (i := 218) rfl), tb_1 _ (List.mem_of_getElem? (i := 2) rfl), ⟨by decide +kernel, by decide +kernel⟩, by decide +kernel⟩
theorem my_X1_init : ab_MY yX1_init cX1_init 2 1 none := ⟨tb_1 _ (List.mem_of_getElem? (i := 30) rfl), tb_1 _ (List.mem_of_getElem? (i := 2) rfl), ⟨by decide +kernel, by decide +kernel⟩, by decide +kernel⟩
theorem my_X1_put : ab_MY yX1_put cX1_put 2 1 none := ⟨tb_2 _ (List.mem_of_getElem? (i := 194) rfl), tb_1 _ (List.mem_of_getElem? (i := 2) rfl), ⟨by decide +kernel, by decide +kernel⟩, by decide +kernel⟩
theorem my_X1_putAddress : ab_MY yX1_putAddress cX1_putAddress 2 1 none := ⟨tb_4 _ (List.mem_of_getElem? (i := 93) rfl), tb_1 _ (List.mem_of_getElem? (i := 2) rfl), ⟨by decide +kernel, by decide +kernel⟩, by decide +kernel⟩
theorem my_X1_putAll : ab_MY yX1_putAll cX1_putAll 3 1 none := ⟨tb_4 _ (List.mem_of_getElem? (i := 105) rfl), tb_1 _ (List.mem_of_getElem? (i := 2) rfl), ⟨by decide +kernel, by decide +kernel⟩, by decide +kernel⟩
theorem my_X1_putFour : ab_MY yX1_putFour cX1_putFour 3 1 none := ⟨tb_2 _ (List.mem_of_getElem? (i := 190) rfl), tb_1 _ (List.mem_of_getElem? (i := 2) rfl), ⟨by decide +kernel, by decide +kernel⟩, by decide +kernel⟩
theorem my_X1_putName : ab_MY yX1_putName cX1_putName 5 1 none := ⟨tb_4 _ (List.mem_of_getElem? (i := 80) rfl), tb_1 _ (List.mem_of_getElem? (i := 2) rfl), ⟨by decide +kernel, by decide +kernel⟩, by decide +kernel⟩
theorem my_X2_compare : ab_MY yX2_compare cX2_compare 3 1 (some .int) := ⟨tb_3 _ (List.mem_of_getElem? (i := 130) rfl), tb_1 _ (List.mem_of_getElem? (i := 14) rfl), ⟨by decide +kernel, by decide +kernel⟩, by decide +kernel⟩
theorem my_X2_compareRows : ab_MY yX2_compareRows cX2_compareRows 6 4 (some .int) := ⟨tb_3 _ (List.mem_of_getElem? (i := 138) rfl), tb_1 _ (List.mem_of_getElem? (i := 14) rfl), ⟨by decide +kernel, by decide +kernel⟩, by decide +kernel⟩
theorem my_X2_compareWords : ab_MY yX2_compareWords cX2_compareWords 3 1 (some .int) := ⟨tb_3 _ (List.mem_of_getElem? (i := 134) rfl), tb_1 _ (List.mem_of_getElem? (i := 14) rfl), ⟨by decide +kernel, by decide +kernel⟩, by decide +kernel⟩
theorem my_X2_init : ab_MY yX2_init cX2_init 1 0 none := ⟨tb_2 _ (List.mem_of_getElem? (i := 69) rfl), tb_1 _ (List.mem_of_getElem? (i := 14) rfl), ⟨by decide +kernel, by decide +kernel⟩, by decide +kernel⟩
theorem my_X2_offer : ab_MY yX2_offer cX2_offer 5 3 none := ⟨tb_3 _ (List.mem_of_getElem? (i := 126) rfl), tb_1 _ (List.mem_of_getElem? (i := 14) rfl), ⟨by decide +kernel, by decide +kernel⟩, by decide +kernel⟩
theorem my_X2_shows : ab_MY yX2_shows cX2_shows 6 2 (some .boolean) := ⟨tb_4 _ (List.mem_of_getElem? (i := 49) rfl), tb_1 _ (List.mem_of_getElem? (i := 14) rfl), ⟨by decide +kernel, by decide +kernel⟩, by decide +kernel⟩
theorem my_X2_turn : ab_MY yX2_turn cX2_turn 6 2 none := ⟨tb_3 _ (List.mem_of_getElem? (i := 122) rfl), tb_1 _ (List.mem_of_getElem? (i := 14) rfl), ⟨by decide +kernel, by decide +kernel⟩, by decide +kernel⟩
theorem my_X3_forgetAll : ab_MY yX3_forgetAll cX3_forgetAll 1 0 none := ⟨tb_3 _ (List.mem_of_getElem? (i := 75) rfl), tb_1 _ (List.mem_of_getElem? (i := 10) rfl), ⟨by decide +kernel, by decide +kernel⟩, by decide +kernel⟩
theorem my_X3_init : ab_MY yX3_init cX3_init 2 0 none := ⟨tb_1 _ (List.mem_of_getElem? (i := 230) rfl), tb_1 _ (List.mem_of_getElem? (i := 10) rfl), ⟨by decide +kernel, by decide +kernel⟩, by decide +kernel⟩
theorem my_X3_keep : ab_MY yX3_keep cX3_keep 2 1 none := ⟨tb_5 _ (List.mem_of_getElem? (i := 26) rfl), tb_1 _ (List.mem_of_getElem? (i := 10) rfl), ⟨by decide +kernel, by decide +kernel⟩, by decide +kernel⟩
theorem my_X3_takeBack : ab_MY yX3_takeBack cX3_takeBack 2 1 none := ⟨tb_5 _ (List.mem_of_getElem? (i := 79) rfl), tb_1 _ (List.mem_of_getElem? (i := 10) rfl), ⟨by decide +kernel, by decide +kernel⟩, by decide +kernel⟩
theorem my_X4_begin : ab_MY yX4_begin cX4_begin 3 1 none := ⟨tb_2 _ (List.mem_of_getElem? (i := 210) rfl), tb_1 _ (List.mem_of_getElem? (i := 4) rfl), ⟨by decide +kernel, by decide +kernel⟩, by decide +kernel⟩
theorem my_X4_choice : ab_MY yX4_choice cX4_choice 4 2 (some .int) := ⟨tb_3 _ (List.mem_of_getElem? (i := 20) rfl), tb_1 _ (List.mem_of_getElem? (i := 4) rfl), ⟨by decide +kernel, by decide +kernel⟩, by decide +kernel⟩
theorem my_X4_extend : ab_MY yX4_extend cX4_extend 4 3 none := ⟨tb_2 _ (List.mem_of_getElem? (i := 225) rfl), tb_1 _ (List.mem_of_getElem? (i := 4) rfl), ⟨by decide +kernel, by decide +kernel⟩, by decide +kernel⟩
theorem my_X4_fail : ab_MY yX4_fail cX4_fail 2 1 (some .boolean) := ⟨tb_3 _ (List.mem_of_getElem? (i := 24) rfl), tb_1 _ (List.mem_of_getElem? (i := 4) rfl), ⟨by decide +kernel, by decide +kernel⟩, by decide +kernel⟩
theorem my_X4_init : ab_MY yX4_init cX4_init 5 0 none := ⟨tb_1 _ (List.mem_of_getElem? (i := 51) rfl), tb_1 _ (List.mem_of_getElem? (i := 4) rfl), ⟨by decide +kernel, by decide +kernel⟩, by decide +kernel⟩
theorem my_X4_isKey : ab_MY yX4_isKey cX4_isKey 2 1 (some .boolean) := ⟨tb_3 _ (List.mem_of_getElem? (i := 8) rfl), tb_1 _ (List.mem_of_getElem? (i := 4) rfl), ⟨by decide +kernel, by decide +kernel⟩, by decide +kernel⟩
theorem my_X4_isSign : ab_MY yX4_isSign cX4_isSign 2 1 (some .boolean) := ⟨tb_3 _ (List.mem_of_getElem? (i := 63) rfl), tb_1 _ (List.mem_of_getElem? (i := 4) rfl), ⟨by decide +kernel, by decide +kernel⟩, by decide +kernel⟩
theorem my_X4_kindOf : ab_MY yX4_kindOf cX4_kindOf 1 1 (some .int) := ⟨tb_2 _ (List.mem_of_getElem? (i := 217) rfl), tb_1 _ (List.mem_of_getElem? (i := 4) rfl), ⟨by decide +kernel, by decide +kernel⟩, by decide +kernel⟩
theorem my_X4_open : ab_MY yX4_open cX4_open 3 2 none := ⟨tb_2 _ (List.mem_of_getElem? (i := 221) rfl), tb_1 _ (List.mem_of_getElem? (i := 4) rfl), ⟨by decide +kernel, by decide +kernel⟩, by decide +kernel⟩
theorem my_X4_readAdded : ab_MY yX4_readAdded cX4_readAdded 3 2 (some .boolean) := ⟨tb_5 _ (List.mem_of_getElem? (i := 22) rfl), tb_1 _ (List.mem_of_getElem? (i := 4) rfl), ⟨by decide +kernel, by decide +kernel⟩, by decide +kernel⟩
theorem my_X4_readHeading : ab_MY yX4_readHeading cX4_readHeading 5 1 (some .boolean) := ⟨tb_3 _ (List.mem_of_getElem? (i := 48) rfl), tb_1 _ (List.mem_of_getElem? (i := 4) rfl), ⟨by decide +kernel, by decide +kernel⟩, by decide +kernel⟩
theorem my_X4_readJoin : ab_MY yX4_readJoin cX4_readJoin 2 1 (some .boolean) := ⟨tb_3 _ (List.mem_of_getElem? (i := 71) rfl), tb_1 _ (List.mem_of_getElem? (i := 4) rfl), ⟨by decide +kernel, by decide +kernel⟩, by decide +kernel⟩
theorem my_X4_readLaw : ab_MY yX4_readLaw cX4_readLaw 4 1 (some .boolean) := ⟨tb_3 _ (List.mem_of_getElem? (i := 12) rfl), tb_1 _ (List.mem_of_getElem? (i := 4) rfl), ⟨by decide +kernel, by decide +kernel⟩, by decide +kernel⟩
theorem my_X4_readLine : ab_MY yX4_readLine cX4_readLine 3 1 (some .boolean) := ⟨tb_3 _ (List.mem_of_getElem? (i := 4) rfl), tb_1 _ (List.mem_of_getElem? (i := 4) rfl), ⟨by decide +kernel, by decide +kernel⟩, by decide +kernel⟩
theorem my_X4_readSee : ab_MY yX4_readSee cX4_readSee 6 1 (some .boolean) := ⟨tb_3 _ (List.mem_of_getElem? (i := 31) rfl), tb_1 _ (List.mem_of_getElem? (i := 4) rfl), ⟨by decide +kernel, by decide +kernel⟩, by decide +kernel⟩
theorem my_X4_readTerm : ab_MY yX4_readTerm cX4_readTerm 7 3 (some .boolean) := ⟨tb_3 _ (List.mem_of_getElem? (i := 67) rfl), tb_1 _ (List.mem_of_getElem? (i := 4) rfl), ⟨by decide +kernel, by decide +kernel⟩, by decide +kernel⟩
theorem my_X4_readText : ab_MY yX4_readText cX4_readText 3 2 (some .boolean) := ⟨tb_2 _ (List.mem_of_getElem? (i := 206) rfl), tb_1 _ (List.mem_of_getElem? (i := 4) rfl), ⟨by decide +kernel, by decide +kernel⟩, by decide +kernel⟩
theorem my_X4_scan : ab_MY yX4_scan cX4_scan 7 1 none := ⟨tb_2 _ (List.mem_of_getElem? (i := 214) rfl), tb_1 _ (List.mem_of_getElem? (i := 4) rfl), ⟨by decide +kernel, by decide +kernel⟩, by decide +kernel⟩
theorem my_X4_settle : ab_MY yX4_settle cX4_settle 3 1 none := ⟨tb_2 _ (List.mem_of_getElem? (i := 236) rfl), tb_1 _ (List.mem_of_getElem? (i := 4) rfl), ⟨by decide +kernel, by decide +kernel⟩, by decide +kernel⟩
theorem my_X4_step : ab_MY yX4_step cX4_step 1 0 none := ⟨tb_3 _ (List.mem_of_getElem? (i := 16) rfl), tb_1 _ (List.mem_of_getElem? (i := 4) rfl), ⟨by decide +kernel, by decide +kernel⟩, by decide +kernel⟩
theorem my_X4_takeSign : ab_MY yX4_takeSign cX4_takeSign 2 1 (some .boolean) := ⟨tb_3 _ (List.mem_of_getElem? (i := 59) rfl), tb_1 _ (List.mem_of_getElem? (i := 4) rfl), ⟨by decide +kernel, by decide +kernel⟩, by decide +kernel⟩
theorem my_X5_areOfOneSense : ab_MY yX5_areOfOneSense cX5_areOfOneSense 4 2 (some .boolean) := ⟨tb_4 _ (List.mem_of_getElem? (i := 219) rfl), tb_1 _ (List.mem_of_getElem? (i := 12) rfl), ⟨by decide +kernel, by decide +kernel⟩, by decide +kernel⟩
theorem my_X5_areSame : ab_MY yX5_areSame cX5_areSame 6 2 (some .boolean) := ⟨tb_4 _ (List.mem_of_getElem? (i := 215) rfl), tb_1 _ (List.mem_of_getElem? (i := 12) rfl), ⟨by decide +kernel, by decide +kernel⟩, by decide +kernel⟩
theorem my_X5_follow : ab_MY yX5_follow cX5_follow 5 2 (some .boolean) := ⟨tb_4 _ (List.mem_of_getElem? (i := 179) rfl), tb_1 _ (List.mem_of_getElem? (i := 12) rfl), ⟨by decide +kernel, by decide +kernel⟩, by decide +kernel⟩
theorem my_X5_hasTwo : ab_MY yX5_hasTwo cX5_hasTwo 6 4 (some .boolean) := ⟨tb_4 _ (List.mem_of_getElem? (i := 133) rfl), tb_1 _ (List.mem_of_getElem? (i := 12) rfl), ⟨by decide +kernel, by decide +kernel⟩, by decide +kernel⟩
theorem my_X5_inBoth : ab_MY yX5_inBoth cX5_inBoth 6 2 (some .int) := ⟨tb_4 _ (List.mem_of_getElem? (i := 223) rfl), tb_1 _ (List.mem_of_getElem? (i := 12) rfl), ⟨by decide +kernel, by decide +kernel⟩, by decide +kernel⟩
theorem my_X5_init : ab_MY yX5_init cX5_init 1 0 none := ⟨tb_2 _ (List.mem_of_getElem? (i := 30) rfl), tb_1 _ (List.mem_of_getElem? (i := 12) rfl), ⟨by decide +kernel, by decide +kernel⟩, by decide +kernel⟩
theorem my_X5_isAgain : ab_MY yX5_isAgain cX5_isAgain 3 2 (some .boolean) := ⟨tb_4 _ (List.mem_of_getElem? (i := 227) rfl), tb_1 _ (List.mem_of_getElem? (i := 12) rfl), ⟨by decide +kernel, by decide +kernel⟩, by decide +kernel⟩
theorem my_X5_isFirstOfSense : ab_MY yX5_isFirstOfSense cX5_isFirstOfSense 3 1 (some .boolean) := ⟨tb_5 _ (List.mem_of_getElem? (i := 9) rfl), tb_1 _ (List.mem_of_getElem? (i := 12) rfl), ⟨by decide +kernel, by decide +kernel⟩, by decide +kernel⟩
theorem my_X5_repeatedIn : ab_MY yX5_repeatedIn cX5_repeatedIn 6 1 (some .int) := ⟨tb_3 _ (List.mem_of_getElem? (i := 181) rfl), tb_1 _ (List.mem_of_getElem? (i := 12) rfl), ⟨by decide +kernel, by decide +kernel⟩, by decide +kernel⟩
theorem my_X5_senseSize : ab_MY yX5_senseSize cX5_senseSize 4 1 (some .int) := ⟨tb_4 _ (List.mem_of_getElem? (i := 231) rfl), tb_1 _ (List.mem_of_getElem? (i := 12) rfl), ⟨by decide +kernel, by decide +kernel⟩, by decide +kernel⟩
theorem my_X5_stringsWith : ab_MY yX5_stringsWith cX5_stringsWith 5 2 (some .int) := ⟨tb_4 _ (List.mem_of_getElem? (i := 129) rfl), tb_1 _ (List.mem_of_getElem? (i := 12) rfl), ⟨by decide +kernel, by decide +kernel⟩, by decide +kernel⟩
theorem my_X5_takeFrom : ab_MY yX5_takeFrom cX5_takeFrom 5 2 none := ⟨tb_3 _ (List.mem_of_getElem? (i := 107) rfl), tb_1 _ (List.mem_of_getElem? (i := 12) rfl), ⟨by decide +kernel, by decide +kernel⟩, by decide +kernel⟩
theorem my_X6_addEntry : ab_MY yX6_addEntry cX6_addEntry 7 4 none := ⟨tb_3 _ (List.mem_of_getElem? (i := 118) rfl), tb_1 _ (List.mem_of_getElem? (i := 13) rfl), ⟨by decide +kernel, by decide +kernel⟩, by decide +kernel⟩
theorem my_X6_doublesOf : ab_MY yX6_doublesOf cX6_doublesOf 4 1 (some .int) := ⟨tb_3 _ (List.mem_of_getElem? (i := 171) rfl), tb_1 _ (List.mem_of_getElem? (i := 13) rfl), ⟨by decide +kernel, by decide +kernel⟩, by decide +kernel⟩
theorem my_X6_doublesOfAll : ab_MY yX6_doublesOfAll cX6_doublesOfAll 3 0 (some .int) := ⟨tb_4 _ (List.mem_of_getElem? (i := 68) rfl), tb_1 _ (List.mem_of_getElem? (i := 13) rfl), ⟨by decide +kernel, by decide +kernel⟩, by decide +kernel⟩
theorem my_X6_init : ab_MY yX6_init cX6_init 2 0 none := ⟨tb_2 _ (List.mem_of_getElem? (i := 62) rfl), tb_1 _ (List.mem_of_getElem? (i := 13) rfl), ⟨by decide +kernel, by decide +kernel⟩, by decide +kernel⟩
theorem my_X6_numberLinesAndHeads : ab_MY yX6_numberLinesAndHeads cX6_numberLinesAndHeads 3 0 none := ⟨tb_3 _ (List.mem_of_getElem? (i := 142) rfl), tb_1 _ (List.mem_of_getElem? (i := 13) rfl), ⟨by decide +kernel, by decide +kernel⟩, by decide +kernel⟩
theorem my_X6_printAddresses : ab_MY yX6_printAddresses cX6_printAddresses 6 2 none := ⟨tb_4 _ (List.mem_of_getElem? (i := 89) rfl), tb_1 _ (List.mem_of_getElem? (i := 13) rfl), ⟨by decide +kernel, by decide +kernel⟩, by decide +kernel⟩
theorem my_X6_printLine : ab_MY yX6_printLine cX6_printLine 10 4 none := ⟨tb_4 _ (List.mem_of_getElem? (i := 76) rfl), tb_1 _ (List.mem_of_getElem? (i := 13) rfl), ⟨by decide +kernel, by decide +kernel⟩, by decide +kernel⟩
theorem my_X6_putJoined : ab_MY yX6_putJoined cX6_putJoined 6 4 none := ⟨tb_4 _ (List.mem_of_getElem? (i := 84) rfl), tb_1 _ (List.mem_of_getElem? (i := 13) rfl), ⟨by decide +kernel, by decide +kernel⟩, by decide +kernel⟩
theorem my_X6_stringsAmong : ab_MY yX6_stringsAmong cX6_stringsAmong 5 2 (some .int) := ⟨tb_4 _ (List.mem_of_getElem? (i := 16) rfl), tb_1 _ (List.mem_of_getElem? (i := 13) rfl), ⟨by decide +kernel, by decide +kernel⟩, by decide +kernel⟩
theorem my_X6_stringsOfHead : ab_MY yX6_stringsOfHead cX6_stringsOfHead 2 1 (some .int) := ⟨tb_4 _ (List.mem_of_getElem? (i := 32) rfl), tb_1 _ (List.mem_of_getElem? (i := 13) rfl), ⟨by decide +kernel, by decide +kernel⟩, by decide +kernel⟩
theorem my_X6_stringsOfLine : ab_MY yX6_stringsOfLine cX6_stringsOfLine 2 1 (some .int) := ⟨tb_4 _ (List.mem_of_getElem? (i := 12) rfl), tb_1 _ (List.mem_of_getElem? (i := 13) rfl), ⟨by decide +kernel, by decide +kernel⟩, by decide +kernel⟩
theorem my_X6_turnAll : ab_MY yX6_turnAll cX6_turnAll 5 2 none := ⟨tb_3 _ (List.mem_of_getElem? (i := 114) rfl), tb_1 _ (List.mem_of_getElem? (i := 13) rfl), ⟨by decide +kernel, by decide +kernel⟩, by decide +kernel⟩
theorem my_X7_areAllIn : ab_MY yX7_areAllIn cX7_areAllIn 3 1 (some .boolean) := ⟨tb_4 _ (List.mem_of_getElem? (i := 207) rfl), tb_1 _ (List.mem_of_getElem? (i := 11) rfl), ⟨by decide +kernel, by decide +kernel⟩, by decide +kernel⟩
theorem my_X7_gatherFrom : ab_MY yX7_gatherFrom cX7_gatherFrom 4 1 none := ⟨tb_3 _ (List.mem_of_getElem? (i := 94) rfl), tb_1 _ (List.mem_of_getElem? (i := 11) rfl), ⟨by decide +kernel, by decide +kernel⟩, by decide +kernel⟩
theorem my_X7_groupOf : ab_MY yX7_groupOf cX7_groupOf 4 1 (some .int) := ⟨tb_4 _ (List.mem_of_getElem? (i := 199) rfl), tb_1 _ (List.mem_of_getElem? (i := 11) rfl), ⟨by decide +kernel, by decide +kernel⟩, by decide +kernel⟩
theorem my_X7_init : ab_MY yX7_init cX7_init 1 0 none := ⟨tb_2 _ (List.mem_of_getElem? (i := 10) rfl), tb_1 _ (List.mem_of_getElem? (i := 11) rfl), ⟨by decide +kernel, by decide +kernel⟩, by decide +kernel⟩
theorem my_X7_numberOf : ab_MY yX7_numberOf cX7_numberOf 4 1 (some .int) := ⟨tb_3 _ (List.mem_of_getElem? (i := 103) rfl), tb_1 _ (List.mem_of_getElem? (i := 11) rfl), ⟨by decide +kernel, by decide +kernel⟩, by decide +kernel⟩
theorem my_X7_rankOf : ab_MY yX7_rankOf cX7_rankOf 6 1 (some .int) := ⟨tb_4 _ (List.mem_of_getElem? (i := 158) rfl), tb_1 _ (List.mem_of_getElem? (i := 11) rfl), ⟨by decide +kernel, by decide +kernel⟩, by decide +kernel⟩
theorem my_X7_sortIn : ab_MY yX7_sortIn cX7_sortIn 6 2 none := ⟨tb_3 _ (List.mem_of_getElem? (i := 99) rfl), tb_1 _ (List.mem_of_getElem? (i := 11) rfl), ⟨by decide +kernel, by decide +kernel⟩, by decide +kernel⟩
theorem my_X7_spread : ab_MY yX7_spread cX7_spread 4 1 (some .int) := ⟨tb_4 _ (List.mem_of_getElem? (i := 191) rfl), tb_1 _ (List.mem_of_getElem? (i := 11) rfl), ⟨by decide +kernel, by decide +kernel⟩, by decide +kernel⟩
theorem my_X7_stepsBetween : ab_MY yX7_stepsBetween cX7_stepsBetween 5 2 (some .int) := ⟨tb_4 _ (List.mem_of_getElem? (i := 187) rfl), tb_1 _ (List.mem_of_getElem? (i := 11) rfl), ⟨by decide +kernel, by decide +kernel⟩, by decide +kernel⟩
theorem my_X7_stringCount : ab_MY yX7_stringCount cX7_stringCount 2 1 (some .int) := ⟨tb_4 _ (List.mem_of_getElem? (i := 149) rfl), tb_1 _ (List.mem_of_getElem? (i := 11) rfl), ⟨by decide +kernel, by decide +kernel⟩, by decide +kernel⟩
theorem my_X8_aligned : ab_MY yX8_aligned cX8_aligned 5 1 (some .long) := ⟨tb_1 _ (List.mem_of_getElem? (i := 110) rfl), tb_1 _ (List.mem_of_getElem? (i := 1) rfl), ⟨by decide +kernel, by decide +kernel⟩, by decide +kernel⟩
theorem my_X8_beginsWith : ab_MY yX8_beginsWith cX8_beginsWith 6 3 (some .boolean) := ⟨tb_4 _ (List.mem_of_getElem? (i := 121) rfl), tb_1 _ (List.mem_of_getElem? (i := 1) rfl), ⟨by decide +kernel, by decide +kernel⟩, by decide +kernel⟩
theorem my_X8_grown : ab_MY yX8_grown cX8_grown 3 2 (some .long) := ⟨tb_1 _ (List.mem_of_getElem? (i := 107) rfl), tb_1 _ (List.mem_of_getElem? (i := 1) rfl), ⟨by decide +kernel, by decide +kernel⟩, by decide +kernel⟩
theorem my_X8_hasBit : ab_MY yX8_hasBit cX8_hasBit 2 2 (some .boolean) := ⟨tb_3 _ (List.mem_of_getElem? (i := 27) rfl), tb_1 _ (List.mem_of_getElem? (i := 1) rfl), ⟨by decide +kernel, by decide +kernel⟩, by decide +kernel⟩
theorem my_X8_isAddress : ab_MY yX8_isAddress cX8_isAddress 1 1 (some .boolean) := ⟨tb_3 _ (List.mem_of_getElem? (i := 51) rfl), tb_1 _ (List.mem_of_getElem? (i := 1) rfl), ⟨by decide +kernel, by decide +kernel⟩, by decide +kernel⟩
theorem my_X8_isHead : ab_MY yX8_isHead cX8_isHead 2 1 (some .boolean) := ⟨tb_4 _ (List.mem_of_getElem? (i := 28) rfl), tb_1 _ (List.mem_of_getElem? (i := 1) rfl), ⟨by decide +kernel, by decide +kernel⟩, by decide +kernel⟩
theorem my_X8_isLetter : ab_MY yX8_isLetter cX8_isLetter 1 1 (some .boolean) := ⟨tb_1 _ (List.mem_of_getElem? (i := 104) rfl), tb_1 _ (List.mem_of_getElem? (i := 1) rfl), ⟨by decide +kernel, by decide +kernel⟩, by decide +kernel⟩
theorem my_X8_isLine : ab_MY yX8_isLine cX8_isLine 2 1 (some .boolean) := ⟨tb_4 _ (List.mem_of_getElem? (i := 8) rfl), tb_1 _ (List.mem_of_getElem? (i := 1) rfl), ⟨by decide +kernel, by decide +kernel⟩, by decide +kernel⟩
theorem my_X8_isRole : ab_MY yX8_isRole cX8_isRole 1 1 (some .boolean) := ⟨tb_3 _ (List.mem_of_getElem? (i := 210) rfl), tb_1 _ (List.mem_of_getElem? (i := 1) rfl), ⟨by decide +kernel, by decide +kernel⟩, by decide +kernel⟩
theorem my_X8_isString : ab_MY yX8_isString cX8_isString 2 1 (some .boolean) := ⟨tb_3 _ (List.mem_of_getElem? (i := 163) rfl), tb_1 _ (List.mem_of_getElem? (i := 1) rfl), ⟨by decide +kernel, by decide +kernel⟩, by decide +kernel⟩
theorem my_X8_isTerm : ab_MY yX8_isTerm cX8_isTerm 3 2 (some .boolean) := ⟨tb_3 _ (List.mem_of_getElem? (i := 189) rfl), tb_1 _ (List.mem_of_getElem? (i := 1) rfl), ⟨by decide +kernel, by decide +kernel⟩, by decide +kernel⟩
theorem my_X8_isWay : ab_MY yX8_isWay cX8_isWay 1 1 (some .boolean) := ⟨tb_4 _ (List.mem_of_getElem? (i := 64) rfl), tb_1 _ (List.mem_of_getElem? (i := 1) rfl), ⟨by decide +kernel, by decide +kernel⟩, by decide +kernel⟩
theorem my_X8_isWord : ab_MY yX8_isWord cX8_isWord 2 1 (some .boolean) := ⟨tb_3 _ (List.mem_of_getElem? (i := 203) rfl), tb_1 _ (List.mem_of_getElem? (i := 1) rfl), ⟨by decide +kernel, by decide +kernel⟩, by decide +kernel⟩
theorem my_X8_letterOf : ab_MY yX8_letterOf cX8_letterOf 3 2 (some .int) := ⟨tb_3 _ (List.mem_of_getElem? (i := 195) rfl), tb_1 _ (List.mem_of_getElem? (i := 1) rfl), ⟨by decide +kernel, by decide +kernel⟩, by decide +kernel⟩
theorem my_X8_lettersOf : ab_MY yX8_lettersOf cX8_lettersOf 4 1 (some .int) := ⟨tb_3 _ (List.mem_of_getElem? (i := 192) rfl), tb_1 _ (List.mem_of_getElem? (i := 1) rfl), ⟨by decide +kernel, by decide +kernel⟩, by decide +kernel⟩
theorem my_X8_printedSize : ab_MY yX8_printedSize cX8_printedSize 2 1 (some .int) := ⟨tb_4 _ (List.mem_of_getElem? (i := 101) rfl), tb_1 _ (List.mem_of_getElem? (i := 1) rfl), ⟨by decide +kernel, by decide +kernel⟩, by decide +kernel⟩
theorem my_X8_renew : ab_MY yX8_renew cX8_renew 1 0 none := ⟨tb_3 _ (List.mem_of_getElem? (i := 90) rfl), tb_1 _ (List.mem_of_getElem? (i := 1) rfl), ⟨by decide +kernel, by decide +kernel⟩, by decide +kernel⟩
theorem my_X8_stringsSharing : ab_MY yX8_stringsSharing cX8_stringsSharing 5 2 (some .int) := ⟨tb_4 _ (List.mem_of_getElem? (i := 141) rfl), tb_1 _ (List.mem_of_getElem? (i := 1) rfl), ⟨by decide +kernel, by decide +kernel⟩, by decide +kernel⟩
theorem my_X9_addressAbove : ab_MY yX9_addressAbove cX9_addressAbove 6 2 (some .int) := ⟨tb_7 _ (List.mem_of_getElem? (i := 23) rfl), tb_1 _ (List.mem_of_getElem? (i := 15) rfl), ⟨by decide +kernel, by decide +kernel⟩, by decide +kernel⟩
theorem my_X9_addressOf : ab_MY yX9_addressOf cX9_addressOf 2 1 (some .int) := ⟨tb_6 _ (List.mem_of_getElem? (i := 169) rfl), tb_1 _ (List.mem_of_getElem? (i := 15) rfl), ⟨by decide +kernel, by decide +kernel⟩, by decide +kernel⟩
theorem my_X9_addressesOf : ab_MY yX9_addressesOf cX9_addressesOf 4 1 (some .int) := ⟨tb_7 _ (List.mem_of_getElem? (i := 19) rfl), tb_1 _ (List.mem_of_getElem? (i := 15) rfl), ⟨by decide +kernel, by decide +kernel⟩, by decide +kernel⟩
theorem my_X9_advance : ab_MY yX9_advance cX9_advance 2 0 none := ⟨tb_5 _ (List.mem_of_getElem? (i := 220) rfl), tb_1 _ (List.mem_of_getElem? (i := 15) rfl), ⟨by decide +kernel, by decide +kernel⟩, by decide +kernel⟩
theorem my_X9_areOneSense : ab_MY yX9_areOneSense cX9_areOneSense 3 2 (some .boolean) := ⟨tb_7 _ (List.mem_of_getElem? (i := 123) rfl), tb_1 _ (List.mem_of_getElem? (i := 15) rfl), ⟨by decide +kernel, by decide +kernel⟩, by decide +kernel⟩
theorem my_X9_areSame : ab_MY yX9_areSame cX9_areSame 5 2 (some .boolean) := ⟨tb_7 _ (List.mem_of_getElem? (i := 119) rfl), tb_1 _ (List.mem_of_getElem? (i := 15) rfl), ⟨by decide +kernel, by decide +kernel⟩, by decide +kernel⟩
theorem my_X9_beginsTape : ab_MY yX9_beginsTape cX9_beginsTape 1 0 none := ⟨tb_5 _ (List.mem_of_getElem? (i := 216) rfl), tb_1 _ (List.mem_of_getElem? (i := 15) rfl), ⟨by decide +kernel, by decide +kernel⟩, by decide +kernel⟩
theorem my_X9_bits : ab_MY yX9_bits cX9_bits 3 1 (some .int) := ⟨tb_7 _ (List.mem_of_getElem? (i := 42) rfl), tb_1 _ (List.mem_of_getElem? (i := 15) rfl), ⟨by decide +kernel, by decide +kernel⟩, by decide +kernel⟩
theorem my_X9_comesOut : ab_MY yX9_comesOut cX9_comesOut 2 0 none := ⟨tb_7 _ (List.mem_of_getElem? (i := 70) rfl), tb_1 _ (List.mem_of_getElem? (i := 15) rfl), ⟨by decide +kernel, by decide +kernel⟩, by decide +kernel⟩
theorem my_X9_commonOf : ab_MY yX9_commonOf cX9_commonOf 5 2 (some .int) := ⟨tb_7 _ (List.mem_of_getElem? (i := 127) rfl), tb_1 _ (List.mem_of_getElem? (i := 15) rfl), ⟨by decide +kernel, by decide +kernel⟩, by decide +kernel⟩
theorem my_X9_compares : ab_MY yX9_compares cX9_compares 4 2 (some .int) := ⟨tb_6 _ (List.mem_of_getElem? (i := 153) rfl), tb_1 _ (List.mem_of_getElem? (i := 15) rfl), ⟨by decide +kernel, by decide +kernel⟩, by decide +kernel⟩
theorem my_X9_comparesRows : ab_MY yX9_comparesRows cX9_comparesRows 8 3 (some .int) := ⟨tb_6 _ (List.mem_of_getElem? (i := 165) rfl), tb_1 _ (List.mem_of_getElem? (i := 15) rfl), ⟨by decide +kernel, by decide +kernel⟩, by decide +kernel⟩
theorem my_X9_comparesWords : ab_MY yX9_comparesWords cX9_comparesWords 4 2 (some .int) := ⟨tb_6 _ (List.mem_of_getElem? (i := 157) rfl), tb_1 _ (List.mem_of_getElem? (i := 15) rfl), ⟨by decide +kernel, by decide +kernel⟩, by decide +kernel⟩
theorem my_X9_doesLead : ab_MY yX9_doesLead cX9_doesLead 3 2 (some .boolean) := ⟨tb_6 _ (List.mem_of_getElem? (i := 137) rfl), tb_1 _ (List.mem_of_getElem? (i := 15) rfl), ⟨by decide +kernel, by decide +kernel⟩, by decide +kernel⟩
theorem my_X9_doublesOf : ab_MY yX9_doublesOf cX9_doublesOf 4 1 (some .int) := ⟨tb_6 _ (List.mem_of_getElem? (i := 186) rfl), tb_1 _ (List.mem_of_getElem? (i := 15) rfl), ⟨by decide +kernel, by decide +kernel⟩, by decide +kernel⟩
theorem my_X9_eats : ab_MY yX9_eats cX9_eats 2 1 (some .boolean) := ⟨tb_6 _ (List.mem_of_getElem? (i := 85) rfl), tb_1 _ (List.mem_of_getElem? (i := 15) rfl), ⟨by decide +kernel, by decide +kernel⟩, by decide +kernel⟩
theorem my_X9_eatsByte : ab_MY yX9_eatsByte cX9_eatsByte 2 1 (some .boolean) := ⟨tb_6 _ (List.mem_of_getElem? (i := 74) rfl), tb_1 _ (List.mem_of_getElem? (i := 15) rfl), ⟨by decide +kernel, by decide +kernel⟩, by decide +kernel⟩
theorem my_X9_errs : ab_MY yX9_errs cX9_errs 3 2 none := ⟨tb_6 _ (List.mem_of_getElem? (i := 25) rfl), tb_1 _ (List.mem_of_getElem? (i := 15) rfl), ⟨by decide +kernel, by decide +kernel⟩, by decide +kernel⟩
theorem my_X9_findWord : ab_MY yX9_findWord cX9_findWord 4 1 (some .int) := ⟨tb_6 _ (List.mem_of_getElem? (i := 130) rfl), tb_1 _ (List.mem_of_getElem? (i := 15) rfl), ⟨by decide +kernel, by decide +kernel⟩, by decide +kernel⟩
theorem my_X9_firstOf : ab_MY yX9_firstOf cX9_firstOf 3 1 (some .int) := ⟨tb_7 _ (List.mem_of_getElem? (i := 11) rfl), tb_1 _ (List.mem_of_getElem? (i := 15) rfl), ⟨by decide +kernel, by decide +kernel⟩, by decide +kernel⟩
theorem my_X9_good : ab_MY yX9_good cX9_good 1 0 (some .boolean) := ⟨tb_5 _ (List.mem_of_getElem? (i := 236) rfl), tb_1 _ (List.mem_of_getElem? (i := 15) rfl), ⟨by decide +kernel, by decide +kernel⟩, by decide +kernel⟩
theorem my_X9_hasSense : ab_MY yX9_hasSense cX9_hasSense 4 3 (some .boolean) := ⟨tb_7 _ (List.mem_of_getElem? (i := 135) rfl), tb_1 _ (List.mem_of_getElem? (i := 15) rfl), ⟨by decide +kernel, by decide +kernel⟩, by decide +kernel⟩
theorem my_X9_hasWord : ab_MY yX9_hasWord cX9_hasWord 5 3 (some .boolean) := ⟨tb_7 _ (List.mem_of_getElem? (i := 103) rfl), tb_1 _ (List.mem_of_getElem? (i := 15) rfl), ⟨by decide +kernel, by decide +kernel⟩, by decide +kernel⟩
theorem my_X9_having0 : ab_MY yX9_having0 cX9_having0 5 2 (some .int) := ⟨tb_7 _ (List.mem_of_getElem? (i := 99) rfl), tb_1 _ (List.mem_of_getElem? (i := 15) rfl), ⟨by decide +kernel, by decide +kernel⟩, by decide +kernel⟩
theorem my_X9_headWord : ab_MY yX9_headWord cX9_headWord 3 1 (some .int) := ⟨tb_7 _ (List.mem_of_getElem? (i := 35) rfl), tb_1 _ (List.mem_of_getElem? (i := 15) rfl), ⟨by decide +kernel, by decide +kernel⟩, by decide +kernel⟩
theorem my_X9_in : ab_MY yX9_in cX9_in 6 3 (some .boolean) := ⟨tb_5 _ (List.mem_of_getElem? (i := 208) rfl), tb_1 _ (List.mem_of_getElem? (i := 15) rfl), ⟨by decide +kernel, by decide +kernel⟩, by decide +kernel⟩
theorem my_X9_isAddress : ab_MY yX9_isAddress cX9_isAddress 3 1 (some .boolean) := ⟨tb_6 _ (List.mem_of_getElem? (i := 66) rfl), tb_1 _ (List.mem_of_getElem? (i := 15) rfl), ⟨by decide +kernel, by decide +kernel⟩, by decide +kernel⟩
theorem my_X9_isBeside : ab_MY yX9_isBeside cX9_isBeside 8 3 (some .boolean) := ⟨tb_7 _ (List.mem_of_getElem? (i := 155) rfl), tb_1 _ (List.mem_of_getElem? (i := 15) rfl), ⟨by decide +kernel, by decide +kernel⟩, by decide +kernel⟩
theorem my_X9_isFirst : ab_MY yX9_isFirst cX9_isFirst 4 2 (some .boolean) := ⟨tb_7 _ (List.mem_of_getElem? (i := 131) rfl), tb_1 _ (List.mem_of_getElem? (i := 15) rfl), ⟨by decide +kernel, by decide +kernel⟩, by decide +kernel⟩
theorem my_X9_isIn : ab_MY yX9_isIn cX9_isIn 3 2 (some .boolean) := ⟨tb_7 _ (List.mem_of_getElem? (i := 189) rfl), tb_1 _ (List.mem_of_getElem? (i := 15) rfl), ⟨by decide +kernel, by decide +kernel⟩, by decide +kernel⟩
theorem my_X9_isLineNow : ab_MY yX9_isLineNow cX9_isLineNow 2 1 (some .boolean) := ⟨tb_7 _ (List.mem_of_getElem? (i := 6) rfl), tb_1 _ (List.mem_of_getElem? (i := 15) rfl), ⟨by decide +kernel, by decide +kernel⟩, by decide +kernel⟩
theorem my_X9_isOwnWord : ab_MY yX9_isOwnWord cX9_isOwnWord 1 0 (some .boolean) := ⟨tb_6 _ (List.mem_of_getElem? (i := 42) rfl), tb_1 _ (List.mem_of_getElem? (i := 15) rfl), ⟨by decide +kernel, by decide +kernel⟩, by decide +kernel⟩
theorem my_X9_isSeen : ab_MY yX9_isSeen cX9_isSeen 4 1 (some .boolean) := ⟨tb_6 _ (List.mem_of_getElem? (i := 54) rfl), tb_1 _ (List.mem_of_getElem? (i := 15) rfl), ⟨by decide +kernel, by decide +kernel⟩, by decide +kernel⟩
theorem my_X9_isString : ab_MY yX9_isString cX9_isString 2 1 (some .boolean) := ⟨tb_6 _ (List.mem_of_getElem? (i := 181) rfl), tb_1 _ (List.mem_of_getElem? (i := 15) rfl), ⟨by decide +kernel, by decide +kernel⟩, by decide +kernel⟩
theorem my_X9_isTerm : ab_MY yX9_isTerm cX9_isTerm 3 2 (some .boolean) := ⟨tb_6 _ (List.mem_of_getElem? (i := 198) rfl), tb_1 _ (List.mem_of_getElem? (i := 15) rfl), ⟨by decide +kernel, by decide +kernel⟩, by decide +kernel⟩
theorem my_X9_isWord : ab_MY yX9_isWord cX9_isWord 4 1 (some .boolean) := ⟨tb_6 _ (List.mem_of_getElem? (i := 5) rfl), tb_1 _ (List.mem_of_getElem? (i := 15) rfl), ⟨by decide +kernel, by decide +kernel⟩, by decide +kernel⟩
theorem my_X9_isWordNow : ab_MY yX9_isWordNow cX9_isWordNow 2 1 (some .boolean) := ⟨tb_6 _ (List.mem_of_getElem? (i := 213) rfl), tb_1 _ (List.mem_of_getElem? (i := 15) rfl), ⟨by decide +kernel, by decide +kernel⟩, by decide +kernel⟩
theorem my_X9_joinOf : ab_MY yX9_joinOf cX9_joinOf 3 2 (some .long) := ⟨tb_7 _ (List.mem_of_getElem? (i := 62) rfl), tb_1 _ (List.mem_of_getElem? (i := 15) rfl), ⟨by decide +kernel, by decide +kernel⟩, by decide +kernel⟩
theorem my_X9_keeps : ab_MY yX9_keeps cX9_keeps 2 0 none := ⟨tb_6 _ (List.mem_of_getElem? (i := 101) rfl), tb_1 _ (List.mem_of_getElem? (i := 15) rfl), ⟨by decide +kernel, by decide +kernel⟩, by decide +kernel⟩
theorem my_X9_lays : ab_MY yX9_lays cX9_lays 1 0 none := ⟨tb_6 _ (List.mem_of_getElem? (i := 114) rfl), tb_1 _ (List.mem_of_getElem? (i := 15) rfl), ⟨by decide +kernel, by decide +kernel⟩, by decide +kernel⟩
theorem my_X9_laysBy : ab_MY yX9_laysBy cX9_laysBy 6 2 none := ⟨tb_6 _ (List.mem_of_getElem? (i := 118) rfl), tb_1 _ (List.mem_of_getElem? (i := 15) rfl), ⟨by decide +kernel, by decide +kernel⟩, by decide +kernel⟩
theorem my_X9_laysEntry : ab_MY yX9_laysEntry cX9_laysEntry 6 3 none := ⟨tb_6 _ (List.mem_of_getElem? (i := 145) rfl), tb_1 _ (List.mem_of_getElem? (i := 15) rfl), ⟨by decide +kernel, by decide +kernel⟩, by decide +kernel⟩
theorem my_X9_laysFar : ab_MY yX9_laysFar cX9_laysFar 6 1 none := ⟨tb_7 _ (List.mem_of_getElem? (i := 205) rfl), tb_1 _ (List.mem_of_getElem? (i := 15) rfl), ⟨by decide +kernel, by decide +kernel⟩, by decide +kernel⟩
theorem my_X9_laysWords : ab_MY yX9_laysWords cX9_laysWords 6 0 none := ⟨tb_6 _ (List.mem_of_getElem? (i := 122) rfl), tb_1 _ (List.mem_of_getElem? (i := 15) rfl), ⟨by decide +kernel, by decide +kernel⟩, by decide +kernel⟩
theorem my_X9_leadWord : ab_MY yX9_leadWord cX9_leadWord 2 1 (some .int) := ⟨tb_6 _ (List.mem_of_getElem? (i := 161) rfl), tb_1 _ (List.mem_of_getElem? (i := 15) rfl), ⟨by decide +kernel, by decide +kernel⟩, by decide +kernel⟩
theorem my_X9_letterOf : ab_MY yX9_letterOf cX9_letterOf 3 2 (some .int) := ⟨tb_6 _ (List.mem_of_getElem? (i := 204) rfl), tb_1 _ (List.mem_of_getElem? (i := 15) rfl), ⟨by decide +kernel, by decide +kernel⟩, by decide +kernel⟩
theorem my_X9_lettersOf : ab_MY yX9_lettersOf cX9_lettersOf 4 1 (some .int) := ⟨tb_6 _ (List.mem_of_getElem? (i := 201) rfl), tb_1 _ (List.mem_of_getElem? (i := 15) rfl), ⟨by decide +kernel, by decide +kernel⟩, by decide +kernel⟩
theorem my_X9_lettersTold : ab_MY yX9_lettersTold cX9_lettersTold 4 0 (some .int) := ⟨tb_6 _ (List.mem_of_getElem? (i := 226) rfl), tb_1 _ (List.mem_of_getElem? (i := 15) rfl), ⟨by decide +kernel, by decide +kernel⟩, by decide +kernel⟩
theorem my_X9_manyOf : ab_MY yX9_manyOf cX9_manyOf 4 1 (some .int) := ⟨tb_7 _ (List.mem_of_getElem? (i := 15) rfl), tb_1 _ (List.mem_of_getElem? (i := 15) rfl), ⟨by decide +kernel, by decide +kernel⟩, by decide +kernel⟩
theorem my_X9_oftenOf : ab_MY yX9_oftenOf cX9_oftenOf 2 1 (some .int) := ⟨tb_7 _ (List.mem_of_getElem? (i := 163) rfl), tb_1 _ (List.mem_of_getElem? (i := 15) rfl), ⟨by decide +kernel, by decide +kernel⟩, by decide +kernel⟩
theorem my_X9_packed : ab_MY yX9_packed cX9_packed 6 2 (some .long) := ⟨tb_6 _ (List.mem_of_getElem? (i := 50) rfl), tb_1 _ (List.mem_of_getElem? (i := 15) rfl), ⟨by decide +kernel, by decide +kernel⟩, by decide +kernel⟩
theorem my_X9_passesByte : ab_MY yX9_passesByte cX9_passesByte 2 1 none := ⟨tb_6 _ (List.mem_of_getElem? (i := 70) rfl), tb_1 _ (List.mem_of_getElem? (i := 15) rfl), ⟨by decide +kernel, by decide +kernel⟩, by decide +kernel⟩
theorem my_X9_place : ab_MY yX9_place cX9_place 2 2 (some .int) := ⟨tb_6 _ (List.mem_of_getElem? (i := 133) rfl), tb_1 _ (List.mem_of_getElem? (i := 15) rfl), ⟨by decide +kernel, by decide +kernel⟩, by decide +kernel⟩
theorem my_X9_prints : ab_MY yX9_prints cX9_prints 5 1 none := ⟨tb_7 _ (List.mem_of_getElem? (i := 50) rfl), tb_1 _ (List.mem_of_getElem? (i := 15) rfl), ⟨by decide +kernel, by decide +kernel⟩, by decide +kernel⟩
theorem my_X9_puts : ab_MY yX9_puts cX9_puts 8 4 none := ⟨tb_6 _ (List.mem_of_getElem? (i := 149) rfl), tb_1 _ (List.mem_of_getElem? (i := 15) rfl), ⟨by decide +kernel, by decide +kernel⟩, by decide +kernel⟩
theorem my_X9_puts4 : ab_MY yX9_puts4 cX9_puts4 3 1 none := ⟨tb_5 _ (List.mem_of_getElem? (i := 201) rfl), tb_1 _ (List.mem_of_getElem? (i := 15) rfl), ⟨by decide +kernel, by decide +kernel⟩, by decide +kernel⟩
theorem my_X9_readLaw : ab_MY yX9_readLaw cX9_readLaw 3 0 none := ⟨tb_6 _ (List.mem_of_getElem? (i := 11) rfl), tb_1 _ (List.mem_of_getElem? (i := 15) rfl), ⟨by decide +kernel, by decide +kernel⟩, by decide +kernel⟩
theorem my_X9_readLine : ab_MY yX9_readLine cX9_readLine 1 0 none := ⟨tb_6 _ (List.mem_of_getElem? (i := 0) rfl), tb_1 _ (List.mem_of_getElem? (i := 15) rfl), ⟨by decide +kernel, by decide +kernel⟩, by decide +kernel⟩
theorem my_X9_readSee : ab_MY yX9_readSee cX9_readSee 6 0 none := ⟨tb_6 _ (List.mem_of_getElem? (i := 34) rfl), tb_1 _ (List.mem_of_getElem? (i := 15) rfl), ⟨by decide +kernel, by decide +kernel⟩, by decide +kernel⟩
theorem my_X9_readString : ab_MY yX9_readString cX9_readString 4 0 none := ⟨tb_6 _ (List.mem_of_getElem? (i := 61) rfl), tb_1 _ (List.mem_of_getElem? (i := 15) rfl), ⟨by decide +kernel, by decide +kernel⟩, by decide +kernel⟩
theorem my_X9_readTerm : ab_MY yX9_readTerm cX9_readTerm 6 3 none := ⟨tb_6 _ (List.mem_of_getElem? (i := 78) rfl), tb_1 _ (List.mem_of_getElem? (i := 15) rfl), ⟨by decide +kernel, by decide +kernel⟩, by decide +kernel⟩
theorem my_X9_roleHere : ab_MY yX9_roleHere cX9_roleHere 1 0 (some .int) := ⟨tb_6 _ (List.mem_of_getElem? (i := 15) rfl), tb_1 _ (List.mem_of_getElem? (i := 15) rfl), ⟨by decide +kernel, by decide +kernel⟩, by decide +kernel⟩
theorem my_X9_roleIf : ab_MY yX9_roleIf cX9_roleIf 5 4 (some .int) := ⟨tb_8 _ (List.mem_of_getElem? (i := 9) rfl), tb_1 _ (List.mem_of_getElem? (i := 15) rfl), ⟨by decide +kernel, by decide +kernel⟩, by decide +kernel⟩
theorem my_X9_roleOf : ab_MY yX9_roleOf cX9_roleOf 3 2 (some .int) := ⟨tb_6 _ (List.mem_of_getElem? (i := 141) rfl), tb_1 _ (List.mem_of_getElem? (i := 15) rfl), ⟨by decide +kernel, by decide +kernel⟩, by decide +kernel⟩
theorem my_X9_says : ab_MY yX9_says cX9_says 2 1 none := ⟨tb_7 _ (List.mem_of_getElem? (i := 58) rfl), tb_1 _ (List.mem_of_getElem? (i := 15) rfl), ⟨by decide +kernel, by decide +kernel⟩, by decide +kernel⟩
theorem my_X9_saysNumber : ab_MY yX9_saysNumber cX9_saysNumber 3 1 none := ⟨tb_7 _ (List.mem_of_getElem? (i := 66) rfl), tb_1 _ (List.mem_of_getElem? (i := 15) rfl), ⟨by decide +kernel, by decide +kernel⟩, by decide +kernel⟩
theorem my_X9_saysWord : ab_MY yX9_saysWord cX9_saysWord 4 1 none := ⟨tb_7 _ (List.mem_of_getElem? (i := 54) rfl), tb_1 _ (List.mem_of_getElem? (i := 15) rfl), ⟨by decide +kernel, by decide +kernel⟩, by decide +kernel⟩
theorem my_X9_see0 : ab_MY yX9_see0 cX9_see0 2 1 (some .int) := ⟨tb_5 _ (List.mem_of_getElem? (i := 224) rfl), tb_1 _ (List.mem_of_getElem? (i := 15) rfl), ⟨by decide +kernel, by decide +kernel⟩, by decide +kernel⟩
theorem my_X9_sees : ab_MY yX9_sees cX9_sees 1 0 (some .int) := ⟨tb_6 _ (List.mem_of_getElem? (i := 173) rfl), tb_1 _ (List.mem_of_getElem? (i := 15) rfl), ⟨by decide +kernel, by decide +kernel⟩, by decide +kernel⟩
theorem my_X9_sharing0 : ab_MY yX9_sharing0 cX9_sharing0 5 2 (some .int) := ⟨tb_7 _ (List.mem_of_getElem? (i := 111) rfl), tb_1 _ (List.mem_of_getElem? (i := 15) rfl), ⟨by decide +kernel, by decide +kernel⟩, by decide +kernel⟩
theorem my_X9_strings : ab_MY yX9_strings cX9_strings 1 0 (some .int) := ⟨tb_6 _ (List.mem_of_getElem? (i := 97) rfl), tb_1 _ (List.mem_of_getElem? (i := 15) rfl), ⟨by decide +kernel, by decide +kernel⟩, by decide +kernel⟩
theorem my_X9_stringsUnder : ab_MY yX9_stringsUnder cX9_stringsUnder 4 1 (some .int) := ⟨tb_7 _ (List.mem_of_getElem? (i := 39) rfl), tb_1 _ (List.mem_of_getElem? (i := 15) rfl), ⟨by decide +kernel, by decide +kernel⟩, by decide +kernel⟩
theorem my_X9_termAt : ab_MY yX9_termAt cX9_termAt 2 2 (some .int) := ⟨tb_6 _ (List.mem_of_getElem? (i := 81) rfl), tb_1 _ (List.mem_of_getElem? (i := 15) rfl), ⟨by decide +kernel, by decide +kernel⟩, by decide +kernel⟩
theorem my_X9_terms : ab_MY yX9_terms cX9_terms 2 1 (some .int) := ⟨tb_6 _ (List.mem_of_getElem? (i := 126) rfl), tb_1 _ (List.mem_of_getElem? (i := 15) rfl), ⟨by decide +kernel, by decide +kernel⟩, by decide +kernel⟩
theorem my_X9_twiceIn : ab_MY yX9_twiceIn cX9_twiceIn 6 1 (some .int) := ⟨tb_6 _ (List.mem_of_getElem? (i := 190) rfl), tb_1 _ (List.mem_of_getElem? (i := 15) rfl), ⟨by decide +kernel, by decide +kernel⟩, by decide +kernel⟩
theorem my_X9_usedOf : ab_MY yX9_usedOf cX9_usedOf 7 2 (some .long) := ⟨tb_6 _ (List.mem_of_getElem? (i := 57) rfl), tb_1 _ (List.mem_of_getElem? (i := 15) rfl), ⟨by decide +kernel, by decide +kernel⟩, by decide +kernel⟩
theorem my_X9_wordHere : ab_MY yX9_wordHere cX9_wordHere 1 0 (some .long) := ⟨tb_6 _ (List.mem_of_getElem? (i := 38) rfl), tb_1 _ (List.mem_of_getElem? (i := 15) rfl), ⟨by decide +kernel, by decide +kernel⟩, by decide +kernel⟩
theorem my_X9_wordRead : ab_MY yX9_wordRead cX9_wordRead 3 0 (some .long) := ⟨tb_6 _ (List.mem_of_getElem? (i := 89) rfl), tb_1 _ (List.mem_of_getElem? (i := 15) rfl), ⟨by decide +kernel, by decide +kernel⟩, by decide +kernel⟩
theorem ms_J6_bitCount_0f7a4 : Cond.static yJ6_bitCount_0f7a4 ∈ lw_tbl := tb_3 _ (List.mem_of_getElem? (i := 173) rfl)
theorem ms_X0_exchangeIn : Cond.static yX0_exchangeIn ∈ lw_tbl := tb_5 _ (List.mem_of_getElem? (i := 53) rfl)
theorem ms_X4_kindOf : Cond.static yX4_kindOf ∈ lw_tbl := tb_2 _ (List.mem_of_getElem? (i := 216) rfl)
theorem ms_X6_putJoined : Cond.static yX6_putJoined ∈ lw_tbl := tb_4 _ (List.mem_of_getElem? (i := 83) rfl)
theorem ms_X8_aligned : Cond.static yX8_aligned ∈ lw_tbl := tb_1 _ (List.mem_of_getElem? (i := 109) rfl)
theorem ms_X8_beginsWith : Cond.static yX8_beginsWith ∈ lw_tbl := tb_4 _ (List.mem_of_getElem? (i := 120) rfl)
theorem ms_X8_grown : Cond.static yX8_grown ∈ lw_tbl := tb_1 _ (List.mem_of_getElem? (i := 106) rfl)
theorem ms_X8_hasBit : Cond.static yX8_hasBit ∈ lw_tbl := tb_3 _ (List.mem_of_getElem? (i := 26) rfl)
theorem ms_X8_isAddress : Cond.static yX8_isAddress ∈ lw_tbl := tb_3 _ (List.mem_of_getElem? (i := 50) rfl)
theorem ms_X8_isLetter : Cond.static yX8_isLetter ∈ lw_tbl := tb_1 _ (List.mem_of_getElem? (i := 103) rfl)
theorem ms_X8_isRole : Cond.static yX8_isRole ∈ lw_tbl := tb_3 _ (List.mem_of_getElem? (i := 209) rfl)
theorem ms_X8_isWay : Cond.static yX8_isWay ∈ lw_tbl := tb_4 _ (List.mem_of_getElem? (i := 63) rfl)
theorem ms_X8_letterOf : Cond.static yX8_letterOf ∈ lw_tbl := tb_3 _ (List.mem_of_getElem? (i := 194) rfl)
theorem ms_X8_lettersOf : Cond.static yX8_lettersOf ∈ lw_tbl := tb_3 _ (List.mem_of_getElem? (i := 191) rfl)
theorem ms_X9_bits : Cond.static yX9_bits ∈ lw_tbl := tb_7 _ (List.mem_of_getElem? (i := 41) rfl)
theorem ms_X9_in : Cond.static yX9_in ∈ lw_tbl := tb_5 _ (List.mem_of_getElem? (i := 207) rfl)
theorem ms_X9_letterOf : Cond.static yX9_letterOf ∈ lw_tbl := tb_6 _ (List.mem_of_getElem? (i := 203) rfl)
theorem ms_X9_lettersOf : Cond.static yX9_lettersOf ∈ lw_tbl := tb_6 _ (List.mem_of_getElem? (i := 200) rfl)
theorem ms_X9_place : Cond.static yX9_place ∈ lw_tbl := tb_6 _ (List.mem_of_getElem? (i := 132) rfl)
theorem ms_X9_termAt : Cond.static yX9_termAt ∈ lw_tbl := tb_6 _ (List.mem_of_getElem? (i := 80) rfl)
theorem ms_X9_usedOf : Cond.static yX9_usedOf ∈ lw_tbl := tb_6 _ (List.mem_of_getElem? (i := 56) rfl)
theorem mv_X0_addSee : ab_MV yX0_addSee 0 := ⟨tb_3 _ (List.mem_of_getElem? (i := 42) rfl), tb_3 _ (List.mem_of_getElem? (i := 43) rfl), TX0, 12, rfl, by decide⟩
theorem mv_X0_clear : ab_MV yX0_clear 0 := ⟨tb_2 _ (List.mem_of_getElem? (i := 238) rfl), tb_2 _ (List.mem_of_getElem? (i := 239) rfl), TX0, 12, rfl, by decide⟩
theorem mv_X0_copyFrom : ab_MV yX0_copyFrom 0 := ⟨tb_3 _ (List.mem_of_getElem? (i := 77) rfl), tb_3 _ (List.mem_of_getElem? (i := 78) rfl), TX0, 12, rfl, by decide⟩
theorem mv_X0_copyStrings : ab_MV yX0_copyStrings 0 := ⟨tb_3 _ (List.mem_of_getElem? (i := 82) rfl), tp_2 (⟨"TurnedHeadings$Book", "copyStrings", "(LTurnedHeadings$Book;III)V"⟩, 12) (List.mem_of_getElem? (i := 1) rfl), TX0, 12, rfl, by decide⟩
theorem mv_X0_dropSee : ab_MV yX0_dropSee 0 := ⟨tb_5 _ (List.mem_of_getElem? (i := 65) rfl), tb_5 _ (List.mem_of_getElem? (i := 66) rfl), TX0, 12, rfl, by decide⟩
theorem mv_X0_dropString : ab_MV yX0_dropString 0 := ⟨tb_5 _ (List.mem_of_getElem? (i := 33) rfl), tb_5 _ (List.mem_of_getElem? (i := 34) rfl), TX0, 12, rfl, by decide⟩
theorem mv_X0_exchange : ab_MV yX0_exchange 0 := ⟨tb_5 _ (List.mem_of_getElem? (i := 49) rfl), tb_5 _ (List.mem_of_getElem? (i := 50) rfl), TX0, 12, rfl, by decide⟩
theorem mv_X0_leadingOf : ab_MV yX0_leadingOf 0 := ⟨tb_3 _ (List.mem_of_getElem? (i := 165) rfl), tb_3 _ (List.mem_of_getElem? (i := 166) rfl), TX0, 12, rfl, by decide⟩
theorem mv_X0_seeOf : ab_MV yX0_seeOf 0 := ⟨tb_3 _ (List.mem_of_getElem? (i := 33) rfl), tb_3 _ (List.mem_of_getElem? (i := 34) rfl), TX0, 12, rfl, by decide⟩
theorem mv_X0_stringAt : ab_MV yX0_stringAt 0 := ⟨tb_3 _ (List.mem_of_getElem? (i := 53) rfl), tb_3 _ (List.mem_of_getElem? (i := 54) rfl), TX0, 12, rfl, by decide⟩
theorem mv_X0_termsOfAll : ab_MV yX0_termsOfAll 0 := ⟨tb_3 _ (List.mem_of_getElem? (i := 153) rfl), tb_3 _ (List.mem_of_getElem? (i := 154) rfl), TX0, 12, rfl, by decide⟩
theorem mv_X0_used : ab_MV yX0_used 0 := ⟨tb_3 _ (List.mem_of_getElem? (i := 37) rfl), tb_3 _ (List.mem_of_getElem? (i := 38) rfl), TX0, 12, rfl, by decide⟩
theorem mv_X1_asName : ab_MV yX1_asName 1 := ⟨tb_3 _ (List.mem_of_getElem? (i := 216) rfl), tb_3 _ (List.mem_of_getElem? (i := 217) rfl), TX1, 2, rfl, by decide⟩
theorem mv_X1_put : ab_MV yX1_put 1 := ⟨tb_2 _ (List.mem_of_getElem? (i := 192) rfl), tb_2 _ (List.mem_of_getElem? (i := 193) rfl), TX1, 2, rfl, by decide⟩
theorem mv_X1_putAddress : ab_MV yX1_putAddress 1 := ⟨tb_4 _ (List.mem_of_getElem? (i := 91) rfl), tb_4 _ (List.mem_of_getElem? (i := 92) rfl), TX1, 2, rfl, by decide⟩
theorem mv_X1_putAll : ab_MV yX1_putAll 1 := ⟨tb_4 _ (List.mem_of_getElem? (i := 103) rfl), tb_4 _ (List.mem_of_getElem? (i := 104) rfl), TX1, 2, rfl, by decide⟩
theorem mv_X1_putFour : ab_MV yX1_putFour 1 := ⟨tb_2 _ (List.mem_of_getElem? (i := 188) rfl), tb_2 _ (List.mem_of_getElem? (i := 189) rfl), TX1, 2, rfl, by decide⟩
theorem mv_X1_putName : ab_MV yX1_putName 1 := ⟨tb_4 _ (List.mem_of_getElem? (i := 78) rfl), tb_4 _ (List.mem_of_getElem? (i := 79) rfl), TX1, 2, rfl, by decide⟩
theorem mv_X2_compare : ab_MV yX2_compare 2 := ⟨tb_3 _ (List.mem_of_getElem? (i := 128) rfl), tb_3 _ (List.mem_of_getElem? (i := 129) rfl), TX2, 11, rfl, by decide⟩
theorem mv_X2_compareRows : ab_MV yX2_compareRows 2 := ⟨tb_3 _ (List.mem_of_getElem? (i := 137) rfl), tp_2 (⟨"TurnedHeadings$Entry", "compareRows", "(LTurnedHeadings$Entry;III)I"⟩, 11) (List.mem_of_getElem? (i := 6) rfl), TX2, 11, rfl, by decide⟩
theorem mv_X2_compareWords : ab_MV yX2_compareWords 2 := ⟨tb_3 _ (List.mem_of_getElem? (i := 132) rfl), tb_3 _ (List.mem_of_getElem? (i := 133) rfl), TX2, 11, rfl, by decide⟩
theorem mv_X2_offer : ab_MV yX2_offer 2 := ⟨tb_3 _ (List.mem_of_getElem? (i := 125) rfl), tp_2 (⟨"TurnedHeadings$Entry", "offer", "(III)V"⟩, 11) (List.mem_of_getElem? (i := 5) rfl), TX2, 11, rfl, by decide⟩
theorem mv_X2_shows : ab_MV yX2_shows 2 := ⟨tb_4 _ (List.mem_of_getElem? (i := 47) rfl), tb_4 _ (List.mem_of_getElem? (i := 48) rfl), TX2, 11, rfl, by decide⟩
theorem mv_X2_turn : ab_MV yX2_turn 2 := ⟨tb_3 _ (List.mem_of_getElem? (i := 120) rfl), tb_3 _ (List.mem_of_getElem? (i := 121) rfl), TX2, 11, rfl, by decide⟩
theorem mv_X3_forgetAll : ab_MV yX3_forgetAll 3 := ⟨tb_3 _ (List.mem_of_getElem? (i := 73) rfl), tb_3 _ (List.mem_of_getElem? (i := 74) rfl), TX3, 3, rfl, by decide⟩
theorem mv_X3_keep : ab_MV yX3_keep 3 := ⟨tb_5 _ (List.mem_of_getElem? (i := 24) rfl), tb_5 _ (List.mem_of_getElem? (i := 25) rfl), TX3, 3, rfl, by decide⟩
theorem mv_X3_takeBack : ab_MV yX3_takeBack 3 := ⟨tb_5 _ (List.mem_of_getElem? (i := 77) rfl), tb_5 _ (List.mem_of_getElem? (i := 78) rfl), TX3, 3, rfl, by decide⟩
theorem mv_X4_begin : ab_MV yX4_begin 4 := ⟨tb_2 _ (List.mem_of_getElem? (i := 209) rfl), tp_1 (⟨"TurnedHeadings$Reader", "begin", "(LTurnedHeadings$Bytes;)V"⟩, 11) (List.mem_of_getElem? (i := 0) rfl), TX4, 11, rfl, by decide⟩
theorem mv_X4_choice : ab_MV yX4_choice 4 := ⟨tb_3 _ (List.mem_of_getElem? (i := 19) rfl), tp_1 (⟨"TurnedHeadings$Reader", "choice", "(II)I"⟩, 11) (List.mem_of_getElem? (i := 9) rfl), TX4, 11, rfl, by decide⟩
theorem mv_X4_extend : ab_MV yX4_extend 4 := ⟨tb_2 _ (List.mem_of_getElem? (i := 224) rfl), tp_1 (⟨"TurnedHeadings$Reader", "extend", "(III)V"⟩, 11) (List.mem_of_getElem? (i := 3) rfl), TX4, 11, rfl, by decide⟩
theorem mv_X4_fail : ab_MV yX4_fail 4 := ⟨tb_3 _ (List.mem_of_getElem? (i := 23) rfl), tp_1 (⟨"TurnedHeadings$Reader", "fail", "(I)Z"⟩, 11) (List.mem_of_getElem? (i := 10) rfl), TX4, 11, rfl, by decide⟩
theorem mv_X4_isKey : ab_MV yX4_isKey 4 := ⟨tb_3 _ (List.mem_of_getElem? (i := 7) rfl), tp_1 (⟨"TurnedHeadings$Reader", "isKey", "(I)Z"⟩, 11) (List.mem_of_getElem? (i := 6) rfl), TX4, 11, rfl, by decide⟩
theorem mv_X4_isSign : ab_MV yX4_isSign 4 := ⟨tb_3 _ (List.mem_of_getElem? (i := 62) rfl), tp_1 (⟨"TurnedHeadings$Reader", "isSign", "(I)Z"⟩, 11) (List.mem_of_getElem? (i := 14) rfl), TX4, 11, rfl, by decide⟩
theorem mv_X4_open : ab_MV yX4_open 4 := ⟨tb_2 _ (List.mem_of_getElem? (i := 220) rfl), tp_1 (⟨"TurnedHeadings$Reader", "open", "(II)V"⟩, 11) (List.mem_of_getElem? (i := 2) rfl), TX4, 11, rfl, by decide⟩
theorem mv_X4_readAdded : ab_MV yX4_readAdded 4 := ⟨tb_5 _ (List.mem_of_getElem? (i := 20) rfl), tb_5 _ (List.mem_of_getElem? (i := 21) rfl), TX4, 11, rfl, by decide⟩
theorem mv_X4_readHeading : ab_MV yX4_readHeading 4 := ⟨tb_3 _ (List.mem_of_getElem? (i := 47) rfl), tp_1 (⟨"TurnedHeadings$Reader", "readHeading", "(LTurnedHeadings$Book;)Z"⟩, 11) (List.mem_of_getElem? (i := 12) rfl), TX4, 11, rfl, by decide⟩
theorem mv_X4_readJoin : ab_MV yX4_readJoin 4 := ⟨tb_3 _ (List.mem_of_getElem? (i := 70) rfl), tp_2 (⟨"TurnedHeadings$Reader", "readJoin", "(I)Z"⟩, 11) (List.mem_of_getElem? (i := 0) rfl), TX4, 11, rfl, by decide⟩
theorem mv_X4_readLaw : ab_MV yX4_readLaw 4 := ⟨tb_3 _ (List.mem_of_getElem? (i := 11) rfl), tp_1 (⟨"TurnedHeadings$Reader", "readLaw", "(LTurnedHeadings$Book;)Z"⟩, 11) (List.mem_of_getElem? (i := 7) rfl), TX4, 11, rfl, by decide⟩
theorem mv_X4_readLine : ab_MV yX4_readLine 4 := ⟨tb_3 _ (List.mem_of_getElem? (i := 3) rfl), tp_1 (⟨"TurnedHeadings$Reader", "readLine", "(LTurnedHeadings$Book;)Z"⟩, 11) (List.mem_of_getElem? (i := 5) rfl), TX4, 11, rfl, by decide⟩
theorem mv_X4_readSee : ab_MV yX4_readSee 4 := ⟨tb_3 _ (List.mem_of_getElem? (i := 30) rfl), tp_1 (⟨"TurnedHeadings$Reader", "readSee", "(LTurnedHeadings$Book;)Z"⟩, 11) (List.mem_of_getElem? (i := 11) rfl), TX4, 11, rfl, by decide⟩
theorem mv_X4_readTerm : ab_MV yX4_readTerm 4 := ⟨tb_3 _ (List.mem_of_getElem? (i := 66) rfl), tp_1 (⟨"TurnedHeadings$Reader", "readTerm", "(LTurnedHeadings$Book;II)Z"⟩, 11) (List.mem_of_getElem? (i := 15) rfl), TX4, 11, rfl, by decide⟩
theorem mv_X4_readText : ab_MV yX4_readText 4 := ⟨tb_2 _ (List.mem_of_getElem? (i := 204) rfl), tb_2 _ (List.mem_of_getElem? (i := 205) rfl), TX4, 11, rfl, by decide⟩
theorem mv_X4_scan : ab_MV yX4_scan 4 := ⟨tb_2 _ (List.mem_of_getElem? (i := 213) rfl), tp_1 (⟨"TurnedHeadings$Reader", "scan", "(LTurnedHeadings$Bytes;)V"⟩, 11) (List.mem_of_getElem? (i := 1) rfl), TX4, 11, rfl, by decide⟩
theorem mv_X4_settle : ab_MV yX4_settle 4 := ⟨tb_2 _ (List.mem_of_getElem? (i := 235) rfl), tp_1 (⟨"TurnedHeadings$Reader", "settle", "(I)V"⟩, 11) (List.mem_of_getElem? (i := 4) rfl), TX4, 11, rfl, by decide⟩
theorem mv_X4_step : ab_MV yX4_step 4 := ⟨tb_3 _ (List.mem_of_getElem? (i := 15) rfl), tp_1 (⟨"TurnedHeadings$Reader", "step", "()V"⟩, 11) (List.mem_of_getElem? (i := 8) rfl), TX4, 11, rfl, by decide⟩
theorem mv_X4_takeSign : ab_MV yX4_takeSign 4 := ⟨tb_3 _ (List.mem_of_getElem? (i := 58) rfl), tp_1 (⟨"TurnedHeadings$Reader", "takeSign", "(I)Z"⟩, 11) (List.mem_of_getElem? (i := 13) rfl), TX4, 11, rfl, by decide⟩
theorem mv_X5_areOfOneSense : ab_MV yX5_areOfOneSense 5 := ⟨tb_4 _ (List.mem_of_getElem? (i := 217) rfl), tb_4 _ (List.mem_of_getElem? (i := 218) rfl), TX5, 6, rfl, by decide⟩
theorem mv_X5_areSame : ab_MV yX5_areSame 5 := ⟨tb_4 _ (List.mem_of_getElem? (i := 213) rfl), tb_4 _ (List.mem_of_getElem? (i := 214) rfl), TX5, 6, rfl, by decide⟩
theorem mv_X5_follow : ab_MV yX5_follow 5 := ⟨tb_4 _ (List.mem_of_getElem? (i := 177) rfl), tb_4 _ (List.mem_of_getElem? (i := 178) rfl), TX5, 6, rfl, by decide⟩
theorem mv_X5_hasTwo : ab_MV yX5_hasTwo 5 := ⟨tb_4 _ (List.mem_of_getElem? (i := 132) rfl), tp_3 (⟨"TurnedHeadings$Terms", "hasTwo", "(IIII)Z"⟩, 6) (List.mem_of_getElem? (i := 0) rfl), TX5, 6, rfl, by decide⟩
theorem mv_X5_inBoth : ab_MV yX5_inBoth 5 := ⟨tb_4 _ (List.mem_of_getElem? (i := 221) rfl), tb_4 _ (List.mem_of_getElem? (i := 222) rfl), TX5, 6, rfl, by decide⟩
theorem mv_X5_isAgain : ab_MV yX5_isAgain 5 := ⟨tb_4 _ (List.mem_of_getElem? (i := 226) rfl), tp_3 (⟨"TurnedHeadings$Terms", "isAgain", "(II)Z"⟩, 6) (List.mem_of_getElem? (i := 3) rfl), TX5, 6, rfl, by decide⟩
theorem mv_X5_isFirstOfSense : ab_MV yX5_isFirstOfSense 5 := ⟨tb_5 _ (List.mem_of_getElem? (i := 7) rfl), tb_5 _ (List.mem_of_getElem? (i := 8) rfl), TX5, 6, rfl, by decide⟩
theorem mv_X5_repeatedIn : ab_MV yX5_repeatedIn 5 := ⟨tb_3 _ (List.mem_of_getElem? (i := 179) rfl), tb_3 _ (List.mem_of_getElem? (i := 180) rfl), TX5, 6, rfl, by decide⟩
theorem mv_X5_senseSize : ab_MV yX5_senseSize 5 := ⟨tb_4 _ (List.mem_of_getElem? (i := 229) rfl), tb_4 _ (List.mem_of_getElem? (i := 230) rfl), TX5, 6, rfl, by decide⟩
theorem mv_X5_stringsWith : ab_MV yX5_stringsWith 5 := ⟨tb_4 _ (List.mem_of_getElem? (i := 127) rfl), tb_4 _ (List.mem_of_getElem? (i := 128) rfl), TX5, 6, rfl, by decide⟩
theorem mv_X5_takeFrom : ab_MV yX5_takeFrom 5 := ⟨tb_3 _ (List.mem_of_getElem? (i := 105) rfl), tb_3 _ (List.mem_of_getElem? (i := 106) rfl), TX5, 6, rfl, by decide⟩
theorem mv_X6_addEntry : ab_MV yX6_addEntry 6 := ⟨tb_3 _ (List.mem_of_getElem? (i := 117) rfl), tp_2 (⟨"TurnedHeadings$Turning", "addEntry", "(LTurnedHeadings$Book;LTurnedHeadings$Terms;II)V"⟩, 6) (List.mem_of_getElem? (i := 4) rfl), TX6, 6, rfl, by decide⟩
theorem mv_X6_doublesOf : ab_MV yX6_doublesOf 6 := ⟨tb_3 _ (List.mem_of_getElem? (i := 169) rfl), tb_3 _ (List.mem_of_getElem? (i := 170) rfl), TX6, 6, rfl, by decide⟩
theorem mv_X6_doublesOfAll : ab_MV yX6_doublesOfAll 6 := ⟨tb_4 _ (List.mem_of_getElem? (i := 66) rfl), tb_4 _ (List.mem_of_getElem? (i := 67) rfl), TX6, 6, rfl, by decide⟩
theorem mv_X6_numberLinesAndHeads : ab_MV yX6_numberLinesAndHeads 6 := ⟨tb_3 _ (List.mem_of_getElem? (i := 141) rfl), tp_2 (⟨"TurnedHeadings$Turning", "numberLinesAndHeads", "()V"⟩, 6) (List.mem_of_getElem? (i := 7) rfl), TX6, 6, rfl, by decide⟩
theorem mv_X6_printAddresses : ab_MV yX6_printAddresses 6 := ⟨tb_4 _ (List.mem_of_getElem? (i := 88) rfl), tp_2 (⟨"TurnedHeadings$Turning", "printAddresses", "(ILTurnedHeadings$Bytes;)V"⟩, 6) (List.mem_of_getElem? (i := 14) rfl), TX6, 6, rfl, by decide⟩
theorem mv_X6_printLine : ab_MV yX6_printLine 6 := ⟨tb_4 _ (List.mem_of_getElem? (i := 74) rfl), tb_4 _ (List.mem_of_getElem? (i := 75) rfl), TX6, 6, rfl, by decide⟩
theorem mv_X6_stringsAmong : ab_MV yX6_stringsAmong 6 := ⟨tb_4 _ (List.mem_of_getElem? (i := 15) rfl), tp_2 (⟨"TurnedHeadings$Turning", "stringsAmong", "(II)I"⟩, 6) (List.mem_of_getElem? (i := 12) rfl), TX6, 6, rfl, by decide⟩
theorem mv_X6_stringsOfHead : ab_MV yX6_stringsOfHead 6 := ⟨tb_4 _ (List.mem_of_getElem? (i := 30) rfl), tb_4 _ (List.mem_of_getElem? (i := 31) rfl), TX6, 6, rfl, by decide⟩
theorem mv_X6_stringsOfLine : ab_MV yX6_stringsOfLine 6 := ⟨tb_4 _ (List.mem_of_getElem? (i := 10) rfl), tb_4 _ (List.mem_of_getElem? (i := 11) rfl), TX6, 6, rfl, by decide⟩
theorem mv_X6_turnAll : ab_MV yX6_turnAll 6 := ⟨tb_3 _ (List.mem_of_getElem? (i := 112) rfl), tb_3 _ (List.mem_of_getElem? (i := 113) rfl), TX6, 6, rfl, by decide⟩
theorem mv_X7_areAllIn : ab_MV yX7_areAllIn 7 := ⟨tb_4 _ (List.mem_of_getElem? (i := 205) rfl), tb_4 _ (List.mem_of_getElem? (i := 206) rfl), TX7, 3, rfl, by decide⟩
theorem mv_X7_gatherFrom : ab_MV yX7_gatherFrom 7 := ⟨tb_3 _ (List.mem_of_getElem? (i := 92) rfl), tb_3 _ (List.mem_of_getElem? (i := 93) rfl), TX7, 3, rfl, by decide⟩
theorem mv_X7_groupOf : ab_MV yX7_groupOf 7 := ⟨tb_4 _ (List.mem_of_getElem? (i := 197) rfl), tb_4 _ (List.mem_of_getElem? (i := 198) rfl), TX7, 3, rfl, by decide⟩
theorem mv_X7_numberOf : ab_MV yX7_numberOf 7 := ⟨tb_3 _ (List.mem_of_getElem? (i := 101) rfl), tb_3 _ (List.mem_of_getElem? (i := 102) rfl), TX7, 3, rfl, by decide⟩
theorem mv_X7_rankOf : ab_MV yX7_rankOf 7 := ⟨tb_4 _ (List.mem_of_getElem? (i := 156) rfl), tb_4 _ (List.mem_of_getElem? (i := 157) rfl), TX7, 3, rfl, by decide⟩
theorem mv_X7_sortIn : ab_MV yX7_sortIn 7 := ⟨tb_3 _ (List.mem_of_getElem? (i := 98) rfl), tp_2 (⟨"TurnedHeadings$Words", "sortIn", "(JI)V"⟩, 3) (List.mem_of_getElem? (i := 3) rfl), TX7, 3, rfl, by decide⟩
theorem mv_X7_spread : ab_MV yX7_spread 7 := ⟨tb_4 _ (List.mem_of_getElem? (i := 190) rfl), tp_3 (⟨"TurnedHeadings$Words", "spread", "(I)I"⟩, 3) (List.mem_of_getElem? (i := 2) rfl), TX7, 3, rfl, by decide⟩
theorem mv_X7_stepsBetween : ab_MV yX7_stepsBetween 7 := ⟨tb_4 _ (List.mem_of_getElem? (i := 185) rfl), tb_4 _ (List.mem_of_getElem? (i := 186) rfl), TX7, 3, rfl, by decide⟩
theorem mv_X7_stringCount : ab_MV yX7_stringCount 7 := ⟨tb_4 _ (List.mem_of_getElem? (i := 147) rfl), tb_4 _ (List.mem_of_getElem? (i := 148) rfl), TX7, 3, rfl, by decide⟩
theorem mv_X8_isHead : ab_MV yX8_isHead 8 := ⟨tb_4 _ (List.mem_of_getElem? (i := 27) rfl), tp_2 (⟨"TurnedHeadings", "isHead", "(I)Z"⟩, 11) (List.mem_of_getElem? (i := 13) rfl), TX8, 11, rfl, by decide⟩
theorem mv_X8_isLine : ab_MV yX8_isLine 8 := ⟨tb_4 _ (List.mem_of_getElem? (i := 7) rfl), tp_2 (⟨"TurnedHeadings", "isLine", "(I)Z"⟩, 11) (List.mem_of_getElem? (i := 11) rfl), TX8, 11, rfl, by decide⟩
theorem mv_X8_isString : ab_MV yX8_isString 8 := ⟨tb_3 _ (List.mem_of_getElem? (i := 162) rfl), tp_2 (⟨"TurnedHeadings", "isString", "(I)Z"⟩, 11) (List.mem_of_getElem? (i := 8) rfl), TX8, 11, rfl, by decide⟩
theorem mv_X8_isTerm : ab_MV yX8_isTerm 8 := ⟨tb_3 _ (List.mem_of_getElem? (i := 188) rfl), tp_2 (⟨"TurnedHeadings", "isTerm", "(II)Z"⟩, 11) (List.mem_of_getElem? (i := 9) rfl), TX8, 11, rfl, by decide⟩
theorem mv_X8_isWord : ab_MV yX8_isWord 8 := ⟨tb_3 _ (List.mem_of_getElem? (i := 202) rfl), tp_2 (⟨"TurnedHeadings", "isWord", "(I)Z"⟩, 11) (List.mem_of_getElem? (i := 10) rfl), TX8, 11, rfl, by decide⟩
theorem mv_X8_printedSize : ab_MV yX8_printedSize 8 := ⟨tb_4 _ (List.mem_of_getElem? (i := 100) rfl), tp_2 (⟨"TurnedHeadings", "printedSize", "(I)I"⟩, 11) (List.mem_of_getElem? (i := 15) rfl), TX8, 11, rfl, by decide⟩
theorem mv_X8_renew : ab_MV yX8_renew 8 := ⟨tb_3 _ (List.mem_of_getElem? (i := 89) rfl), tp_2 (⟨"TurnedHeadings", "renew", "()V"⟩, 11) (List.mem_of_getElem? (i := 2) rfl), TX8, 11, rfl, by decide⟩
theorem mv_X8_stringsSharing : ab_MV yX8_stringsSharing 8 := ⟨tb_4 _ (List.mem_of_getElem? (i := 140) rfl), tp_3 (⟨"TurnedHeadings", "stringsSharing", "(II)I"⟩, 11) (List.mem_of_getElem? (i := 1) rfl), TX8, 11, rfl, by decide⟩
theorem mv_X9_addressAbove : ab_MV yX9_addressAbove 9 := ⟨tb_7 _ (List.mem_of_getElem? (i := 22) rfl), tp_6 (⟨"TurnedHeadingsModel", "addressAbove", "(II)I"⟩, 36) (List.mem_of_getElem? (i := 5) rfl), TX9, 36, rfl, by decide⟩
theorem mv_X9_addressOf : ab_MV yX9_addressOf 9 := ⟨tb_6 _ (List.mem_of_getElem? (i := 168) rfl), tp_5 (⟨"TurnedHeadingsModel", "addressOf", "(I)I"⟩, 36) (List.mem_of_getElem? (i := 9) rfl), TX9, 36, rfl, by decide⟩
theorem mv_X9_addressesOf : ab_MV yX9_addressesOf 9 := ⟨tb_7 _ (List.mem_of_getElem? (i := 18) rfl), tp_6 (⟨"TurnedHeadingsModel", "addressesOf", "(I)I"⟩, 36) (List.mem_of_getElem? (i := 4) rfl), TX9, 36, rfl, by decide⟩
theorem mv_X9_advance : ab_MV yX9_advance 9 := ⟨tb_5 _ (List.mem_of_getElem? (i := 219) rfl), tp_3 (⟨"TurnedHeadingsModel", "advance", "()V"⟩, 36) (List.mem_of_getElem? (i := 6) rfl), TX9, 36, rfl, by decide⟩
theorem mv_X9_areOneSense : ab_MV yX9_areOneSense 9 := ⟨tb_7 _ (List.mem_of_getElem? (i := 122) rfl), tp_7 (⟨"TurnedHeadingsModel", "areOneSense", "(II)Z"⟩, 36) (List.mem_of_getElem? (i := 2) rfl), TX9, 36, rfl, by decide⟩
theorem mv_X9_areSame : ab_MV yX9_areSame 9 := ⟨tb_7 _ (List.mem_of_getElem? (i := 118) rfl), tp_7 (⟨"TurnedHeadingsModel", "areSame", "(II)Z"⟩, 36) (List.mem_of_getElem? (i := 1) rfl), TX9, 36, rfl, by decide⟩
theorem mv_X9_beginsTape : ab_MV yX9_beginsTape 9 := ⟨tb_5 _ (List.mem_of_getElem? (i := 215) rfl), tp_3 (⟨"TurnedHeadingsModel", "beginsTape", "()V"⟩, 36) (List.mem_of_getElem? (i := 5) rfl), TX9, 36, rfl, by decide⟩
theorem mv_X9_comesOut : ab_MV yX9_comesOut 9 := ⟨tb_7 _ (List.mem_of_getElem? (i := 69) rfl), tp_6 (⟨"TurnedHeadingsModel", "comesOut", "()V"⟩, 36) (List.mem_of_getElem? (i := 13) rfl), TX9, 36, rfl, by decide⟩
theorem mv_X9_commonOf : ab_MV yX9_commonOf 9 := ⟨tb_7 _ (List.mem_of_getElem? (i := 126) rfl), tp_7 (⟨"TurnedHeadingsModel", "commonOf", "(II)I"⟩, 36) (List.mem_of_getElem? (i := 3) rfl), TX9, 36, rfl, by decide⟩
theorem mv_X9_compares : ab_MV yX9_compares 9 := ⟨tb_6 _ (List.mem_of_getElem? (i := 152) rfl), tp_5 (⟨"TurnedHeadingsModel", "compares", "(II)I"⟩, 36) (List.mem_of_getElem? (i := 5) rfl), TX9, 36, rfl, by decide⟩
theorem mv_X9_comparesRows : ab_MV yX9_comparesRows 9 := ⟨tb_6 _ (List.mem_of_getElem? (i := 164) rfl), tp_5 (⟨"TurnedHeadingsModel", "comparesRows", "(III)I"⟩, 36) (List.mem_of_getElem? (i := 8) rfl), TX9, 36, rfl, by decide⟩
theorem mv_X9_comparesWords : ab_MV yX9_comparesWords 9 := ⟨tb_6 _ (List.mem_of_getElem? (i := 156) rfl), tp_5 (⟨"TurnedHeadingsModel", "comparesWords", "(II)I"⟩, 36) (List.mem_of_getElem? (i := 6) rfl), TX9, 36, rfl, by decide⟩
theorem mv_X9_doesLead : ab_MV yX9_doesLead 9 := ⟨tb_6 _ (List.mem_of_getElem? (i := 136) rfl), tp_5 (⟨"TurnedHeadingsModel", "doesLead", "(II)Z"⟩, 36) (List.mem_of_getElem? (i := 1) rfl), TX9, 36, rfl, by decide⟩
theorem mv_X9_doublesOf : ab_MV yX9_doublesOf 9 := ⟨tb_6 _ (List.mem_of_getElem? (i := 185) rfl), tp_5 (⟨"TurnedHeadingsModel", "doublesOf", "(I)I"⟩, 36) (List.mem_of_getElem? (i := 12) rfl), TX9, 36, rfl, by decide⟩
theorem mv_X9_eats : ab_MV yX9_eats 9 := ⟨tb_6 _ (List.mem_of_getElem? (i := 84) rfl), tp_4 (⟨"TurnedHeadingsModel", "eats", "(Ljava/lang/String;)Z"⟩, 36) (List.mem_of_getElem? (i := 8) rfl), TX9, 36, rfl, by decide⟩
theorem mv_X9_eatsByte : ab_MV yX9_eatsByte 9 := ⟨tb_6 _ (List.mem_of_getElem? (i := 73) rfl), tp_4 (⟨"TurnedHeadingsModel", "eatsByte", "(I)Z"⟩, 36) (List.mem_of_getElem? (i := 6) rfl), TX9, 36, rfl, by decide⟩
theorem mv_X9_errs : ab_MV yX9_errs 9 := ⟨tb_6 _ (List.mem_of_getElem? (i := 24) rfl), tp_3 (⟨"TurnedHeadingsModel", "errs", "(II)V"⟩, 36) (List.mem_of_getElem? (i := 13) rfl), TX9, 36, rfl, by decide⟩
theorem mv_X9_findWord : ab_MV yX9_findWord 9 := ⟨tb_6 _ (List.mem_of_getElem? (i := 129) rfl), tp_5 (⟨"TurnedHeadingsModel", "findWord", "(J)I"⟩, 36) (List.mem_of_getElem? (i := 0) rfl), TX9, 36, rfl, by decide⟩
theorem mv_X9_firstOf : ab_MV yX9_firstOf 9 := ⟨tb_7 _ (List.mem_of_getElem? (i := 10) rfl), tp_6 (⟨"TurnedHeadingsModel", "firstOf", "(I)I"⟩, 36) (List.mem_of_getElem? (i := 2) rfl), TX9, 36, rfl, by decide⟩
theorem mv_X9_good : ab_MV yX9_good 9 := ⟨tb_5 _ (List.mem_of_getElem? (i := 235) rfl), tp_3 (⟨"TurnedHeadingsModel", "good", "()Z"⟩, 36) (List.mem_of_getElem? (i := 8) rfl), TX9, 36, rfl, by decide⟩
theorem mv_X9_hasSense : ab_MV yX9_hasSense 9 := ⟨tb_7 _ (List.mem_of_getElem? (i := 134) rfl), tp_7 (⟨"TurnedHeadingsModel", "hasSense", "(III)Z"⟩, 36) (List.mem_of_getElem? (i := 5) rfl), TX9, 36, rfl, by decide⟩
theorem mv_X9_hasWord : ab_MV yX9_hasWord 9 := ⟨tb_7 _ (List.mem_of_getElem? (i := 102) rfl), tp_6 (⟨"TurnedHeadingsModel", "hasWord", "(III)Z"⟩, 36) (List.mem_of_getElem? (i := 15) rfl), TX9, 36, rfl, by decide⟩
theorem mv_X9_having0 : ab_MV yX9_having0 9 := ⟨tb_7 _ (List.mem_of_getElem? (i := 98) rfl), tp_6 (⟨"TurnedHeadingsModel", "having0", "(II)I"⟩, 36) (List.mem_of_getElem? (i := 14) rfl), TX9, 36, rfl, by decide⟩
theorem mv_X9_headWord : ab_MV yX9_headWord 9 := ⟨tb_7 _ (List.mem_of_getElem? (i := 34) rfl), tp_6 (⟨"TurnedHeadingsModel", "headWord", "(I)I"⟩, 36) (List.mem_of_getElem? (i := 6) rfl), TX9, 36, rfl, by decide⟩
theorem mv_X9_isAddress : ab_MV yX9_isAddress 9 := ⟨tb_6 _ (List.mem_of_getElem? (i := 65) rfl), tp_4 (⟨"TurnedHeadingsModel", "isAddress", "(I)Z"⟩, 36) (List.mem_of_getElem? (i := 4) rfl), TX9, 36, rfl, by decide⟩
theorem mv_X9_isBeside : ab_MV yX9_isBeside 9 := ⟨tb_7 _ (List.mem_of_getElem? (i := 154) rfl), tp_7 (⟨"TurnedHeadingsModel", "isBeside", "(III)Z"⟩, 36) (List.mem_of_getElem? (i := 6) rfl), TX9, 36, rfl, by decide⟩
theorem mv_X9_isFirst : ab_MV yX9_isFirst 9 := ⟨tb_7 _ (List.mem_of_getElem? (i := 130) rfl), tp_7 (⟨"TurnedHeadingsModel", "isFirst", "(II)Z"⟩, 36) (List.mem_of_getElem? (i := 4) rfl), TX9, 36, rfl, by decide⟩
theorem mv_X9_isIn : ab_MV yX9_isIn 9 := ⟨tb_7 _ (List.mem_of_getElem? (i := 188) rfl), tp_7 (⟨"TurnedHeadingsModel", "isIn", "(II)Z"⟩, 36) (List.mem_of_getElem? (i := 8) rfl), TX9, 36, rfl, by decide⟩
theorem mv_X9_isLineNow : ab_MV yX9_isLineNow 9 := ⟨tb_7 _ (List.mem_of_getElem? (i := 5) rfl), tp_6 (⟨"TurnedHeadingsModel", "isLineNow", "(I)Z"⟩, 36) (List.mem_of_getElem? (i := 1) rfl), TX9, 36, rfl, by decide⟩
theorem mv_X9_isOwnWord : ab_MV yX9_isOwnWord 9 := ⟨tb_6 _ (List.mem_of_getElem? (i := 41) rfl), tp_4 (⟨"TurnedHeadingsModel", "isOwnWord", "()Z"⟩, 36) (List.mem_of_getElem? (i := 0) rfl), TX9, 36, rfl, by decide⟩
theorem mv_X9_isSeen : ab_MV yX9_isSeen 9 := ⟨tb_6 _ (List.mem_of_getElem? (i := 53) rfl), tp_4 (⟨"TurnedHeadingsModel", "isSeen", "(J)Z"⟩, 36) (List.mem_of_getElem? (i := 2) rfl), TX9, 36, rfl, by decide⟩
theorem mv_X9_isString : ab_MV yX9_isString 9 := ⟨tb_6 _ (List.mem_of_getElem? (i := 180) rfl), tp_5 (⟨"TurnedHeadingsModel", "isString", "(I)Z"⟩, 36) (List.mem_of_getElem? (i := 11) rfl), TX9, 36, rfl, by decide⟩
theorem mv_X9_isTerm : ab_MV yX9_isTerm 9 := ⟨tb_6 _ (List.mem_of_getElem? (i := 197) rfl), tp_5 (⟨"TurnedHeadingsModel", "isTerm", "(II)Z"⟩, 36) (List.mem_of_getElem? (i := 14) rfl), TX9, 36, rfl, by decide⟩
theorem mv_X9_isWord : ab_MV yX9_isWord 9 := ⟨tb_6 _ (List.mem_of_getElem? (i := 4) rfl), tp_3 (⟨"TurnedHeadingsModel", "isWord", "(Ljava/lang/String;)Z"⟩, 36) (List.mem_of_getElem? (i := 10) rfl), TX9, 36, rfl, by decide⟩
theorem mv_X9_isWordNow : ab_MV yX9_isWordNow 9 := ⟨tb_6 _ (List.mem_of_getElem? (i := 212) rfl), tp_5 (⟨"TurnedHeadingsModel", "isWordNow", "(I)Z"⟩, 36) (List.mem_of_getElem? (i := 15) rfl), TX9, 36, rfl, by decide⟩
theorem mv_X9_joinOf : ab_MV yX9_joinOf 9 := ⟨tb_7 _ (List.mem_of_getElem? (i := 61) rfl), tp_6 (⟨"TurnedHeadingsModel", "joinOf", "(II)J"⟩, 36) (List.mem_of_getElem? (i := 11) rfl), TX9, 36, rfl, by decide⟩
theorem mv_X9_keeps : ab_MV yX9_keeps 9 := ⟨tb_6 _ (List.mem_of_getElem? (i := 100) rfl), tp_4 (⟨"TurnedHeadingsModel", "keeps", "()V"⟩, 36) (List.mem_of_getElem? (i := 11) rfl), TX9, 36, rfl, by decide⟩
theorem mv_X9_lays : ab_MV yX9_lays 9 := ⟨tb_6 _ (List.mem_of_getElem? (i := 113) rfl), tp_4 (⟨"TurnedHeadingsModel", "lays", "()V"⟩, 36) (List.mem_of_getElem? (i := 12) rfl), TX9, 36, rfl, by decide⟩
theorem mv_X9_laysBy : ab_MV yX9_laysBy 9 := ⟨tb_6 _ (List.mem_of_getElem? (i := 117) rfl), tp_4 (⟨"TurnedHeadingsModel", "laysBy", "(II)V"⟩, 36) (List.mem_of_getElem? (i := 13) rfl), TX9, 36, rfl, by decide⟩
theorem mv_X9_laysEntry : ab_MV yX9_laysEntry 9 := ⟨tb_6 _ (List.mem_of_getElem? (i := 144) rfl), tp_5 (⟨"TurnedHeadingsModel", "laysEntry", "(III)V"⟩, 36) (List.mem_of_getElem? (i := 3) rfl), TX9, 36, rfl, by decide⟩
theorem mv_X9_laysFar : ab_MV yX9_laysFar 9 := ⟨tb_7 _ (List.mem_of_getElem? (i := 204) rfl), tp_7 (⟨"TurnedHeadingsModel", "laysFar", "(I)V"⟩, 36) (List.mem_of_getElem? (i := 9) rfl), TX9, 36, rfl, by decide⟩
theorem mv_X9_laysWords : ab_MV yX9_laysWords 9 := ⟨tb_6 _ (List.mem_of_getElem? (i := 121) rfl), tp_4 (⟨"TurnedHeadingsModel", "laysWords", "()V"⟩, 36) (List.mem_of_getElem? (i := 14) rfl), TX9, 36, rfl, by decide⟩
theorem mv_X9_leadWord : ab_MV yX9_leadWord 9 := ⟨tb_6 _ (List.mem_of_getElem? (i := 160) rfl), tp_5 (⟨"TurnedHeadingsModel", "leadWord", "(I)I"⟩, 36) (List.mem_of_getElem? (i := 7) rfl), TX9, 36, rfl, by decide⟩
theorem mv_X9_lettersTold : ab_MV yX9_lettersTold 9 := ⟨tb_6 _ (List.mem_of_getElem? (i := 225) rfl), tp_6 (⟨"TurnedHeadingsModel", "lettersTold", "()I"⟩, 36) (List.mem_of_getElem? (i := 0) rfl), TX9, 36, rfl, by decide⟩
theorem mv_X9_manyOf : ab_MV yX9_manyOf 9 := ⟨tb_7 _ (List.mem_of_getElem? (i := 14) rfl), tp_6 (⟨"TurnedHeadingsModel", "manyOf", "(I)I"⟩, 36) (List.mem_of_getElem? (i := 3) rfl), TX9, 36, rfl, by decide⟩
theorem mv_X9_oftenOf : ab_MV yX9_oftenOf 9 := ⟨tb_7 _ (List.mem_of_getElem? (i := 162) rfl), tp_7 (⟨"TurnedHeadingsModel", "oftenOf", "(I)I"⟩, 36) (List.mem_of_getElem? (i := 7) rfl), TX9, 36, rfl, by decide⟩
theorem mv_X9_packed : ab_MV yX9_packed 9 := ⟨tb_6 _ (List.mem_of_getElem? (i := 49) rfl), tp_4 (⟨"TurnedHeadingsModel", "packed", "(II)J"⟩, 36) (List.mem_of_getElem? (i := 1) rfl), TX9, 36, rfl, by decide⟩
theorem mv_X9_passesByte : ab_MV yX9_passesByte 9 := ⟨tb_6 _ (List.mem_of_getElem? (i := 69) rfl), tp_4 (⟨"TurnedHeadingsModel", "passesByte", "(I)V"⟩, 36) (List.mem_of_getElem? (i := 5) rfl), TX9, 36, rfl, by decide⟩
theorem mv_X9_prints : ab_MV yX9_prints 9 := ⟨tb_7 _ (List.mem_of_getElem? (i := 49) rfl), tp_6 (⟨"TurnedHeadingsModel", "prints", "(I)V"⟩, 36) (List.mem_of_getElem? (i := 8) rfl), TX9, 36, rfl, by decide⟩
theorem mv_X9_puts : ab_MV yX9_puts 9 := ⟨tb_6 _ (List.mem_of_getElem? (i := 148) rfl), tp_5 (⟨"TurnedHeadingsModel", "puts", "(IIII)V"⟩, 36) (List.mem_of_getElem? (i := 4) rfl), TX9, 36, rfl, by decide⟩
theorem mv_X9_puts4 : ab_MV yX9_puts4 9 := ⟨tb_5 _ (List.mem_of_getElem? (i := 200) rfl), tp_3 (⟨"TurnedHeadingsModel", "puts4", "(I)V"⟩, 36) (List.mem_of_getElem? (i := 4) rfl), TX9, 36, rfl, by decide⟩
theorem mv_X9_readLaw : ab_MV yX9_readLaw 9 := ⟨tb_6 _ (List.mem_of_getElem? (i := 10) rfl), tp_3 (⟨"TurnedHeadingsModel", "readLaw", "()V"⟩, 36) (List.mem_of_getElem? (i := 11) rfl), TX9, 36, rfl, by decide⟩
theorem mv_X9_readLine : ab_MV yX9_readLine 9 := ⟨tb_5 _ (List.mem_of_getElem? (i := 239) rfl), tp_3 (⟨"TurnedHeadingsModel", "readLine", "()V"⟩, 36) (List.mem_of_getElem? (i := 9) rfl), TX9, 36, rfl, by decide⟩
theorem mv_X9_readSee : ab_MV yX9_readSee 9 := ⟨tb_6 _ (List.mem_of_getElem? (i := 33) rfl), tp_3 (⟨"TurnedHeadingsModel", "readSee", "()V"⟩, 36) (List.mem_of_getElem? (i := 14) rfl), TX9, 36, rfl, by decide⟩
theorem mv_X9_readString : ab_MV yX9_readString 9 := ⟨tb_6 _ (List.mem_of_getElem? (i := 60) rfl), tp_4 (⟨"TurnedHeadingsModel", "readString", "()V"⟩, 36) (List.mem_of_getElem? (i := 3) rfl), TX9, 36, rfl, by decide⟩
theorem mv_X9_readTerm : ab_MV yX9_readTerm 9 := ⟨tb_6 _ (List.mem_of_getElem? (i := 77) rfl), tp_4 (⟨"TurnedHeadingsModel", "readTerm", "(III)V"⟩, 36) (List.mem_of_getElem? (i := 7) rfl), TX9, 36, rfl, by decide⟩
theorem mv_X9_roleHere : ab_MV yX9_roleHere 9 := ⟨tb_6 _ (List.mem_of_getElem? (i := 14) rfl), tp_3 (⟨"TurnedHeadingsModel", "roleHere", "()I"⟩, 36) (List.mem_of_getElem? (i := 12) rfl), TX9, 36, rfl, by decide⟩
theorem mv_X9_roleIf : ab_MV yX9_roleIf 9 := ⟨tb_8 _ (List.mem_of_getElem? (i := 8) rfl), tp_7 (⟨"TurnedHeadingsModel", "roleIf", "(IIII)I"⟩, 36) (List.mem_of_getElem? (i := 10) rfl), TX9, 36, rfl, by decide⟩
theorem mv_X9_roleOf : ab_MV yX9_roleOf 9 := ⟨tb_6 _ (List.mem_of_getElem? (i := 140) rfl), tp_5 (⟨"TurnedHeadingsModel", "roleOf", "(II)I"⟩, 36) (List.mem_of_getElem? (i := 2) rfl), TX9, 36, rfl, by decide⟩
theorem mv_X9_says : ab_MV yX9_says 9 := ⟨tb_7 _ (List.mem_of_getElem? (i := 57) rfl), tp_6 (⟨"TurnedHeadingsModel", "says", "(I)V"⟩, 36) (List.mem_of_getElem? (i := 10) rfl), TX9, 36, rfl, by decide⟩
theorem mv_X9_saysNumber : ab_MV yX9_saysNumber 9 := ⟨tb_7 _ (List.mem_of_getElem? (i := 65) rfl), tp_6 (⟨"TurnedHeadingsModel", "saysNumber", "(I)V"⟩, 36) (List.mem_of_getElem? (i := 12) rfl), TX9, 36, rfl, by decide⟩
theorem mv_X9_saysWord : ab_MV yX9_saysWord 9 := ⟨tb_7 _ (List.mem_of_getElem? (i := 53) rfl), tp_6 (⟨"TurnedHeadingsModel", "saysWord", "(J)V"⟩, 36) (List.mem_of_getElem? (i := 9) rfl), TX9, 36, rfl, by decide⟩
theorem mv_X9_see0 : ab_MV yX9_see0 9 := ⟨tb_5 _ (List.mem_of_getElem? (i := 223) rfl), tp_3 (⟨"TurnedHeadingsModel", "see0", "(I)I"⟩, 36) (List.mem_of_getElem? (i := 7) rfl), TX9, 36, rfl, by decide⟩
theorem mv_X9_sees : ab_MV yX9_sees 9 := ⟨tb_6 _ (List.mem_of_getElem? (i := 172) rfl), tp_5 (⟨"TurnedHeadingsModel", "sees", "()I"⟩, 36) (List.mem_of_getElem? (i := 10) rfl), TX9, 36, rfl, by decide⟩
theorem mv_X9_sharing0 : ab_MV yX9_sharing0 9 := ⟨tb_7 _ (List.mem_of_getElem? (i := 110) rfl), tp_7 (⟨"TurnedHeadingsModel", "sharing0", "(II)I"⟩, 36) (List.mem_of_getElem? (i := 0) rfl), TX9, 36, rfl, by decide⟩
theorem mv_X9_strings : ab_MV yX9_strings 9 := ⟨tb_6 _ (List.mem_of_getElem? (i := 96) rfl), tp_4 (⟨"TurnedHeadingsModel", "strings", "()I"⟩, 36) (List.mem_of_getElem? (i := 10) rfl), TX9, 36, rfl, by decide⟩
theorem mv_X9_stringsUnder : ab_MV yX9_stringsUnder 9 := ⟨tb_7 _ (List.mem_of_getElem? (i := 38) rfl), tp_6 (⟨"TurnedHeadingsModel", "stringsUnder", "(I)I"⟩, 36) (List.mem_of_getElem? (i := 7) rfl), TX9, 36, rfl, by decide⟩
theorem mv_X9_terms : ab_MV yX9_terms 9 := ⟨tb_6 _ (List.mem_of_getElem? (i := 125) rfl), tp_4 (⟨"TurnedHeadingsModel", "terms", "(I)I"⟩, 36) (List.mem_of_getElem? (i := 15) rfl), TX9, 36, rfl, by decide⟩
theorem mv_X9_twiceIn : ab_MV yX9_twiceIn 9 := ⟨tb_6 _ (List.mem_of_getElem? (i := 189) rfl), tp_5 (⟨"TurnedHeadingsModel", "twiceIn", "(I)I"⟩, 36) (List.mem_of_getElem? (i := 13) rfl), TX9, 36, rfl, by decide⟩
theorem mv_X9_wordHere : ab_MV yX9_wordHere 9 := ⟨tb_6 _ (List.mem_of_getElem? (i := 37) rfl), tp_3 (⟨"TurnedHeadingsModel", "wordHere", "()J"⟩, 36) (List.mem_of_getElem? (i := 15) rfl), TX9, 36, rfl, by decide⟩
theorem mv_X9_wordRead : ab_MV yX9_wordRead 9 := ⟨tb_6 _ (List.mem_of_getElem? (i := 88) rfl), tp_4 (⟨"TurnedHeadingsModel", "wordRead", "()J"⟩, 36) (List.mem_of_getElem? (i := 9) rfl), TX9, 36, rfl, by decide⟩
theorem mi_X0_init : ab_MI yX0_init := ⟨tb_1 _ (List.mem_of_getElem? (i := 154) rfl), rfl⟩
theorem mi_X1_init : ab_MI yX1_init := ⟨tb_1 _ (List.mem_of_getElem? (i := 29) rfl), rfl⟩
theorem mi_X2_init : ab_MI yX2_init := ⟨tb_2 _ (List.mem_of_getElem? (i := 68) rfl), rfl⟩
theorem mi_X3_init : ab_MI yX3_init := ⟨tb_1 _ (List.mem_of_getElem? (i := 229) rfl), rfl⟩
theorem mi_X4_init : ab_MI yX4_init := ⟨tb_1 _ (List.mem_of_getElem? (i := 50) rfl), rfl⟩
theorem mi_X5_init : ab_MI yX5_init := ⟨tb_2 _ (List.mem_of_getElem? (i := 29) rfl), rfl⟩
theorem mi_X6_init : ab_MI yX6_init := ⟨tb_2 _ (List.mem_of_getElem? (i := 61) rfl), rfl⟩
theorem mi_X7_init : ab_MI yX7_init := ⟨tb_2 _ (List.mem_of_getElem? (i := 9) rfl), rfl⟩
theorem nw_RX8_9 : ab_NW RX8 9 1 := ⟨RX1, TX1, 2, cf_1, tb_1 _ (List.mem_of_getElem? (i := 26) rfl), tb_1 _ (List.mem_of_getElem? (i := 27) rfl), tb_1 _ (List.mem_of_getElem? (i := 2) rfl)⟩
theorem nw_RX8_24 : ab_NW RX8 24 4 := ⟨RX4, TX4, 11, cf_4, tb_1 _ (List.mem_of_getElem? (i := 47) rfl), tb_1 _ (List.mem_of_getElem? (i := 48) rfl), tb_1 _ (List.mem_of_getElem? (i := 4) rfl)⟩
theorem nw_RX8_31 : ab_NW RX8 31 0 := ⟨RX0, TX0, 12, cf_0, tb_1 _ (List.mem_of_getElem? (i := 151) rfl), tb_1 _ (List.mem_of_getElem? (i := 152) rfl), tb_1 _ (List.mem_of_getElem? (i := 9) rfl)⟩
theorem nw_RX8_41 : ab_NW RX8 41 3 := ⟨RX3, TX3, 3, cf_3, tb_1 _ (List.mem_of_getElem? (i := 226) rfl), tb_1 _ (List.mem_of_getElem? (i := 227) rfl), tb_1 _ (List.mem_of_getElem? (i := 10) rfl)⟩
theorem nw_RX8_48 : ab_NW RX8 48 7 := ⟨RX7, TX7, 3, cf_7, tb_2 _ (List.mem_of_getElem? (i := 6) rfl), tb_2 _ (List.mem_of_getElem? (i := 7) rfl), tb_1 _ (List.mem_of_getElem? (i := 11) rfl)⟩
theorem nw_RX8_55 : ab_NW RX8 55 5 := ⟨RX5, TX5, 6, cf_5, tb_2 _ (List.mem_of_getElem? (i := 26) rfl), tb_2 _ (List.mem_of_getElem? (i := 27) rfl), tb_1 _ (List.mem_of_getElem? (i := 12) rfl)⟩
theorem nw_RX8_62 : ab_NW RX8 62 6 := ⟨RX6, TX6, 6, cf_6, tb_2 _ (List.mem_of_getElem? (i := 58) rfl), tb_2 _ (List.mem_of_getElem? (i := 59) rfl), tb_1 _ (List.mem_of_getElem? (i := 13) rfl)⟩
theorem nw_RX3_9 : ab_NW RX3 9 0 := ⟨RX0, TX0, 12, cf_0, tb_1 _ (List.mem_of_getElem? (i := 232) rfl), tb_1 _ (List.mem_of_getElem? (i := 152) rfl), tb_1 _ (List.mem_of_getElem? (i := 9) rfl)⟩
theorem nw_RX6_9 : ab_NW RX6 9 2 := ⟨RX2, TX2, 11, cf_2, tb_2 _ (List.mem_of_getElem? (i := 64) rfl), tb_2 _ (List.mem_of_getElem? (i := 66) rfl), tb_1 _ (List.mem_of_getElem? (i := 14) rfl)⟩
theorem nq_RX3_9 : Cond.classLink RX3 9 RX0 ∈ lw_tbl ∧ Cond.arrayOver (.object RX0) ∈ lw_tbl := ⟨tb_1 _ (List.mem_of_getElem? (i := 232) rfl), tb_1 _ (List.mem_of_getElem? (i := 233) rfl)⟩
theorem nq_RX6_9 : Cond.classLink RX6 9 RX2 ∈ lw_tbl ∧ Cond.arrayOver (.object RX2) ∈ lw_tbl := ⟨tb_2 _ (List.mem_of_getElem? (i := 64) rfl), tb_2 _ (List.mem_of_getElem? (i := 65) rfl)⟩
theorem ob_RX8_3 : Cond.methodLink RX8 3 Lib.objectInit ∈ lw_tbl ∧ Cond.instanceMethod Lib.objectInit ∈ lw_tbl ∧ Cond.code Lib.objectInit ⟨#[0xb1]⟩ 1 none ∈ lw_tbl := ⟨tb_1 _ (List.mem_of_getElem? (i := 23) rfl), tb_1 _ (List.mem_of_getElem? (i := 24) rfl), tb_1 _ (List.mem_of_getElem? (i := 25) rfl)⟩
theorem ob_RX0_3 : Cond.methodLink RX0 3 Lib.objectInit ∈ lw_tbl ∧ Cond.instanceMethod Lib.objectInit ∈ lw_tbl ∧ Cond.code Lib.objectInit ⟨#[0xb1]⟩ 1 none ∈ lw_tbl := ⟨tb_1 _ (List.mem_of_getElem? (i := 156) rfl), tb_1 _ (List.mem_of_getElem? (i := 24) rfl), tb_1 _ (List.mem_of_getElem? (i := 25) rfl)⟩
theorem ob_RX1_3 : Cond.methodLink RX1 3 Lib.objectInit ∈ lw_tbl ∧ Cond.instanceMethod Lib.objectInit ∈ lw_tbl ∧ Cond.code Lib.objectInit ⟨#[0xb1]⟩ 1 none ∈ lw_tbl := ⟨tb_1 _ (List.mem_of_getElem? (i := 31) rfl), tb_1 _ (List.mem_of_getElem? (i := 24) rfl), tb_1 _ (List.mem_of_getElem? (i := 25) rfl)⟩
theorem ob_RX2_3 : Cond.methodLink RX2 3 Lib.objectInit ∈ lw_tbl ∧ Cond.instanceMethod Lib.objectInit ∈ lw_tbl ∧ Cond.code Lib.objectInit ⟨#[0xb1]⟩ 1 none ∈ lw_tbl := ⟨tb_2 _ (List.mem_of_getElem? (i := 70) rfl), tb_1 _ (List.mem_of_getElem? (i := 24) rfl), tb_1 _ (List.mem_of_getElem? (i := 25) rfl)⟩
theorem ob_RX3_3 : Cond.methodLink RX3 3 Lib.objectInit ∈ lw_tbl ∧ Cond.instanceMethod Lib.objectInit ∈ lw_tbl ∧ Cond.code Lib.objectInit ⟨#[0xb1]⟩ 1 none ∈ lw_tbl := ⟨tb_1 _ (List.mem_of_getElem? (i := 231) rfl), tb_1 _ (List.mem_of_getElem? (i := 24) rfl), tb_1 _ (List.mem_of_getElem? (i := 25) rfl)⟩
theorem ob_RX4_3 : Cond.methodLink RX4 3 Lib.objectInit ∈ lw_tbl ∧ Cond.instanceMethod Lib.objectInit ∈ lw_tbl ∧ Cond.code Lib.objectInit ⟨#[0xb1]⟩ 1 none ∈ lw_tbl := ⟨tb_1 _ (List.mem_of_getElem? (i := 52) rfl), tb_1 _ (List.mem_of_getElem? (i := 24) rfl), tb_1 _ (List.mem_of_getElem? (i := 25) rfl)⟩
theorem ob_RX5_3 : Cond.methodLink RX5 3 Lib.objectInit ∈ lw_tbl ∧ Cond.instanceMethod Lib.objectInit ∈ lw_tbl ∧ Cond.code Lib.objectInit ⟨#[0xb1]⟩ 1 none ∈ lw_tbl := ⟨tb_2 _ (List.mem_of_getElem? (i := 31) rfl), tb_1 _ (List.mem_of_getElem? (i := 24) rfl), tb_1 _ (List.mem_of_getElem? (i := 25) rfl)⟩
theorem ob_RX6_3 : Cond.methodLink RX6 3 Lib.objectInit ∈ lw_tbl ∧ Cond.instanceMethod Lib.objectInit ∈ lw_tbl ∧ Cond.code Lib.objectInit ⟨#[0xb1]⟩ 1 none ∈ lw_tbl := ⟨tb_2 _ (List.mem_of_getElem? (i := 63) rfl), tb_1 _ (List.mem_of_getElem? (i := 24) rfl), tb_1 _ (List.mem_of_getElem? (i := 25) rfl)⟩
theorem ob_RX7_3 : Cond.methodLink RX7 3 Lib.objectInit ∈ lw_tbl ∧ Cond.instanceMethod Lib.objectInit ∈ lw_tbl ∧ Cond.code Lib.objectInit ⟨#[0xb1]⟩ 1 none ∈ lw_tbl := ⟨tb_2 _ (List.mem_of_getElem? (i := 11) rfl), tb_1 _ (List.mem_of_getElem? (i := 24) rfl), tb_1 _ (List.mem_of_getElem? (i := 25) rfl)⟩
theorem ob_RX9_1 : Cond.methodLink RX9 1 Lib.objectInit ∈ lw_tbl ∧ Cond.instanceMethod Lib.objectInit ∈ lw_tbl ∧ Cond.code Lib.objectInit ⟨#[0xb1]⟩ 1 none ∈ lw_tbl := ⟨tb_5 _ (List.mem_of_getElem? (i := 85) rfl), tb_1 _ (List.mem_of_getElem? (i := 24) rfl), tb_1 _ (List.mem_of_getElem? (i := 25) rfl)⟩
theorem acp_RX0_54 : ab_AC RX0 54 := ⟨tb_3 _ (List.mem_of_getElem? (i := 84) rfl), tb_3 _ (List.mem_of_getElem? (i := 86) rfl), tb_3 _ (List.mem_of_getElem? (i := 85) rfl), tb_1 _ (List.mem_of_getElem? (i := 16) rfl)⟩
theorem mt_RX1_9 : ab_MT RX1 9 Lib.Math.max.name Lib.Math.max.code 2 (some .int) := ⟨tb_1 _ (List.mem_of_getElem? (i := 32) rfl), tb_1 _ (List.mem_of_getElem? (i := 33) rfl), tb_1 _ (List.mem_of_getElem? (i := 3) rfl), tb_1 _ (List.mem_of_getElem? (i := 34) rfl)⟩
theorem mt_RX4_124 : ab_MT RX4 124 Lib.MathLoose.min_long.x Lib.MathLoose.min_long.code 4 (some .long) := ⟨tb_2 _ (List.mem_of_getElem? (i := 229) rfl), tb_2 _ (List.mem_of_getElem? (i := 230) rfl), tb_1 _ (List.mem_of_getElem? (i := 3) rfl), tb_2 _ (List.mem_of_getElem? (i := 231) rfl)⟩
theorem mt_RX5_52 : ab_MT RX5 52 Lib.Math.max.name Lib.Math.max.code 2 (some .int) := ⟨tb_3 _ (List.mem_of_getElem? (i := 110) rfl), tb_1 _ (List.mem_of_getElem? (i := 33) rfl), tb_1 _ (List.mem_of_getElem? (i := 3) rfl), tb_1 _ (List.mem_of_getElem? (i := 34) rfl)⟩
theorem mt_RX9_123 : ab_MT RX9 123 Lib.Math.min.name Lib.Math.min.code 2 (some .int) := ⟨tb_5 _ (List.mem_of_getElem? (i := 230) rfl), tb_5 _ (List.mem_of_getElem? (i := 231) rfl), tb_1 _ (List.mem_of_getElem? (i := 3) rfl), tb_5 _ (List.mem_of_getElem? (i := 232) rfl)⟩
theorem mt_RX9_435 : ab_MT RX9 435 Lib.Math.max.name Lib.Math.max.code 2 (some .int) := ⟨tb_7 _ (List.mem_of_getElem? (i := 176) rfl), tb_1 _ (List.mem_of_getElem? (i := 33) rfl), tb_1 _ (List.mem_of_getElem? (i := 3) rfl), tb_1 _ (List.mem_of_getElem? (i := 34) rfl)⟩
theorem ab_ac_int : Cond.arrayClass (newarray.typeOf .int) ∈ lw_tbl := tb_1 _ (List.mem_of_getElem? (i := 150) rfl)
theorem ab_ac_long : Cond.arrayClass (newarray.typeOf .long) ∈ lw_tbl := tb_1 _ (List.mem_of_getElem? (i := 149) rfl)
theorem ab_ac_byte : Cond.arrayClass (newarray.typeOf .byte) ∈ lw_tbl := tb_1 _ (List.mem_of_getElem? (i := 46) rfl)
