set_option maxRecDepth 20000 in
theorem t6_state : Cond.code yL_state cL_state 13 (some .boolean) ∈ tables_1_6 := by
  unfold tables_1_6
  repeat first | exact List.Mem.head _ | refine List.Mem.tail _ ?_
theorem cy_L_state : Cond.code yL_state cL_state 13 (some .boolean) ∈ TB := TB_mem (List.mem_append_right _ (List.mem_append_right _ (List.mem_append_right _ (List.mem_append_right _ (List.mem_append_right _ (List.mem_append_right _ (List.mem_append_left _ t6_state))))))) (by decide +kernel)
