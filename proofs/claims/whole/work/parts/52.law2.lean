theorem lk_L_13 : Cond.methodLink RL 13 yX9_function ∈ TB := tb_9 _ (List.mem_of_getElem? (i := 0) rfl)
theorem lco_X9_function : Cond.code yX9_function cX9_function 4 (some .int) ∈ TB := tb_9 _ (List.mem_of_getElem? (i := 3) rfl)
theorem lim_X9_function : Cond.instanceMethod yX9_function ∈ TB := tb_9 _ (List.mem_of_getElem? (i := 1) rfl)
theorem lse_X9_function : Cond.selects RX9 yX9_function yX9_function ∈ TB := tb_9 _ (List.mem_of_getElem? (i := 2) rfl)
theorem hd_X9_function : yX9_function.cls = RX9 ∧ yX9_function.cls ≠ "java/lang/invoke/MethodHandle" ∧ yX9_function.cls ≠ "java/lang/invoke/VarHandle" ∧ (parseMethodDescriptor yX9_function.desc).map (fun d => d.parameters.length) = some 3 := by decide +kernel
theorem gi_L_13 : GoodIn TB (wsV RL 13 RX9 yX9_function (Cond.code yX9_function cX9_function 4 (some .int) :: TB)) := gi_v lk_L_13 lim_X9_function lse_X9_function in_X9 lco_X9_function
theorem lk_L_17 : Cond.methodLink RL 17 yX10_function ∈ TB := tb_9 _ (List.mem_of_getElem? (i := 19) rfl)
theorem lco_X10_function : Cond.code yX10_function cX10_function 4 (some .int) ∈ TB := tb_9 _ (List.mem_of_getElem? (i := 22) rfl)
theorem lim_X10_function : Cond.instanceMethod yX10_function ∈ TB := tb_9 _ (List.mem_of_getElem? (i := 20) rfl)
theorem lse_X10_function : Cond.selects RX10 yX10_function yX10_function ∈ TB := tb_9 _ (List.mem_of_getElem? (i := 21) rfl)
theorem hd_X10_function : yX10_function.cls = RX10 ∧ yX10_function.cls ≠ "java/lang/invoke/MethodHandle" ∧ yX10_function.cls ≠ "java/lang/invoke/VarHandle" ∧ (parseMethodDescriptor yX10_function.desc).map (fun d => d.parameters.length) = some 3 := by decide +kernel
theorem gi_L_17 : GoodIn TB (wsV RL 17 RX10 yX10_function (Cond.code yX10_function cX10_function 4 (some .int) :: TB)) := gi_v lk_L_17 lim_X10_function lse_X10_function in_X10 lco_X10_function
theorem lk_L_18 : Cond.methodLink RL 18 yX9_code ∈ TB := tb_10 _ (List.mem_of_getElem? (i := 11) rfl)
theorem lco_X9_code : Cond.code yX9_code cX9_code 4 (some .int) ∈ TB := tb_10 _ (List.mem_of_getElem? (i := 14) rfl)
theorem lim_X9_code : Cond.instanceMethod yX9_code ∈ TB := tb_10 _ (List.mem_of_getElem? (i := 12) rfl)
theorem lse_X9_code : Cond.selects RX9 yX9_code yX9_code ∈ TB := tb_10 _ (List.mem_of_getElem? (i := 13) rfl)
theorem hd_X9_code : yX9_code.cls = RX9 ∧ yX9_code.cls ≠ "java/lang/invoke/MethodHandle" ∧ yX9_code.cls ≠ "java/lang/invoke/VarHandle" ∧ (parseMethodDescriptor yX9_code.desc).map (fun d => d.parameters.length) = some 3 := by decide +kernel
theorem gi_L_18 : GoodIn TB (wsV RL 18 RX9 yX9_code (Cond.code yX9_code cX9_code 4 (some .int) :: TB)) := gi_v lk_L_18 lim_X9_code lse_X9_code in_X9 lco_X9_code
theorem lk_L_21 : Cond.methodLink RL 21 yX10_code ∈ TB := tb_16 _ (List.mem_of_getElem? (i := 15) rfl)
theorem lco_X10_code : Cond.code yX10_code cX10_code 7 (some .int) ∈ TB := tb_16 _ (List.mem_of_getElem? (i := 18) rfl)
theorem lim_X10_code : Cond.instanceMethod yX10_code ∈ TB := tb_16 _ (List.mem_of_getElem? (i := 16) rfl)
theorem lse_X10_code : Cond.selects RX10 yX10_code yX10_code ∈ TB := tb_16 _ (List.mem_of_getElem? (i := 17) rfl)
theorem hd_X10_code : yX10_code.cls = RX10 ∧ yX10_code.cls ≠ "java/lang/invoke/MethodHandle" ∧ yX10_code.cls ≠ "java/lang/invoke/VarHandle" ∧ (parseMethodDescriptor yX10_code.desc).map (fun d => d.parameters.length) = some 3 := by decide +kernel
theorem gi_L_21 : GoodIn TB (wsV RL 21 RX10 yX10_code (Cond.code yX10_code cX10_code 7 (some .int) :: TB)) := gi_v lk_L_21 lim_X10_code lse_X10_code in_X10 lco_X10_code
theorem lk_L_22 : Cond.methodLink RL 22 yX9_drop ∈ TB := tb_19 _ (List.mem_of_getElem? (i := 13) rfl)
theorem lco_X9_drop : Cond.code yX9_drop cX9_drop 1 (some .boolean) ∈ TB := tb_19 _ (List.mem_of_getElem? (i := 16) rfl)
theorem lim_X9_drop : Cond.instanceMethod yX9_drop ∈ TB := tb_19 _ (List.mem_of_getElem? (i := 14) rfl)
theorem lse_X9_drop : Cond.selects RX9 yX9_drop yX9_drop ∈ TB := tb_19 _ (List.mem_of_getElem? (i := 15) rfl)
theorem hd_X9_drop : yX9_drop.cls = RX9 ∧ yX9_drop.cls ≠ "java/lang/invoke/MethodHandle" ∧ yX9_drop.cls ≠ "java/lang/invoke/VarHandle" ∧ (parseMethodDescriptor yX9_drop.desc).map (fun d => d.parameters.length) = some 0 := by decide +kernel
theorem gi_L_22 : GoodIn TB (wsV RL 22 RX9 yX9_drop (Cond.code yX9_drop cX9_drop 1 (some .boolean) :: TB)) := gi_v lk_L_22 lim_X9_drop lse_X9_drop in_X9 lco_X9_drop
theorem lk_L_26 : Cond.methodLink RL 26 yX10_drop ∈ TB := tb_19 _ (List.mem_of_getElem? (i := 21) rfl)
theorem lco_X10_drop : Cond.code yX10_drop cX10_drop 1 (some .boolean) ∈ TB := tb_20 _ (List.mem_of_getElem? (i := 0) rfl)
theorem lim_X10_drop : Cond.instanceMethod yX10_drop ∈ TB := tb_19 _ (List.mem_of_getElem? (i := 22) rfl)
theorem lse_X10_drop : Cond.selects RX10 yX10_drop yX10_drop ∈ TB := tb_19 _ (List.mem_of_getElem? (i := 23) rfl)
theorem hd_X10_drop : yX10_drop.cls = RX10 ∧ yX10_drop.cls ≠ "java/lang/invoke/MethodHandle" ∧ yX10_drop.cls ≠ "java/lang/invoke/VarHandle" ∧ (parseMethodDescriptor yX10_drop.desc).map (fun d => d.parameters.length) = some 0 := by decide +kernel
theorem gi_L_26 : GoodIn TB (wsV RL 26 RX10 yX10_drop (Cond.code yX10_drop cX10_drop 1 (some .boolean) :: TB)) := gi_v lk_L_26 lim_X10_drop lse_X10_drop in_X10 lco_X10_drop
theorem lk_L_27 : Cond.methodLink RL 27 yX9_entry ∈ TB := tb_20 _ (List.mem_of_getElem? (i := 1) rfl)
theorem lco_X9_entry : Cond.code yX9_entry cX9_entry 3 (some .boolean) ∈ TB := tb_20 _ (List.mem_of_getElem? (i := 4) rfl)
theorem lim_X9_entry : Cond.instanceMethod yX9_entry ∈ TB := tb_20 _ (List.mem_of_getElem? (i := 2) rfl)
theorem lse_X9_entry : Cond.selects RX9 yX9_entry yX9_entry ∈ TB := tb_20 _ (List.mem_of_getElem? (i := 3) rfl)
theorem hd_X9_entry : yX9_entry.cls = RX9 ∧ yX9_entry.cls ≠ "java/lang/invoke/MethodHandle" ∧ yX9_entry.cls ≠ "java/lang/invoke/VarHandle" ∧ (parseMethodDescriptor yX9_entry.desc).map (fun d => d.parameters.length) = some 2 := by decide +kernel
theorem gi_L_27 : GoodIn TB (wsV RL 27 RX9 yX9_entry (Cond.code yX9_entry cX9_entry 3 (some .boolean) :: TB)) := gi_v lk_L_27 lim_X9_entry lse_X9_entry in_X9 lco_X9_entry
theorem lk_L_31 : Cond.methodLink RL 31 yX10_entry ∈ TB := tb_20 _ (List.mem_of_getElem? (i := 10) rfl)
theorem lco_X10_entry : Cond.code yX10_entry cX10_entry 3 (some .boolean) ∈ TB := tb_20 _ (List.mem_of_getElem? (i := 13) rfl)
theorem lim_X10_entry : Cond.instanceMethod yX10_entry ∈ TB := tb_20 _ (List.mem_of_getElem? (i := 11) rfl)
theorem lse_X10_entry : Cond.selects RX10 yX10_entry yX10_entry ∈ TB := tb_20 _ (List.mem_of_getElem? (i := 12) rfl)
theorem hd_X10_entry : yX10_entry.cls = RX10 ∧ yX10_entry.cls ≠ "java/lang/invoke/MethodHandle" ∧ yX10_entry.cls ≠ "java/lang/invoke/VarHandle" ∧ (parseMethodDescriptor yX10_entry.desc).map (fun d => d.parameters.length) = some 2 := by decide +kernel
theorem gi_L_31 : GoodIn TB (wsV RL 31 RX10 yX10_entry (Cond.code yX10_entry cX10_entry 3 (some .boolean) :: TB)) := gi_v lk_L_31 lim_X10_entry lse_X10_entry in_X10 lco_X10_entry
theorem lk_L_34 : Cond.methodLink RL 34 yX9_argument ∈ TB := tb_20 _ (List.mem_of_getElem? (i := 18) rfl)
theorem lco_X9_argument : Cond.code yX9_argument cX9_argument 3 (some .int) ∈ TB := tb_20 _ (List.mem_of_getElem? (i := 21) rfl)
theorem lim_X9_argument : Cond.instanceMethod yX9_argument ∈ TB := tb_20 _ (List.mem_of_getElem? (i := 19) rfl)
theorem lse_X9_argument : Cond.selects RX9 yX9_argument yX9_argument ∈ TB := tb_20 _ (List.mem_of_getElem? (i := 20) rfl)
theorem hd_X9_argument : yX9_argument.cls = RX9 ∧ yX9_argument.cls ≠ "java/lang/invoke/MethodHandle" ∧ yX9_argument.cls ≠ "java/lang/invoke/VarHandle" ∧ (parseMethodDescriptor yX9_argument.desc).map (fun d => d.parameters.length) = some 1 := by decide +kernel
theorem gi_L_34 : GoodIn TB (wsV RL 34 RX9 yX9_argument (Cond.code yX9_argument cX9_argument 3 (some .int) :: TB)) := gi_v lk_L_34 lim_X9_argument lse_X9_argument in_X9 lco_X9_argument
theorem lk_L_38 : Cond.methodLink RL 38 yX10_argument ∈ TB := tb_20 _ (List.mem_of_getElem? (i := 22) rfl)
theorem lco_X10_argument : Cond.code yX10_argument cX10_argument 3 (some .int) ∈ TB := tb_21 _ (List.mem_of_getElem? (i := 1) rfl)
theorem lim_X10_argument : Cond.instanceMethod yX10_argument ∈ TB := tb_20 _ (List.mem_of_getElem? (i := 23) rfl)
theorem lse_X10_argument : Cond.selects RX10 yX10_argument yX10_argument ∈ TB := tb_21 _ (List.mem_of_getElem? (i := 0) rfl)
theorem hd_X10_argument : yX10_argument.cls = RX10 ∧ yX10_argument.cls ≠ "java/lang/invoke/MethodHandle" ∧ yX10_argument.cls ≠ "java/lang/invoke/VarHandle" ∧ (parseMethodDescriptor yX10_argument.desc).map (fun d => d.parameters.length) = some 1 := by decide +kernel
theorem gi_L_38 : GoodIn TB (wsV RL 38 RX10 yX10_argument (Cond.code yX10_argument cX10_argument 3 (some .int) :: TB)) := gi_v lk_L_38 lim_X10_argument lse_X10_argument in_X10 lco_X10_argument
theorem lk_L_39 : Cond.methodLink RL 39 yX9_call ∈ TB := tb_21 _ (List.mem_of_getElem? (i := 3) rfl)
theorem lco_X9_call : Cond.code yX9_call cX9_call 2 (some .boolean) ∈ TB := tb_21 _ (List.mem_of_getElem? (i := 6) rfl)
theorem lim_X9_call : Cond.instanceMethod yX9_call ∈ TB := tb_21 _ (List.mem_of_getElem? (i := 4) rfl)
theorem lse_X9_call : Cond.selects RX9 yX9_call yX9_call ∈ TB := tb_21 _ (List.mem_of_getElem? (i := 5) rfl)
theorem hd_X9_call : yX9_call.cls = RX9 ∧ yX9_call.cls ≠ "java/lang/invoke/MethodHandle" ∧ yX9_call.cls ≠ "java/lang/invoke/VarHandle" ∧ (parseMethodDescriptor yX9_call.desc).map (fun d => d.parameters.length) = some 1 := by decide +kernel
theorem gi_L_39 : GoodIn TB (wsV RL 39 RX9 yX9_call (Cond.code yX9_call cX9_call 2 (some .boolean) :: TB)) := gi_v lk_L_39 lim_X9_call lse_X9_call in_X9 lco_X9_call
theorem lk_L_43 : Cond.methodLink RL 43 yX10_call ∈ TB := tb_34 _ (List.mem_of_getElem? (i := 22) rfl)
theorem lco_X10_call : Cond.code yX10_call cX10_call 3 (some .boolean) ∈ TB := tb_35 _ (List.mem_of_getElem? (i := 1) rfl)
theorem lim_X10_call : Cond.instanceMethod yX10_call ∈ TB := tb_34 _ (List.mem_of_getElem? (i := 23) rfl)
theorem lse_X10_call : Cond.selects RX10 yX10_call yX10_call ∈ TB := tb_35 _ (List.mem_of_getElem? (i := 0) rfl)
theorem hd_X10_call : yX10_call.cls = RX10 ∧ yX10_call.cls ≠ "java/lang/invoke/MethodHandle" ∧ yX10_call.cls ≠ "java/lang/invoke/VarHandle" ∧ (parseMethodDescriptor yX10_call.desc).map (fun d => d.parameters.length) = some 1 := by decide +kernel
theorem gi_L_43 : GoodIn TB (wsV RL 43 RX10 yX10_call (Cond.code yX10_call cX10_call 3 (some .boolean) :: TB)) := gi_v lk_L_43 lim_X10_call lse_X10_call in_X10 lco_X10_call
theorem lk_L_44 : Cond.methodLink RL 44 yX9_run ∈ TB := tb_36 _ (List.mem_of_getElem? (i := 20) rfl)
theorem lco_X9_run : Cond.code yX9_run cX9_run 3 (some .int) ∈ TB := tb_36 _ (List.mem_of_getElem? (i := 23) rfl)
theorem lim_X9_run : Cond.instanceMethod yX9_run ∈ TB := tb_36 _ (List.mem_of_getElem? (i := 21) rfl)
theorem lse_X9_run : Cond.selects RX9 yX9_run yX9_run ∈ TB := tb_36 _ (List.mem_of_getElem? (i := 22) rfl)
theorem hd_X9_run : yX9_run.cls = RX9 ∧ yX9_run.cls ≠ "java/lang/invoke/MethodHandle" ∧ yX9_run.cls ≠ "java/lang/invoke/VarHandle" ∧ (parseMethodDescriptor yX9_run.desc).map (fun d => d.parameters.length) = some 1 := by decide +kernel
theorem gi_L_44 : GoodIn TB (wsV RL 44 RX9 yX9_run (Cond.code yX9_run cX9_run 3 (some .int) :: TB)) := gi_v lk_L_44 lim_X9_run lse_X9_run in_X9 lco_X9_run
theorem lk_L_48 : Cond.methodLink RL 48 yX10_run ∈ TB := tb_40 _ (List.mem_of_getElem? (i := 12) rfl)
theorem lco_X10_run : Cond.code yX10_run cX10_run 3 (some .int) ∈ TB := tb_40 _ (List.mem_of_getElem? (i := 15) rfl)
theorem lim_X10_run : Cond.instanceMethod yX10_run ∈ TB := tb_40 _ (List.mem_of_getElem? (i := 13) rfl)
theorem lse_X10_run : Cond.selects RX10 yX10_run yX10_run ∈ TB := tb_40 _ (List.mem_of_getElem? (i := 14) rfl)
theorem hd_X10_run : yX10_run.cls = RX10 ∧ yX10_run.cls ≠ "java/lang/invoke/MethodHandle" ∧ yX10_run.cls ≠ "java/lang/invoke/VarHandle" ∧ (parseMethodDescriptor yX10_run.desc).map (fun d => d.parameters.length) = some 1 := by decide +kernel
theorem gi_L_48 : GoodIn TB (wsV RL 48 RX10 yX10_run (Cond.code yX10_run cX10_run 3 (some .int) :: TB)) := gi_v lk_L_48 lim_X10_run lse_X10_run in_X10 lco_X10_run
theorem lk_L_49 : Cond.methodLink RL 49 yX9_state ∈ TB := tb_43 _ (List.mem_of_getElem? (i := 20) rfl)
theorem lco_X9_state : Cond.code yX9_state cX9_state 2 (some .int) ∈ TB := tb_43 _ (List.mem_of_getElem? (i := 23) rfl)
theorem lim_X9_state : Cond.instanceMethod yX9_state ∈ TB := tb_43 _ (List.mem_of_getElem? (i := 21) rfl)
theorem lse_X9_state : Cond.selects RX9 yX9_state yX9_state ∈ TB := tb_43 _ (List.mem_of_getElem? (i := 22) rfl)
theorem hd_X9_state : yX9_state.cls = RX9 ∧ yX9_state.cls ≠ "java/lang/invoke/MethodHandle" ∧ yX9_state.cls ≠ "java/lang/invoke/VarHandle" ∧ (parseMethodDescriptor yX9_state.desc).map (fun d => d.parameters.length) = some 1 := by decide +kernel
theorem gi_L_49 : GoodIn TB (wsV RL 49 RX9 yX9_state (Cond.code yX9_state cX9_state 2 (some .int) :: TB)) := gi_v lk_L_49 lim_X9_state lse_X9_state in_X9 lco_X9_state
theorem lk_L_52 : Cond.methodLink RL 52 yX10_state ∈ TB := tb_44 _ (List.mem_of_getElem? (i := 16) rfl)
theorem lco_X10_state : Cond.code yX10_state cX10_state 2 (some .int) ∈ TB := tb_44 _ (List.mem_of_getElem? (i := 19) rfl)
theorem lim_X10_state : Cond.instanceMethod yX10_state ∈ TB := tb_44 _ (List.mem_of_getElem? (i := 17) rfl)
theorem lse_X10_state : Cond.selects RX10 yX10_state yX10_state ∈ TB := tb_44 _ (List.mem_of_getElem? (i := 18) rfl)
theorem hd_X10_state : yX10_state.cls = RX10 ∧ yX10_state.cls ≠ "java/lang/invoke/MethodHandle" ∧ yX10_state.cls ≠ "java/lang/invoke/VarHandle" ∧ (parseMethodDescriptor yX10_state.desc).map (fun d => d.parameters.length) = some 1 := by decide +kernel
theorem gi_L_52 : GoodIn TB (wsV RL 52 RX10 yX10_state (Cond.code yX10_state cX10_state 2 (some .int) :: TB)) := gi_v lk_L_52 lim_X10_state lse_X10_state in_X10 lco_X10_state
theorem lk_L_53 : Cond.methodLink RL 53 yX9_tier ∈ TB := tb_45 _ (List.mem_of_getElem? (i := 0) rfl)
theorem lco_X9_tier : Cond.code yX9_tier cX9_tier 3 (some .int) ∈ TB := tb_45 _ (List.mem_of_getElem? (i := 3) rfl)
theorem lim_X9_tier : Cond.instanceMethod yX9_tier ∈ TB := tb_45 _ (List.mem_of_getElem? (i := 1) rfl)
theorem lse_X9_tier : Cond.selects RX9 yX9_tier yX9_tier ∈ TB := tb_45 _ (List.mem_of_getElem? (i := 2) rfl)
theorem hd_X9_tier : yX9_tier.cls = RX9 ∧ yX9_tier.cls ≠ "java/lang/invoke/MethodHandle" ∧ yX9_tier.cls ≠ "java/lang/invoke/VarHandle" ∧ (parseMethodDescriptor yX9_tier.desc).map (fun d => d.parameters.length) = some 1 := by decide +kernel
theorem gi_L_53 : GoodIn TB (wsV RL 53 RX9 yX9_tier (Cond.code yX9_tier cX9_tier 3 (some .int) :: TB)) := gi_v lk_L_53 lim_X9_tier lse_X9_tier in_X9 lco_X9_tier
theorem lk_L_56 : Cond.methodLink RL 56 yX10_tier ∈ TB := tb_45 _ (List.mem_of_getElem? (i := 4) rfl)
theorem lco_X10_tier : Cond.code yX10_tier cX10_tier 3 (some .int) ∈ TB := tb_45 _ (List.mem_of_getElem? (i := 7) rfl)
theorem lim_X10_tier : Cond.instanceMethod yX10_tier ∈ TB := tb_45 _ (List.mem_of_getElem? (i := 5) rfl)
theorem lse_X10_tier : Cond.selects RX10 yX10_tier yX10_tier ∈ TB := tb_45 _ (List.mem_of_getElem? (i := 6) rfl)
theorem hd_X10_tier : yX10_tier.cls = RX10 ∧ yX10_tier.cls ≠ "java/lang/invoke/MethodHandle" ∧ yX10_tier.cls ≠ "java/lang/invoke/VarHandle" ∧ (parseMethodDescriptor yX10_tier.desc).map (fun d => d.parameters.length) = some 1 := by decide +kernel
theorem gi_L_56 : GoodIn TB (wsV RL 56 RX10 yX10_tier (Cond.code yX10_tier cX10_tier 3 (some .int) :: TB)) := gi_v lk_L_56 lim_X10_tier lse_X10_tier in_X10 lco_X10_tier
theorem lk_L_57 : Cond.methodLink RL 57 yX9_result ∈ TB := tb_45 _ (List.mem_of_getElem? (i := 8) rfl)
theorem lco_X9_result : Cond.code yX9_result cX9_result 2 (some .long) ∈ TB := tb_45 _ (List.mem_of_getElem? (i := 11) rfl)
theorem lim_X9_result : Cond.instanceMethod yX9_result ∈ TB := tb_45 _ (List.mem_of_getElem? (i := 9) rfl)
theorem lse_X9_result : Cond.selects RX9 yX9_result yX9_result ∈ TB := tb_45 _ (List.mem_of_getElem? (i := 10) rfl)
theorem hd_X9_result : yX9_result.cls = RX9 ∧ yX9_result.cls ≠ "java/lang/invoke/MethodHandle" ∧ yX9_result.cls ≠ "java/lang/invoke/VarHandle" ∧ (parseMethodDescriptor yX9_result.desc).map (fun d => d.parameters.length) = some 1 := by decide +kernel
theorem gi_L_57 : GoodIn TB (wsV RL 57 RX9 yX9_result (Cond.code yX9_result cX9_result 2 (some .long) :: TB)) := gi_v lk_L_57 lim_X9_result lse_X9_result in_X9 lco_X9_result
theorem lk_L_61 : Cond.methodLink RL 61 yX10_result ∈ TB := tb_45 _ (List.mem_of_getElem? (i := 14) rfl)
theorem lco_X10_result : Cond.code yX10_result cX10_result 2 (some .long) ∈ TB := tb_45 _ (List.mem_of_getElem? (i := 17) rfl)
theorem lim_X10_result : Cond.instanceMethod yX10_result ∈ TB := tb_45 _ (List.mem_of_getElem? (i := 15) rfl)
theorem lse_X10_result : Cond.selects RX10 yX10_result yX10_result ∈ TB := tb_45 _ (List.mem_of_getElem? (i := 16) rfl)
theorem hd_X10_result : yX10_result.cls = RX10 ∧ yX10_result.cls ≠ "java/lang/invoke/MethodHandle" ∧ yX10_result.cls ≠ "java/lang/invoke/VarHandle" ∧ (parseMethodDescriptor yX10_result.desc).map (fun d => d.parameters.length) = some 1 := by decide +kernel
theorem gi_L_61 : GoodIn TB (wsV RL 61 RX10 yX10_result (Cond.code yX10_result cX10_result 2 (some .long) :: TB)) := gi_v lk_L_61 lim_X10_result lse_X10_result in_X10 lco_X10_result
theorem lk_L_62 : Cond.methodLink RL 62 yX9_global ∈ TB := tb_45 _ (List.mem_of_getElem? (i := 18) rfl)
theorem lco_X9_global : Cond.code yX9_global cX9_global 2 (some .long) ∈ TB := tb_45 _ (List.mem_of_getElem? (i := 21) rfl)
theorem lim_X9_global : Cond.instanceMethod yX9_global ∈ TB := tb_45 _ (List.mem_of_getElem? (i := 19) rfl)
theorem lse_X9_global : Cond.selects RX9 yX9_global yX9_global ∈ TB := tb_45 _ (List.mem_of_getElem? (i := 20) rfl)
theorem hd_X9_global : yX9_global.cls = RX9 ∧ yX9_global.cls ≠ "java/lang/invoke/MethodHandle" ∧ yX9_global.cls ≠ "java/lang/invoke/VarHandle" ∧ (parseMethodDescriptor yX9_global.desc).map (fun d => d.parameters.length) = some 1 := by decide +kernel
theorem gi_L_62 : GoodIn TB (wsV RL 62 RX9 yX9_global (Cond.code yX9_global cX9_global 2 (some .long) :: TB)) := gi_v lk_L_62 lim_X9_global lse_X9_global in_X9 lco_X9_global
theorem lk_L_65 : Cond.methodLink RL 65 yX10_global ∈ TB := tb_45 _ (List.mem_of_getElem? (i := 23) rfl)
theorem lco_X10_global : Cond.code yX10_global cX10_global 2 (some .long) ∈ TB := tb_46 _ (List.mem_of_getElem? (i := 2) rfl)
theorem lim_X10_global : Cond.instanceMethod yX10_global ∈ TB := tb_46 _ (List.mem_of_getElem? (i := 0) rfl)
theorem lse_X10_global : Cond.selects RX10 yX10_global yX10_global ∈ TB := tb_46 _ (List.mem_of_getElem? (i := 1) rfl)
theorem hd_X10_global : yX10_global.cls = RX10 ∧ yX10_global.cls ≠ "java/lang/invoke/MethodHandle" ∧ yX10_global.cls ≠ "java/lang/invoke/VarHandle" ∧ (parseMethodDescriptor yX10_global.desc).map (fun d => d.parameters.length) = some 1 := by decide +kernel
theorem gi_L_65 : GoodIn TB (wsV RL 65 RX10 yX10_global (Cond.code yX10_global cX10_global 2 (some .long) :: TB)) := gi_v lk_L_65 lim_X10_global lse_X10_global in_X10 lco_X10_global
theorem lk_L_66 : Cond.methodLink RL 66 yX9_memory ∈ TB := tb_46 _ (List.mem_of_getElem? (i := 3) rfl)
theorem lco_X9_memory : Cond.code yX9_memory cX9_memory 2 (some .int) ∈ TB := tb_46 _ (List.mem_of_getElem? (i := 6) rfl)
theorem lim_X9_memory : Cond.instanceMethod yX9_memory ∈ TB := tb_46 _ (List.mem_of_getElem? (i := 4) rfl)
theorem lse_X9_memory : Cond.selects RX9 yX9_memory yX9_memory ∈ TB := tb_46 _ (List.mem_of_getElem? (i := 5) rfl)
theorem hd_X9_memory : yX9_memory.cls = RX9 ∧ yX9_memory.cls ≠ "java/lang/invoke/MethodHandle" ∧ yX9_memory.cls ≠ "java/lang/invoke/VarHandle" ∧ (parseMethodDescriptor yX9_memory.desc).map (fun d => d.parameters.length) = some 1 := by decide +kernel
theorem gi_L_66 : GoodIn TB (wsV RL 66 RX9 yX9_memory (Cond.code yX9_memory cX9_memory 2 (some .int) :: TB)) := gi_v lk_L_66 lim_X9_memory lse_X9_memory in_X9 lco_X9_memory
theorem lk_L_69 : Cond.methodLink RL 69 yX10_memory ∈ TB := tb_46 _ (List.mem_of_getElem? (i := 9) rfl)
theorem lco_X10_memory : Cond.code yX10_memory cX10_memory 2 (some .int) ∈ TB := tb_46 _ (List.mem_of_getElem? (i := 12) rfl)
theorem lim_X10_memory : Cond.instanceMethod yX10_memory ∈ TB := tb_46 _ (List.mem_of_getElem? (i := 10) rfl)
theorem lse_X10_memory : Cond.selects RX10 yX10_memory yX10_memory ∈ TB := tb_46 _ (List.mem_of_getElem? (i := 11) rfl)
theorem hd_X10_memory : yX10_memory.cls = RX10 ∧ yX10_memory.cls ≠ "java/lang/invoke/MethodHandle" ∧ yX10_memory.cls ≠ "java/lang/invoke/VarHandle" ∧ (parseMethodDescriptor yX10_memory.desc).map (fun d => d.parameters.length) = some 1 := by decide +kernel
theorem gi_L_69 : GoodIn TB (wsV RL 69 RX10 yX10_memory (Cond.code yX10_memory cX10_memory 2 (some .int) :: TB)) := gi_v lk_L_69 lim_X10_memory lse_X10_memory in_X10 lco_X10_memory
theorem lk_L_70 : Cond.methodLink RL 70 yX9_look ∈ TB := tb_46 _ (List.mem_of_getElem? (i := 13) rfl)
theorem lco_X9_look : Cond.code yX9_look cX9_look 3 (some .int) ∈ TB := tb_46 _ (List.mem_of_getElem? (i := 16) rfl)
theorem lim_X9_look : Cond.instanceMethod yX9_look ∈ TB := tb_46 _ (List.mem_of_getElem? (i := 14) rfl)
theorem lse_X9_look : Cond.selects RX9 yX9_look yX9_look ∈ TB := tb_46 _ (List.mem_of_getElem? (i := 15) rfl)
theorem hd_X9_look : yX9_look.cls = RX9 ∧ yX9_look.cls ≠ "java/lang/invoke/MethodHandle" ∧ yX9_look.cls ≠ "java/lang/invoke/VarHandle" ∧ (parseMethodDescriptor yX9_look.desc).map (fun d => d.parameters.length) = some 2 := by decide +kernel
theorem gi_L_70 : GoodIn TB (wsV RL 70 RX9 yX9_look (Cond.code yX9_look cX9_look 3 (some .int) :: TB)) := gi_v lk_L_70 lim_X9_look lse_X9_look in_X9 lco_X9_look
theorem lk_L_74 : Cond.methodLink RL 74 yX10_look ∈ TB := tb_46 _ (List.mem_of_getElem? (i := 20) rfl)
theorem lco_X10_look : Cond.code yX10_look cX10_look 3 (some .int) ∈ TB := tb_46 _ (List.mem_of_getElem? (i := 23) rfl)
theorem lim_X10_look : Cond.instanceMethod yX10_look ∈ TB := tb_46 _ (List.mem_of_getElem? (i := 21) rfl)
theorem lse_X10_look : Cond.selects RX10 yX10_look yX10_look ∈ TB := tb_46 _ (List.mem_of_getElem? (i := 22) rfl)
theorem hd_X10_look : yX10_look.cls = RX10 ∧ yX10_look.cls ≠ "java/lang/invoke/MethodHandle" ∧ yX10_look.cls ≠ "java/lang/invoke/VarHandle" ∧ (parseMethodDescriptor yX10_look.desc).map (fun d => d.parameters.length) = some 2 := by decide +kernel
theorem gi_L_74 : GoodIn TB (wsV RL 74 RX10 yX10_look (Cond.code yX10_look cX10_look 3 (some .int) :: TB)) := gi_v lk_L_74 lim_X10_look lse_X10_look in_X10 lco_X10_look
theorem lk_L_32 : Cond.constantLong RL 32 (4294967295) ∈ TB := tb_1 _ (List.mem_of_getElem? (i := 6) rfl)
def R_law : String := "RegisterMachineLaw"
def lw_P (b : Addr) (xs : List Int32) (args : Array Value) (s : State) : Prop := args = #[.ref b] ∧ s.IntsAt b xs ∧ xs.length ≤ 2048 ∧ (Jvm.Cond.and given_1 narrow_1).before args s = true
def lw_Q (_ : Array Value) (s : State) (o : Outcome) (t : State) : Prop := o = .returned (some (.int 1)) ∧ Framed s o t [] 600000 7302249
def lw_Z (below : List Frame) (a : Array Value) (s : State) : State → Prop := fun t => ∃ o, t.status = .running ∧ Ended t below o ∧ lw_Q a s o t
/-- the law's own end, with 1 on the stack, nothing written that was there before, its room as the claim has it -/
theorem lw_ret {p : Program} {l : Launch} {e : Env} {s : State} {m : MethodId} {below : List Frame} {meth : Method} {c : Code} {b : Nat} (hx : p.tables.exec = Jvm.exec) (hb : c.code = code) (hr : meth.sig.returnType = ret) (hlocks : meth.locks = false) {pc : Nat} {H : Heap} {ls : Array Slot} (hdg : decode code pc = .ok (.ireturn, 1)) : W p l e room_1 s m #[Value.ref b] below meth c H [] 600000 7302249 (lw_Z below #[Value.ref b] s) (F0 m pc ls [.int 1]) := by
  intro T hT X
  obtain ⟨fs, hret, hrun, hended, hW, hframe⟩ := X.leave (v := some (.int 1)) (hlocks := hlocks) (fun h => by rw [hr] at h; cases h)
  have hmeth' : T.vm.method? m = some meth := X.method'
  refine ⟨T.setFrames fs, ?_, .returned (some (.int 1)), hrun, hended, rfl, ⟨_, rfl⟩, hW, hframe⟩
  jvm_step X.here [X.here.top, hx, hb, hdg, hmeth', hr, ret, narrow_b1]
  (try refine ⟨rfl, ?_⟩); (try refine ⟨rfl, ?_⟩)
  first | (intro acts; rw [hret _ acts rfl rfl rfl]) | rw [hret _ _ rfl rfl rfl]
  exact Steps.refl _
/-- what holds at the law's entry: the machine, the code, the tables' words (any of lw_tbl by 'hts w (by decide +kernel)'), the script of L ints xs at the cell b, what the Statement gives of the start (any of its parts by flat_of_before) -/
def lw_At (p : Program) (s : State) (m : MethodId) (meth : Method) (c : Code) (b L : Nat) (xs : Nat → Int32) : Prop :=
  p.tables.exec = Jvm.exec ∧ c.code = code ∧ meth.sig.returnType = ret ∧ c.maxLocals = 4 ∧ s.vm.findClass R_law = some m.cls ∧ (∀ w ∈ lw_tbl, w.before #[Value.ref b] s = true) ∧ va_X b L xs s s.heap ∧ b < s.heap.size ∧ meth.locks = false ∧ (Jvm.Cond.and given_1 narrow_1).before #[Value.ref b] s = true

set_option maxHeartbeats 4000000 in
set_option maxRecDepth 100000 in
theorem law_loop {p : Program} {e : Env} {s : State} {m : MethodId} {below : List Frame} {meth : Method} {c : Code} (l : Launch) {b L : Nat} {xs : Nat → Int32} (hL : L ≤ 2048) (hx : p.tables.exec = Jvm.exec) (hb : c.code = code) (hr : meth.sig.returnType = ret) (hml : c.maxLocals = 4) (hown : s.vm.findClass RL = some m.cls) (hts : ∀ w ∈ TB, w.before #[Value.ref b] s = true) (hX : va_X b L xs s s.heap) (hbl : b < s.heap.size) (hlk : meth.locks = false) {D : va_G} {k2 : Nat → ClassId} {h h2 : Nat → Nat} (hKM : va_K D vwCl (tyM k2) s) (hNC : ∀ w ∈ nwC, va_Nw w s) {N : Nat} {S : Nat → rs_T → rs_T → Prop} (hs : sm_ok N S) : ∀ (fuel cnt : Nat) (x3 : Int32) (k : Nat → Nat × ClassId) (st st2 : rs_T) (H : Heap) (locs : List Loc) (ls : Array Slot), L + 4 - 4 * cnt < fuel → 4 * cnt ≤ L → x3 = nI (4 * cnt) → S cnt st st2 → lg_g D s k k2 h h2 (fun q : Nat => s.heap.size ≤ q) H locs st st2 → lv_has ls 4 [(3, .int x3), (0, .ref b), (1, .ref (h 0)), (2, .ref (h2 0))] → W p l e room_1 s m #[Value.ref b] below meth c H locs (72 + st.2.2.2 4) (18704 + st.2.2.2 5) (lw_Z below #[Value.ref b] s) (F0 m 18 ls []) := by
  obtain ⟨hs_function, hs_code, hs_drop, hs_entry, hs_argument, hs_call, hs_run, hs_state, hs_tier, hs_result, hs_global, hs_memory, hs_look, hs_skip, -⟩ := hs
  have hA : ∀ q : Nat, s.heap.size ≤ q → (fun q : Nat => s.heap.size ≤ q) q := fun _ h => h
  have hbA : ¬ (fun q : Nat => s.heap.size ≤ q) b := Nat.not_le.mpr hbl
  have hNM : ∀ w ∈ nwM, va_Nw w s := fun _ h => absurd h List.not_mem_nil
  intro fuel
  induction fuel with
  | zero => intro cnt x3 k st st2 H locs ls h1; omega
  | succ fuel ih =>
    intro cnt x3 k st st2 H locs ls hm hc hx3 hS0 G hl
    obtain ⟨hP, hP2, hS, -, -, -, hV⟩ := id G
    refine lv_iload_n hx hb dL_law_18 rfl (lv_at hl 0 rfl) ?_
    refine lv_aload_n hx hb dL_law_19 rfl (lv_at hl 1 rfl) ?_
    refine va_slen hx hb hX hbl hbA hS dL_law_20 ?_
    refine lv_iconst (v := 4) hx hb dL_law_21 (by decide) ?_
    refine lv_isub hx hb dL_law_22 ?_
    have hLi : (Int32.ofNat L - 4).toInt = (L : Int) - 4 := by
      have := pk_sub_toInt (a := L) (b := 4) (by omega) (by omega)
      exact this
    have hxi : x3.toInt = ((4 * cnt : Nat) : Int) := by rw [hx3]; exact nI_toInt (by omega)
    refine lv_icmp_gt (tgt := 487) hx hb dL_law_23 (by decide) (fun hq => ?_) (fun hq => ?_)
    · refine va_forget hS.2.2 ?_
      unfold vA at hV
      refine W.widen (k := 600000) (n := 7302249) (by omega) (by omega) ?_
      refine lv_iconst (v := 1) hx hb dL_law_487 (by decide) ?_
      exact lw_ret hx hb hr hlk dL_law_488
    · have hi : 4 * cnt + 4 ≤ L := by
        have hq2 : ¬ (Int32.ofNat L - 4).toInt < x3.toInt := fun z => hq (Int32.lt_iff_toInt_lt.mpr z)
        rw [hLi, hxi] at hq2
        omega
      have h512 : cnt < 512 := by omega
      have hin : ∀ j : Nat, j < 4 → vp_in (x3 + nI j) L := fun j hj => by
        rw [hx3, nI_add]; exact vp_in_nI (by omega) (by omega)
      have hin0 : vp_in x3 L := by rw [hx3]; exact vp_in_nI (by omega) (by omega)
      have tail : ∀ (k : Nat → Nat × ClassId) (st st2 : rs_T) (H : Heap) (locs : List Loc) (ls : Array Slot), S (cnt + 1) st st2 → lg_g D s k k2 h h2 (fun q : Nat => s.heap.size ≤ q) H locs st st2 → lv_has ls 4 [(3, .int x3), (0, .ref b), (1, .ref (h 0)), (2, .ref (h2 0))] → W p l e room_1 s m #[Value.ref b] below meth c H locs (72 + st.2.2.2 4) (18704 + st.2.2.2 5) (lw_Z below #[Value.ref b] s) (F0 m 481 ls []) := by
        intro k st st2 H locs ls hS1 G hl
        obtain ⟨x4, ex4⟩ : ∃ z : Int32, z = x3 + 4 := ⟨_, rfl⟩
        refine lv_iinc (v := x4) (lv' := [(3, .int x4), (0, .ref b), (1, .ref (h 0)), (2, .ref (h2 0))]) hx hb dL_law_481 hl (k := 0) rfl (by rw [ex4]; rfl) (by decide) rfl (fun ls hl => ?_)
        refine lv_goto (tgt := 18) hx hb dL_law_484 (by decide) ?_
        exact ih (cnt + 1) x4 k st st2 H locs ls (by omega) (by omega) (by rw [ex4, hx3]; exact nI_add (4 * cnt) 4) hS1 G hl
      refine lv_aload_n hx hb dL_law_26 rfl (lv_at hl 1 rfl) ?_
      refine lv_iload_n hx hb dL_law_27 rfl (lv_at hl 0 rfl) ?_
      refine va_sld hx hb hX hbl hbA hS hin0 dL_law_28 ?_
      refine lv_bipush (v := 15) hx hb dL_law_29 (by decide) ?_
      refine lv_iand hx hb dL_law_31 ?_
      refine lv_topi (fun v ev => ?_)
      by_cases sw_0 : v ∈ ([0] : List Int32)
      · refine sw_tb (tgt := 100) (off := 68) hx hb dL_law_32 (sw_tbt sw_0 (by decide)) (by decide) (by decide) ?_
        obtain ⟨r, c1, m1, f1, f2, hS1⟩ := hs_function cnt st st2 h512 hS0 (xs (x3 + 1).toNatClampNeg) (xs (x3 + 2).toNatClampNeg) (xs (x3 + 3).toNatClampNeg)
        refine lv_aload_n hx hb dL_law_100 rfl (lv_at hl 2 rfl) ?_
        refine lv_aload_n hx hb dL_law_101 rfl (lv_at hl 1 rfl) ?_
        refine lv_iload_n hx hb dL_law_102 rfl (lv_at hl 0 rfl) ?_
        refine lv_iconst (v := 1) hx hb dL_law_103 (by decide) ?_
        refine lv_iadd hx hb dL_law_104 ?_
        refine va_sld hx hb hX hbl hbA hS (hin 1 (by decide)) dL_law_105 ?_
        refine lv_aload_n hx hb dL_law_106 rfl (lv_at hl 1 rfl) ?_
        refine lv_iload_n hx hb dL_law_107 rfl (lv_at hl 0 rfl) ?_
        refine lv_iconst (v := 2) hx hb dL_law_108 (by decide) ?_
        refine lv_iadd hx hb dL_law_109 ?_
        refine va_sld hx hb hX hbl hbA hS (hin 2 (by decide)) dL_law_110 ?_
        refine lv_aload_n hx hb dL_law_111 rfl (lv_at hl 1 rfl) ?_
        refine lv_iload_n hx hb dL_law_112 rfl (lv_at hl 0 rfl) ?_
        refine lv_iconst (v := 3) hx hb dL_law_113 (by decide) ?_
        refine lv_iadd hx hb dL_law_114 ?_
        refine va_sld hx hb hX hbl hbA hS (hin 3 (by decide)) dL_law_115 ?_
        refine lc_iC hx hb hml hown hts hNC hA hl G (As := [.int (xs (x3 + 1).toNatClampNeg), .int (xs (x3 + 2).toNatClampNeg), .int (xs (x3 + 3).toNatClampNeg)]) (rest := []) (kx_Ma_function l D k h (xs (x3 + 1).toNatClampNeg) (xs (x3 + 2).toNatClampNeg) (xs (x3 + 3).toNatClampNeg) st r c1 f1) gi_L_13 (hwC_0 ..) rfl hd_X9_function ⟨Nat.le_of_ble_eq_true rfl, Nat.le_of_ble_eq_true rfl⟩ rfl rfl (Nat.le_of_ble_eq_true rfl) dL_law_116 (fun k H locs G => ?_)
        obtain ⟨hP, hP2, hS, -, -, -, -⟩ := id G
        refine lv_aload_n hx hb dL_law_119 rfl (lv_at hl 3 rfl) ?_
        refine lv_aload_n hx hb dL_law_120 rfl (lv_at hl 1 rfl) ?_
        refine lv_iload_n hx hb dL_law_121 rfl (lv_at hl 0 rfl) ?_
        refine lv_iconst (v := 1) hx hb dL_law_122 (by decide) ?_
        refine lv_iadd hx hb dL_law_123 ?_
        refine va_sld hx hb hX hbl hbA hS (hin 1 (by decide)) dL_law_124 ?_
        refine lv_aload_n hx hb dL_law_125 rfl (lv_at hl 1 rfl) ?_
        refine lv_iload_n hx hb dL_law_126 rfl (lv_at hl 0 rfl) ?_
        refine lv_iconst (v := 2) hx hb dL_law_127 (by decide) ?_
        refine lv_iadd hx hb dL_law_128 ?_
        refine va_sld hx hb hX hbl hbA hS (hin 2 (by decide)) dL_law_129 ?_
        refine lv_aload_n hx hb dL_law_130 rfl (lv_at hl 1 rfl) ?_
        refine lv_iload_n hx hb dL_law_131 rfl (lv_at hl 0 rfl) ?_
        refine lv_iconst (v := 3) hx hb dL_law_132 (by decide) ?_
        refine lv_iadd hx hb dL_law_133 ?_
        refine va_sld hx hb hX hbl hbA hS (hin 3 (by decide)) dL_law_134 ?_
        refine lc_iM hx hb hml hown hts hKM hNM hA hl G (As := [.int (xs (x3 + 1).toNatClampNeg), .int (xs (x3 + 2).toNatClampNeg), .int (xs (x3 + 3).toNatClampNeg)]) (rest := [.int r]) (kx_Md_function l D k2 h2 (xs (x3 + 1).toNatClampNeg) (xs (x3 + 2).toNatClampNeg) (xs (x3 + 3).toNatClampNeg) st2 r m1 f2) gi_L_17 (hwM_0 ..) rfl hd_X10_function ⟨Nat.le_of_ble_eq_true rfl, Nat.le_of_ble_eq_true rfl⟩ rfl rfl (Nat.le_of_ble_eq_true rfl) dL_law_135 (fun H locs G => ?_)
        obtain ⟨hP, hP2, hS, -, -, -, -⟩ := id G
        refine lv_icmp_eq (tgt := 481) hx hb dL_law_138 (by decide) (fun _ => ?_) (fun q => absurd rfl q)
        exact tail k c1 m1 H locs ls hS1 G hl
      by_cases sw_1 : v ∈ ([1] : List Int32)
      · refine sw_tb (tgt := 143) (off := 111) hx hb dL_law_32 (sw_tbt sw_1 (by decide)) (by decide) (by decide) ?_
        obtain ⟨r, c1, m1, f1, f2, hS1⟩ := hs_code cnt st st2 h512 hS0 (xs (x3 + 1).toNatClampNeg) (xs (x3 + 2).toNatClampNeg) (xs (x3 + 3).toNatClampNeg)
        refine lv_aload_n hx hb dL_law_143 rfl (lv_at hl 2 rfl) ?_
        refine lv_aload_n hx hb dL_law_144 rfl (lv_at hl 1 rfl) ?_
        refine lv_iload_n hx hb dL_law_145 rfl (lv_at hl 0 rfl) ?_
        refine lv_iconst (v := 1) hx hb dL_law_146 (by decide) ?_
        refine lv_iadd hx hb dL_law_147 ?_
        refine va_sld hx hb hX hbl hbA hS (hin 1 (by decide)) dL_law_148 ?_
        refine lv_aload_n hx hb dL_law_149 rfl (lv_at hl 1 rfl) ?_
        refine lv_iload_n hx hb dL_law_150 rfl (lv_at hl 0 rfl) ?_
        refine lv_iconst (v := 2) hx hb dL_law_151 (by decide) ?_
        refine lv_iadd hx hb dL_law_152 ?_
        refine va_sld hx hb hX hbl hbA hS (hin 2 (by decide)) dL_law_153 ?_
        refine lv_aload_n hx hb dL_law_154 rfl (lv_at hl 1 rfl) ?_
        refine lv_iload_n hx hb dL_law_155 rfl (lv_at hl 0 rfl) ?_
        refine lv_iconst (v := 3) hx hb dL_law_156 (by decide) ?_
        refine lv_iadd hx hb dL_law_157 ?_
        refine va_sld hx hb hX hbl hbA hS (hin 3 (by decide)) dL_law_158 ?_
        refine lc_iCA hx hb hml hown hts hNC hA hl G (As := [.int (xs (x3 + 1).toNatClampNeg), .int (xs (x3 + 2).toNatClampNeg), .int (xs (x3 + 3).toNatClampNeg)]) (rest := []) (kx_Ma_code l D k h (xs (x3 + 1).toNatClampNeg) (xs (x3 + 2).toNatClampNeg) (xs (x3 + 3).toNatClampNeg) st r c1 f1) gi_L_18 (hwC_0 ..) rfl hd_X9_code ⟨Nat.le_of_ble_eq_true rfl, Nat.le_of_ble_eq_true rfl⟩ rfl rfl (Nat.le_of_ble_eq_true rfl) dL_law_159 (fun k H locs G => ?_)
        obtain ⟨hP, hP2, hS, -, -, -, -⟩ := id G
        refine lv_aload_n hx hb dL_law_162 rfl (lv_at hl 3 rfl) ?_
        refine lv_aload_n hx hb dL_law_163 rfl (lv_at hl 1 rfl) ?_
        refine lv_iload_n hx hb dL_law_164 rfl (lv_at hl 0 rfl) ?_
        refine lv_iconst (v := 1) hx hb dL_law_165 (by decide) ?_
        refine lv_iadd hx hb dL_law_166 ?_
        refine va_sld hx hb hX hbl hbA hS (hin 1 (by decide)) dL_law_167 ?_
        refine lv_aload_n hx hb dL_law_168 rfl (lv_at hl 1 rfl) ?_
        refine lv_iload_n hx hb dL_law_169 rfl (lv_at hl 0 rfl) ?_
        refine lv_iconst (v := 2) hx hb dL_law_170 (by decide) ?_
        refine lv_iadd hx hb dL_law_171 ?_
        refine va_sld hx hb hX hbl hbA hS (hin 2 (by decide)) dL_law_172 ?_
        refine lv_aload_n hx hb dL_law_173 rfl (lv_at hl 1 rfl) ?_
        refine lv_iload_n hx hb dL_law_174 rfl (lv_at hl 0 rfl) ?_
        refine lv_iconst (v := 3) hx hb dL_law_175 (by decide) ?_
        refine lv_iadd hx hb dL_law_176 ?_
        refine va_sld hx hb hX hbl hbA hS (hin 3 (by decide)) dL_law_177 ?_
        refine lc_iM hx hb hml hown hts hKM hNM hA hl G (As := [.int (xs (x3 + 1).toNatClampNeg), .int (xs (x3 + 2).toNatClampNeg), .int (xs (x3 + 3).toNatClampNeg)]) (rest := [.int r]) (kx_Md_code l D k2 h2 (xs (x3 + 1).toNatClampNeg) (xs (x3 + 2).toNatClampNeg) (xs (x3 + 3).toNatClampNeg) st2 r m1 f2) gi_L_21 (hwM_0 ..) rfl hd_X10_code ⟨Nat.le_of_ble_eq_true rfl, Nat.le_of_ble_eq_true rfl⟩ rfl rfl (Nat.le_of_ble_eq_true rfl) dL_law_178 (fun H locs G => ?_)
        obtain ⟨hP, hP2, hS, -, -, -, -⟩ := id G
        refine lv_icmp_eq (tgt := 481) hx hb dL_law_181 (by decide) (fun _ => ?_) (fun q => absurd rfl q)
        exact tail k c1 m1 H locs ls hS1 G hl
      by_cases sw_2 : v ∈ ([2] : List Int32)
      · refine sw_tb (tgt := 186) (off := 154) hx hb dL_law_32 (sw_tbt sw_2 (by decide)) (by decide) (by decide) ?_
        obtain ⟨r, c1, m1, f1, f2, hS1⟩ := hs_drop cnt st st2 h512 hS0
        refine lv_aload_n hx hb dL_law_186 rfl (lv_at hl 2 rfl) ?_
        refine lc_iC hx hb hml hown hts hNC hA hl G (As := []) (rest := []) (kx_Ma_drop l D k h st r c1 f1) gi_L_22 (hwC_0 ..) rfl hd_X9_drop ⟨Nat.le_of_ble_eq_true rfl, Nat.le_of_ble_eq_true rfl⟩ rfl rfl (Nat.le_of_ble_eq_true rfl) dL_law_187 (fun k H locs G => ?_)
        obtain ⟨hP, hP2, hS, -, -, -, -⟩ := id G
        refine lv_aload_n hx hb dL_law_190 rfl (lv_at hl 3 rfl) ?_
        refine lc_iM hx hb hml hown hts hKM hNM hA hl G (As := []) (rest := [.int r]) (kx_Md_drop l D k2 h2 st2 r m1 f2) gi_L_26 (hwM_0 ..) rfl hd_X10_drop ⟨Nat.le_of_ble_eq_true rfl, Nat.le_of_ble_eq_true rfl⟩ rfl rfl (Nat.le_of_ble_eq_true rfl) dL_law_191 (fun H locs G => ?_)
        obtain ⟨hP, hP2, hS, -, -, -, -⟩ := id G
        refine lv_icmp_eq (tgt := 481) hx hb dL_law_194 (by decide) (fun _ => ?_) (fun q => absurd rfl q)
        exact tail k c1 m1 H locs ls hS1 G hl
      by_cases sw_3 : v ∈ ([3] : List Int32)
      · refine sw_tb (tgt := 199) (off := 167) hx hb dL_law_32 (sw_tbt sw_3 (by decide)) (by decide) (by decide) ?_
        obtain ⟨r, c1, m1, f1, f2, hS1⟩ := hs_entry cnt st st2 h512 hS0 (xs (x3 + 1).toNatClampNeg) (xs (x3 + 2).toNatClampNeg)
        refine lv_aload_n hx hb dL_law_199 rfl (lv_at hl 2 rfl) ?_
        refine lv_aload_n hx hb dL_law_200 rfl (lv_at hl 1 rfl) ?_
        refine lv_iload_n hx hb dL_law_201 rfl (lv_at hl 0 rfl) ?_
        refine lv_iconst (v := 1) hx hb dL_law_202 (by decide) ?_
        refine lv_iadd hx hb dL_law_203 ?_
        refine va_sld hx hb hX hbl hbA hS (hin 1 (by decide)) dL_law_204 ?_
        refine lv_aload_n hx hb dL_law_205 rfl (lv_at hl 1 rfl) ?_
        refine lv_iload_n hx hb dL_law_206 rfl (lv_at hl 0 rfl) ?_
        refine lv_iconst (v := 2) hx hb dL_law_207 (by decide) ?_
        refine lv_iadd hx hb dL_law_208 ?_
        refine va_sld hx hb hX hbl hbA hS (hin 2 (by decide)) dL_law_209 ?_
        refine lc_iC hx hb hml hown hts hNC hA hl G (As := [.int (xs (x3 + 1).toNatClampNeg), .int (xs (x3 + 2).toNatClampNeg)]) (rest := []) (kx_Ma_entry l D k h (xs (x3 + 1).toNatClampNeg) (xs (x3 + 2).toNatClampNeg) st r c1 f1) gi_L_27 (hwC_0 ..) rfl hd_X9_entry ⟨Nat.le_of_ble_eq_true rfl, Nat.le_of_ble_eq_true rfl⟩ rfl rfl (Nat.le_of_ble_eq_true rfl) dL_law_210 (fun k H locs G => ?_)
        obtain ⟨hP, hP2, hS, -, -, -, -⟩ := id G
        refine lv_aload_n hx hb dL_law_213 rfl (lv_at hl 3 rfl) ?_
        refine lv_aload_n hx hb dL_law_214 rfl (lv_at hl 1 rfl) ?_
        refine lv_iload_n hx hb dL_law_215 rfl (lv_at hl 0 rfl) ?_
        refine lv_iconst (v := 1) hx hb dL_law_216 (by decide) ?_
        refine lv_iadd hx hb dL_law_217 ?_
        refine va_sld hx hb hX hbl hbA hS (hin 1 (by decide)) dL_law_218 ?_
        refine lv_aload_n hx hb dL_law_219 rfl (lv_at hl 1 rfl) ?_
        refine lv_iload_n hx hb dL_law_220 rfl (lv_at hl 0 rfl) ?_
        refine lv_iconst (v := 2) hx hb dL_law_221 (by decide) ?_
        refine lv_iadd hx hb dL_law_222 ?_
        refine va_sld hx hb hX hbl hbA hS (hin 2 (by decide)) dL_law_223 ?_
        refine lc_iM hx hb hml hown hts hKM hNM hA hl G (As := [.int (xs (x3 + 1).toNatClampNeg), .int (xs (x3 + 2).toNatClampNeg)]) (rest := [.int r]) (kx_Md_entry l D k2 h2 (xs (x3 + 1).toNatClampNeg) (xs (x3 + 2).toNatClampNeg) st2 r m1 f2) gi_L_31 (hwM_0 ..) rfl hd_X10_entry ⟨Nat.le_of_ble_eq_true rfl, Nat.le_of_ble_eq_true rfl⟩ rfl rfl (Nat.le_of_ble_eq_true rfl) dL_law_224 (fun H locs G => ?_)
        obtain ⟨hP, hP2, hS, -, -, -, -⟩ := id G
        refine lv_icmp_eq (tgt := 481) hx hb dL_law_227 (by decide) (fun _ => ?_) (fun q => absurd rfl q)
        exact tail k c1 m1 H locs ls hS1 G hl
      by_cases sw_4 : v ∈ ([4] : List Int32)
      · refine sw_tb (tgt := 232) (off := 200) hx hb dL_law_32 (sw_tbt sw_4 (by decide)) (by decide) (by decide) ?_
        obtain ⟨r, c1, m1, f1, f2, hS1⟩ := hs_argument cnt st st2 h512 hS0 ((((xs (x3 + 1).toNatClampNeg).toInt64) <<< ((32 : Int32).toInt64 &&& 63)) ||| (((xs (x3 + 2).toNatClampNeg).toInt64) &&& 4294967295))
        refine lv_aload_n hx hb dL_law_232 rfl (lv_at hl 2 rfl) ?_
        refine lv_aload_n hx hb dL_law_233 rfl (lv_at hl 1 rfl) ?_
        refine lv_iload_n hx hb dL_law_234 rfl (lv_at hl 0 rfl) ?_
        refine lv_iconst (v := 1) hx hb dL_law_235 (by decide) ?_
        refine lv_iadd hx hb dL_law_236 ?_
        refine va_sld hx hb hX hbl hbA hS (hin 1 (by decide)) dL_law_237 ?_
        refine lv_i2l (v := (xs (x3 + 1).toNatClampNeg).toInt64) hx hb dL_law_238 rfl ?_
        refine lv_bipush (v := 32) hx hb dL_law_239 (by decide) ?_
        refine lv_lshl (v := ((xs (x3 + 1).toNatClampNeg).toInt64) <<< ((32 : Int32).toInt64 &&& 63)) hx hb dL_law_241 rfl ?_
        refine lv_aload_n hx hb dL_law_242 rfl (lv_at hl 1 rfl) ?_
        refine lv_iload_n hx hb dL_law_243 rfl (lv_at hl 0 rfl) ?_
        refine lv_iconst (v := 2) hx hb dL_law_244 (by decide) ?_
        refine lv_iadd hx hb dL_law_245 ?_
        refine va_sld hx hb hX hbl hbA hS (hin 2 (by decide)) dL_law_246 ?_
        refine lv_i2l (v := (xs (x3 + 2).toNatClampNeg).toInt64) hx hb dL_law_247 rfl ?_
        refine lv_ldc2 (v := 4294967295) hx hb hown (hts _ lk_L_32) dL_law_248 ?_
        refine lv_land hx hb dL_law_251 ?_
        refine lv_lor hx hb dL_law_252 ?_
        refine lc_iC hx hb hml hown hts hNC hA hl G (As := [.long ((((xs (x3 + 1).toNatClampNeg).toInt64) <<< ((32 : Int32).toInt64 &&& 63)) ||| (((xs (x3 + 2).toNatClampNeg).toInt64) &&& 4294967295))]) (rest := []) (kx_Ma_argument l D k h ((((xs (x3 + 1).toNatClampNeg).toInt64) <<< ((32 : Int32).toInt64 &&& 63)) ||| (((xs (x3 + 2).toNatClampNeg).toInt64) &&& 4294967295)) st r c1 f1) gi_L_34 (hwC_0 ..) rfl hd_X9_argument ⟨Nat.le_of_ble_eq_true rfl, Nat.le_of_ble_eq_true rfl⟩ rfl rfl (Nat.le_of_ble_eq_true rfl) dL_law_253 (fun k H locs G => ?_)
        obtain ⟨hP, hP2, hS, -, -, -, -⟩ := id G
        refine lv_aload_n hx hb dL_law_256 rfl (lv_at hl 3 rfl) ?_
        refine lv_aload_n hx hb dL_law_257 rfl (lv_at hl 1 rfl) ?_
        refine lv_iload_n hx hb dL_law_258 rfl (lv_at hl 0 rfl) ?_
        refine lv_iconst (v := 1) hx hb dL_law_259 (by decide) ?_
        refine lv_iadd hx hb dL_law_260 ?_
        refine va_sld hx hb hX hbl hbA hS (hin 1 (by decide)) dL_law_261 ?_
        refine lv_i2l (v := (xs (x3 + 1).toNatClampNeg).toInt64) hx hb dL_law_262 rfl ?_
        refine lv_bipush (v := 32) hx hb dL_law_263 (by decide) ?_
        refine lv_lshl (v := ((xs (x3 + 1).toNatClampNeg).toInt64) <<< ((32 : Int32).toInt64 &&& 63)) hx hb dL_law_265 rfl ?_
        refine lv_aload_n hx hb dL_law_266 rfl (lv_at hl 1 rfl) ?_
        refine lv_iload_n hx hb dL_law_267 rfl (lv_at hl 0 rfl) ?_
        refine lv_iconst (v := 2) hx hb dL_law_268 (by decide) ?_
        refine lv_iadd hx hb dL_law_269 ?_
        refine va_sld hx hb hX hbl hbA hS (hin 2 (by decide)) dL_law_270 ?_
        refine lv_i2l (v := (xs (x3 + 2).toNatClampNeg).toInt64) hx hb dL_law_271 rfl ?_
        refine lv_ldc2 (v := 4294967295) hx hb hown (hts _ lk_L_32) dL_law_272 ?_
        refine lv_land hx hb dL_law_275 ?_
        refine lv_lor hx hb dL_law_276 ?_
        refine lc_iM hx hb hml hown hts hKM hNM hA hl G (As := [.long ((((xs (x3 + 1).toNatClampNeg).toInt64) <<< ((32 : Int32).toInt64 &&& 63)) ||| (((xs (x3 + 2).toNatClampNeg).toInt64) &&& 4294967295))]) (rest := [.int r]) (kx_Md_argument l D k2 h2 ((((xs (x3 + 1).toNatClampNeg).toInt64) <<< ((32 : Int32).toInt64 &&& 63)) ||| (((xs (x3 + 2).toNatClampNeg).toInt64) &&& 4294967295)) st2 r m1 f2) gi_L_38 (hwM_0 ..) rfl hd_X10_argument ⟨Nat.le_of_ble_eq_true rfl, Nat.le_of_ble_eq_true rfl⟩ rfl rfl (Nat.le_of_ble_eq_true rfl) dL_law_277 (fun H locs G => ?_)
        obtain ⟨hP, hP2, hS, -, -, -, -⟩ := id G
        refine lv_icmp_eq (tgt := 481) hx hb dL_law_280 (by decide) (fun _ => ?_) (fun q => absurd rfl q)
        exact tail k c1 m1 H locs ls hS1 G hl
      by_cases sw_5 : v ∈ ([5] : List Int32)
      · refine sw_tb (tgt := 285) (off := 253) hx hb dL_law_32 (sw_tbt sw_5 (by decide)) (by decide) (by decide) ?_
        obtain ⟨r, c1, m1, f1, f2, hS1⟩ := hs_call cnt st st2 h512 hS0 (xs (x3 + 1).toNatClampNeg)
        refine lv_aload_n hx hb dL_law_285 rfl (lv_at hl 2 rfl) ?_
        refine lv_aload_n hx hb dL_law_286 rfl (lv_at hl 1 rfl) ?_
        refine lv_iload_n hx hb dL_law_287 rfl (lv_at hl 0 rfl) ?_
        refine lv_iconst (v := 1) hx hb dL_law_288 (by decide) ?_
        refine lv_iadd hx hb dL_law_289 ?_
        refine va_sld hx hb hX hbl hbA hS (hin 1 (by decide)) dL_law_290 ?_
        refine lc_iCA hx hb hml hown hts hNC hA hl G (As := [.int (xs (x3 + 1).toNatClampNeg)]) (rest := []) (kx_Ma_call l D k h N (xs (x3 + 1).toNatClampNeg) st r c1 f1) gi_L_39 (hwC_0 ..) rfl hd_X9_call ⟨Nat.le_of_ble_eq_true rfl, Nat.le_of_ble_eq_true rfl⟩ rfl rfl (Nat.le_of_ble_eq_true rfl) dL_law_291 (fun k H locs G => ?_)
        obtain ⟨hP, hP2, hS, -, -, -, -⟩ := id G
        refine lv_aload_n hx hb dL_law_294 rfl (lv_at hl 3 rfl) ?_
        refine lv_aload_n hx hb dL_law_295 rfl (lv_at hl 1 rfl) ?_
        refine lv_iload_n hx hb dL_law_296 rfl (lv_at hl 0 rfl) ?_
        refine lv_iconst (v := 1) hx hb dL_law_297 (by decide) ?_
        refine lv_iadd hx hb dL_law_298 ?_
        refine va_sld hx hb hX hbl hbA hS (hin 1 (by decide)) dL_law_299 ?_
        refine lc_iM hx hb hml hown hts hKM hNM hA hl G (As := [.int (xs (x3 + 1).toNatClampNeg)]) (rest := [.int r]) (kx_Md_call l D k2 h2 N (xs (x3 + 1).toNatClampNeg) st2 r m1 f2) gi_L_43 (hwM_0 ..) rfl hd_X10_call ⟨Nat.le_of_ble_eq_true rfl, Nat.le_of_ble_eq_true rfl⟩ rfl rfl (Nat.le_of_ble_eq_true rfl) dL_law_300 (fun H locs G => ?_)
        obtain ⟨hP, hP2, hS, -, -, -, -⟩ := id G
        refine lv_icmp_eq (tgt := 481) hx hb dL_law_303 (by decide) (fun _ => ?_) (fun q => absurd rfl q)
        exact tail k c1 m1 H locs ls hS1 G hl
      by_cases sw_6 : v ∈ ([6] : List Int32)
      · refine sw_tb (tgt := 308) (off := 276) hx hb dL_law_32 (sw_tbt sw_6 (by decide)) (by decide) (by decide) ?_
        obtain ⟨r, c1, m1, f1, f2, hS1⟩ := hs_run cnt st st2 h512 hS0 (xs (x3 + 1).toNatClampNeg)
        refine lv_aload_n hx hb dL_law_308 rfl (lv_at hl 2 rfl) ?_
        refine lv_aload_n hx hb dL_law_309 rfl (lv_at hl 1 rfl) ?_
        refine lv_iload_n hx hb dL_law_310 rfl (lv_at hl 0 rfl) ?_
        refine lv_iconst (v := 1) hx hb dL_law_311 (by decide) ?_
        refine lv_iadd hx hb dL_law_312 ?_
        refine va_sld hx hb hX hbl hbA hS (hin 1 (by decide)) dL_law_313 ?_
        refine lc_iCA hx hb hml hown hts hNC hA hl G (As := [.int (xs (x3 + 1).toNatClampNeg)]) (rest := []) (kx_Ma_run l D k h N (xs (x3 + 1).toNatClampNeg) st r c1 f1) gi_L_44 (hwC_0 ..) rfl hd_X9_run ⟨Nat.le_of_ble_eq_true rfl, Nat.le_of_ble_eq_true rfl⟩ rfl rfl (Nat.le_of_ble_eq_true rfl) dL_law_314 (fun k H locs G => ?_)
        obtain ⟨hP, hP2, hS, -, -, -, -⟩ := id G
        refine lv_aload_n hx hb dL_law_317 rfl (lv_at hl 3 rfl) ?_
        refine lv_aload_n hx hb dL_law_318 rfl (lv_at hl 1 rfl) ?_
        refine lv_iload_n hx hb dL_law_319 rfl (lv_at hl 0 rfl) ?_
        refine lv_iconst (v := 1) hx hb dL_law_320 (by decide) ?_
        refine lv_iadd hx hb dL_law_321 ?_
        refine va_sld hx hb hX hbl hbA hS (hin 1 (by decide)) dL_law_322 ?_
        refine lc_iM hx hb hml hown hts hKM hNM hA hl G (As := [.int (xs (x3 + 1).toNatClampNeg)]) (rest := [.int r]) (kx_Md_run l D k2 h2 N (xs (x3 + 1).toNatClampNeg) st2 r m1 f2) gi_L_48 (hwM_0 ..) rfl hd_X10_run ⟨Nat.le_of_ble_eq_true rfl, Nat.le_of_ble_eq_true rfl⟩ rfl rfl (Nat.le_of_ble_eq_true rfl) dL_law_323 (fun H locs G => ?_)
        obtain ⟨hP, hP2, hS, -, -, -, -⟩ := id G
        refine lv_icmp_eq (tgt := 481) hx hb dL_law_326 (by decide) (fun _ => ?_) (fun q => absurd rfl q)
        exact tail k c1 m1 H locs ls hS1 G hl
      by_cases sw_7 : v ∈ ([7] : List Int32)
      · refine sw_tb (tgt := 331) (off := 299) hx hb dL_law_32 (sw_tbt sw_7 (by decide)) (by decide) (by decide) ?_
        obtain ⟨r, c1, m1, f1, f2, hS1⟩ := hs_state cnt st st2 h512 hS0 (xs (x3 + 1).toNatClampNeg)
        refine lv_aload_n hx hb dL_law_331 rfl (lv_at hl 2 rfl) ?_
        refine lv_aload_n hx hb dL_law_332 rfl (lv_at hl 1 rfl) ?_
        refine lv_iload_n hx hb dL_law_333 rfl (lv_at hl 0 rfl) ?_
        refine lv_iconst (v := 1) hx hb dL_law_334 (by decide) ?_
        refine lv_iadd hx hb dL_law_335 ?_
        refine va_sld hx hb hX hbl hbA hS (hin 1 (by decide)) dL_law_336 ?_
        refine lc_iC hx hb hml hown hts hNC hA hl G (As := [.int (xs (x3 + 1).toNatClampNeg)]) (rest := []) (kx_Ma_state l D k h (xs (x3 + 1).toNatClampNeg) st r c1 f1) gi_L_49 (hwC_0 ..) rfl hd_X9_state ⟨Nat.le_of_ble_eq_true rfl, Nat.le_of_ble_eq_true rfl⟩ rfl rfl (Nat.le_of_ble_eq_true rfl) dL_law_337 (fun k H locs G => ?_)
        obtain ⟨hP, hP2, hS, -, -, -, -⟩ := id G
        refine lv_aload_n hx hb dL_law_340 rfl (lv_at hl 3 rfl) ?_
        refine lv_aload_n hx hb dL_law_341 rfl (lv_at hl 1 rfl) ?_
        refine lv_iload_n hx hb dL_law_342 rfl (lv_at hl 0 rfl) ?_
        refine lv_iconst (v := 1) hx hb dL_law_343 (by decide) ?_
        refine lv_iadd hx hb dL_law_344 ?_
        refine va_sld hx hb hX hbl hbA hS (hin 1 (by decide)) dL_law_345 ?_
        refine lc_iM hx hb hml hown hts hKM hNM hA hl G (As := [.int (xs (x3 + 1).toNatClampNeg)]) (rest := [.int r]) (kx_Md_state l D k2 h2 N (xs (x3 + 1).toNatClampNeg) st2 r m1 f2) gi_L_52 (hwM_0 ..) rfl hd_X10_state ⟨Nat.le_of_ble_eq_true rfl, Nat.le_of_ble_eq_true rfl⟩ rfl rfl (Nat.le_of_ble_eq_true rfl) dL_law_346 (fun H locs G => ?_)
        obtain ⟨hP, hP2, hS, -, -, -, -⟩ := id G
        refine lv_icmp_eq (tgt := 481) hx hb dL_law_349 (by decide) (fun _ => ?_) (fun q => absurd rfl q)
        exact tail k c1 m1 H locs ls hS1 G hl
      by_cases sw_8 : v ∈ ([8] : List Int32)
      · refine sw_tb (tgt := 354) (off := 322) hx hb dL_law_32 (sw_tbt sw_8 (by decide)) (by decide) (by decide) ?_
        obtain ⟨r, c1, m1, f1, f2, hS1⟩ := hs_tier cnt st st2 h512 hS0 (xs (x3 + 1).toNatClampNeg)
        refine lv_aload_n hx hb dL_law_354 rfl (lv_at hl 2 rfl) ?_
        refine lv_aload_n hx hb dL_law_355 rfl (lv_at hl 1 rfl) ?_
        refine lv_iload_n hx hb dL_law_356 rfl (lv_at hl 0 rfl) ?_
        refine lv_iconst (v := 1) hx hb dL_law_357 (by decide) ?_
        refine lv_iadd hx hb dL_law_358 ?_
        refine va_sld hx hb hX hbl hbA hS (hin 1 (by decide)) dL_law_359 ?_
        refine lc_iC hx hb hml hown hts hNC hA hl G (As := [.int (xs (x3 + 1).toNatClampNeg)]) (rest := []) (kx_Ma_tier l D k h (xs (x3 + 1).toNatClampNeg) st r c1 f1) gi_L_53 (hwC_0 ..) rfl hd_X9_tier ⟨Nat.le_of_ble_eq_true rfl, Nat.le_of_ble_eq_true rfl⟩ rfl rfl (Nat.le_of_ble_eq_true rfl) dL_law_360 (fun k H locs G => ?_)
        obtain ⟨hP, hP2, hS, -, -, -, -⟩ := id G
        refine lv_aload_n hx hb dL_law_363 rfl (lv_at hl 3 rfl) ?_
        refine lv_aload_n hx hb dL_law_364 rfl (lv_at hl 1 rfl) ?_
        refine lv_iload_n hx hb dL_law_365 rfl (lv_at hl 0 rfl) ?_
        refine lv_iconst (v := 1) hx hb dL_law_366 (by decide) ?_
        refine lv_iadd hx hb dL_law_367 ?_
        refine va_sld hx hb hX hbl hbA hS (hin 1 (by decide)) dL_law_368 ?_
        refine lc_iM hx hb hml hown hts hKM hNM hA hl G (As := [.int (xs (x3 + 1).toNatClampNeg)]) (rest := [.int r]) (kx_Md_tier l D k2 h2 (xs (x3 + 1).toNatClampNeg) st2 r m1 f2) gi_L_56 (hwM_0 ..) rfl hd_X10_tier ⟨Nat.le_of_ble_eq_true rfl, Nat.le_of_ble_eq_true rfl⟩ rfl rfl (Nat.le_of_ble_eq_true rfl) dL_law_369 (fun H locs G => ?_)
        obtain ⟨hP, hP2, hS, -, -, -, -⟩ := id G
        refine lv_icmp_eq (tgt := 481) hx hb dL_law_372 (by decide) (fun _ => ?_) (fun q => absurd rfl q)
        exact tail k c1 m1 H locs ls hS1 G hl
      by_cases sw_9 : v ∈ ([9] : List Int32)
      · refine sw_tb (tgt := 377) (off := 345) hx hb dL_law_32 (sw_tbt sw_9 (by decide)) (by decide) (by decide) ?_
        obtain ⟨r, c1, m1, f1, f2, hS1⟩ := hs_result cnt st st2 h512 hS0 (xs (x3 + 1).toNatClampNeg)
        refine lv_aload_n hx hb dL_law_377 rfl (lv_at hl 2 rfl) ?_
        refine lv_aload_n hx hb dL_law_378 rfl (lv_at hl 1 rfl) ?_
        refine lv_iload_n hx hb dL_law_379 rfl (lv_at hl 0 rfl) ?_
        refine lv_iconst (v := 1) hx hb dL_law_380 (by decide) ?_
        refine lv_iadd hx hb dL_law_381 ?_
        refine va_sld hx hb hX hbl hbA hS (hin 1 (by decide)) dL_law_382 ?_
        refine lc_lC hx hb hml hown hts hNC hA hl G (As := [.int (xs (x3 + 1).toNatClampNeg)]) (rest := []) (kx_Ma_result l D k h (xs (x3 + 1).toNatClampNeg) st r c1 f1) gi_L_57 (hwC_0 ..) rfl hd_X9_result ⟨Nat.le_of_ble_eq_true rfl, Nat.le_of_ble_eq_true rfl⟩ rfl rfl (Nat.le_of_ble_eq_true rfl) dL_law_383 (fun k H locs G => ?_)
        obtain ⟨hP, hP2, hS, -, -, -, -⟩ := id G
        refine lv_aload_n hx hb dL_law_386 rfl (lv_at hl 3 rfl) ?_
        refine lv_aload_n hx hb dL_law_387 rfl (lv_at hl 1 rfl) ?_
        refine lv_iload_n hx hb dL_law_388 rfl (lv_at hl 0 rfl) ?_
        refine lv_iconst (v := 1) hx hb dL_law_389 (by decide) ?_
        refine lv_iadd hx hb dL_law_390 ?_
        refine va_sld hx hb hX hbl hbA hS (hin 1 (by decide)) dL_law_391 ?_
        refine lc_lM hx hb hml hown hts hKM hNM hA hl G (As := [.int (xs (x3 + 1).toNatClampNeg)]) (rest := [.long r]) (kx_Md_result l D k2 h2 (xs (x3 + 1).toNatClampNeg) st2 r m1 f2) gi_L_61 (hwM_0 ..) rfl hd_X10_result ⟨Nat.le_of_ble_eq_true rfl, Nat.le_of_ble_eq_true rfl⟩ rfl rfl (Nat.le_of_ble_eq_true rfl) dL_law_392 (fun H locs G => ?_)
        obtain ⟨hP, hP2, hS, -, -, -, -⟩ := id G
        refine W.lcmp hx hb dL_law_395 ?_
        refine lv_if_eq (tgt := 481) hx hb dL_law_396 (by decide) (fun _ => ?_) (fun q => absurd (lc_cmp r) q)
        exact tail k c1 m1 H locs ls hS1 G hl
      by_cases sw_10 : v ∈ ([10] : List Int32)
      · refine sw_tb (tgt := 401) (off := 369) hx hb dL_law_32 (sw_tbt sw_10 (by decide)) (by decide) (by decide) ?_
        obtain ⟨r, c1, m1, f1, f2, hS1⟩ := hs_global cnt st st2 h512 hS0 (xs (x3 + 1).toNatClampNeg)
        refine lv_aload_n hx hb dL_law_401 rfl (lv_at hl 2 rfl) ?_
        refine lv_aload_n hx hb dL_law_402 rfl (lv_at hl 1 rfl) ?_
        refine lv_iload_n hx hb dL_law_403 rfl (lv_at hl 0 rfl) ?_
        refine lv_iconst (v := 1) hx hb dL_law_404 (by decide) ?_
        refine lv_iadd hx hb dL_law_405 ?_
        refine va_sld hx hb hX hbl hbA hS (hin 1 (by decide)) dL_law_406 ?_
        refine lc_lC hx hb hml hown hts hNC hA hl G (As := [.int (xs (x3 + 1).toNatClampNeg)]) (rest := []) (kx_Ma_global l D k h (xs (x3 + 1).toNatClampNeg) st r c1 f1) gi_L_62 (hwC_0 ..) rfl hd_X9_global ⟨Nat.le_of_ble_eq_true rfl, Nat.le_of_ble_eq_true rfl⟩ rfl rfl (Nat.le_of_ble_eq_true rfl) dL_law_407 (fun k H locs G => ?_)
        obtain ⟨hP, hP2, hS, -, -, -, -⟩ := id G
        refine lv_aload_n hx hb dL_law_410 rfl (lv_at hl 3 rfl) ?_
        refine lv_aload_n hx hb dL_law_411 rfl (lv_at hl 1 rfl) ?_
        refine lv_iload_n hx hb dL_law_412 rfl (lv_at hl 0 rfl) ?_
        refine lv_iconst (v := 1) hx hb dL_law_413 (by decide) ?_
        refine lv_iadd hx hb dL_law_414 ?_
        refine va_sld hx hb hX hbl hbA hS (hin 1 (by decide)) dL_law_415 ?_
        refine lc_lM hx hb hml hown hts hKM hNM hA hl G (As := [.int (xs (x3 + 1).toNatClampNeg)]) (rest := [.long r]) (kx_Md_global l D k2 h2 (xs (x3 + 1).toNatClampNeg) st2 r m1 f2) gi_L_65 (hwM_0 ..) rfl hd_X10_global ⟨Nat.le_of_ble_eq_true rfl, Nat.le_of_ble_eq_true rfl⟩ rfl rfl (Nat.le_of_ble_eq_true rfl) dL_law_416 (fun H locs G => ?_)
        obtain ⟨hP, hP2, hS, -, -, -, -⟩ := id G
        refine W.lcmp hx hb dL_law_419 ?_
        refine lv_if_eq (tgt := 481) hx hb dL_law_420 (by decide) (fun _ => ?_) (fun q => absurd (lc_cmp r) q)
        exact tail k c1 m1 H locs ls hS1 G hl
      by_cases sw_11 : v ∈ ([11] : List Int32)
      · refine sw_tb (tgt := 425) (off := 393) hx hb dL_law_32 (sw_tbt sw_11 (by decide)) (by decide) (by decide) ?_
        obtain ⟨r, c1, m1, f1, f2, hS1⟩ := hs_memory cnt st st2 h512 hS0 (xs (x3 + 1).toNatClampNeg)
        refine lv_aload_n hx hb dL_law_425 rfl (lv_at hl 2 rfl) ?_
        refine lv_aload_n hx hb dL_law_426 rfl (lv_at hl 1 rfl) ?_
        refine lv_iload_n hx hb dL_law_427 rfl (lv_at hl 0 rfl) ?_
        refine lv_iconst (v := 1) hx hb dL_law_428 (by decide) ?_
        refine lv_iadd hx hb dL_law_429 ?_
        refine va_sld hx hb hX hbl hbA hS (hin 1 (by decide)) dL_law_430 ?_
        refine lc_iC hx hb hml hown hts hNC hA hl G (As := [.int (xs (x3 + 1).toNatClampNeg)]) (rest := []) (kx_Ma_memory l D k h (xs (x3 + 1).toNatClampNeg) st r c1 f1) gi_L_66 (hwC_0 ..) rfl hd_X9_memory ⟨Nat.le_of_ble_eq_true rfl, Nat.le_of_ble_eq_true rfl⟩ rfl rfl (Nat.le_of_ble_eq_true rfl) dL_law_431 (fun k H locs G => ?_)
        obtain ⟨hP, hP2, hS, -, -, -, -⟩ := id G
        refine lv_aload_n hx hb dL_law_434 rfl (lv_at hl 3 rfl) ?_
        refine lv_aload_n hx hb dL_law_435 rfl (lv_at hl 1 rfl) ?_
        refine lv_iload_n hx hb dL_law_436 rfl (lv_at hl 0 rfl) ?_
        refine lv_iconst (v := 1) hx hb dL_law_437 (by decide) ?_
        refine lv_iadd hx hb dL_law_438 ?_
        refine va_sld hx hb hX hbl hbA hS (hin 1 (by decide)) dL_law_439 ?_
        refine lc_iM hx hb hml hown hts hKM hNM hA hl G (As := [.int (xs (x3 + 1).toNatClampNeg)]) (rest := [.int r]) (kx_Md_memory l D k2 h2 (xs (x3 + 1).toNatClampNeg) st2 r m1 f2) gi_L_69 (hwM_0 ..) rfl hd_X10_memory ⟨Nat.le_of_ble_eq_true rfl, Nat.le_of_ble_eq_true rfl⟩ rfl rfl (Nat.le_of_ble_eq_true rfl) dL_law_440 (fun H locs G => ?_)
        obtain ⟨hP, hP2, hS, -, -, -, -⟩ := id G
        refine lv_icmp_eq (tgt := 481) hx hb dL_law_443 (by decide) (fun _ => ?_) (fun q => absurd rfl q)
        exact tail k c1 m1 H locs ls hS1 G hl
      by_cases sw_12 : v ∈ ([12] : List Int32)
      · refine sw_tb (tgt := 448) (off := 416) hx hb dL_law_32 (sw_tbt sw_12 (by decide)) (by decide) (by decide) ?_
        obtain ⟨r, c1, m1, f1, f2, hS1⟩ := hs_look cnt st st2 h512 hS0 (xs (x3 + 1).toNatClampNeg) (xs (x3 + 2).toNatClampNeg)
        refine lv_aload_n hx hb dL_law_448 rfl (lv_at hl 2 rfl) ?_
        refine lv_aload_n hx hb dL_law_449 rfl (lv_at hl 1 rfl) ?_
        refine lv_iload_n hx hb dL_law_450 rfl (lv_at hl 0 rfl) ?_
        refine lv_iconst (v := 1) hx hb dL_law_451 (by decide) ?_
        refine lv_iadd hx hb dL_law_452 ?_
        refine va_sld hx hb hX hbl hbA hS (hin 1 (by decide)) dL_law_453 ?_
        refine lv_aload_n hx hb dL_law_454 rfl (lv_at hl 1 rfl) ?_
        refine lv_iload_n hx hb dL_law_455 rfl (lv_at hl 0 rfl) ?_
        refine lv_iconst (v := 2) hx hb dL_law_456 (by decide) ?_
        refine lv_iadd hx hb dL_law_457 ?_
        refine va_sld hx hb hX hbl hbA hS (hin 2 (by decide)) dL_law_458 ?_
        refine lc_iC hx hb hml hown hts hNC hA hl G (As := [.int (xs (x3 + 1).toNatClampNeg), .int (xs (x3 + 2).toNatClampNeg)]) (rest := []) (kx_Ma_look l D k h (xs (x3 + 1).toNatClampNeg) (xs (x3 + 2).toNatClampNeg) st r c1 f1) gi_L_70 (hwC_0 ..) rfl hd_X9_look ⟨Nat.le_of_ble_eq_true rfl, Nat.le_of_ble_eq_true rfl⟩ rfl rfl (Nat.le_of_ble_eq_true rfl) dL_law_459 (fun k H locs G => ?_)
        obtain ⟨hP, hP2, hS, -, -, -, -⟩ := id G
        refine lv_aload_n hx hb dL_law_462 rfl (lv_at hl 3 rfl) ?_
        refine lv_aload_n hx hb dL_law_463 rfl (lv_at hl 1 rfl) ?_
        refine lv_iload_n hx hb dL_law_464 rfl (lv_at hl 0 rfl) ?_
        refine lv_iconst (v := 1) hx hb dL_law_465 (by decide) ?_
        refine lv_iadd hx hb dL_law_466 ?_
        refine va_sld hx hb hX hbl hbA hS (hin 1 (by decide)) dL_law_467 ?_
        refine lv_aload_n hx hb dL_law_468 rfl (lv_at hl 1 rfl) ?_
        refine lv_iload_n hx hb dL_law_469 rfl (lv_at hl 0 rfl) ?_
        refine lv_iconst (v := 2) hx hb dL_law_470 (by decide) ?_
        refine lv_iadd hx hb dL_law_471 ?_
        refine va_sld hx hb hX hbl hbA hS (hin 2 (by decide)) dL_law_472 ?_
        refine lc_iM hx hb hml hown hts hKM hNM hA hl G (As := [.int (xs (x3 + 1).toNatClampNeg), .int (xs (x3 + 2).toNatClampNeg)]) (rest := [.int r]) (kx_Md_look l D k2 h2 (xs (x3 + 1).toNatClampNeg) (xs (x3 + 2).toNatClampNeg) st2 r m1 f2) gi_L_74 (hwM_0 ..) rfl hd_X10_look ⟨Nat.le_of_ble_eq_true rfl, Nat.le_of_ble_eq_true rfl⟩ rfl rfl (Nat.le_of_ble_eq_true rfl) dL_law_473 (fun H locs G => ?_)
        obtain ⟨hP, hP2, hS, -, -, -, -⟩ := id G
        refine lv_icmp_eq (tgt := 481) hx hb dL_law_476 (by decide) (fun _ => ?_) (fun q => absurd rfl q)
        exact tail k c1 m1 H locs ls hS1 G hl
      refine sw_tb (tgt := 481) (off := 449) hx hb dL_law_32 (sw_tbd (sw_cons sw_0 (sw_cons sw_1 (sw_cons sw_2 (sw_cons sw_3 (sw_cons sw_4 (sw_cons sw_5 (sw_cons sw_6 (sw_cons sw_7 (sw_cons sw_8 (sw_cons sw_9 (sw_cons sw_10 (sw_cons sw_11 (sw_cons sw_12 sw_nil))))))))))))) (by decide)) (by decide) (by decide) ?_
      exact tail k st st2 H locs ls (hs_skip cnt st st2 hS0) G hl
