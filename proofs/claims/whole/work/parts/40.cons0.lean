theorem ac_B : Cond.arrayClass .byte ∈ TB := tb_4 _ (List.mem_of_getElem? (i := 15) rfl)
theorem ac_J : Cond.arrayClass .long ∈ TB := tb_2 _ (List.mem_of_getElem? (i := 21) rfl)
theorem ck_X9_16 : Cond.classLink RX9 16 RX8 ∈ TB := tb_1 _ (List.mem_of_getElem? (i := 17) rfl)
theorem ck_X9_25 : Cond.classLink RX9 25 RX7 ∈ TB := tb_1 _ (List.mem_of_getElem? (i := 21) rfl)
theorem ck_X9_32 : Cond.classLink RX9 32 RX0 ∈ TB := tb_2 _ (List.mem_of_getElem? (i := 1) rfl)
theorem ck_X9_39 : Cond.classLink RX9 39 RX4 ∈ TB := tb_2 _ (List.mem_of_getElem? (i := 5) rfl)
theorem ck_X9_46 : Cond.classLink RX9 46 RX1 ∈ TB := tb_2 _ (List.mem_of_getElem? (i := 9) rfl)
theorem ck_X9_55 : Cond.classLink RX9 55 RX6 ∈ TB := tb_2 _ (List.mem_of_getElem? (i := 13) rfl)
theorem ck_X9_64 : Cond.classLink RX9 64 RX5 ∈ TB := tb_2 _ (List.mem_of_getElem? (i := 17) rfl)
theorem ck_X9_9 : Cond.classLink RX9 9 RX3 ∈ TB := tb_1 _ (List.mem_of_getElem? (i := 13) rfl)
theorem co_obj : Cond.code objectInit ⟨#[0xb1]⟩ 1 none ∈ TB := tb_1 _ (List.mem_of_getElem? (i := 12) rfl)
theorem im_X0_init : Cond.instanceMethod yX0_init ∈ TB := tb_4 _ (List.mem_of_getElem? (i := 23) rfl)
theorem im_X1_init : Cond.instanceMethod yX1_init ∈ TB := tb_6 _ (List.mem_of_getElem? (i := 10) rfl)
theorem im_X3_init : Cond.instanceMethod yX3_init ∈ TB := tb_3 _ (List.mem_of_getElem? (i := 1) rfl)
theorem im_X4_init : Cond.instanceMethod yX4_init ∈ TB := tb_5 _ (List.mem_of_getElem? (i := 20) rfl)
theorem im_X5_init : Cond.instanceMethod yX5_init ∈ TB := tb_7 _ (List.mem_of_getElem? (i := 7) rfl)
theorem im_X6_init : Cond.instanceMethod yX6_init ∈ TB := tb_7 _ (List.mem_of_getElem? (i := 0) rfl)
theorem im_X7_init : Cond.instanceMethod yX7_init ∈ TB := tb_4 _ (List.mem_of_getElem? (i := 10) rfl)
theorem im_X8_init : Cond.instanceMethod yX8_init ∈ TB := tb_3 _ (List.mem_of_getElem? (i := 22) rfl)
theorem im_obj : Cond.instanceMethod objectInit ∈ TB := tb_1 _ (List.mem_of_getElem? (i := 11) rfl)
theorem is_X0 : Cond.instantiable RX0 17 ∈ TB := tb_2 _ (List.mem_of_getElem? (i := 2) rfl)
theorem is_X1 : Cond.instantiable RX1 10 ∈ TB := tb_2 _ (List.mem_of_getElem? (i := 10) rfl)
theorem is_X3 : Cond.instantiable RX3 16 ∈ TB := tb_1 _ (List.mem_of_getElem? (i := 14) rfl)
theorem is_X4 : Cond.instantiable RX4 9 ∈ TB := tb_2 _ (List.mem_of_getElem? (i := 6) rfl)
theorem is_X5 : Cond.instantiable RX5 4 ∈ TB := tb_2 _ (List.mem_of_getElem? (i := 18) rfl)
theorem is_X6 : Cond.instantiable RX6 3 ∈ TB := tb_2 _ (List.mem_of_getElem? (i := 14) rfl)
theorem is_X7 : Cond.instantiable RX7 4 ∈ TB := tb_1 _ (List.mem_of_getElem? (i := 22) rfl)
theorem is_X8 : Cond.instantiable RX8 7 ∈ TB := tb_1 _ (List.mem_of_getElem? (i := 18) rfl)
theorem lk_X0_3 : Cond.methodLink RX0 3 objectInit ∈ TB := tb_5 _ (List.mem_of_getElem? (i := 1) rfl)
theorem lk_X10_1 : Cond.methodLink RX10 1 objectInit ∈ TB := tb_7 _ (List.mem_of_getElem? (i := 17) rfl)
theorem lk_X1_3 : Cond.methodLink RX1 3 objectInit ∈ TB := tb_6 _ (List.mem_of_getElem? (i := 12) rfl)
theorem lk_X3_21 : Cond.fieldLink RX3 21 "RegisterMachine$Program" "most" "[I" ∈ TB := tb_3 _ (List.mem_of_getElem? (i := 8) rfl)
theorem lk_X3_24 : Cond.fieldLink RX3 24 "RegisterMachine$Program" "first" "[I" ∈ TB := tb_3 _ (List.mem_of_getElem? (i := 9) rfl)
theorem lk_X3_27 : Cond.fieldLink RX3 27 "RegisterMachine$Program" "last" "[I" ∈ TB := tb_3 _ (List.mem_of_getElem? (i := 10) rfl)
theorem lk_X3_3 : Cond.methodLink RX3 3 objectInit ∈ TB := tb_3 _ (List.mem_of_getElem? (i := 3) rfl)
theorem lk_X3_30 : Cond.fieldLink RX3 30 "RegisterMachine$Program" "counted" "[I" ∈ TB := tb_3 _ (List.mem_of_getElem? (i := 11) rfl)
theorem lk_X4_3 : Cond.methodLink RX4 3 objectInit ∈ TB := tb_5 _ (List.mem_of_getElem? (i := 22) rfl)
theorem lk_X4_37 : Cond.fieldLink RX4 37 "RegisterMachine$RegisterCode" "functions" "I" ∈ TB := tb_6 _ (List.mem_of_getElem? (i := 7) rfl)
theorem lk_X4_40 : Cond.methodLink RX4 40 yJ7_fill_53178 ∈ TB := tb_6 _ (List.mem_of_getElem? (i := 8) rfl)
theorem lk_X4_9 : Cond.fieldLink RX4 9 "RegisterMachine$RegisterCode" "start" "[I" ∈ TB := tb_5 _ (List.mem_of_getElem? (i := 23) rfl)
theorem lk_X5_3 : Cond.methodLink RX5 3 objectInit ∈ TB := tb_7 _ (List.mem_of_getElem? (i := 9) rfl)
theorem lk_X6_3 : Cond.methodLink RX6 3 objectInit ∈ TB := tb_7 _ (List.mem_of_getElem? (i := 2) rfl)
theorem lk_X7_15 : Cond.fieldLink RX7 15 "RegisterMachine$World" "globals" "[J" ∈ TB := tb_4 _ (List.mem_of_getElem? (i := 14) rfl)
theorem lk_X7_27 : Cond.methodLink RX7 27 yJ7_fill_53178 ∈ TB := tb_4 _ (List.mem_of_getElem? (i := 18) rfl)
theorem lk_X7_3 : Cond.methodLink RX7 3 objectInit ∈ TB := tb_4 _ (List.mem_of_getElem? (i := 12) rfl)
theorem lk_X8_3 : Cond.methodLink RX8 3 objectInit ∈ TB := tb_4 _ (List.mem_of_getElem? (i := 0) rfl)
theorem lk_X9_18 : Cond.methodLink RX9 18 yX8_init ∈ TB := tb_3 _ (List.mem_of_getElem? (i := 21) rfl)
theorem lk_X9_27 : Cond.methodLink RX9 27 yX7_init ∈ TB := tb_4 _ (List.mem_of_getElem? (i := 9) rfl)
theorem lk_X9_3 : Cond.methodLink RX9 3 objectInit ∈ TB := tb_1 _ (List.mem_of_getElem? (i := 10) rfl)
theorem lk_X9_34 : Cond.methodLink RX9 34 yX0_init ∈ TB := tb_4 _ (List.mem_of_getElem? (i := 22) rfl)
theorem lk_X9_41 : Cond.methodLink RX9 41 yX4_init ∈ TB := tb_5 _ (List.mem_of_getElem? (i := 19) rfl)
theorem lk_X9_48 : Cond.methodLink RX9 48 yX1_init ∈ TB := tb_6 _ (List.mem_of_getElem? (i := 9) rfl)
theorem lk_X9_57 : Cond.methodLink RX9 57 yX6_init ∈ TB := tb_6 _ (List.mem_of_getElem? (i := 23) rfl)
theorem lk_X9_66 : Cond.methodLink RX9 66 yX5_init ∈ TB := tb_7 _ (List.mem_of_getElem? (i := 6) rfl)
theorem co_fill : Cond.code yJ7_fill_53178 cJ7_fill_53178 4 none ∈ TB := tb_4 _ (List.mem_of_getElem? (i := 21) rfl)
theorem st_fill : Cond.static yJ7_fill_53178 ∈ TB := tb_4 _ (List.mem_of_getElem? (i := 19) rfl)
theorem hd_fill : yJ7_fill_53178.cls ≠ "java/lang/invoke/MethodHandle" ∧ yJ7_fill_53178.cls ≠ "java/lang/invoke/VarHandle" ∧ (parseMethodDescriptor yJ7_fill_53178.desc).map (fun d => d.parameters.length) = some 2 := by decide +kernel
theorem gi_X4_40 : GoodIn TB (va_wsS RX4 40 yJ7_fill_53178 (Cond.code yJ7_fill_53178 cJ7_fill_53178 4 none :: TB)) := gi_s lk_X4_40 st_fill in_arrays co_fill
theorem gi_X7_27 : GoodIn TB (va_wsS RX7 27 yJ7_fill_53178 (Cond.code yJ7_fill_53178 cJ7_fill_53178 4 none :: TB)) := gi_s lk_X7_27 st_fill in_arrays co_fill
theorem co_X0_init : Cond.code yX0_init cX0_init 2 none ∈ TB := tb_5 _ (List.mem_of_getElem? (i := 0) rfl)
theorem gj_X0_init : GoodIn TB (Cond.code yX0_init cX0_init 2 none :: TB) := tb_good (List.forall_mem_cons.mpr ⟨co_X0_init, fun _ h => h⟩)
theorem hd_X0_init : yX0_init.cls = RX0 ∧ yX0_init.cls ≠ "java/lang/invoke/MethodHandle" ∧ yX0_init.cls ≠ "java/lang/invoke/VarHandle" ∧ (parseMethodDescriptor yX0_init.desc).map (fun d => d.parameters.length) = some 1 := by decide +kernel
theorem co_X1_init : Cond.code yX1_init cX1_init 3 none ∈ TB := tb_6 _ (List.mem_of_getElem? (i := 11) rfl)
theorem gj_X1_init : GoodIn TB (Cond.code yX1_init cX1_init 3 none :: TB) := tb_good (List.forall_mem_cons.mpr ⟨co_X1_init, fun _ h => h⟩)
theorem hd_X1_init : yX1_init.cls = RX1 ∧ yX1_init.cls ≠ "java/lang/invoke/MethodHandle" ∧ yX1_init.cls ≠ "java/lang/invoke/VarHandle" ∧ (parseMethodDescriptor yX1_init.desc).map (fun d => d.parameters.length) = some 2 := by decide +kernel
theorem co_X3_init : Cond.code yX3_init cX3_init 1 none ∈ TB := tb_3 _ (List.mem_of_getElem? (i := 2) rfl)
theorem gj_X3_init : GoodIn TB (Cond.code yX3_init cX3_init 1 none :: TB) := tb_good (List.forall_mem_cons.mpr ⟨co_X3_init, fun _ h => h⟩)
theorem hd_X3_init : yX3_init.cls = RX3 ∧ yX3_init.cls ≠ "java/lang/invoke/MethodHandle" ∧ yX3_init.cls ≠ "java/lang/invoke/VarHandle" ∧ (parseMethodDescriptor yX3_init.desc).map (fun d => d.parameters.length) = some 0 := by decide +kernel
theorem co_X4_init : Cond.code yX4_init cX4_init 1 none ∈ TB := tb_5 _ (List.mem_of_getElem? (i := 21) rfl)
theorem gj_X4_init : GoodIn TB (Cond.code yX4_init cX4_init 1 none :: TB) := tb_good (List.forall_mem_cons.mpr ⟨co_X4_init, fun _ h => h⟩)
theorem hd_X4_init : yX4_init.cls = RX4 ∧ yX4_init.cls ≠ "java/lang/invoke/MethodHandle" ∧ yX4_init.cls ≠ "java/lang/invoke/VarHandle" ∧ (parseMethodDescriptor yX4_init.desc).map (fun d => d.parameters.length) = some 0 := by decide +kernel
theorem co_X5_init : Cond.code yX5_init cX5_init 5 none ∈ TB := tb_7 _ (List.mem_of_getElem? (i := 8) rfl)
theorem gj_X5_init : GoodIn TB (Cond.code yX5_init cX5_init 5 none :: TB) := tb_good (List.forall_mem_cons.mpr ⟨co_X5_init, fun _ h => h⟩)
theorem hd_X5_init : yX5_init.cls = RX5 ∧ yX5_init.cls ≠ "java/lang/invoke/MethodHandle" ∧ yX5_init.cls ≠ "java/lang/invoke/VarHandle" ∧ (parseMethodDescriptor yX5_init.desc).map (fun d => d.parameters.length) = some 4 := by decide +kernel
theorem co_X6_init : Cond.code yX6_init cX6_init 4 none ∈ TB := tb_7 _ (List.mem_of_getElem? (i := 1) rfl)
theorem gj_X6_init : GoodIn TB (Cond.code yX6_init cX6_init 4 none :: TB) := tb_good (List.forall_mem_cons.mpr ⟨co_X6_init, fun _ h => h⟩)
theorem hd_X6_init : yX6_init.cls = RX6 ∧ yX6_init.cls ≠ "java/lang/invoke/MethodHandle" ∧ yX6_init.cls ≠ "java/lang/invoke/VarHandle" ∧ (parseMethodDescriptor yX6_init.desc).map (fun d => d.parameters.length) = some 3 := by decide +kernel
theorem co_X7_init : Cond.code yX7_init cX7_init 1 none ∈ TB := tb_4 _ (List.mem_of_getElem? (i := 11) rfl)
theorem gj_X7_init : GoodIn TB (Cond.code yX7_init cX7_init 1 none :: TB) := tb_good (List.forall_mem_cons.mpr ⟨co_X7_init, fun _ h => h⟩)
theorem hd_X7_init : yX7_init.cls = RX7 ∧ yX7_init.cls ≠ "java/lang/invoke/MethodHandle" ∧ yX7_init.cls ≠ "java/lang/invoke/VarHandle" ∧ (parseMethodDescriptor yX7_init.desc).map (fun d => d.parameters.length) = some 0 := by decide +kernel
theorem co_X8_init : Cond.code yX8_init cX8_init 2 none ∈ TB := tb_3 _ (List.mem_of_getElem? (i := 23) rfl)
theorem gj_X8_init : GoodIn TB (Cond.code yX8_init cX8_init 2 none :: TB) := tb_good (List.forall_mem_cons.mpr ⟨co_X8_init, fun _ h => h⟩)
theorem hd_X8_init : yX8_init.cls = RX8 ∧ yX8_init.cls ≠ "java/lang/invoke/MethodHandle" ∧ yX8_init.cls ≠ "java/lang/invoke/VarHandle" ∧ (parseMethodDescriptor yX8_init.desc).map (fun d => d.parameters.length) = some 1 := by decide +kernel
theorem df_X3 : ∀ j, j < 16 → defaultValue (tyX3 j) = vp_V [.null, .null, .null, .null, .null, .null, .null, .null, .null, .null, .null, .null, .null, .int 0, .int 0, .int 0] j := fun j hj => by
  rcases (show j = 0 ∨ j = 1 ∨ j = 2 ∨ j = 3 ∨ j = 4 ∨ j = 5 ∨ j = 6 ∨ j = 7 ∨ j = 8 ∨ j = 9 ∨ j = 10 ∨ j = 11 ∨ j = 12 ∨ j = 13 ∨ j = 14 ∨ j = 15 by omega) with rfl | rfl | rfl | rfl | rfl | rfl | rfl | rfl | rfl | rfl | rfl | rfl | rfl | rfl | rfl | rfl <;> rfl
theorem df_X8 : ∀ j, j < 7 → defaultValue (tyX8 j) = vp_V [.null, .null, .null, .int 0, .int 0, .int 0, .int 0] j := fun j hj => by
  rcases (show j = 0 ∨ j = 1 ∨ j = 2 ∨ j = 3 ∨ j = 4 ∨ j = 5 ∨ j = 6 by omega) with rfl | rfl | rfl | rfl | rfl | rfl | rfl <;> rfl
theorem df_X7 : ∀ j, j < 4 → defaultValue (tyX7 j) = vp_V [.null, .null, .null, .int 0] j := fun j hj => by
  rcases (show j = 0 ∨ j = 1 ∨ j = 2 ∨ j = 3 by omega) with rfl | rfl | rfl | rfl <;> rfl
theorem df_X0 : ∀ j, j < 17 → defaultValue (tyX0 j) = vp_V [.null, .null, .null, .null, .null, .null, .null, .null, .int 0, .int 0, .int 0, .int 0, .int 0, .int 0, .int 0, .int 0, .int 0] j := fun j hj => by
  rcases (show j = 0 ∨ j = 1 ∨ j = 2 ∨ j = 3 ∨ j = 4 ∨ j = 5 ∨ j = 6 ∨ j = 7 ∨ j = 8 ∨ j = 9 ∨ j = 10 ∨ j = 11 ∨ j = 12 ∨ j = 13 ∨ j = 14 ∨ j = 15 ∨ j = 16 by omega) with rfl | rfl | rfl | rfl | rfl | rfl | rfl | rfl | rfl | rfl | rfl | rfl | rfl | rfl | rfl | rfl | rfl <;> rfl
theorem df_X4 : ∀ j, j < 9 → defaultValue (tyX4 j) = vp_V [.null, .null, .null, .null, .null, .null, .null, .int 0, .int 0] j := fun j hj => by
  rcases (show j = 0 ∨ j = 1 ∨ j = 2 ∨ j = 3 ∨ j = 4 ∨ j = 5 ∨ j = 6 ∨ j = 7 ∨ j = 8 by omega) with rfl | rfl | rfl | rfl | rfl | rfl | rfl | rfl | rfl <;> rfl
theorem df_X1 : ∀ j, j < 10 → defaultValue (tyX1 j) = vp_V [.null, .null, .null, .null, .int 0, .int 0, .int 0, .int 0, .int 0, .int 0] j := fun j hj => by
  rcases (show j = 0 ∨ j = 1 ∨ j = 2 ∨ j = 3 ∨ j = 4 ∨ j = 5 ∨ j = 6 ∨ j = 7 ∨ j = 8 ∨ j = 9 by omega) with rfl | rfl | rfl | rfl | rfl | rfl | rfl | rfl | rfl | rfl <;> rfl
theorem df_X6 : ∀ j, j < 3 → defaultValue (tyX6 j) = vp_V [.null, .null, .null] j := fun j hj => by
  rcases (show j = 0 ∨ j = 1 ∨ j = 2 by omega) with rfl | rfl | rfl <;> rfl
theorem df_X5 : ∀ j, j < 4 → defaultValue (tyX5 j) = vp_V [.null, .null, .null, .null] j := fun j hj => by
  rcases (show j = 0 ∨ j = 1 ∨ j = 2 ∨ j = 3 by omega) with rfl | rfl | rfl | rfl <;> rfl
theorem df_X9 : ∀ j, j < 11 → defaultValue (tyX9 j) = vp_V [.null, .null, .null, .null, .null, .null, .null, .null, .null, .int 0, .int 0] j := fun j hj => by
  rcases (show j = 0 ∨ j = 1 ∨ j = 2 ∨ j = 3 ∨ j = 4 ∨ j = 5 ∨ j = 6 ∨ j = 7 ∨ j = 8 ∨ j = 9 ∨ j = 10 by omega) with rfl | rfl | rfl | rfl | rfl | rfl | rfl | rfl | rfl | rfl | rfl <;> rfl
theorem df_X10 : ∀ j, j < 46 → defaultValue (tyX10 j) = vp_V [.int 0, .int 0, .int 0, .null, .null, .null, .null, .null, .null, .null, .null, .null, .null, .int 0, .int 0, .int 0, .int 0, .null, .null, .null, .null, .null, .null, .null, .null, .null, .int 0, .int 0, .int 0, .int 0, .int 0, .int 0, .int 0, .int 0, .int 0, .null, .null, .null, .null, .null, .int 0, .int 0, .int 0, .null, .null, .null] j := fun j hj => by
  rcases (show j = 0 ∨ j = 1 ∨ j = 2 ∨ j = 3 ∨ j = 4 ∨ j = 5 ∨ j = 6 ∨ j = 7 ∨ j = 8 ∨ j = 9 ∨ j = 10 ∨ j = 11 ∨ j = 12 ∨ j = 13 ∨ j = 14 ∨ j = 15 ∨ j = 16 ∨ j = 17 ∨ j = 18 ∨ j = 19 ∨ j = 20 ∨ j = 21 ∨ j = 22 ∨ j = 23 ∨ j = 24 ∨ j = 25 ∨ j = 26 ∨ j = 27 ∨ j = 28 ∨ j = 29 ∨ j = 30 ∨ j = 31 ∨ j = 32 ∨ j = 33 ∨ j = 34 ∨ j = 35 ∨ j = 36 ∨ j = 37 ∨ j = 38 ∨ j = 39 ∨ j = 40 ∨ j = 41 ∨ j = 42 ∨ j = 43 ∨ j = 44 ∨ j = 45 by omega) with rfl | rfl | rfl | rfl | rfl | rfl | rfl | rfl | rfl | rfl | rfl | rfl | rfl | rfl | rfl | rfl | rfl | rfl | rfl | rfl | rfl | rfl | rfl | rfl | rfl | rfl | rfl | rfl | rfl | rfl | rfl | rfl | rfl | rfl | rfl | rfl | rfl | rfl | rfl | rfl | rfl | rfl | rfl | rfl | rfl | rfl <;> rfl
def i0_C : rs_T := (fun q => bif Nat.beq q 25 then 1 else bif Nat.beq q 15 then (-1) else bif Nat.beq q 9 then 1 else bif Nat.beq q 8 then (-1) else bif Nat.beq q 3 then (-1) else bif Nat.beq q 1 then 2 else 0, fun j _ => bif Nat.beq j 22 then -1 else bif Nat.beq j 15 then -1 else 0, fun _ _ => 0, fun q => bif Nat.beq q 0 then 32 else bif Nat.beq q 1 then 32 else bif Nat.beq q 2 then 64 else bif Nat.beq q 3 then 32 else 0)
theorem z0_C : zL i0_C := ⟨fun _ _ => rfl, fun _ _ => rfl, fun _ _ => rfl, fun _ _ => rfl, fun _ _ => rfl, fun _ _ => rfl, fun _ _ => rfl, fun _ _ => rfl, fun _ _ => rfl, fun _ _ => rfl, fun _ _ => rfl, fun _ _ => rfl, fun _ _ => rfl, fun _ _ => rfl, fun _ _ => rfl, fun _ => (show vp_nar .boolean (0 : Int32) = 0 from rfl)⟩
def i0_M : rs_T := (fun q => bif Nat.beq q 18 then (-1) else bif Nat.beq q 17 then 2 else bif Nat.beq q 7 then 1 else 0, fun j _ => bif Nat.beq j 16 then -1 else 0, fun _ _ => 0, fun q => 0)
theorem ce_congr {cA : ClassId} {n : Nat} {f g : Nat → Int32} (h : ∀ j, j < n → f j = g j) : vp_cell cA (n, .inl f) = vp_cell cA (n, .inl g) := by
  rw [vp_cell_i, vp_cell_i]
  unfold arrV
  have e : (fun j : Fin n => Value.int (f j.val)) = (fun j : Fin n => Value.int (g j.val)) := funext fun j => by rw [h j.val j.isLt]
  rw [e]
theorem va_P_arr {D : va_G} {cl : List vw_C} {ws : va_W} {H : Heap} (hP : va_P D cl ws H) (q0 : Nat) {a n : Nat} {cA : ClassId} {f : Nat → Int32} {v : Int32} (he : ws[q0]? = some (a, .inl (cA, n, .inl f))) (h : ∀ j, j < n → f j = v) : va_P D cl (ws.set q0 (a, .inl (cA, n, .inl fun _ => v))) H := by
  intro k q hk
  by_cases e : k = q0
  · subst e
    have hlt : k < ws.length := (List.getElem?_eq_some_iff.mp he).1
    rw [List.getElem?_set_self hlt] at hk
    cases hk
    have h1 := hP k _ he
    show H[a]? = some (vp_cell cA (n, .inl fun _ => v))
    rw [← ce_congr (f := f) h]
    exact h1
  · rw [List.getElem?_set_ne (fun q => e q.symm)] at hk
    exact hP k q hk
def rm_fill : Room := { frames := 0, cells := 0, slots := 0, locals := 0 }
theorem nb_fill {D : va_G} {a sz n : Nat} {cA : ClassId} {f : Nat → Int32} {v : Int32} : FrameBlind (va_Pc [.ref a, .int v] (fun U => U.heap.size = sz ∧ va_P D vwCl [(a, .inl (cA, n, .inl f))] U.heap ∧ va_K D vwCl [(cA, .int)] U ∧ va_D (fun _ => True) [(a, .inl (cA, n, .inl f))])) := fun b U g mk q => by
  obtain ⟨q0, q1, qP, qK, qD⟩ := q
  exact ⟨q0, q1, qP, va_K.moved (u := U) (U := U.calling g mk b) (Vm.Alike.refl U.vm) qK, qD⟩
set_option maxHeartbeats 4000000 in
set_option maxRecDepth 100000 in
theorem kn_fill (l : Launch) (D : va_G) (a sz : Nat) (cA : ClassId) (n : Nat) (f : Nat → Int32) (v : Int32) (hn : n < 2 ^ 31) : Met l yJ7_fill_53178 (.code yJ7_fill_53178 cJ7_fill_53178 4 none :: TB) rm_fill (va_Pc [.ref a, .int v] (fun U => U.heap.size = sz ∧ va_P D vwCl [(a, .inl (cA, n, .inl f))] U.heap ∧ va_K D vwCl [(cA, .int)] U ∧ va_D (fun _ => True) [(a, .inl (cA, n, .inl f))])) (va_Qv (fun _ : Unit => True) (fun _ t => va_P D vwCl [(a, .inl (cA, n, .inl fun _ => v))] t.heap ∧ va_K D vwCl [(cA, .int)] t ∧ va_D (va_A [(a, .inl (cA, n, .inl f))] sz) [(a, .inl (cA, n, .inl fun _ => v))]) (va_A [(a, .inl (cA, n, .inl f))] sz)) 0 0 (va_A [(a, .inl (cA, n, .inl f))] sz) := by
  refine Met.ofW (cc := cJ7_fill_53178) (maxL := 4) (ret := none) (by decide) rfl ?_
  intro p e s m args below meth c s₁ B hml hv
  obtain ⟨rfl, hsz, hP, hK, hD0⟩ := hv
  have hx := B.exec
  have hb := B.bytes
  have hr := B.returns
  have hlk := B.notSynchronized
  subst hsz
  have hD := hD0.self (sz := s.heap.size)
  generalize hAe : va_A [(a, .inl (cA, n, .inl f))] s.heap.size = A at hD ⊢
  have hS : va_S A s.heap s.heap [] := va_S.rf
  have hl := lv_entry ([.ref a, .int v]) (n := 4) (Nat.le_of_ble_eq_true rfl)
  rw [lg_entry_eq]
  generalize (lg_sl ([.ref a, .int v]) ++ List.replicate (4 - (lg_sl ([.ref a, .int v])).length) Slot.unset).toArray = ls at hl ⊢
  have hl : lv_has ls 4 [(0, .ref a), (1, .int v)] := hl
  refine lv_iconst (v := 0) hx hb dJ7_fill_53178_0 (by decide) ?_
  refine lv_istore_n (lv' := [(2, .int 0), (0, .ref a), (1, .int v)]) hx hb dJ7_fill_53178_1 rfl hl (by decide) rfl (fun ls hl => ?_)
  refine lv_aload_n hx hb dJ7_fill_53178_2 rfl (lv_at hl 1 rfl) ?_
  refine va_alen (v := nI n) hx hb hK hP 0 0 rfl rfl rfl dJ7_fill_53178_3 ?_
  refine lv_istore_n (lv' := [(3, .int (nI n)), (2, .int 0), (0, .ref a), (1, .int v)]) hx hb dJ7_fill_53178_4 rfl hl (by decide) rfl (fun ls hl => ?_)
  have hloop : ∀ (k i : Nat) (x : Int32) (g : Nat → Int32) (H : Heap) (locs : List Loc) (ls : Array Slot), n - i < k → i ≤ n → x = nI i → (∀ j, j < i → g j = v) → lv_has ls 4 [(3, .int (nI n)), (2, .int x), (0, .ref a), (1, .int v)] → va_P D vwCl [(a, .inl (cA, n, .inl g))] H → va_D A [(a, .inl (cA, n, .inl g))] → va_S A s.heap H locs → W p l e rm_fill s m #[.ref a, .int v] below meth c H locs 0 0 (MQ below (va_Qv (fun _ : Unit => True) (fun _ t => va_P D vwCl [(a, .inl (cA, n, .inl fun _ => v))] t.heap ∧ va_K D vwCl [(cA, .int)] t ∧ va_D A [(a, .inl (cA, n, .inl fun _ => v))]) A) #[.ref a, .int v] s 0 0 A) (F0 m 5 ls []) := by
    intro k
    induction k with
    | zero => intro i x g H locs ls h1; omega
    | succ k ih =>
      intro i x g H locs ls h1 h2 hxi hg hl hP hD hS
      refine lv_iload_n hx hb dJ7_fill_53178_5 rfl (lv_at hl 1 rfl) ?_
      refine lv_iload_n hx hb dJ7_fill_53178_6 rfl (lv_at hl 0 rfl) ?_
      refine lv_icmp_ge (tgt := 20) hx hb dJ7_fill_53178_7 (by decide) (fun h => ?_) (fun h => ?_)
      · have hi : i = n := by
          rcases Nat.lt_or_ge i n with q | q
          · exact absurd (by rw [hxi] at h; exact h) (nI_ge q hn)
          · omega
        subst hi
        have hP := va_P_arr hP 0 rfl hg
        have hD : va_D A [(a, .inl (cA, i, .inl fun _ => v))] := hD.set (p := 0) (a := a) (e0 := .inl (cA, i, .inl g)) (e := .inl (cA, i, .inl fun _ => v)) rfl
        exact W.vret hx hb hr (fun t ht hW => ⟨⟨(), rfl, trivial, by rw [ht]; exact hP, va_K.moved hW.alike hK, hD⟩, hS.F ht⟩) hS.2.2 dJ7_fill_53178_20 hlk
      · have hi : i < n := by
          rcases Nat.lt_or_ge i n with q | q
          · exact q
          · exact absurd (by rw [hxi]; exact nI_le q (by omega)) h
        have hv : vp_in x n := by rw [hxi]; exact vp_in_nI hi hn
        have hc : x.toNatClampNeg = i := by rw [hxi]; exact nI_clamp (by omega)
        refine lv_aload_n hx hb dJ7_fill_53178_10 rfl (lv_at hl 2 rfl) ?_
        refine lv_iload_n hx hb dJ7_fill_53178_11 rfl (lv_at hl 1 rfl) ?_
        refine lv_iload_n hx hb dJ7_fill_53178_12 rfl (lv_at hl 3 rfl) ?_
        refine va_iast hx hb hK hP hD hS 0 0 rfl rfl hv dJ7_fill_53178_13 (fun H locs hP hD hS => ?_)
        obtain ⟨x2, ex2⟩ : ∃ y : Int32, y = x + 1 := ⟨_, rfl⟩
        refine lv_iinc (v := x2) (lv' := [(2, .int x2), (3, .int (nI n)), (0, .ref a), (1, .int v)]) hx hb dJ7_fill_53178_14 hl (k := 1) rfl (by rw [ex2]; rfl) (by decide) rfl (fun ls hl => ?_)
        refine lv_goto (tgt := 5) hx hb dJ7_fill_53178_17 (by decide) ?_
        exact ih (i + 1) x2 (upd g x.toNatClampNeg v) H locs ls (by omega) (by omega) (by rw [ex2, hxi]; exact nI_1 i) (fun j hj => by
          rw [hc]
          rcases Nat.lt_or_ge j i with q | q
          · rw [pk_un (by omega)]; exact hg j q
          · rw [show j = i by omega]; exact pk_us) (lv_sub hl [1, 0, 2, 3] rfl) hP hD hS
  exact hloop (n + 1) 0 0 f _ _ ls (by omega) (Nat.zero_le _) nI_0.symm (fun j hj => absurd hj (Nat.not_lt_zero j)) hl hP hD hS
