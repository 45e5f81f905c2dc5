abbrev TB : List Cond := wsL_law
set_option maxRecDepth 20000 in
theorem tb_all : wsL_law.all goodWord = true := by decide +kernel
theorem tb_good {ws : List Cond} (h : ∀ w ∈ ws, w ∈ TB) : GoodIn TB ws := fun w hw => ⟨h w hw, good_of_word (List.all_eq_true.mp tb_all w (h w hw))⟩
theorem gi_v {own C : String} {idx ml : Nat} {y : MethodName} {b : ByteArray} {ret : Option FieldType} (h1 : Cond.methodLink own idx y ∈ TB) (h2 : Cond.instanceMethod y ∈ TB) (h3 : Cond.selects C y y ∈ TB) (h4 : Cond.initialized C ∈ TB) (h5 : Cond.code y b ml ret ∈ TB) : GoodIn TB (wsV own idx C y (Cond.code y b ml ret :: TB)) := tb_good (List.forall_mem_cons.mpr ⟨h1, List.forall_mem_cons.mpr ⟨h2, List.forall_mem_cons.mpr ⟨h3, List.forall_mem_cons.mpr ⟨h4, List.forall_mem_cons.mpr ⟨h5, fun _ h => h⟩⟩⟩⟩⟩)
theorem gi_s {own : String} {idx ml : Nat} {y : MethodName} {b : ByteArray} {ret : Option FieldType} (h1 : Cond.methodLink own idx y ∈ TB) (h2 : Cond.static y ∈ TB) (h4 : Cond.initialized y.cls ∈ TB) (h5 : Cond.code y b ml ret ∈ TB) : GoodIn TB (va_wsS own idx y (Cond.code y b ml ret :: TB)) := tb_good (List.forall_mem_cons.mpr ⟨h1, List.forall_mem_cons.mpr ⟨h2, List.forall_mem_cons.mpr ⟨h4, List.forall_mem_cons.mpr ⟨h5, fun _ h => h⟩⟩⟩⟩)
theorem tb_1 : ∀ w ∈ wsL_law_r1, w ∈ TB := fun _ h => List.mem_append_left _ (List.mem_append_left _ (List.mem_append_left _ (List.mem_append_left _ (List.mem_append_left _ (List.mem_append_left _ (List.mem_append_left _ (List.mem_append_left _ (List.mem_append_left _ (List.mem_append_left _ (List.mem_append_left _ (List.mem_append_left _ h)))))))))))
theorem tb_2 : ∀ w ∈ wsL_law_r2, w ∈ TB := fun _ h => List.mem_append_left _ (List.mem_append_left _ (List.mem_append_left _ (List.mem_append_left _ (List.mem_append_left _ (List.mem_append_left _ (List.mem_append_left _ (List.mem_append_left _ (List.mem_append_left _ (List.mem_append_left _ (List.mem_append_left _ (List.mem_append_right _ (List.mem_append_left _ h))))))))))))
theorem tb_3 : ∀ w ∈ wsL_law_r3, w ∈ TB := fun _ h => List.mem_append_left _ (List.mem_append_left _ (List.mem_append_left _ (List.mem_append_left _ (List.mem_append_left _ (List.mem_append_left _ (List.mem_append_left _ (List.mem_append_left _ (List.mem_append_left _ (List.mem_append_left _ (List.mem_append_left _ (List.mem_append_right _ (List.mem_append_right _ (List.mem_append_left _ h)))))))))))))
theorem tb_4 : ∀ w ∈ wsL_law_r4, w ∈ TB := fun _ h => List.mem_append_left _ (List.mem_append_left _ (List.mem_append_left _ (List.mem_append_left _ (List.mem_append_left _ (List.mem_append_left _ (List.mem_append_left _ (List.mem_append_left _ (List.mem_append_left _ (List.mem_append_left _ (List.mem_append_left _ (List.mem_append_right _ (List.mem_append_right _ (List.mem_append_right _ (List.mem_append_left _ h))))))))))))))
theorem tb_5 : ∀ w ∈ wsL_law_r5, w ∈ TB := fun _ h => List.mem_append_left _ (List.mem_append_left _ (List.mem_append_left _ (List.mem_append_left _ (List.mem_append_left _ (List.mem_append_left _ (List.mem_append_left _ (List.mem_append_left _ (List.mem_append_left _ (List.mem_append_left _ (List.mem_append_left _ (List.mem_append_right _ (List.mem_append_right _ (List.mem_append_right _ (List.mem_append_right _ (List.mem_append_left _ h)))))))))))))))
theorem tb_6 : ∀ w ∈ wsL_law_r6, w ∈ TB := fun _ h => List.mem_append_left _ (List.mem_append_left _ (List.mem_append_left _ (List.mem_append_left _ (List.mem_append_left _ (List.mem_append_left _ (List.mem_append_left _ (List.mem_append_left _ (List.mem_append_left _ (List.mem_append_left _ (List.mem_append_left _ (List.mem_append_right _ (List.mem_append_right _ (List.mem_append_right _ (List.mem_append_right _ (List.mem_append_right _ (List.mem_append_left _ h))))))))))))))))
theorem tb_7 : ∀ w ∈ wsL_law_r7, w ∈ TB := fun _ h => List.mem_append_left _ (List.mem_append_left _ (List.mem_append_left _ (List.mem_append_left _ (List.mem_append_left _ (List.mem_append_left _ (List.mem_append_left _ (List.mem_append_left _ (List.mem_append_left _ (List.mem_append_left _ (List.mem_append_left _ (List.mem_append_right _ (List.mem_append_right _ (List.mem_append_right _ (List.mem_append_right _ (List.mem_append_right _ (List.mem_append_right _ (List.mem_append_left _ h)))))))))))))))))
theorem tb_8 : ∀ w ∈ wsL_law_r8, w ∈ TB := fun _ h => List.mem_append_left _ (List.mem_append_left _ (List.mem_append_left _ (List.mem_append_left _ (List.mem_append_left _ (List.mem_append_left _ (List.mem_append_left _ (List.mem_append_left _ (List.mem_append_left _ (List.mem_append_left _ (List.mem_append_left _ (List.mem_append_right _ (List.mem_append_right _ (List.mem_append_right _ (List.mem_append_right _ (List.mem_append_right _ (List.mem_append_right _ (List.mem_append_right _ (List.mem_append_left _ h))))))))))))))))))
theorem tb_9 : ∀ w ∈ wsL_law_r9, w ∈ TB := fun _ h => List.mem_append_left _ (List.mem_append_left _ (List.mem_append_left _ (List.mem_append_left _ (List.mem_append_left _ (List.mem_append_left _ (List.mem_append_left _ (List.mem_append_left _ (List.mem_append_left _ (List.mem_append_left _ (List.mem_append_left _ (List.mem_append_right _ (List.mem_append_right _ (List.mem_append_right _ (List.mem_append_right _ (List.mem_append_right _ (List.mem_append_right _ (List.mem_append_right _ (List.mem_append_right _ (List.mem_append_left _ h)))))))))))))))))))
theorem tb_10 : ∀ w ∈ wsL_law_r10, w ∈ TB := fun _ h => List.mem_append_left _ (List.mem_append_left _ (List.mem_append_left _ (List.mem_append_left _ (List.mem_append_left _ (List.mem_append_left _ (List.mem_append_left _ (List.mem_append_left _ (List.mem_append_left _ (List.mem_append_left _ (List.mem_append_left _ (List.mem_append_right _ (List.mem_append_right _ (List.mem_append_right _ (List.mem_append_right _ (List.mem_append_right _ (List.mem_append_right _ (List.mem_append_right _ (List.mem_append_right _ (List.mem_append_right _ (List.mem_append_left _ h))))))))))))))))))))
theorem tb_11 : ∀ w ∈ wsL_law_r11, w ∈ TB := fun _ h => List.mem_append_left _ (List.mem_append_left _ (List.mem_append_left _ (List.mem_append_left _ (List.mem_append_left _ (List.mem_append_left _ (List.mem_append_left _ (List.mem_append_left _ (List.mem_append_left _ (List.mem_append_left _ (List.mem_append_left _ (List.mem_append_right _ (List.mem_append_right _ (List.mem_append_right _ (List.mem_append_right _ (List.mem_append_right _ (List.mem_append_right _ (List.mem_append_right _ (List.mem_append_right _ (List.mem_append_right _ (List.mem_append_right _ (List.mem_append_left _ h)))))))))))))))))))))
theorem tb_12 : ∀ w ∈ wsL_law_r12, w ∈ TB := fun _ h => List.mem_append_left _ (List.mem_append_left _ (List.mem_append_left _ (List.mem_append_left _ (List.mem_append_left _ (List.mem_append_left _ (List.mem_append_left _ (List.mem_append_left _ (List.mem_append_left _ (List.mem_append_left _ (List.mem_append_left _ (List.mem_append_right _ (List.mem_append_right _ (List.mem_append_right _ (List.mem_append_right _ (List.mem_append_right _ (List.mem_append_right _ (List.mem_append_right _ (List.mem_append_right _ (List.mem_append_right _ (List.mem_append_right _ (List.mem_append_right _ (List.mem_append_left _ h))))))))))))))))))))))
theorem tb_13 : ∀ w ∈ wsL_law_r13, w ∈ TB := fun _ h => List.mem_append_left _ (List.mem_append_left _ (List.mem_append_left _ (List.mem_append_left _ (List.mem_append_left _ (List.mem_append_left _ (List.mem_append_left _ (List.mem_append_left _ (List.mem_append_left _ (List.mem_append_left _ (List.mem_append_left _ (List.mem_append_right _ (List.mem_append_right _ (List.mem_append_right _ (List.mem_append_right _ (List.mem_append_right _ (List.mem_append_right _ (List.mem_append_right _ (List.mem_append_right _ (List.mem_append_right _ (List.mem_append_right _ (List.mem_append_right _ (List.mem_append_right _ (List.mem_append_left _ h)))))))))))))))))))))))
theorem tb_14 : ∀ w ∈ wsL_law_r14, w ∈ TB := fun _ h => List.mem_append_left _ (List.mem_append_left _ (List.mem_append_left _ (List.mem_append_left _ (List.mem_append_left _ (List.mem_append_left _ (List.mem_append_left _ (List.mem_append_left _ (List.mem_append_left _ (List.mem_append_left _ (List.mem_append_left _ (List.mem_append_right _ (List.mem_append_right _ (List.mem_append_right _ (List.mem_append_right _ (List.mem_append_right _ (List.mem_append_right _ (List.mem_append_right _ (List.mem_append_right _ (List.mem_append_right _ (List.mem_append_right _ (List.mem_append_right _ (List.mem_append_right _ (List.mem_append_right _ (List.mem_append_left _ h))))))))))))))))))))))))
theorem tb_15 : ∀ w ∈ wsL_law_r15, w ∈ TB := fun _ h => List.mem_append_left _ (List.mem_append_left _ (List.mem_append_left _ (List.mem_append_left _ (List.mem_append_left _ (List.mem_append_left _ (List.mem_append_left _ (List.mem_append_left _ (List.mem_append_left _ (List.mem_append_left _ (List.mem_append_left _ (List.mem_append_right _ (List.mem_append_right _ (List.mem_append_right _ (List.mem_append_right _ (List.mem_append_right _ (List.mem_append_right _ (List.mem_append_right _ (List.mem_append_right _ (List.mem_append_right _ (List.mem_append_right _ (List.mem_append_right _ (List.mem_append_right _ (List.mem_append_right _ (List.mem_append_right _ (List.mem_append_left _ h)))))))))))))))))))))))))
theorem tb_16 : ∀ w ∈ wsL_law_r16, w ∈ TB := fun _ h => List.mem_append_left _ (List.mem_append_left _ (List.mem_append_left _ (List.mem_append_left _ (List.mem_append_left _ (List.mem_append_left _ (List.mem_append_left _ (List.mem_append_left _ (List.mem_append_left _ (List.mem_append_left _ (List.mem_append_left _ (List.mem_append_right _ (List.mem_append_right _ (List.mem_append_right _ (List.mem_append_right _ (List.mem_append_right _ (List.mem_append_right _ (List.mem_append_right _ (List.mem_append_right _ (List.mem_append_right _ (List.mem_append_right _ (List.mem_append_right _ (List.mem_append_right _ (List.mem_append_right _ (List.mem_append_right _ (List.mem_append_right _ (List.mem_append_left _ h))))))))))))))))))))))))))
theorem tb_17 : ∀ w ∈ wsL_law_r17, w ∈ TB := fun _ h => List.mem_append_left _ (List.mem_append_left _ (List.mem_append_left _ (List.mem_append_left _ (List.mem_append_left _ (List.mem_append_left _ (List.mem_append_left _ (List.mem_append_left _ (List.mem_append_left _ (List.mem_append_left _ (List.mem_append_left _ (List.mem_append_right _ (List.mem_append_right _ (List.mem_append_right _ (List.mem_append_right _ (List.mem_append_right _ (List.mem_append_right _ (List.mem_append_right _ (List.mem_append_right _ (List.mem_append_right _ (List.mem_append_right _ (List.mem_append_right _ (List.mem_append_right _ (List.mem_append_right _ (List.mem_append_right _ (List.mem_append_right _ (List.mem_append_right _ (List.mem_append_left _ h)))))))))))))))))))))))))))
theorem tb_18 : ∀ w ∈ wsL_law_r18, w ∈ TB := fun _ h => List.mem_append_left _ (List.mem_append_left _ (List.mem_append_left _ (List.mem_append_left _ (List.mem_append_left _ (List.mem_append_left _ (List.mem_append_left _ (List.mem_append_left _ (List.mem_append_left _ (List.mem_append_left _ (List.mem_append_left _ (List.mem_append_right _ (List.mem_append_right _ (List.mem_append_right _ (List.mem_append_right _ (List.mem_append_right _ (List.mem_append_right _ (List.mem_append_right _ (List.mem_append_right _ (List.mem_append_right _ (List.mem_append_right _ (List.mem_append_right _ (List.mem_append_right _ (List.mem_append_right _ (List.mem_append_right _ (List.mem_append_right _ (List.mem_append_right _ (List.mem_append_right _ (List.mem_append_left _ h))))))))))))))))))))))))))))
theorem tb_19 : ∀ w ∈ wsL_law_r19, w ∈ TB := fun _ h => List.mem_append_left _ (List.mem_append_left _ (List.mem_append_left _ (List.mem_append_left _ (List.mem_append_left _ (List.mem_append_left _ (List.mem_append_left _ (List.mem_append_left _ (List.mem_append_left _ (List.mem_append_left _ (List.mem_append_left _ (List.mem_append_right _ (List.mem_append_right _ (List.mem_append_right _ (List.mem_append_right _ (List.mem_append_right _ (List.mem_append_right _ (List.mem_append_right _ (List.mem_append_right _ (List.mem_append_right _ (List.mem_append_right _ (List.mem_append_right _ (List.mem_append_right _ (List.mem_append_right _ (List.mem_append_right _ (List.mem_append_right _ (List.mem_append_right _ (List.mem_append_right _ (List.mem_append_right _ (List.mem_append_left _ h)))))))))))))))))))))))))))))
theorem tb_20 : ∀ w ∈ wsL_law_r20, w ∈ TB := fun _ h => List.mem_append_left _ (List.mem_append_left _ (List.mem_append_left _ (List.mem_append_left _ (List.mem_append_left _ (List.mem_append_left _ (List.mem_append_left _ (List.mem_append_left _ (List.mem_append_left _ (List.mem_append_left _ (List.mem_append_left _ (List.mem_append_right _ (List.mem_append_right _ (List.mem_append_right _ (List.mem_append_right _ (List.mem_append_right _ (List.mem_append_right _ (List.mem_append_right _ (List.mem_append_right _ (List.mem_append_right _ (List.mem_append_right _ (List.mem_append_right _ (List.mem_append_right _ (List.mem_append_right _ (List.mem_append_right _ (List.mem_append_right _ (List.mem_append_right _ (List.mem_append_right _ (List.mem_append_right _ (List.mem_append_right _ (List.mem_append_left _ h))))))))))))))))))))))))))))))
theorem tb_21 : ∀ w ∈ wsL_law_r21, w ∈ TB := fun _ h => List.mem_append_left _ (List.mem_append_left _ (List.mem_append_left _ (List.mem_append_left _ (List.mem_append_left _ (List.mem_append_left _ (List.mem_append_left _ (List.mem_append_left _ (List.mem_append_left _ (List.mem_append_left _ (List.mem_append_left _ (List.mem_append_right _ (List.mem_append_right _ (List.mem_append_right _ (List.mem_append_right _ (List.mem_append_right _ (List.mem_append_right _ (List.mem_append_right _ (List.mem_append_right _ (List.mem_append_right _ (List.mem_append_right _ (List.mem_append_right _ (List.mem_append_right _ (List.mem_append_right _ (List.mem_append_right _ (List.mem_append_right _ (List.mem_append_right _ (List.mem_append_right _ (List.mem_append_right _ (List.mem_append_right _ (List.mem_append_right _ (List.mem_append_left _ h)))))))))))))))))))))))))))))))
theorem tb_22 : ∀ w ∈ wsL_law_r22, w ∈ TB := fun _ h => List.mem_append_left _ (List.mem_append_left _ (List.mem_append_left _ (List.mem_append_left _ (List.mem_append_left _ (List.mem_append_left _ (List.mem_append_left _ (List.mem_append_left _ (List.mem_append_left _ (List.mem_append_left _ (List.mem_append_left _ (List.mem_append_right _ (List.mem_append_right _ (List.mem_append_right _ (List.mem_append_right _ (List.mem_append_right _ (List.mem_append_right _ (List.mem_append_right _ (List.mem_append_right _ (List.mem_append_right _ (List.mem_append_right _ (List.mem_append_right _ (List.mem_append_right _ (List.mem_append_right _ (List.mem_append_right _ (List.mem_append_right _ (List.mem_append_right _ (List.mem_append_right _ (List.mem_append_right _ (List.mem_append_right _ (List.mem_append_right _ (List.mem_append_right _ (List.mem_append_left _ h))))))))))))))))))))))))))))))))
theorem tb_23 : ∀ w ∈ wsL_law_r23, w ∈ TB := fun _ h => List.mem_append_left _ (List.mem_append_left _ (List.mem_append_left _ (List.mem_append_left _ (List.mem_append_left _ (List.mem_append_left _ (List.mem_append_left _ (List.mem_append_left _ (List.mem_append_left _ (List.mem_append_left _ (List.mem_append_left _ (List.mem_append_right _ (List.mem_append_right _ (List.mem_append_right _ (List.mem_append_right _ (List.mem_append_right _ (List.mem_append_right _ (List.mem_append_right _ (List.mem_append_right _ (List.mem_append_right _ (List.mem_append_right _ (List.mem_append_right _ (List.mem_append_right _ (List.mem_append_right _ (List.mem_append_right _ (List.mem_append_right _ (List.mem_append_right _ (List.mem_append_right _ (List.mem_append_right _ (List.mem_append_right _ (List.mem_append_right _ (List.mem_append_right _ (List.mem_append_right _ (List.mem_append_left _ h)))))))))))))))))))))))))))))))))
theorem tb_24 : ∀ w ∈ wsL_law_r24, w ∈ TB := fun _ h => List.mem_append_left _ (List.mem_append_left _ (List.mem_append_left _ (List.mem_append_left _ (List.mem_append_left _ (List.mem_append_left _ (List.mem_append_left _ (List.mem_append_left _ (List.mem_append_left _ (List.mem_append_left _ (List.mem_append_left _ (List.mem_append_right _ (List.mem_append_right _ (List.mem_append_right _ (List.mem_append_right _ (List.mem_append_right _ (List.mem_append_right _ (List.mem_append_right _ (List.mem_append_right _ (List.mem_append_right _ (List.mem_append_right _ (List.mem_append_right _ (List.mem_append_right _ (List.mem_append_right _ (List.mem_append_right _ (List.mem_append_right _ (List.mem_append_right _ (List.mem_append_right _ (List.mem_append_right _ (List.mem_append_right _ (List.mem_append_right _ (List.mem_append_right _ (List.mem_append_right _ (List.mem_append_right _ (List.mem_append_left _ h))))))))))))))))))))))))))))))))))
theorem tb_25 : ∀ w ∈ wsL_law_r25, w ∈ TB := fun _ h => List.mem_append_left _ (List.mem_append_left _ (List.mem_append_left _ (List.mem_append_left _ (List.mem_append_left _ (List.mem_append_left _ (List.mem_append_left _ (List.mem_append_left _ (List.mem_append_left _ (List.mem_append_left _ (List.mem_append_left _ (List.mem_append_right _ (List.mem_append_right _ (List.mem_append_right _ (List.mem_append_right _ (List.mem_append_right _ (List.mem_append_right _ (List.mem_append_right _ (List.mem_append_right _ (List.mem_append_right _ (List.mem_append_right _ (List.mem_append_right _ (List.mem_append_right _ (List.mem_append_right _ (List.mem_append_right _ (List.mem_append_right _ (List.mem_append_right _ (List.mem_append_right _ (List.mem_append_right _ (List.mem_append_right _ (List.mem_append_right _ (List.mem_append_right _ (List.mem_append_right _ (List.mem_append_right _ (List.mem_append_right _ (List.mem_append_left _ h)))))))))))))))))))))))))))))))))))
theorem tb_26 : ∀ w ∈ wsL_law_r26, w ∈ TB := fun _ h => List.mem_append_left _ (List.mem_append_left _ (List.mem_append_left _ (List.mem_append_left _ (List.mem_append_left _ (List.mem_append_left _ (List.mem_append_left _ (List.mem_append_left _ (List.mem_append_left _ (List.mem_append_left _ (List.mem_append_left _ (List.mem_append_right _ (List.mem_append_right _ (List.mem_append_right _ (List.mem_append_right _ (List.mem_append_right _ (List.mem_append_right _ (List.mem_append_right _ (List.mem_append_right _ (List.mem_append_right _ (List.mem_append_right _ (List.mem_append_right _ (List.mem_append_right _ (List.mem_append_right _ (List.mem_append_right _ (List.mem_append_right _ (List.mem_append_right _ (List.mem_append_right _ (List.mem_append_right _ (List.mem_append_right _ (List.mem_append_right _ (List.mem_append_right _ (List.mem_append_right _ (List.mem_append_right _ (List.mem_append_right _ (List.mem_append_right _ (List.mem_append_left _ h))))))))))))))))))))))))))))))))))))
theorem tb_27 : ∀ w ∈ wsL_law_r27, w ∈ TB := fun _ h => List.mem_append_left _ (List.mem_append_left _ (List.mem_append_left _ (List.mem_append_left _ (List.mem_append_left _ (List.mem_append_left _ (List.mem_append_left _ (List.mem_append_left _ (List.mem_append_left _ (List.mem_append_left _ (List.mem_append_left _ (List.mem_append_right _ (List.mem_append_right _ (List.mem_append_right _ (List.mem_append_right _ (List.mem_append_right _ (List.mem_append_right _ (List.mem_append_right _ (List.mem_append_right _ (List.mem_append_right _ (List.mem_append_right _ (List.mem_append_right _ (List.mem_append_right _ (List.mem_append_right _ (List.mem_append_right _ (List.mem_append_right _ (List.mem_append_right _ (List.mem_append_right _ (List.mem_append_right _ (List.mem_append_right _ (List.mem_append_right _ (List.mem_append_right _ (List.mem_append_right _ (List.mem_append_right _ (List.mem_append_right _ (List.mem_append_right _ (List.mem_append_right _ (List.mem_append_left _ h)))))))))))))))))))))))))))))))))))))
theorem tb_28 : ∀ w ∈ wsL_law_r28, w ∈ TB := fun _ h => List.mem_append_left _ (List.mem_append_left _ (List.mem_append_left _ (List.mem_append_left _ (List.mem_append_left _ (List.mem_append_left _ (List.mem_append_left _ (List.mem_append_left _ (List.mem_append_left _ (List.mem_append_left _ (List.mem_append_left _ (List.mem_append_right _ (List.mem_append_right _ (List.mem_append_right _ (List.mem_append_right _ (List.mem_append_right _ (List.mem_append_right _ (List.mem_append_right _ (List.mem_append_right _ (List.mem_append_right _ (List.mem_append_right _ (List.mem_append_right _ (List.mem_append_right _ (List.mem_append_right _ (List.mem_append_right _ (List.mem_append_right _ (List.mem_append_right _ (List.mem_append_right _ (List.mem_append_right _ (List.mem_append_right _ (List.mem_append_right _ (List.mem_append_right _ (List.mem_append_right _ (List.mem_append_right _ (List.mem_append_right _ (List.mem_append_right _ (List.mem_append_right _ (List.mem_append_right _ (List.mem_append_left _ h))))))))))))))))))))))))))))))))))))))
theorem tb_29 : ∀ w ∈ wsL_law_r29, w ∈ TB := fun _ h => List.mem_append_left _ (List.mem_append_left _ (List.mem_append_left _ (List.mem_append_left _ (List.mem_append_left _ (List.mem_append_left _ (List.mem_append_left _ (List.mem_append_left _ (List.mem_append_left _ (List.mem_append_left _ (List.mem_append_left _ (List.mem_append_right _ (List.mem_append_right _ (List.mem_append_right _ (List.mem_append_right _ (List.mem_append_right _ (List.mem_append_right _ (List.mem_append_right _ (List.mem_append_right _ (List.mem_append_right _ (List.mem_append_right _ (List.mem_append_right _ (List.mem_append_right _ (List.mem_append_right _ (List.mem_append_right _ (List.mem_append_right _ (List.mem_append_right _ (List.mem_append_right _ (List.mem_append_right _ (List.mem_append_right _ (List.mem_append_right _ (List.mem_append_right _ (List.mem_append_right _ (List.mem_append_right _ (List.mem_append_right _ (List.mem_append_right _ (List.mem_append_right _ (List.mem_append_right _ (List.mem_append_right _ (List.mem_append_left _ h)))))))))))))))))))))))))))))))))))))))
theorem tb_30 : ∀ w ∈ wsL_law_r30, w ∈ TB := fun _ h => List.mem_append_left _ (List.mem_append_left _ (List.mem_append_left _ (List.mem_append_left _ (List.mem_append_left _ (List.mem_append_left _ (List.mem_append_left _ (List.mem_append_left _ (List.mem_append_left _ (List.mem_append_left _ (List.mem_append_left _ (List.mem_append_right _ (List.mem_append_right _ (List.mem_append_right _ (List.mem_append_right _ (List.mem_append_right _ (List.mem_append_right _ (List.mem_append_right _ (List.mem_append_right _ (List.mem_append_right _ (List.mem_append_right _ (List.mem_append_right _ (List.mem_append_right _ (List.mem_append_right _ (List.mem_append_right _ (List.mem_append_right _ (List.mem_append_right _ (List.mem_append_right _ (List.mem_append_right _ (List.mem_append_right _ (List.mem_append_right _ (List.mem_append_right _ (List.mem_append_right _ (List.mem_append_right _ (List.mem_append_right _ (List.mem_append_right _ (List.mem_append_right _ (List.mem_append_right _ (List.mem_append_right _ (List.mem_append_right _ (List.mem_append_left _ h))))))))))))))))))))))))))))))))))))))))
theorem tb_31 : ∀ w ∈ wsL_law_r31, w ∈ TB := fun _ h => List.mem_append_left _ (List.mem_append_left _ (List.mem_append_left _ (List.mem_append_left _ (List.mem_append_left _ (List.mem_append_left _ (List.mem_append_left _ (List.mem_append_left _ (List.mem_append_left _ (List.mem_append_left _ (List.mem_append_left _ (List.mem_append_right _ (List.mem_append_right _ (List.mem_append_right _ (List.mem_append_right _ (List.mem_append_right _ (List.mem_append_right _ (List.mem_append_right _ (List.mem_append_right _ (List.mem_append_right _ (List.mem_append_right _ (List.mem_append_right _ (List.mem_append_right _ (List.mem_append_right _ (List.mem_append_right _ (List.mem_append_right _ (List.mem_append_right _ (List.mem_append_right _ (List.mem_append_right _ (List.mem_append_right _ (List.mem_append_right _ (List.mem_append_right _ (List.mem_append_right _ (List.mem_append_right _ (List.mem_append_right _ (List.mem_append_right _ (List.mem_append_right _ (List.mem_append_right _ (List.mem_append_right _ (List.mem_append_right _ (List.mem_append_right _ (List.mem_append_left _ h)))))))))))))))))))))))))))))))))))))))))
theorem tb_32 : ∀ w ∈ wsL_law_r32, w ∈ TB := fun _ h => List.mem_append_left _ (List.mem_append_left _ (List.mem_append_left _ (List.mem_append_left _ (List.mem_append_left _ (List.mem_append_left _ (List.mem_append_left _ (List.mem_append_left _ (List.mem_append_left _ (List.mem_append_left _ (List.mem_append_left _ (List.mem_append_right _ (List.mem_append_right _ (List.mem_append_right _ (List.mem_append_right _ (List.mem_append_right _ (List.mem_append_right _ (List.mem_append_right _ (List.mem_append_right _ (List.mem_append_right _ (List.mem_append_right _ (List.mem_append_right _ (List.mem_append_right _ (List.mem_append_right _ (List.mem_append_right _ (List.mem_append_right _ (List.mem_append_right _ (List.mem_append_right _ (List.mem_append_right _ (List.mem_append_right _ (List.mem_append_right _ (List.mem_append_right _ (List.mem_append_right _ (List.mem_append_right _ (List.mem_append_right _ (List.mem_append_right _ (List.mem_append_right _ (List.mem_append_right _ (List.mem_append_right _ (List.mem_append_right _ (List.mem_append_right _ (List.mem_append_right _ (List.mem_append_left _ h))))))))))))))))))))))))))))))))))))))))))
theorem tb_33 : ∀ w ∈ wsL_law_r33, w ∈ TB := fun _ h => List.mem_append_left _ (List.mem_append_left _ (List.mem_append_left _ (List.mem_append_left _ (List.mem_append_left _ (List.mem_append_left _ (List.mem_append_left _ (List.mem_append_left _ (List.mem_append_left _ (List.mem_append_left _ (List.mem_append_left _ (List.mem_append_right _ (List.mem_append_right _ (List.mem_append_right _ (List.mem_append_right _ (List.mem_append_right _ (List.mem_append_right _ (List.mem_append_right _ (List.mem_append_right _ (List.mem_append_right _ (List.mem_append_right _ (List.mem_append_right _ (List.mem_append_right _ (List.mem_append_right _ (List.mem_append_right _ (List.mem_append_right _ (List.mem_append_right _ (List.mem_append_right _ (List.mem_append_right _ (List.mem_append_right _ (List.mem_append_right _ (List.mem_append_right _ (List.mem_append_right _ (List.mem_append_right _ (List.mem_append_right _ (List.mem_append_right _ (List.mem_append_right _ (List.mem_append_right _ (List.mem_append_right _ (List.mem_append_right _ (List.mem_append_right _ (List.mem_append_right _ (List.mem_append_right _ (List.mem_append_left _ h)))))))))))))))))))))))))))))))))))))))))))
theorem tb_34 : ∀ w ∈ wsL_law_r34, w ∈ TB := fun _ h => List.mem_append_left _ (List.mem_append_left _ (List.mem_append_left _ (List.mem_append_left _ (List.mem_append_left _ (List.mem_append_left _ (List.mem_append_left _ (List.mem_append_left _ (List.mem_append_left _ (List.mem_append_left _ (List.mem_append_left _ (List.mem_append_right _ (List.mem_append_right _ (List.mem_append_right _ (List.mem_append_right _ (List.mem_append_right _ (List.mem_append_right _ (List.mem_append_right _ (List.mem_append_right _ (List.mem_append_right _ (List.mem_append_right _ (List.mem_append_right _ (List.mem_append_right _ (List.mem_append_right _ (List.mem_append_right _ (List.mem_append_right _ (List.mem_append_right _ (List.mem_append_right _ (List.mem_append_right _ (List.mem_append_right _ (List.mem_append_right _ (List.mem_append_right _ (List.mem_append_right _ (List.mem_append_right _ (List.mem_append_right _ (List.mem_append_right _ (List.mem_append_right _ (List.mem_append_right _ (List.mem_append_right _ (List.mem_append_right _ (List.mem_append_right _ (List.mem_append_right _ (List.mem_append_right _ (List.mem_append_right _ (List.mem_append_left _ h))))))))))))))))))))))))))))))))))))))))))))
theorem tb_35 : ∀ w ∈ wsL_law_r35, w ∈ TB := fun _ h => List.mem_append_left _ (List.mem_append_left _ (List.mem_append_left _ (List.mem_append_left _ (List.mem_append_left _ (List.mem_append_left _ (List.mem_append_left _ (List.mem_append_left _ (List.mem_append_left _ (List.mem_append_left _ (List.mem_append_left _ (List.mem_append_right _ (List.mem_append_right _ (List.mem_append_right _ (List.mem_append_right _ (List.mem_append_right _ (List.mem_append_right _ (List.mem_append_right _ (List.mem_append_right _ (List.mem_append_right _ (List.mem_append_right _ (List.mem_append_right _ (List.mem_append_right _ (List.mem_append_right _ (List.mem_append_right _ (List.mem_append_right _ (List.mem_append_right _ (List.mem_append_right _ (List.mem_append_right _ (List.mem_append_right _ (List.mem_append_right _ (List.mem_append_right _ (List.mem_append_right _ (List.mem_append_right _ (List.mem_append_right _ (List.mem_append_right _ (List.mem_append_right _ (List.mem_append_right _ (List.mem_append_right _ (List.mem_append_right _ (List.mem_append_right _ (List.mem_append_right _ (List.mem_append_right _ (List.mem_append_right _ (List.mem_append_right _ (List.mem_append_left _ h)))))))))))))))))))))))))))))))))))))))))))))
theorem tb_36 : ∀ w ∈ wsL_law_r36, w ∈ TB := fun _ h => List.mem_append_left _ (List.mem_append_left _ (List.mem_append_left _ (List.mem_append_left _ (List.mem_append_left _ (List.mem_append_left _ (List.mem_append_left _ (List.mem_append_left _ (List.mem_append_left _ (List.mem_append_left _ (List.mem_append_left _ (List.mem_append_right _ (List.mem_append_right _ (List.mem_append_right _ (List.mem_append_right _ (List.mem_append_right _ (List.mem_append_right _ (List.mem_append_right _ (List.mem_append_right _ (List.mem_append_right _ (List.mem_append_right _ (List.mem_append_right _ (List.mem_append_right _ (List.mem_append_right _ (List.mem_append_right _ (List.mem_append_right _ (List.mem_append_right _ (List.mem_append_right _ (List.mem_append_right _ (List.mem_append_right _ (List.mem_append_right _ (List.mem_append_right _ (List.mem_append_right _ (List.mem_append_right _ (List.mem_append_right _ (List.mem_append_right _ (List.mem_append_right _ (List.mem_append_right _ (List.mem_append_right _ (List.mem_append_right _ (List.mem_append_right _ (List.mem_append_right _ (List.mem_append_right _ (List.mem_append_right _ (List.mem_append_right _ (List.mem_append_right _ (List.mem_append_left _ h))))))))))))))))))))))))))))))))))))))))))))))
theorem tb_37 : ∀ w ∈ wsL_law_r37, w ∈ TB := fun _ h => List.mem_append_left _ (List.mem_append_left _ (List.mem_append_left _ (List.mem_append_left _ (List.mem_append_left _ (List.mem_append_left _ (List.mem_append_left _ (List.mem_append_left _ (List.mem_append_left _ (List.mem_append_left _ (List.mem_append_left _ (List.mem_append_right _ (List.mem_append_right _ (List.mem_append_right _ (List.mem_append_right _ (List.mem_append_right _ (List.mem_append_right _ (List.mem_append_right _ (List.mem_append_right _ (List.mem_append_right _ (List.mem_append_right _ (List.mem_append_right _ (List.mem_append_right _ (List.mem_append_right _ (List.mem_append_right _ (List.mem_append_right _ (List.mem_append_right _ (List.mem_append_right _ (List.mem_append_right _ (List.mem_append_right _ (List.mem_append_right _ (List.mem_append_right _ (List.mem_append_right _ (List.mem_append_right _ (List.mem_append_right _ (List.mem_append_right _ (List.mem_append_right _ (List.mem_append_right _ (List.mem_append_right _ (List.mem_append_right _ (List.mem_append_right _ (List.mem_append_right _ (List.mem_append_right _ (List.mem_append_right _ (List.mem_append_right _ (List.mem_append_right _ (List.mem_append_right _ (List.mem_append_left _ h)))))))))))))))))))))))))))))))))))))))))))))))
theorem tb_38 : ∀ w ∈ wsL_law_r38, w ∈ TB := fun _ h => List.mem_append_left _ (List.mem_append_left _ (List.mem_append_left _ (List.mem_append_left _ (List.mem_append_left _ (List.mem_append_left _ (List.mem_append_left _ (List.mem_append_left _ (List.mem_append_left _ (List.mem_append_left _ (List.mem_append_left _ (List.mem_append_right _ (List.mem_append_right _ (List.mem_append_right _ (List.mem_append_right _ (List.mem_append_right _ (List.mem_append_right _ (List.mem_append_right _ (List.mem_append_right _ (List.mem_append_right _ (List.mem_append_right _ (List.mem_append_right _ (List.mem_append_right _ (List.mem_append_right _ (List.mem_append_right _ (List.mem_append_right _ (List.mem_append_right _ (List.mem_append_right _ (List.mem_append_right _ (List.mem_append_right _ (List.mem_append_right _ (List.mem_append_right _ (List.mem_append_right _ (List.mem_append_right _ (List.mem_append_right _ (List.mem_append_right _ (List.mem_append_right _ (List.mem_append_right _ (List.mem_append_right _ (List.mem_append_right _ (List.mem_append_right _ (List.mem_append_right _ (List.mem_append_right _ (List.mem_append_right _ (List.mem_append_right _ (List.mem_append_right _ (List.mem_append_right _ (List.mem_append_right _ (List.mem_append_left _ h))))))))))))))))))))))))))))))))))))))))))))))))
theorem tb_39 : ∀ w ∈ wsL_law_r39, w ∈ TB := fun _ h => List.mem_append_left _ (List.mem_append_left _ (List.mem_append_left _ (List.mem_append_left _ (List.mem_append_left _ (List.mem_append_left _ (List.mem_append_left _ (List.mem_append_left _ (List.mem_append_left _ (List.mem_append_left _ (List.mem_append_left _ (List.mem_append_right _ (List.mem_append_right _ (List.mem_append_right _ (List.mem_append_right _ (List.mem_append_right _ (List.mem_append_right _ (List.mem_append_right _ (List.mem_append_right _ (List.mem_append_right _ (List.mem_append_right _ (List.mem_append_right _ (List.mem_append_right _ (List.mem_append_right _ (List.mem_append_right _ (List.mem_append_right _ (List.mem_append_right _ (List.mem_append_right _ (List.mem_append_right _ (List.mem_append_right _ (List.mem_append_right _ (List.mem_append_right _ (List.mem_append_right _ (List.mem_append_right _ (List.mem_append_right _ (List.mem_append_right _ (List.mem_append_right _ (List.mem_append_right _ (List.mem_append_right _ (List.mem_append_right _ (List.mem_append_right _ (List.mem_append_right _ (List.mem_append_right _ (List.mem_append_right _ (List.mem_append_right _ (List.mem_append_right _ (List.mem_append_right _ (List.mem_append_right _ (List.mem_append_right _ (List.mem_append_left _ h)))))))))))))))))))))))))))))))))))))))))))))))))
theorem tb_40 : ∀ w ∈ wsL_law_r40, w ∈ TB := fun _ h => List.mem_append_left _ (List.mem_append_left _ (List.mem_append_left _ (List.mem_append_left _ (List.mem_append_left _ (List.mem_append_left _ (List.mem_append_left _ (List.mem_append_left _ (List.mem_append_left _ (List.mem_append_left _ (List.mem_append_left _ (List.mem_append_right _ (List.mem_append_right _ (List.mem_append_right _ (List.mem_append_right _ (List.mem_append_right _ (List.mem_append_right _ (List.mem_append_right _ (List.mem_append_right _ (List.mem_append_right _ (List.mem_append_right _ (List.mem_append_right _ (List.mem_append_right _ (List.mem_append_right _ (List.mem_append_right _ (List.mem_append_right _ (List.mem_append_right _ (List.mem_append_right _ (List.mem_append_right _ (List.mem_append_right _ (List.mem_append_right _ (List.mem_append_right _ (List.mem_append_right _ (List.mem_append_right _ (List.mem_append_right _ (List.mem_append_right _ (List.mem_append_right _ (List.mem_append_right _ (List.mem_append_right _ (List.mem_append_right _ (List.mem_append_right _ (List.mem_append_right _ (List.mem_append_right _ (List.mem_append_right _ (List.mem_append_right _ (List.mem_append_right _ (List.mem_append_right _ (List.mem_append_right _ (List.mem_append_right _ (List.mem_append_right _ (List.mem_append_left _ h))))))))))))))))))))))))))))))))))))))))))))))))))
theorem tb_41 : ∀ w ∈ wsL_law_r41, w ∈ TB := fun _ h => List.mem_append_left _ (List.mem_append_left _ (List.mem_append_left _ (List.mem_append_left _ (List.mem_append_left _ (List.mem_append_left _ (List.mem_append_left _ (List.mem_append_left _ (List.mem_append_left _ (List.mem_append_left _ (List.mem_append_left _ (List.mem_append_right _ (List.mem_append_right _ (List.mem_append_right _ (List.mem_append_right _ (List.mem_append_right _ (List.mem_append_right _ (List.mem_append_right _ (List.mem_append_right _ (List.mem_append_right _ (List.mem_append_right _ (List.mem_append_right _ (List.mem_append_right _ (List.mem_append_right _ (List.mem_append_right _ (List.mem_append_right _ (List.mem_append_right _ (List.mem_append_right _ (List.mem_append_right _ (List.mem_append_right _ (List.mem_append_right _ (List.mem_append_right _ (List.mem_append_right _ (List.mem_append_right _ (List.mem_append_right _ (List.mem_append_right _ (List.mem_append_right _ (List.mem_append_right _ (List.mem_append_right _ (List.mem_append_right _ (List.mem_append_right _ (List.mem_append_right _ (List.mem_append_right _ (List.mem_append_right _ (List.mem_append_right _ (List.mem_append_right _ (List.mem_append_right _ (List.mem_append_right _ (List.mem_append_right _ (List.mem_append_right _ (List.mem_append_right _ (List.mem_append_left _ h)))))))))))))))))))))))))))))))))))))))))))))))))))
theorem tb_42 : ∀ w ∈ wsL_law_r42, w ∈ TB := fun _ h => List.mem_append_left _ (List.mem_append_left _ (List.mem_append_left _ (List.mem_append_left _ (List.mem_append_left _ (List.mem_append_left _ (List.mem_append_left _ (List.mem_append_left _ (List.mem_append_left _ (List.mem_append_left _ (List.mem_append_left _ (List.mem_append_right _ (List.mem_append_right _ (List.mem_append_right _ (List.mem_append_right _ (List.mem_append_right _ (List.mem_append_right _ (List.mem_append_right _ (List.mem_append_right _ (List.mem_append_right _ (List.mem_append_right _ (List.mem_append_right _ (List.mem_append_right _ (List.mem_append_right _ (List.mem_append_right _ (List.mem_append_right _ (List.mem_append_right _ (List.mem_append_right _ (List.mem_append_right _ (List.mem_append_right _ (List.mem_append_right _ (List.mem_append_right _ (List.mem_append_right _ (List.mem_append_right _ (List.mem_append_right _ (List.mem_append_right _ (List.mem_append_right _ (List.mem_append_right _ (List.mem_append_right _ (List.mem_append_right _ (List.mem_append_right _ (List.mem_append_right _ (List.mem_append_right _ (List.mem_append_right _ (List.mem_append_right _ (List.mem_append_right _ (List.mem_append_right _ (List.mem_append_right _ (List.mem_append_right _ (List.mem_append_right _ (List.mem_append_right _ (List.mem_append_right _ (List.mem_append_left _ h))))))))))))))))))))))))))))))))))))))))))))))))))))
theorem tb_43 : ∀ w ∈ wsL_law_r43, w ∈ TB := fun _ h => List.mem_append_left _ (List.mem_append_left _ (List.mem_append_left _ (List.mem_append_left _ (List.mem_append_left _ (List.mem_append_left _ (List.mem_append_left _ (List.mem_append_left _ (List.mem_append_left _ (List.mem_append_left _ (List.mem_append_left _ (List.mem_append_right _ (List.mem_append_right _ (List.mem_append_right _ (List.mem_append_right _ (List.mem_append_right _ (List.mem_append_right _ (List.mem_append_right _ (List.mem_append_right _ (List.mem_append_right _ (List.mem_append_right _ (List.mem_append_right _ (List.mem_append_right _ (List.mem_append_right _ (List.mem_append_right _ (List.mem_append_right _ (List.mem_append_right _ (List.mem_append_right _ (List.mem_append_right _ (List.mem_append_right _ (List.mem_append_right _ (List.mem_append_right _ (List.mem_append_right _ (List.mem_append_right _ (List.mem_append_right _ (List.mem_append_right _ (List.mem_append_right _ (List.mem_append_right _ (List.mem_append_right _ (List.mem_append_right _ (List.mem_append_right _ (List.mem_append_right _ (List.mem_append_right _ (List.mem_append_right _ (List.mem_append_right _ (List.mem_append_right _ (List.mem_append_right _ (List.mem_append_right _ (List.mem_append_right _ (List.mem_append_right _ (List.mem_append_right _ (List.mem_append_right _ (List.mem_append_right _ (List.mem_append_left _ h)))))))))))))))))))))))))))))))))))))))))))))))))))))
theorem tb_44 : ∀ w ∈ wsL_law_r44, w ∈ TB := fun _ h => List.mem_append_left _ (List.mem_append_left _ (List.mem_append_left _ (List.mem_append_left _ (List.mem_append_left _ (List.mem_append_left _ (List.mem_append_left _ (List.mem_append_left _ (List.mem_append_left _ (List.mem_append_left _ (List.mem_append_left _ (List.mem_append_right _ (List.mem_append_right _ (List.mem_append_right _ (List.mem_append_right _ (List.mem_append_right _ (List.mem_append_right _ (List.mem_append_right _ (List.mem_append_right _ (List.mem_append_right _ (List.mem_append_right _ (List.mem_append_right _ (List.mem_append_right _ (List.mem_append_right _ (List.mem_append_right _ (List.mem_append_right _ (List.mem_append_right _ (List.mem_append_right _ (List.mem_append_right _ (List.mem_append_right _ (List.mem_append_right _ (List.mem_append_right _ (List.mem_append_right _ (List.mem_append_right _ (List.mem_append_right _ (List.mem_append_right _ (List.mem_append_right _ (List.mem_append_right _ (List.mem_append_right _ (List.mem_append_right _ (List.mem_append_right _ (List.mem_append_right _ (List.mem_append_right _ (List.mem_append_right _ (List.mem_append_right _ (List.mem_append_right _ (List.mem_append_right _ (List.mem_append_right _ (List.mem_append_right _ (List.mem_append_right _ (List.mem_append_right _ (List.mem_append_right _ (List.mem_append_right _ (List.mem_append_right _ (List.mem_append_left _ h))))))))))))))))))))))))))))))))))))))))))))))))))))))
theorem tb_45 : ∀ w ∈ wsL_law_r45, w ∈ TB := fun _ h => List.mem_append_left _ (List.mem_append_left _ (List.mem_append_left _ (List.mem_append_left _ (List.mem_append_left _ (List.mem_append_left _ (List.mem_append_left _ (List.mem_append_left _ (List.mem_append_left _ (List.mem_append_left _ (List.mem_append_left _ (List.mem_append_right _ (List.mem_append_right _ (List.mem_append_right _ (List.mem_append_right _ (List.mem_append_right _ (List.mem_append_right _ (List.mem_append_right _ (List.mem_append_right _ (List.mem_append_right _ (List.mem_append_right _ (List.mem_append_right _ (List.mem_append_right _ (List.mem_append_right _ (List.mem_append_right _ (List.mem_append_right _ (List.mem_append_right _ (List.mem_append_right _ (List.mem_append_right _ (List.mem_append_right _ (List.mem_append_right _ (List.mem_append_right _ (List.mem_append_right _ (List.mem_append_right _ (List.mem_append_right _ (List.mem_append_right _ (List.mem_append_right _ (List.mem_append_right _ (List.mem_append_right _ (List.mem_append_right _ (List.mem_append_right _ (List.mem_append_right _ (List.mem_append_right _ (List.mem_append_right _ (List.mem_append_right _ (List.mem_append_right _ (List.mem_append_right _ (List.mem_append_right _ (List.mem_append_right _ (List.mem_append_right _ (List.mem_append_right _ (List.mem_append_right _ (List.mem_append_right _ (List.mem_append_right _ (List.mem_append_right _ (List.mem_append_left _ h)))))))))))))))))))))))))))))))))))))))))))))))))))))))
theorem tb_46 : ∀ w ∈ wsL_law_r46, w ∈ TB := fun _ h => List.mem_append_left _ (List.mem_append_left _ (List.mem_append_left _ (List.mem_append_left _ (List.mem_append_left _ (List.mem_append_left _ (List.mem_append_left _ (List.mem_append_left _ (List.mem_append_left _ (List.mem_append_left _ (List.mem_append_left _ (List.mem_append_right _ (List.mem_append_right _ (List.mem_append_right _ (List.mem_append_right _ (List.mem_append_right _ (List.mem_append_right _ (List.mem_append_right _ (List.mem_append_right _ (List.mem_append_right _ (List.mem_append_right _ (List.mem_append_right _ (List.mem_append_right _ (List.mem_append_right _ (List.mem_append_right _ (List.mem_append_right _ (List.mem_append_right _ (List.mem_append_right _ (List.mem_append_right _ (List.mem_append_right _ (List.mem_append_right _ (List.mem_append_right _ (List.mem_append_right _ (List.mem_append_right _ (List.mem_append_right _ (List.mem_append_right _ (List.mem_append_right _ (List.mem_append_right _ (List.mem_append_right _ (List.mem_append_right _ (List.mem_append_right _ (List.mem_append_right _ (List.mem_append_right _ (List.mem_append_right _ (List.mem_append_right _ (List.mem_append_right _ (List.mem_append_right _ (List.mem_append_right _ (List.mem_append_right _ (List.mem_append_right _ (List.mem_append_right _ (List.mem_append_right _ (List.mem_append_right _ (List.mem_append_right _ (List.mem_append_right _ (List.mem_append_right _ h)))))))))))))))))))))))))))))))))))))))))))))))))))))))
theorem lk_X9_12 : Cond.fieldLink RX9 12 "RegisterMachine" "program" "LRegisterMachine$Program;" ∈ TB := tb_1 _ (List.mem_of_getElem? (i := 16) rfl)
theorem lk_X9_21 : Cond.fieldLink RX9 21 "RegisterMachine" "writer" "LRegisterMachine$Writer;" ∈ TB := tb_1 _ (List.mem_of_getElem? (i := 20) rfl)
theorem lk_X9_28 : Cond.fieldLink RX9 28 "RegisterMachine" "world" "LRegisterMachine$World;" ∈ TB := tb_2 _ (List.mem_of_getElem? (i := 0) rfl)
theorem lk_X9_35 : Cond.fieldLink RX9 35 "RegisterMachine" "activity" "LRegisterMachine$Activity;" ∈ TB := tb_2 _ (List.mem_of_getElem? (i := 4) rfl)
theorem lk_X9_42 : Cond.fieldLink RX9 42 "RegisterMachine" "registerCode" "LRegisterMachine$RegisterCode;" ∈ TB := tb_2 _ (List.mem_of_getElem? (i := 8) rfl)
theorem lk_X9_51 : Cond.fieldLink RX9 51 "RegisterMachine" "compiler" "LRegisterMachine$Compiler;" ∈ TB := tb_2 _ (List.mem_of_getElem? (i := 12) rfl)
theorem lk_X9_60 : Cond.fieldLink RX9 60 "RegisterMachine" "stackRunner" "LRegisterMachine$StackRunner;" ∈ TB := tb_2 _ (List.mem_of_getElem? (i := 16) rfl)
theorem lk_X9_69 : Cond.fieldLink RX9 69 "RegisterMachine" "registerRunner" "LRegisterMachine$RegisterRunner;" ∈ TB := tb_2 _ (List.mem_of_getElem? (i := 20) rfl)
theorem lk_X9_73 : Cond.fieldLink RX9 73 "RegisterMachine" "arguments" "[J" ∈ TB := tb_2 _ (List.mem_of_getElem? (i := 22) rfl)
theorem lk_X9_77 : Cond.fieldLink RX9 77 "RegisterMachine" "argumentCount" "I" ∈ TB := tb_2 _ (List.mem_of_getElem? (i := 23) rfl)
theorem lk_X9_81 : Cond.fieldLink RX9 81 "RegisterMachine" "tier" "I" ∈ TB := tb_3 _ (List.mem_of_getElem? (i := 0) rfl)
theorem co_X8_start : Cond.code yX8_start cX8_start 5 (some .int) ∈ TB := tb_9 _ (List.mem_of_getElem? (i := 7) rfl)
theorem in_X8 : Cond.initialized RX8 ∈ TB := tb_1 _ (List.mem_of_getElem? (i := 19) rfl)
theorem hd_X8_start : yX8_start.cls = RX8 ∧ yX8_start.cls ≠ "java/lang/invoke/MethodHandle" ∧ yX8_start.cls ≠ "java/lang/invoke/VarHandle" ∧ (parseMethodDescriptor yX8_start.desc).map (fun d => d.parameters.length) = some 3 := by decide +kernel
theorem lk_X9_84 : Cond.methodLink RX9 84 yX8_start ∈ TB := tb_9 _ (List.mem_of_getElem? (i := 4) rfl)
theorem im_X8_start : Cond.instanceMethod yX8_start ∈ TB := tb_9 _ (List.mem_of_getElem? (i := 5) rfl)
theorem se_X8_start : Cond.selects RX8 yX8_start yX8_start ∈ TB := tb_9 _ (List.mem_of_getElem? (i := 6) rfl)
theorem gi_X9_84 : GoodIn TB (wsV RX9 84 RX8 yX8_start (Cond.code yX8_start cX8_start 5 (some .int) :: TB)) := gi_v lk_X9_84 im_X8_start se_X8_start in_X8 co_X8_start
theorem co_X8_write : Cond.code yX8_write cX8_write 5 (some .int) ∈ TB := tb_10 _ (List.mem_of_getElem? (i := 18) rfl)
theorem hd_X8_write : yX8_write.cls = RX8 ∧ yX8_write.cls ≠ "java/lang/invoke/MethodHandle" ∧ yX8_write.cls ≠ "java/lang/invoke/VarHandle" ∧ (parseMethodDescriptor yX8_write.desc).map (fun d => d.parameters.length) = some 3 := by decide +kernel
theorem lk_X9_88 : Cond.methodLink RX9 88 yX8_write ∈ TB := tb_10 _ (List.mem_of_getElem? (i := 15) rfl)
theorem im_X8_write : Cond.instanceMethod yX8_write ∈ TB := tb_10 _ (List.mem_of_getElem? (i := 16) rfl)
theorem se_X8_write : Cond.selects RX8 yX8_write yX8_write ∈ TB := tb_10 _ (List.mem_of_getElem? (i := 17) rfl)
theorem gi_X9_88 : GoodIn TB (wsV RX9 88 RX8 yX8_write (Cond.code yX8_write cX8_write 5 (some .int) :: TB)) := gi_v lk_X9_88 im_X8_write se_X8_write in_X8 co_X8_write
theorem co_X8_abandon : Cond.code yX8_abandon cX8_abandon 1 (some .boolean) ∈ TB := tb_19 _ (List.mem_of_getElem? (i := 20) rfl)
theorem hd_X8_abandon : yX8_abandon.cls = RX8 ∧ yX8_abandon.cls ≠ "java/lang/invoke/MethodHandle" ∧ yX8_abandon.cls ≠ "java/lang/invoke/VarHandle" ∧ (parseMethodDescriptor yX8_abandon.desc).map (fun d => d.parameters.length) = some 0 := by decide +kernel
theorem lk_X9_91 : Cond.methodLink RX9 91 yX8_abandon ∈ TB := tb_19 _ (List.mem_of_getElem? (i := 17) rfl)
theorem im_X8_abandon : Cond.instanceMethod yX8_abandon ∈ TB := tb_19 _ (List.mem_of_getElem? (i := 18) rfl)
theorem se_X8_abandon : Cond.selects RX8 yX8_abandon yX8_abandon ∈ TB := tb_19 _ (List.mem_of_getElem? (i := 19) rfl)
theorem gi_X9_91 : GoodIn TB (wsV RX9 91 RX8 yX8_abandon (Cond.code yX8_abandon cX8_abandon 1 (some .boolean) :: TB)) := gi_v lk_X9_91 im_X8_abandon se_X8_abandon in_X8 co_X8_abandon
theorem co_X3_isWhole : Cond.code yX3_isWhole cX3_isWhole 2 (some .boolean) ∈ TB := tb_20 _ (List.mem_of_getElem? (i := 9) rfl)
theorem in_X3 : Cond.initialized RX3 ∈ TB := tb_1 _ (List.mem_of_getElem? (i := 15) rfl)
theorem hd_X3_isWhole : yX3_isWhole.cls = RX3 ∧ yX3_isWhole.cls ≠ "java/lang/invoke/MethodHandle" ∧ yX3_isWhole.cls ≠ "java/lang/invoke/VarHandle" ∧ (parseMethodDescriptor yX3_isWhole.desc).map (fun d => d.parameters.length) = some 1 := by decide +kernel
theorem lk_X9_95 : Cond.methodLink RX9 95 yX3_isWhole ∈ TB := tb_20 _ (List.mem_of_getElem? (i := 6) rfl)
theorem im_X3_isWhole : Cond.instanceMethod yX3_isWhole ∈ TB := tb_20 _ (List.mem_of_getElem? (i := 7) rfl)
theorem se_X3_isWhole : Cond.selects RX3 yX3_isWhole yX3_isWhole ∈ TB := tb_20 _ (List.mem_of_getElem? (i := 8) rfl)
theorem gi_X9_95 : GoodIn TB (wsV RX9 95 RX3 yX3_isWhole (Cond.code yX3_isWhole cX3_isWhole 2 (some .boolean) :: TB)) := gi_v lk_X9_95 im_X3_isWhole se_X3_isWhole in_X3 co_X3_isWhole
theorem lk_X9_99 : Cond.fieldLink RX9 99 "RegisterMachine$World" "table" "[I" ∈ TB := tb_20 _ (List.mem_of_getElem? (i := 5) rfl)
theorem lk_X9_103 : Cond.fieldLink RX9 103 "RegisterMachine$Program" "parameters" "[I" ∈ TB := tb_21 _ (List.mem_of_getElem? (i := 7) rfl)
theorem co_X0_restart : Cond.code yX0_restart cX0_restart 3 none ∈ TB := tb_21 _ (List.mem_of_getElem? (i := 11) rfl)
theorem in_X0 : Cond.initialized RX0 ∈ TB := tb_2 _ (List.mem_of_getElem? (i := 3) rfl)
theorem hd_X0_restart : yX0_restart.cls = RX0 ∧ yX0_restart.cls ≠ "java/lang/invoke/MethodHandle" ∧ yX0_restart.cls ≠ "java/lang/invoke/VarHandle" ∧ (parseMethodDescriptor yX0_restart.desc).map (fun d => d.parameters.length) = some 2 := by decide +kernel
theorem lk_X9_106 : Cond.methodLink RX9 106 yX0_restart ∈ TB := tb_21 _ (List.mem_of_getElem? (i := 8) rfl)
theorem im_X0_restart : Cond.instanceMethod yX0_restart ∈ TB := tb_21 _ (List.mem_of_getElem? (i := 9) rfl)
theorem se_X0_restart : Cond.selects RX0 yX0_restart yX0_restart ∈ TB := tb_21 _ (List.mem_of_getElem? (i := 10) rfl)
theorem gi_X9_106 : GoodIn TB (wsV RX9 106 RX0 yX0_restart (Cond.code yX0_restart cX0_restart 3 none :: TB)) := gi_v lk_X9_106 im_X0_restart se_X0_restart in_X0 co_X0_restart
theorem co_X9_doWhatIsNoStep : Cond.code yX9_doWhatIsNoStep cX9_doWhatIsNoStep 4 none ∈ TB := tb_21 _ (List.mem_of_getElem? (i := 23) rfl)
theorem in_X9 : Cond.initialized RX9 ∈ TB := tb_1 _ (List.mem_of_getElem? (i := 2) rfl)
theorem hd_X9_doWhatIsNoStep : yX9_doWhatIsNoStep.cls = RX9 ∧ yX9_doWhatIsNoStep.cls ≠ "java/lang/invoke/MethodHandle" ∧ yX9_doWhatIsNoStep.cls ≠ "java/lang/invoke/VarHandle" ∧ (parseMethodDescriptor yX9_doWhatIsNoStep.desc).map (fun d => d.parameters.length) = some 0 := by decide +kernel
theorem lk_X9_110 : Cond.methodLink RX9 110 yX9_doWhatIsNoStep ∈ TB := tb_21 _ (List.mem_of_getElem? (i := 20) rfl)
theorem im_X9_doWhatIsNoStep : Cond.instanceMethod yX9_doWhatIsNoStep ∈ TB := tb_21 _ (List.mem_of_getElem? (i := 21) rfl)
theorem se_X9_doWhatIsNoStep : Cond.selects RX9 yX9_doWhatIsNoStep yX9_doWhatIsNoStep ∈ TB := tb_21 _ (List.mem_of_getElem? (i := 22) rfl)
theorem gi_X9_110 : GoodIn TB (wsV RX9 110 RX9 yX9_doWhatIsNoStep (Cond.code yX9_doWhatIsNoStep cX9_doWhatIsNoStep 4 none :: TB)) := gi_v lk_X9_110 im_X9_doWhatIsNoStep se_X9_doWhatIsNoStep in_X9 co_X9_doWhatIsNoStep
theorem lk_X9_113 : Cond.fieldLink RX9 113 "RegisterMachine$Activity" "state" "I" ∈ TB := tb_22 _ (List.mem_of_getElem? (i := 1) rfl)
theorem lk_X9_116 : Cond.fieldLink RX9 116 "RegisterMachine$Activity" "steps" "I" ∈ TB := tb_37 _ (List.mem_of_getElem? (i := 0) rfl)
theorem co_X0_isInRegisters : Cond.code yX0_isInRegisters cX0_isInRegisters 1 (some .boolean) ∈ TB := tb_28 _ (List.mem_of_getElem? (i := 6) rfl)
theorem hd_X0_isInRegisters : yX0_isInRegisters.cls = RX0 ∧ yX0_isInRegisters.cls ≠ "java/lang/invoke/MethodHandle" ∧ yX0_isInRegisters.cls ≠ "java/lang/invoke/VarHandle" ∧ (parseMethodDescriptor yX0_isInRegisters.desc).map (fun d => d.parameters.length) = some 0 := by decide +kernel
theorem lk_X9_119 : Cond.methodLink RX9 119 yX0_isInRegisters ∈ TB := tb_28 _ (List.mem_of_getElem? (i := 3) rfl)
theorem im_X0_isInRegisters : Cond.instanceMethod yX0_isInRegisters ∈ TB := tb_28 _ (List.mem_of_getElem? (i := 4) rfl)
theorem se_X0_isInRegisters : Cond.selects RX0 yX0_isInRegisters yX0_isInRegisters ∈ TB := tb_28 _ (List.mem_of_getElem? (i := 5) rfl)
theorem gi_X9_119 : GoodIn TB (wsV RX9 119 RX0 yX0_isInRegisters (Cond.code yX0_isInRegisters cX0_isInRegisters 1 (some .boolean) :: TB)) := gi_v lk_X9_119 im_X0_isInRegisters se_X0_isInRegisters in_X0 co_X0_isInRegisters
theorem co_X5_payStep : Cond.code yX5_payStep cX5_payStep 2 none ∈ TB := tb_37 _ (List.mem_of_getElem? (i := 4) rfl)
theorem in_X5 : Cond.initialized RX5 ∈ TB := tb_2 _ (List.mem_of_getElem? (i := 19) rfl)
theorem hd_X5_payStep : yX5_payStep.cls = RX5 ∧ yX5_payStep.cls ≠ "java/lang/invoke/MethodHandle" ∧ yX5_payStep.cls ≠ "java/lang/invoke/VarHandle" ∧ (parseMethodDescriptor yX5_payStep.desc).map (fun d => d.parameters.length) = some 0 := by decide +kernel
theorem lk_X9_122 : Cond.methodLink RX9 122 yX5_payStep ∈ TB := tb_37 _ (List.mem_of_getElem? (i := 1) rfl)
theorem im_X5_payStep : Cond.instanceMethod yX5_payStep ∈ TB := tb_37 _ (List.mem_of_getElem? (i := 2) rfl)
theorem se_X5_payStep : Cond.selects RX5 yX5_payStep yX5_payStep ∈ TB := tb_37 _ (List.mem_of_getElem? (i := 3) rfl)
theorem gi_X9_122 : GoodIn TB (wsV RX9 122 RX5 yX5_payStep (Cond.code yX5_payStep cX5_payStep 2 none :: TB)) := gi_v lk_X9_122 im_X5_payStep se_X5_payStep in_X5 co_X5_payStep
theorem co_X6_perform : Cond.code yX6_perform cX6_perform 4 none ∈ TB := tb_37 _ (List.mem_of_getElem? (i := 9) rfl)
theorem in_X6 : Cond.initialized RX6 ∈ TB := tb_2 _ (List.mem_of_getElem? (i := 15) rfl)
theorem hd_X6_perform : yX6_perform.cls = RX6 ∧ yX6_perform.cls ≠ "java/lang/invoke/MethodHandle" ∧ yX6_perform.cls ≠ "java/lang/invoke/VarHandle" ∧ (parseMethodDescriptor yX6_perform.desc).map (fun d => d.parameters.length) = some 0 := by decide +kernel
theorem lk_X9_125 : Cond.methodLink RX9 125 yX6_perform ∈ TB := tb_37 _ (List.mem_of_getElem? (i := 6) rfl)
theorem im_X6_perform : Cond.instanceMethod yX6_perform ∈ TB := tb_37 _ (List.mem_of_getElem? (i := 7) rfl)
theorem se_X6_perform : Cond.selects RX6 yX6_perform yX6_perform ∈ TB := tb_37 _ (List.mem_of_getElem? (i := 8) rfl)
theorem gi_X9_125 : GoodIn TB (wsV RX9 125 RX6 yX6_perform (Cond.code yX6_perform cX6_perform 4 none :: TB)) := gi_v lk_X9_125 im_X6_perform se_X6_perform in_X6 co_X6_perform
theorem lk_X9_128 : Cond.fieldLink RX9 128 "RegisterMachine$Activity" "trap" "I" ∈ TB := tb_44 _ (List.mem_of_getElem? (i := 0) rfl)
theorem lk_X9_131 : Cond.fieldLink RX9 131 "RegisterMachine$Activity" "frames" "I" ∈ TB := tb_44 _ (List.mem_of_getElem? (i := 1) rfl)
theorem lk_X9_134 : Cond.fieldLink RX9 134 "RegisterMachine$Activity" "latest" "I" ∈ TB := tb_44 _ (List.mem_of_getElem? (i := 2) rfl)
theorem lk_X9_137 : Cond.fieldLink RX9 137 "RegisterMachine$Program" "counted" "[I" ∈ TB := tb_22 _ (List.mem_of_getElem? (i := 12) rfl)
theorem lk_X9_140 : Cond.fieldLink RX9 140 "RegisterMachine$Program" "functions" "I" ∈ TB := tb_44 _ (List.mem_of_getElem? (i := 3) rfl)
theorem lk_X9_143 : Cond.fieldLink RX9 143 "RegisterMachine$Program" "size" "I" ∈ TB := tb_44 _ (List.mem_of_getElem? (i := 4) rfl)
theorem lk_X9_146 : Cond.fieldLink RX9 146 "RegisterMachine$Writer" "labels" "I" ∈ TB := tb_44 _ (List.mem_of_getElem? (i := 5) rfl)
theorem co_X8_ownOperands : Cond.code yX8_ownOperands cX8_ownOperands 1 (some .int) ∈ TB := tb_44 _ (List.mem_of_getElem? (i := 11) rfl)
theorem hd_X8_ownOperands : yX8_ownOperands.cls = RX8 ∧ yX8_ownOperands.cls ≠ "java/lang/invoke/MethodHandle" ∧ yX8_ownOperands.cls ≠ "java/lang/invoke/VarHandle" ∧ (parseMethodDescriptor yX8_ownOperands.desc).map (fun d => d.parameters.length) = some 0 := by decide +kernel
theorem lk_X9_149 : Cond.methodLink RX9 149 yX8_ownOperands ∈ TB := tb_44 _ (List.mem_of_getElem? (i := 8) rfl)
theorem im_X8_ownOperands : Cond.instanceMethod yX8_ownOperands ∈ TB := tb_44 _ (List.mem_of_getElem? (i := 9) rfl)
theorem se_X8_ownOperands : Cond.selects RX8 yX8_ownOperands yX8_ownOperands ∈ TB := tb_44 _ (List.mem_of_getElem? (i := 10) rfl)
theorem gi_X9_149 : GoodIn TB (wsV RX9 149 RX8 yX8_ownOperands (Cond.code yX8_ownOperands cX8_ownOperands 1 (some .int) :: TB)) := gi_v lk_X9_149 im_X8_ownOperands se_X8_ownOperands in_X8 co_X8_ownOperands
theorem co_X8_isDead : Cond.code yX8_isDead cX8_isDead 1 (some .boolean) ∈ TB := tb_44 _ (List.mem_of_getElem? (i := 15) rfl)
theorem hd_X8_isDead : yX8_isDead.cls = RX8 ∧ yX8_isDead.cls ≠ "java/lang/invoke/MethodHandle" ∧ yX8_isDead.cls ≠ "java/lang/invoke/VarHandle" ∧ (parseMethodDescriptor yX8_isDead.desc).map (fun d => d.parameters.length) = some 0 := by decide +kernel
theorem lk_X9_153 : Cond.methodLink RX9 153 yX8_isDead ∈ TB := tb_44 _ (List.mem_of_getElem? (i := 12) rfl)
theorem im_X8_isDead : Cond.instanceMethod yX8_isDead ∈ TB := tb_44 _ (List.mem_of_getElem? (i := 13) rfl)
theorem se_X8_isDead : Cond.selects RX8 yX8_isDead yX8_isDead ∈ TB := tb_44 _ (List.mem_of_getElem? (i := 14) rfl)
theorem gi_X9_153 : GoodIn TB (wsV RX9 153 RX8 yX8_isDead (Cond.code yX8_isDead cX8_isDead 1 (some .boolean) :: TB)) := gi_v lk_X9_153 im_X8_isDead se_X8_isDead in_X8 co_X8_isDead
theorem lk_X9_156 : Cond.fieldLink RX9 156 "RegisterMachine$World" "pages" "I" ∈ TB := tb_44 _ (List.mem_of_getElem? (i := 6) rfl)
theorem lk_X9_159 : Cond.fieldLink RX9 159 "RegisterMachine$RegisterCode" "functions" "I" ∈ TB := tb_44 _ (List.mem_of_getElem? (i := 7) rfl)
theorem lk_X9_160 : Cond.fieldLink RX9 160 "RegisterMachine$Activity" "resultCount" "I" ∈ TB := tb_45 _ (List.mem_of_getElem? (i := 12) rfl)
theorem lk_X9_163 : Cond.fieldLink RX9 163 "RegisterMachine$Activity" "results" "[J" ∈ TB := tb_45 _ (List.mem_of_getElem? (i := 13) rfl)
theorem lk_X9_166 : Cond.fieldLink RX9 166 "RegisterMachine$World" "globals" "[J" ∈ TB := tb_45 _ (List.mem_of_getElem? (i := 22) rfl)
theorem co_X7_holds : Cond.code yX7_holds cX7_holds 4 (some .boolean) ∈ TB := tb_31 _ (List.mem_of_getElem? (i := 15) rfl)
theorem in_X7 : Cond.initialized RX7 ∈ TB := tb_1 _ (List.mem_of_getElem? (i := 23) rfl)
theorem hd_X7_holds : yX7_holds.cls = RX7 ∧ yX7_holds.cls ≠ "java/lang/invoke/MethodHandle" ∧ yX7_holds.cls ≠ "java/lang/invoke/VarHandle" ∧ (parseMethodDescriptor yX7_holds.desc).map (fun d => d.parameters.length) = some 2 := by decide +kernel
theorem lk_X9_169 : Cond.methodLink RX9 169 yX7_holds ∈ TB := tb_46 _ (List.mem_of_getElem? (i := 8) rfl)
theorem im_X7_holds : Cond.instanceMethod yX7_holds ∈ TB := tb_31 _ (List.mem_of_getElem? (i := 13) rfl)
theorem se_X7_holds : Cond.selects RX7 yX7_holds yX7_holds ∈ TB := tb_31 _ (List.mem_of_getElem? (i := 14) rfl)
theorem gi_X9_169 : GoodIn TB (wsV RX9 169 RX7 yX7_holds (Cond.code yX7_holds cX7_holds 4 (some .boolean) :: TB)) := gi_v lk_X9_169 im_X7_holds se_X7_holds in_X7 co_X7_holds
theorem lk_X9_173 : Cond.fieldLink RX9 173 "RegisterMachine$World" "bytes" "[B" ∈ TB := tb_46 _ (List.mem_of_getElem? (i := 7) rfl)
theorem lk_X9_177 : Cond.fieldLink RX9 177 "RegisterMachine$Program" "results" "[I" ∈ TB := tb_46 _ (List.mem_of_getElem? (i := 17) rfl)
theorem lk_X9_179 : Cond.fieldLink RX9 179 "RegisterMachine$Program" "locals" "[I" ∈ TB := tb_46 _ (List.mem_of_getElem? (i := 18) rfl)
theorem lk_X9_182 : Cond.fieldLink RX9 182 "RegisterMachine$Program" "most" "[I" ∈ TB := tb_46 _ (List.mem_of_getElem? (i := 19) rfl)
theorem lk_X9_185 : Cond.constant RX9 185 (1000000) ∈ TB := tb_22 _ (List.mem_of_getElem? (i := 0) rfl)
theorem lk_X9_186 : Cond.fieldLink RX9 186 "RegisterMachine$Activity" "isFresh" "Z" ∈ TB := tb_22 _ (List.mem_of_getElem? (i := 2) rfl)
theorem co_X0_currentFunction : Cond.code yX0_currentFunction cX0_currentFunction 1 (some .int) ∈ TB := tb_22 _ (List.mem_of_getElem? (i := 7) rfl)
theorem hd_X0_currentFunction : yX0_currentFunction.cls = RX0 ∧ yX0_currentFunction.cls ≠ "java/lang/invoke/MethodHandle" ∧ yX0_currentFunction.cls ≠ "java/lang/invoke/VarHandle" ∧ (parseMethodDescriptor yX0_currentFunction.desc).map (fun d => d.parameters.length) = some 0 := by decide +kernel
theorem lk_X9_190 : Cond.methodLink RX9 190 yX0_currentFunction ∈ TB := tb_22 _ (List.mem_of_getElem? (i := 4) rfl)
theorem im_X0_currentFunction : Cond.instanceMethod yX0_currentFunction ∈ TB := tb_22 _ (List.mem_of_getElem? (i := 5) rfl)
theorem se_X0_currentFunction : Cond.selects RX0 yX0_currentFunction yX0_currentFunction ∈ TB := tb_22 _ (List.mem_of_getElem? (i := 6) rfl)
theorem gi_X9_190 : GoodIn TB (wsV RX9 190 RX0 yX0_currentFunction (Cond.code yX0_currentFunction cX0_currentFunction 1 (some .int) :: TB)) := gi_v lk_X9_190 im_X0_currentFunction se_X0_currentFunction in_X0 co_X0_currentFunction
theorem co_X9_isDueWhenCounted : Cond.code yX9_isDueWhenCounted cX9_isDueWhenCounted 2 (some .boolean) ∈ TB := tb_22 _ (List.mem_of_getElem? (i := 11) rfl)
theorem hd_X9_isDueWhenCounted : yX9_isDueWhenCounted.cls = RX9 ∧ yX9_isDueWhenCounted.cls ≠ "java/lang/invoke/MethodHandle" ∧ yX9_isDueWhenCounted.cls ≠ "java/lang/invoke/VarHandle" ∧ (parseMethodDescriptor yX9_isDueWhenCounted.desc).map (fun d => d.parameters.length) = some 1 := by decide +kernel
theorem lk_X9_193 : Cond.methodLink RX9 193 yX9_isDueWhenCounted ∈ TB := tb_22 _ (List.mem_of_getElem? (i := 8) rfl)
theorem im_X9_isDueWhenCounted : Cond.instanceMethod yX9_isDueWhenCounted ∈ TB := tb_22 _ (List.mem_of_getElem? (i := 9) rfl)
theorem se_X9_isDueWhenCounted : Cond.selects RX9 yX9_isDueWhenCounted yX9_isDueWhenCounted ∈ TB := tb_22 _ (List.mem_of_getElem? (i := 10) rfl)
theorem gi_X9_193 : GoodIn TB (wsV RX9 193 RX9 yX9_isDueWhenCounted (Cond.code yX9_isDueWhenCounted cX9_isDueWhenCounted 2 (some .boolean) :: TB)) := gi_v lk_X9_193 im_X9_isDueWhenCounted se_X9_isDueWhenCounted in_X9 co_X9_isDueWhenCounted
theorem co_X1_compile : Cond.code yX1_compile cX1_compile 4 none ∈ TB := tb_22 _ (List.mem_of_getElem? (i := 16) rfl)
theorem in_X1 : Cond.initialized RX1 ∈ TB := tb_2 _ (List.mem_of_getElem? (i := 11) rfl)
theorem hd_X1_compile : yX1_compile.cls = RX1 ∧ yX1_compile.cls ≠ "java/lang/invoke/MethodHandle" ∧ yX1_compile.cls ≠ "java/lang/invoke/VarHandle" ∧ (parseMethodDescriptor yX1_compile.desc).map (fun d => d.parameters.length) = some 1 := by decide +kernel
theorem lk_X9_196 : Cond.methodLink RX9 196 yX1_compile ∈ TB := tb_22 _ (List.mem_of_getElem? (i := 13) rfl)
theorem im_X1_compile : Cond.instanceMethod yX1_compile ∈ TB := tb_22 _ (List.mem_of_getElem? (i := 14) rfl)
theorem se_X1_compile : Cond.selects RX1 yX1_compile yX1_compile ∈ TB := tb_22 _ (List.mem_of_getElem? (i := 15) rfl)
theorem gi_X9_196 : GoodIn TB (wsV RX9 196 RX1 yX1_compile (Cond.code yX1_compile cX1_compile 4 none :: TB)) := gi_v lk_X9_196 im_X1_compile se_X1_compile in_X1 co_X1_compile
theorem lk_X9_200 : Cond.fieldLink RX9 200 "RegisterMachine$RegisterCode" "start" "[I" ∈ TB := tb_22 _ (List.mem_of_getElem? (i := 3) rfl)
theorem co_X0_settleFrame : Cond.code yX0_settleFrame cX0_settleFrame 2 none ∈ TB := tb_28 _ (List.mem_of_getElem? (i := 2) rfl)
theorem hd_X0_settleFrame : yX0_settleFrame.cls = RX0 ∧ yX0_settleFrame.cls ≠ "java/lang/invoke/MethodHandle" ∧ yX0_settleFrame.cls ≠ "java/lang/invoke/VarHandle" ∧ (parseMethodDescriptor yX0_settleFrame.desc).map (fun d => d.parameters.length) = some 1 := by decide +kernel
theorem lk_X9_202 : Cond.methodLink RX9 202 yX0_settleFrame ∈ TB := tb_27 _ (List.mem_of_getElem? (i := 23) rfl)
theorem im_X0_settleFrame : Cond.instanceMethod yX0_settleFrame ∈ TB := tb_28 _ (List.mem_of_getElem? (i := 0) rfl)
theorem se_X0_settleFrame : Cond.selects RX0 yX0_settleFrame yX0_settleFrame ∈ TB := tb_28 _ (List.mem_of_getElem? (i := 1) rfl)
theorem gi_X9_202 : GoodIn TB (wsV RX9 202 RX0 yX0_settleFrame (Cond.code yX0_settleFrame cX0_settleFrame 2 none :: TB)) := gi_v lk_X9_202 im_X0_settleFrame se_X0_settleFrame in_X0 co_X0_settleFrame
theorem co_X5_performFree : Cond.code yX5_performFree cX5_performFree 3 (some .boolean) ∈ TB := tb_28 _ (List.mem_of_getElem? (i := 10) rfl)
theorem hd_X5_performFree : yX5_performFree.cls = RX5 ∧ yX5_performFree.cls ≠ "java/lang/invoke/MethodHandle" ∧ yX5_performFree.cls ≠ "java/lang/invoke/VarHandle" ∧ (parseMethodDescriptor yX5_performFree.desc).map (fun d => d.parameters.length) = some 0 := by decide +kernel
theorem lk_X9_205 : Cond.methodLink RX9 205 yX5_performFree ∈ TB := tb_28 _ (List.mem_of_getElem? (i := 7) rfl)
theorem im_X5_performFree : Cond.instanceMethod yX5_performFree ∈ TB := tb_28 _ (List.mem_of_getElem? (i := 8) rfl)
theorem se_X5_performFree : Cond.selects RX5 yX5_performFree yX5_performFree ∈ TB := tb_28 _ (List.mem_of_getElem? (i := 9) rfl)
theorem gi_X9_205 : GoodIn TB (wsV RX9 205 RX5 yX5_performFree (Cond.code yX5_performFree cX5_performFree 3 (some .boolean) :: TB)) := gi_v lk_X9_205 im_X5_performFree se_X5_performFree in_X5 co_X5_performFree
theorem co_X6_performFree : Cond.code yX6_performFree cX6_performFree 3 (some .boolean) ∈ TB := tb_34 _ (List.mem_of_getElem? (i := 7) rfl)
theorem hd_X6_performFree : yX6_performFree.cls = RX6 ∧ yX6_performFree.cls ≠ "java/lang/invoke/MethodHandle" ∧ yX6_performFree.cls ≠ "java/lang/invoke/VarHandle" ∧ (parseMethodDescriptor yX6_performFree.desc).map (fun d => d.parameters.length) = some 0 := by decide +kernel
theorem lk_X9_208 : Cond.methodLink RX9 208 yX6_performFree ∈ TB := tb_34 _ (List.mem_of_getElem? (i := 4) rfl)
theorem im_X6_performFree : Cond.instanceMethod yX6_performFree ∈ TB := tb_34 _ (List.mem_of_getElem? (i := 5) rfl)
theorem se_X6_performFree : Cond.selects RX6 yX6_performFree yX6_performFree ∈ TB := tb_34 _ (List.mem_of_getElem? (i := 6) rfl)
theorem gi_X9_208 : GoodIn TB (wsV RX9 208 RX6 yX6_performFree (Cond.code yX6_performFree cX6_performFree 3 (some .boolean) :: TB)) := gi_v lk_X9_208 im_X6_performFree se_X6_performFree in_X6 co_X6_performFree
theorem lk_X0_9 : Cond.fieldLink RX0 9 "RegisterMachine$Activity" "function" "[I" ∈ TB := tb_5 _ (List.mem_of_getElem? (i := 2) rfl)
theorem lk_X0_15 : Cond.fieldLink RX0 15 "RegisterMachine$Activity" "next" "[I" ∈ TB := tb_5 _ (List.mem_of_getElem? (i := 3) rfl)
theorem lk_X0_18 : Cond.fieldLink RX0 18 "RegisterMachine$Activity" "base" "[I" ∈ TB := tb_5 _ (List.mem_of_getElem? (i := 4) rfl)
theorem lk_X0_21 : Cond.fieldLink RX0 21 "RegisterMachine$Activity" "top" "[I" ∈ TB := tb_5 _ (List.mem_of_getElem? (i := 5) rfl)
theorem lk_X0_24 : Cond.fieldLink RX0 24 "RegisterMachine$Activity" "inRegisters" "[Z" ∈ TB := tb_5 _ (List.mem_of_getElem? (i := 6) rfl)
theorem lk_X0_28 : Cond.fieldLink RX0 28 "RegisterMachine$Activity" "values" "[J" ∈ TB := tb_5 _ (List.mem_of_getElem? (i := 7) rfl)
theorem lk_X0_32 : Cond.fieldLink RX0 32 "RegisterMachine$Activity" "results" "[J" ∈ TB := tb_5 _ (List.mem_of_getElem? (i := 8) rfl)
theorem lk_X0_35 : Cond.fieldLink RX0 35 "RegisterMachine$Activity" "resultCount" "I" ∈ TB := tb_5 _ (List.mem_of_getElem? (i := 9) rfl)
theorem lk_X0_39 : Cond.fieldLink RX0 39 "RegisterMachine$Activity" "state" "I" ∈ TB := tb_5 _ (List.mem_of_getElem? (i := 10) rfl)
theorem lk_X0_42 : Cond.fieldLink RX0 42 "RegisterMachine$Activity" "trap" "I" ∈ TB := tb_5 _ (List.mem_of_getElem? (i := 11) rfl)
theorem lk_X0_45 : Cond.fieldLink RX0 45 "RegisterMachine$Activity" "steps" "I" ∈ TB := tb_5 _ (List.mem_of_getElem? (i := 12) rfl)
theorem lk_X0_48 : Cond.fieldLink RX0 48 "RegisterMachine$Activity" "frames" "I" ∈ TB := tb_5 _ (List.mem_of_getElem? (i := 13) rfl)
theorem lk_X0_51 : Cond.fieldLink RX0 51 "RegisterMachine$Activity" "latest" "I" ∈ TB := tb_5 _ (List.mem_of_getElem? (i := 14) rfl)
theorem lk_X0_54 : Cond.fieldLink RX0 54 "RegisterMachine$Activity" "isFresh" "Z" ∈ TB := tb_5 _ (List.mem_of_getElem? (i := 15) rfl)
theorem lk_X0_58 : Cond.fieldLink RX0 58 "RegisterMachine$Activity" "paid" "I" ∈ TB := tb_5 _ (List.mem_of_getElem? (i := 16) rfl)
theorem lk_X0_61 : Cond.fieldLink RX0 61 "RegisterMachine$Activity" "used" "I" ∈ TB := tb_5 _ (List.mem_of_getElem? (i := 17) rfl)
theorem lk_X0_64 : Cond.fieldLink RX0 64 "RegisterMachine$Activity" "program" "LRegisterMachine$Program;" ∈ TB := tb_5 _ (List.mem_of_getElem? (i := 18) rfl)
theorem co_X0_enter : Cond.code yX0_enter cX0_enter 9 none ∈ TB := tb_21 _ (List.mem_of_getElem? (i := 15) rfl)
theorem hd_X0_enter : yX0_enter.cls = RX0 ∧ yX0_enter.cls ≠ "java/lang/invoke/MethodHandle" ∧ yX0_enter.cls ≠ "java/lang/invoke/VarHandle" ∧ (parseMethodDescriptor yX0_enter.desc).map (fun d => d.parameters.length) = some 3 := by decide +kernel
theorem lk_X0_68 : Cond.methodLink RX0 68 yX0_enter ∈ TB := tb_21 _ (List.mem_of_getElem? (i := 12) rfl)
theorem im_X0_enter : Cond.instanceMethod yX0_enter ∈ TB := tb_21 _ (List.mem_of_getElem? (i := 13) rfl)
theorem se_X0_enter : Cond.selects RX0 yX0_enter yX0_enter ∈ TB := tb_21 _ (List.mem_of_getElem? (i := 14) rfl)
theorem gi_X0_68 : GoodIn TB (wsV RX0 68 RX0 yX0_enter (Cond.code yX0_enter cX0_enter 9 none :: TB)) := gi_v lk_X0_68 im_X0_enter se_X0_enter in_X0 co_X0_enter
theorem co_X3_allLocals : Cond.code yX3_allLocals cX3_allLocals 2 (some .int) ∈ TB := tb_16 _ (List.mem_of_getElem? (i := 4) rfl)
theorem hd_X3_allLocals : yX3_allLocals.cls = RX3 ∧ yX3_allLocals.cls ≠ "java/lang/invoke/MethodHandle" ∧ yX3_allLocals.cls ≠ "java/lang/invoke/VarHandle" ∧ (parseMethodDescriptor yX3_allLocals.desc).map (fun d => d.parameters.length) = some 1 := by decide +kernel
theorem lk_X0_72 : Cond.methodLink RX0 72 yX3_allLocals ∈ TB := tb_21 _ (List.mem_of_getElem? (i := 19) rfl)
theorem im_X3_allLocals : Cond.instanceMethod yX3_allLocals ∈ TB := tb_16 _ (List.mem_of_getElem? (i := 2) rfl)
theorem se_X3_allLocals : Cond.selects RX3 yX3_allLocals yX3_allLocals ∈ TB := tb_16 _ (List.mem_of_getElem? (i := 3) rfl)
theorem gi_X0_72 : GoodIn TB (wsV RX0 72 RX3 yX3_allLocals (Cond.code yX3_allLocals cX3_allLocals 2 (some .int) :: TB)) := gi_v lk_X0_72 im_X3_allLocals se_X3_allLocals in_X3 co_X3_allLocals
theorem lk_X0_78 : Cond.fieldLink RX0 78 "RegisterMachine$Program" "parameters" "[I" ∈ TB := tb_21 _ (List.mem_of_getElem? (i := 16) rfl)
theorem lk_X0_81 : Cond.fieldLink RX0 81 "RegisterMachine$Program" "most" "[I" ∈ TB := tb_21 _ (List.mem_of_getElem? (i := 17) rfl)
theorem lk_X0_84 : Cond.fieldLink RX0 84 "RegisterMachine$Program" "first" "[I" ∈ TB := tb_21 _ (List.mem_of_getElem? (i := 18) rfl)
theorem lk_X0_87 : Cond.fieldLink RX0 87 "RegisterMachine$Program" "results" "[I" ∈ TB := tb_33 _ (List.mem_of_getElem? (i := 12) rfl)
theorem co_X0_value : Cond.code yX0_value cX0_value 2 (some .long) ∈ TB := tb_29 _ (List.mem_of_getElem? (i := 15) rfl)
theorem hd_X0_value : yX0_value.cls = RX0 ∧ yX0_value.cls ≠ "java/lang/invoke/MethodHandle" ∧ yX0_value.cls ≠ "java/lang/invoke/VarHandle" ∧ (parseMethodDescriptor yX0_value.desc).map (fun d => d.parameters.length) = some 1 := by decide +kernel
theorem lk_X0_89 : Cond.methodLink RX0 89 yX0_value ∈ TB := tb_33 _ (List.mem_of_getElem? (i := 13) rfl)
theorem im_X0_value : Cond.instanceMethod yX0_value ∈ TB := tb_29 _ (List.mem_of_getElem? (i := 13) rfl)
theorem se_X0_value : Cond.selects RX0 yX0_value yX0_value ∈ TB := tb_29 _ (List.mem_of_getElem? (i := 14) rfl)
theorem gi_X0_89 : GoodIn TB (wsV RX0 89 RX0 yX0_value (Cond.code yX0_value cX0_value 2 (some .long) :: TB)) := gi_v lk_X0_89 im_X0_value se_X0_value in_X0 co_X0_value
theorem co_X0_move : Cond.code yX0_move cX0_move 5 none ∈ TB := tb_32 _ (List.mem_of_getElem? (i := 23) rfl)
theorem hd_X0_move : yX0_move.cls = RX0 ∧ yX0_move.cls ≠ "java/lang/invoke/MethodHandle" ∧ yX0_move.cls ≠ "java/lang/invoke/VarHandle" ∧ (parseMethodDescriptor yX0_move.desc).map (fun d => d.parameters.length) = some 3 := by decide +kernel
theorem lk_X0_93 : Cond.methodLink RX0 93 yX0_move ∈ TB := tb_33 _ (List.mem_of_getElem? (i := 14) rfl)
theorem im_X0_move : Cond.instanceMethod yX0_move ∈ TB := tb_32 _ (List.mem_of_getElem? (i := 21) rfl)
theorem se_X0_move : Cond.selects RX0 yX0_move yX0_move ∈ TB := tb_32 _ (List.mem_of_getElem? (i := 22) rfl)
theorem gi_X0_93 : GoodIn TB (wsV RX0 93 RX0 yX0_move (Cond.code yX0_move cX0_move 5 none :: TB)) := gi_v lk_X0_93 im_X0_move se_X0_move in_X0 co_X0_move
theorem lk_X1_9 : Cond.fieldLink RX1 9 "RegisterMachine$Compiler" "where" "[I" ∈ TB := tb_6 _ (List.mem_of_getElem? (i := 13) rfl)
theorem lk_X1_15 : Cond.fieldLink RX1 15 "RegisterMachine$Compiler" "places" "[I" ∈ TB := tb_6 _ (List.mem_of_getElem? (i := 14) rfl)
theorem lk_X1_18 : Cond.fieldLink RX1 18 "RegisterMachine$Compiler" "function" "I" ∈ TB := tb_6 _ (List.mem_of_getElem? (i := 15) rfl)
theorem lk_X1_22 : Cond.fieldLink RX1 22 "RegisterMachine$Compiler" "slots" "I" ∈ TB := tb_6 _ (List.mem_of_getElem? (i := 16) rfl)
theorem lk_X1_25 : Cond.fieldLink RX1 25 "RegisterMachine$Compiler" "operands" "I" ∈ TB := tb_6 _ (List.mem_of_getElem? (i := 17) rfl)
theorem lk_X1_28 : Cond.fieldLink RX1 28 "RegisterMachine$Compiler" "pending" "I" ∈ TB := tb_6 _ (List.mem_of_getElem? (i := 18) rfl)
theorem lk_X1_31 : Cond.fieldLink RX1 31 "RegisterMachine$Compiler" "isLive" "Z" ∈ TB := tb_6 _ (List.mem_of_getElem? (i := 19) rfl)
theorem lk_X1_35 : Cond.fieldLink RX1 35 "RegisterMachine$Compiler" "deadLabels" "I" ∈ TB := tb_6 _ (List.mem_of_getElem? (i := 20) rfl)
theorem lk_X1_38 : Cond.fieldLink RX1 38 "RegisterMachine$Compiler" "program" "LRegisterMachine$Program;" ∈ TB := tb_6 _ (List.mem_of_getElem? (i := 21) rfl)
theorem lk_X1_42 : Cond.fieldLink RX1 42 "RegisterMachine$Compiler" "code" "LRegisterMachine$RegisterCode;" ∈ TB := tb_6 _ (List.mem_of_getElem? (i := 22) rfl)
theorem lk_X1_46 : Cond.fieldLink RX1 46 "RegisterMachine$RegisterCode" "size" "I" ∈ TB := tb_22 _ (List.mem_of_getElem? (i := 17) rfl)
theorem lk_X1_51 : Cond.methodLink RX1 51 yX3_allLocals ∈ TB := tb_23 _ (List.mem_of_getElem? (i := 0) rfl)
theorem gi_X1_51 : GoodIn TB (wsV RX1 51 RX3 yX3_allLocals (Cond.code yX3_allLocals cX3_allLocals 2 (some .int) :: TB)) := gi_v lk_X1_51 im_X3_allLocals se_X3_allLocals in_X3 co_X3_allLocals
theorem co_X1_makeRoom : Cond.code yX1_makeRoom cX1_makeRoom 1 none ∈ TB := tb_23 _ (List.mem_of_getElem? (i := 4) rfl)
theorem hd_X1_makeRoom : yX1_makeRoom.cls = RX1 ∧ yX1_makeRoom.cls ≠ "java/lang/invoke/MethodHandle" ∧ yX1_makeRoom.cls ≠ "java/lang/invoke/VarHandle" ∧ (parseMethodDescriptor yX1_makeRoom.desc).map (fun d => d.parameters.length) = some 0 := by decide +kernel
theorem lk_X1_57 : Cond.methodLink RX1 57 yX1_makeRoom ∈ TB := tb_23 _ (List.mem_of_getElem? (i := 1) rfl)
theorem im_X1_makeRoom : Cond.instanceMethod yX1_makeRoom ∈ TB := tb_23 _ (List.mem_of_getElem? (i := 2) rfl)
theorem se_X1_makeRoom : Cond.selects RX1 yX1_makeRoom yX1_makeRoom ∈ TB := tb_23 _ (List.mem_of_getElem? (i := 3) rfl)
theorem gi_X1_57 : GoodIn TB (wsV RX1 57 RX1 yX1_makeRoom (Cond.code yX1_makeRoom cX1_makeRoom 1 none :: TB)) := gi_v lk_X1_57 im_X1_makeRoom se_X1_makeRoom in_X1 co_X1_makeRoom
theorem lk_X1_60 : Cond.fieldLink RX1 60 "RegisterMachine$Program" "first" "[I" ∈ TB := tb_22 _ (List.mem_of_getElem? (i := 18) rfl)
theorem lk_X1_63 : Cond.fieldLink RX1 63 "RegisterMachine$Program" "last" "[I" ∈ TB := tb_22 _ (List.mem_of_getElem? (i := 19) rfl)
theorem co_X1_translate : Cond.code yX1_translate cX1_translate 3 none ∈ TB := tb_23 _ (List.mem_of_getElem? (i := 16) rfl)
theorem hd_X1_translate : yX1_translate.cls = RX1 ∧ yX1_translate.cls ≠ "java/lang/invoke/MethodHandle" ∧ yX1_translate.cls ≠ "java/lang/invoke/VarHandle" ∧ (parseMethodDescriptor yX1_translate.desc).map (fun d => d.parameters.length) = some 1 := by decide +kernel
theorem lk_X1_66 : Cond.methodLink RX1 66 yX1_translate ∈ TB := tb_23 _ (List.mem_of_getElem? (i := 13) rfl)
theorem im_X1_translate : Cond.instanceMethod yX1_translate ∈ TB := tb_23 _ (List.mem_of_getElem? (i := 14) rfl)
theorem se_X1_translate : Cond.selects RX1 yX1_translate yX1_translate ∈ TB := tb_23 _ (List.mem_of_getElem? (i := 15) rfl)
theorem gi_X1_66 : GoodIn TB (wsV RX1 66 RX1 yX1_translate (Cond.code yX1_translate cX1_translate 3 none :: TB)) := gi_v lk_X1_66 im_X1_translate se_X1_translate in_X1 co_X1_translate
theorem lk_X1_70 : Cond.fieldLink RX1 70 "RegisterMachine$RegisterCode" "operation" "[I" ∈ TB := tb_22 _ (List.mem_of_getElem? (i := 20) rfl)
theorem lk_X1_73 : Cond.fieldLink RX1 73 "RegisterMachine$RegisterCode" "z" "[I" ∈ TB := tb_22 _ (List.mem_of_getElem? (i := 21) rfl)
theorem lk_X1_76 : Cond.fieldLink RX1 76 "RegisterMachine$RegisterCode" "start" "[I" ∈ TB := tb_22 _ (List.mem_of_getElem? (i := 22) rfl)
theorem lk_X1_79 : Cond.fieldLink RX1 79 "RegisterMachine$RegisterCode" "functions" "I" ∈ TB := tb_22 _ (List.mem_of_getElem? (i := 23) rfl)
theorem co_X4_makeRoom : Cond.code yX4_makeRoom cX4_makeRoom 4 none ∈ TB := tb_23 _ (List.mem_of_getElem? (i := 9) rfl)
theorem in_X4 : Cond.initialized RX4 ∈ TB := tb_2 _ (List.mem_of_getElem? (i := 7) rfl)
theorem hd_X4_makeRoom : yX4_makeRoom.cls = RX4 ∧ yX4_makeRoom.cls ≠ "java/lang/invoke/MethodHandle" ∧ yX4_makeRoom.cls ≠ "java/lang/invoke/VarHandle" ∧ (parseMethodDescriptor yX4_makeRoom.desc).map (fun d => d.parameters.length) = some 1 := by decide +kernel
theorem lk_X1_82 : Cond.methodLink RX1 82 yX4_makeRoom ∈ TB := tb_23 _ (List.mem_of_getElem? (i := 6) rfl)
theorem im_X4_makeRoom : Cond.instanceMethod yX4_makeRoom ∈ TB := tb_23 _ (List.mem_of_getElem? (i := 7) rfl)
theorem se_X4_makeRoom : Cond.selects RX4 yX4_makeRoom yX4_makeRoom ∈ TB := tb_23 _ (List.mem_of_getElem? (i := 8) rfl)
theorem gi_X1_82 : GoodIn TB (wsV RX1 82 RX4 yX4_makeRoom (Cond.code yX4_makeRoom cX4_makeRoom 4 none :: TB)) := gi_v lk_X1_82 im_X4_makeRoom se_X4_makeRoom in_X4 co_X4_makeRoom
theorem lk_X1_84 : Cond.fieldLink RX1 84 "RegisterMachine$Program" "operation" "[I" ∈ TB := tb_23 _ (List.mem_of_getElem? (i := 5) rfl)
theorem co_X1_structure : Cond.code yX1_structure cX1_structure 3 none ∈ TB := tb_23 _ (List.mem_of_getElem? (i := 21) rfl)
theorem hd_X1_structure : yX1_structure.cls = RX1 ∧ yX1_structure.cls ≠ "java/lang/invoke/MethodHandle" ∧ yX1_structure.cls ≠ "java/lang/invoke/VarHandle" ∧ (parseMethodDescriptor yX1_structure.desc).map (fun d => d.parameters.length) = some 2 := by decide +kernel
theorem lk_X1_85 : Cond.methodLink RX1 85 yX1_structure ∈ TB := tb_23 _ (List.mem_of_getElem? (i := 18) rfl)
theorem im_X1_structure : Cond.instanceMethod yX1_structure ∈ TB := tb_23 _ (List.mem_of_getElem? (i := 19) rfl)
theorem se_X1_structure : Cond.selects RX1 yX1_structure yX1_structure ∈ TB := tb_23 _ (List.mem_of_getElem? (i := 20) rfl)
theorem gi_X1_85 : GoodIn TB (wsV RX1 85 RX1 yX1_structure (Cond.code yX1_structure cX1_structure 3 none :: TB)) := gi_v lk_X1_85 im_X1_structure se_X1_structure in_X1 co_X1_structure
theorem co_X1_operate : Cond.code yX1_operate cX1_operate 4 none ∈ TB := tb_25 _ (List.mem_of_getElem? (i := 22) rfl)
theorem hd_X1_operate : yX1_operate.cls = RX1 ∧ yX1_operate.cls ≠ "java/lang/invoke/MethodHandle" ∧ yX1_operate.cls ≠ "java/lang/invoke/VarHandle" ∧ (parseMethodDescriptor yX1_operate.desc).map (fun d => d.parameters.length) = some 1 := by decide +kernel
theorem lk_X1_89 : Cond.methodLink RX1 89 yX1_operate ∈ TB := tb_25 _ (List.mem_of_getElem? (i := 19) rfl)
theorem im_X1_operate : Cond.instanceMethod yX1_operate ∈ TB := tb_25 _ (List.mem_of_getElem? (i := 20) rfl)
theorem se_X1_operate : Cond.selects RX1 yX1_operate yX1_operate ∈ TB := tb_25 _ (List.mem_of_getElem? (i := 21) rfl)
theorem gi_X1_89 : GoodIn TB (wsV RX1 89 RX1 yX1_operate (Cond.code yX1_operate cX1_operate 4 none :: TB)) := gi_v lk_X1_89 im_X1_operate se_X1_operate in_X1 co_X1_operate
theorem co_X1_push : Cond.code yX1_push cX1_push 2 none ∈ TB := tb_26 _ (List.mem_of_getElem? (i := 3) rfl)
theorem hd_X1_push : yX1_push.cls = RX1 ∧ yX1_push.cls ≠ "java/lang/invoke/MethodHandle" ∧ yX1_push.cls ≠ "java/lang/invoke/VarHandle" ∧ (parseMethodDescriptor yX1_push.desc).map (fun d => d.parameters.length) = some 1 := by decide +kernel
theorem lk_X1_92 : Cond.methodLink RX1 92 yX1_push ∈ TB := tb_26 _ (List.mem_of_getElem? (i := 0) rfl)
theorem im_X1_push : Cond.instanceMethod yX1_push ∈ TB := tb_26 _ (List.mem_of_getElem? (i := 1) rfl)
theorem se_X1_push : Cond.selects RX1 yX1_push yX1_push ∈ TB := tb_26 _ (List.mem_of_getElem? (i := 2) rfl)
theorem gi_X1_92 : GoodIn TB (wsV RX1 92 RX1 yX1_push (Cond.code yX1_push cX1_push 2 none :: TB)) := gi_v lk_X1_92 im_X1_push se_X1_push in_X1 co_X1_push
theorem lk_X1_95 : Cond.fieldLink RX1 95 "RegisterMachine$Program" "a" "[I" ∈ TB := tb_23 _ (List.mem_of_getElem? (i := 17) rfl)
theorem co_X1_useMemory : Cond.code yX1_useMemory cX1_useMemory 5 none ∈ TB := tb_26 _ (List.mem_of_getElem? (i := 7) rfl)
theorem hd_X1_useMemory : yX1_useMemory.cls = RX1 ∧ yX1_useMemory.cls ≠ "java/lang/invoke/MethodHandle" ∧ yX1_useMemory.cls ≠ "java/lang/invoke/VarHandle" ∧ (parseMethodDescriptor yX1_useMemory.desc).map (fun d => d.parameters.length) = some 2 := by decide +kernel
theorem lk_X1_98 : Cond.methodLink RX1 98 yX1_useMemory ∈ TB := tb_26 _ (List.mem_of_getElem? (i := 4) rfl)
theorem im_X1_useMemory : Cond.instanceMethod yX1_useMemory ∈ TB := tb_26 _ (List.mem_of_getElem? (i := 5) rfl)
theorem se_X1_useMemory : Cond.selects RX1 yX1_useMemory yX1_useMemory ∈ TB := tb_26 _ (List.mem_of_getElem? (i := 6) rfl)
theorem gi_X1_98 : GoodIn TB (wsV RX1 98 RX1 yX1_useMemory (Cond.code yX1_useMemory cX1_useMemory 5 none :: TB)) := gi_v lk_X1_98 im_X1_useMemory se_X1_useMemory in_X1 co_X1_useMemory
theorem co_X1_useVariable : Cond.code yX1_useVariable cX1_useVariable 4 none ∈ TB := tb_26 _ (List.mem_of_getElem? (i := 11) rfl)
theorem hd_X1_useVariable : yX1_useVariable.cls = RX1 ∧ yX1_useVariable.cls ≠ "java/lang/invoke/MethodHandle" ∧ yX1_useVariable.cls ≠ "java/lang/invoke/VarHandle" ∧ (parseMethodDescriptor yX1_useVariable.desc).map (fun d => d.parameters.length) = some 2 := by decide +kernel
theorem lk_X1_101 : Cond.methodLink RX1 101 yX1_useVariable ∈ TB := tb_26 _ (List.mem_of_getElem? (i := 8) rfl)
theorem im_X1_useVariable : Cond.instanceMethod yX1_useVariable ∈ TB := tb_26 _ (List.mem_of_getElem? (i := 9) rfl)
theorem se_X1_useVariable : Cond.selects RX1 yX1_useVariable yX1_useVariable ∈ TB := tb_26 _ (List.mem_of_getElem? (i := 10) rfl)
theorem gi_X1_101 : GoodIn TB (wsV RX1 101 RX1 yX1_useVariable (Cond.code yX1_useVariable cX1_useVariable 4 none :: TB)) := gi_v lk_X1_101 im_X1_useVariable se_X1_useVariable in_X1 co_X1_useVariable
theorem co_X1_control : Cond.code yX1_control cX1_control 3 none ∈ TB := tb_26 _ (List.mem_of_getElem? (i := 23) rfl)
theorem hd_X1_control : yX1_control.cls = RX1 ∧ yX1_control.cls ≠ "java/lang/invoke/MethodHandle" ∧ yX1_control.cls ≠ "java/lang/invoke/VarHandle" ∧ (parseMethodDescriptor yX1_control.desc).map (fun d => d.parameters.length) = some 2 := by decide +kernel
theorem lk_X1_104 : Cond.methodLink RX1 104 yX1_control ∈ TB := tb_26 _ (List.mem_of_getElem? (i := 20) rfl)
theorem im_X1_control : Cond.instanceMethod yX1_control ∈ TB := tb_26 _ (List.mem_of_getElem? (i := 21) rfl)
theorem se_X1_control : Cond.selects RX1 yX1_control yX1_control ∈ TB := tb_26 _ (List.mem_of_getElem? (i := 22) rfl)
theorem gi_X1_104 : GoodIn TB (wsV RX1 104 RX1 yX1_control (Cond.code yX1_control cX1_control 3 none :: TB)) := gi_v lk_X1_104 im_X1_control se_X1_control in_X1 co_X1_control
theorem co_X1_begin : Cond.code yX1_begin cX1_begin 4 none ∈ TB := tb_24 _ (List.mem_of_getElem? (i := 1) rfl)
theorem hd_X1_begin : yX1_begin.cls = RX1 ∧ yX1_begin.cls ≠ "java/lang/invoke/MethodHandle" ∧ yX1_begin.cls ≠ "java/lang/invoke/VarHandle" ∧ (parseMethodDescriptor yX1_begin.desc).map (fun d => d.parameters.length) = some 2 := by decide +kernel
theorem lk_X1_107 : Cond.methodLink RX1 107 yX1_begin ∈ TB := tb_23 _ (List.mem_of_getElem? (i := 22) rfl)
theorem im_X1_begin : Cond.instanceMethod yX1_begin ∈ TB := tb_23 _ (List.mem_of_getElem? (i := 23) rfl)
theorem se_X1_begin : Cond.selects RX1 yX1_begin yX1_begin ∈ TB := tb_24 _ (List.mem_of_getElem? (i := 0) rfl)
theorem gi_X1_107 : GoodIn TB (wsV RX1 107 RX1 yX1_begin (Cond.code yX1_begin cX1_begin 4 none :: TB)) := gi_v lk_X1_107 im_X1_begin se_X1_begin in_X1 co_X1_begin
theorem co_X1_turn : Cond.code yX1_turn cX1_turn 3 none ∈ TB := tb_25 _ (List.mem_of_getElem? (i := 4) rfl)
theorem hd_X1_turn : yX1_turn.cls = RX1 ∧ yX1_turn.cls ≠ "java/lang/invoke/MethodHandle" ∧ yX1_turn.cls ≠ "java/lang/invoke/VarHandle" ∧ (parseMethodDescriptor yX1_turn.desc).map (fun d => d.parameters.length) = some 1 := by decide +kernel
theorem lk_X1_110 : Cond.methodLink RX1 110 yX1_turn ∈ TB := tb_25 _ (List.mem_of_getElem? (i := 1) rfl)
theorem im_X1_turn : Cond.instanceMethod yX1_turn ∈ TB := tb_25 _ (List.mem_of_getElem? (i := 2) rfl)
theorem se_X1_turn : Cond.selects RX1 yX1_turn yX1_turn ∈ TB := tb_25 _ (List.mem_of_getElem? (i := 3) rfl)
theorem gi_X1_110 : GoodIn TB (wsV RX1 110 RX1 yX1_turn (Cond.code yX1_turn cX1_turn 3 none :: TB)) := gi_v lk_X1_110 im_X1_turn se_X1_turn in_X1 co_X1_turn
theorem co_X1_end : Cond.code yX1_end cX1_end 3 none ∈ TB := tb_25 _ (List.mem_of_getElem? (i := 17) rfl)
theorem hd_X1_end : yX1_end.cls = RX1 ∧ yX1_end.cls ≠ "java/lang/invoke/MethodHandle" ∧ yX1_end.cls ≠ "java/lang/invoke/VarHandle" ∧ (parseMethodDescriptor yX1_end.desc).map (fun d => d.parameters.length) = some 1 := by decide +kernel
theorem lk_X1_113 : Cond.methodLink RX1 113 yX1_end ∈ TB := tb_25 _ (List.mem_of_getElem? (i := 14) rfl)
theorem im_X1_end : Cond.instanceMethod yX1_end ∈ TB := tb_25 _ (List.mem_of_getElem? (i := 15) rfl)
theorem se_X1_end : Cond.selects RX1 yX1_end yX1_end ∈ TB := tb_25 _ (List.mem_of_getElem? (i := 16) rfl)
theorem gi_X1_113 : GoodIn TB (wsV RX1 113 RX1 yX1_end (Cond.code yX1_end cX1_end 3 none :: TB)) := gi_v lk_X1_113 im_X1_end se_X1_end in_X1 co_X1_end
theorem co_X1_pop : Cond.code yX1_pop cX1_pop 1 (some .int) ∈ TB := tb_24 _ (List.mem_of_getElem? (i := 7) rfl)
theorem hd_X1_pop : yX1_pop.cls = RX1 ∧ yX1_pop.cls ≠ "java/lang/invoke/MethodHandle" ∧ yX1_pop.cls ≠ "java/lang/invoke/VarHandle" ∧ (parseMethodDescriptor yX1_pop.desc).map (fun d => d.parameters.length) = some 0 := by decide +kernel
theorem lk_X1_116 : Cond.methodLink RX1 116 yX1_pop ∈ TB := tb_24 _ (List.mem_of_getElem? (i := 4) rfl)
theorem im_X1_pop : Cond.instanceMethod yX1_pop ∈ TB := tb_24 _ (List.mem_of_getElem? (i := 5) rfl)
theorem se_X1_pop : Cond.selects RX1 yX1_pop yX1_pop ∈ TB := tb_24 _ (List.mem_of_getElem? (i := 6) rfl)
theorem gi_X1_116 : GoodIn TB (wsV RX1 116 RX1 yX1_pop (Cond.code yX1_pop cX1_pop 1 (some .int) :: TB)) := gi_v lk_X1_116 im_X1_pop se_X1_pop in_X1 co_X1_pop
theorem co_X1_fillSlots : Cond.code yX1_fillSlots cX1_fillSlots 3 none ∈ TB := tb_24 _ (List.mem_of_getElem? (i := 11) rfl)
theorem hd_X1_fillSlots : yX1_fillSlots.cls = RX1 ∧ yX1_fillSlots.cls ≠ "java/lang/invoke/MethodHandle" ∧ yX1_fillSlots.cls ≠ "java/lang/invoke/VarHandle" ∧ (parseMethodDescriptor yX1_fillSlots.desc).map (fun d => d.parameters.length) = some 1 := by decide +kernel
theorem lk_X1_120 : Cond.methodLink RX1 120 yX1_fillSlots ∈ TB := tb_24 _ (List.mem_of_getElem? (i := 8) rfl)
theorem im_X1_fillSlots : Cond.instanceMethod yX1_fillSlots ∈ TB := tb_24 _ (List.mem_of_getElem? (i := 9) rfl)
theorem se_X1_fillSlots : Cond.selects RX1 yX1_fillSlots yX1_fillSlots ∈ TB := tb_24 _ (List.mem_of_getElem? (i := 10) rfl)
theorem gi_X1_120 : GoodIn TB (wsV RX1 120 RX1 yX1_fillSlots (Cond.code yX1_fillSlots cX1_fillSlots 3 none :: TB)) := gi_v lk_X1_120 im_X1_fillSlots se_X1_fillSlots in_X1 co_X1_fillSlots
theorem lk_X1_123 : Cond.fieldLink RX1 123 "RegisterMachine$Program" "other" "[I" ∈ TB := tb_24 _ (List.mem_of_getElem? (i := 2) rfl)
theorem lk_X1_126 : Cond.fieldLink RX1 126 "RegisterMachine$Program" "link" "[I" ∈ TB := tb_24 _ (List.mem_of_getElem? (i := 3) rfl)
theorem co_X1_emit : Cond.code yX1_emit cX1_emit 7 none ∈ TB := tb_24 _ (List.mem_of_getElem? (i := 16) rfl)
theorem hd_X1_emit : yX1_emit.cls = RX1 ∧ yX1_emit.cls ≠ "java/lang/invoke/MethodHandle" ∧ yX1_emit.cls ≠ "java/lang/invoke/VarHandle" ∧ (parseMethodDescriptor yX1_emit.desc).map (fun d => d.parameters.length) = some 5 := by decide +kernel
theorem lk_X1_129 : Cond.methodLink RX1 129 yX1_emit ∈ TB := tb_24 _ (List.mem_of_getElem? (i := 13) rfl)
theorem im_X1_emit : Cond.instanceMethod yX1_emit ∈ TB := tb_24 _ (List.mem_of_getElem? (i := 14) rfl)
theorem se_X1_emit : Cond.selects RX1 yX1_emit yX1_emit ∈ TB := tb_24 _ (List.mem_of_getElem? (i := 15) rfl)
theorem gi_X1_129 : GoodIn TB (wsV RX1 129 RX1 yX1_emit (Cond.code yX1_emit cX1_emit 7 none :: TB)) := gi_v lk_X1_129 im_X1_emit se_X1_emit in_X1 co_X1_emit
theorem co_X1_emitPending : Cond.code yX1_emitPending cX1_emitPending 1 none ∈ TB := tb_25 _ (List.mem_of_getElem? (i := 0) rfl)
theorem hd_X1_emitPending : yX1_emitPending.cls = RX1 ∧ yX1_emitPending.cls ≠ "java/lang/invoke/MethodHandle" ∧ yX1_emitPending.cls ≠ "java/lang/invoke/VarHandle" ∧ (parseMethodDescriptor yX1_emitPending.desc).map (fun d => d.parameters.length) = some 0 := by decide +kernel
theorem lk_X1_133 : Cond.methodLink RX1 133 yX1_emitPending ∈ TB := tb_24 _ (List.mem_of_getElem? (i := 21) rfl)
theorem im_X1_emitPending : Cond.instanceMethod yX1_emitPending ∈ TB := tb_24 _ (List.mem_of_getElem? (i := 22) rfl)
theorem se_X1_emitPending : Cond.selects RX1 yX1_emitPending yX1_emitPending ∈ TB := tb_24 _ (List.mem_of_getElem? (i := 23) rfl)
theorem gi_X1_133 : GoodIn TB (wsV RX1 133 RX1 yX1_emitPending (Cond.code yX1_emitPending cX1_emitPending 1 none :: TB)) := gi_v lk_X1_133 im_X1_emitPending se_X1_emitPending in_X1 co_X1_emitPending
theorem lk_X1_136 : Cond.fieldLink RX1 136 "RegisterMachine$Program" "height" "[I" ∈ TB := tb_25 _ (List.mem_of_getElem? (i := 5) rfl)
theorem co_X1_comeToLife : Cond.code yX1_comeToLife cX1_comeToLife 3 none ∈ TB := tb_25 _ (List.mem_of_getElem? (i := 9) rfl)
theorem hd_X1_comeToLife : yX1_comeToLife.cls = RX1 ∧ yX1_comeToLife.cls ≠ "java/lang/invoke/MethodHandle" ∧ yX1_comeToLife.cls ≠ "java/lang/invoke/VarHandle" ∧ (parseMethodDescriptor yX1_comeToLife.desc).map (fun d => d.parameters.length) = some 2 := by decide +kernel
theorem lk_X1_139 : Cond.methodLink RX1 139 yX1_comeToLife ∈ TB := tb_25 _ (List.mem_of_getElem? (i := 6) rfl)
theorem im_X1_comeToLife : Cond.instanceMethod yX1_comeToLife ∈ TB := tb_25 _ (List.mem_of_getElem? (i := 7) rfl)
theorem se_X1_comeToLife : Cond.selects RX1 yX1_comeToLife yX1_comeToLife ∈ TB := tb_25 _ (List.mem_of_getElem? (i := 8) rfl)
theorem gi_X1_139 : GoodIn TB (wsV RX1 139 RX1 yX1_comeToLife (Cond.code yX1_comeToLife cX1_comeToLife 3 none :: TB)) := gi_v lk_X1_139 im_X1_comeToLife se_X1_comeToLife in_X1 co_X1_comeToLife
theorem lk_X1_142 : Cond.fieldLink RX1 142 "RegisterMachine$Program" "b" "[I" ∈ TB := tb_25 _ (List.mem_of_getElem? (i := 18) rfl)
theorem co_X1_putSlots : Cond.code yX1_putSlots cX1_putSlots 3 none ∈ TB := tb_25 _ (List.mem_of_getElem? (i := 13) rfl)
theorem hd_X1_putSlots : yX1_putSlots.cls = RX1 ∧ yX1_putSlots.cls ≠ "java/lang/invoke/MethodHandle" ∧ yX1_putSlots.cls ≠ "java/lang/invoke/VarHandle" ∧ (parseMethodDescriptor yX1_putSlots.desc).map (fun d => d.parameters.length) = some 1 := by decide +kernel
theorem lk_X1_145 : Cond.methodLink RX1 145 yX1_putSlots ∈ TB := tb_25 _ (List.mem_of_getElem? (i := 10) rfl)
theorem im_X1_putSlots : Cond.instanceMethod yX1_putSlots ∈ TB := tb_25 _ (List.mem_of_getElem? (i := 11) rfl)
theorem se_X1_putSlots : Cond.selects RX1 yX1_putSlots yX1_putSlots ∈ TB := tb_25 _ (List.mem_of_getElem? (i := 12) rfl)
theorem gi_X1_145 : GoodIn TB (wsV RX1 145 RX1 yX1_putSlots (Cond.code yX1_putSlots cX1_putSlots 3 none :: TB)) := gi_v lk_X1_145 im_X1_putSlots se_X1_putSlots in_X1 co_X1_putSlots
theorem co_X2_operatorTakes : Cond.code yX2_operatorTakes cX2_operatorTakes 1 (some .int) ∈ TB := tb_16 _ (List.mem_of_getElem? (i := 11) rfl)
theorem in_X2 : Cond.initialized RX2 ∈ TB := tb_16 _ (List.mem_of_getElem? (i := 7) rfl)
theorem hd_X2_operatorTakes : yX2_operatorTakes.cls = RX2 ∧ yX2_operatorTakes.cls ≠ "java/lang/invoke/MethodHandle" ∧ yX2_operatorTakes.cls ≠ "java/lang/invoke/VarHandle" ∧ (parseMethodDescriptor yX2_operatorTakes.desc).map (fun d => d.parameters.length) = some 1 := by decide +kernel
theorem lk_X1_148 : Cond.methodLink RX1 148 yX2_operatorTakes ∈ TB := tb_25 _ (List.mem_of_getElem? (i := 23) rfl)
theorem st_X2_operatorTakes : Cond.static yX2_operatorTakes ∈ TB := tb_16 _ (List.mem_of_getElem? (i := 10) rfl)
theorem gi_X1_148 : GoodIn TB (va_wsS RX1 148 yX2_operatorTakes (Cond.code yX2_operatorTakes cX2_operatorTakes 1 (some .int) :: TB)) := gi_s lk_X1_148 st_X2_operatorTakes in_X2 co_X2_operatorTakes
theorem co_X1_select : Cond.code yX1_select cX1_select 4 none ∈ TB := tb_26 _ (List.mem_of_getElem? (i := 15) rfl)
theorem hd_X1_select : yX1_select.cls = RX1 ∧ yX1_select.cls ≠ "java/lang/invoke/MethodHandle" ∧ yX1_select.cls ≠ "java/lang/invoke/VarHandle" ∧ (parseMethodDescriptor yX1_select.desc).map (fun d => d.parameters.length) = some 0 := by decide +kernel
theorem lk_X1_153 : Cond.methodLink RX1 153 yX1_select ∈ TB := tb_26 _ (List.mem_of_getElem? (i := 12) rfl)
theorem im_X1_select : Cond.instanceMethod yX1_select ∈ TB := tb_26 _ (List.mem_of_getElem? (i := 13) rfl)
theorem se_X1_select : Cond.selects RX1 yX1_select yX1_select ∈ TB := tb_26 _ (List.mem_of_getElem? (i := 14) rfl)
theorem gi_X1_153 : GoodIn TB (wsV RX1 153 RX1 yX1_select (Cond.code yX1_select cX1_select 4 none :: TB)) := gi_v lk_X1_153 im_X1_select se_X1_select in_X1 co_X1_select
theorem co_X1_setLocal : Cond.code yX1_setLocal cX1_setLocal 4 none ∈ TB := tb_26 _ (List.mem_of_getElem? (i := 19) rfl)
theorem hd_X1_setLocal : yX1_setLocal.cls = RX1 ∧ yX1_setLocal.cls ≠ "java/lang/invoke/MethodHandle" ∧ yX1_setLocal.cls ≠ "java/lang/invoke/VarHandle" ∧ (parseMethodDescriptor yX1_setLocal.desc).map (fun d => d.parameters.length) = some 2 := by decide +kernel
theorem lk_X1_156 : Cond.methodLink RX1 156 yX1_setLocal ∈ TB := tb_26 _ (List.mem_of_getElem? (i := 16) rfl)
theorem im_X1_setLocal : Cond.instanceMethod yX1_setLocal ∈ TB := tb_26 _ (List.mem_of_getElem? (i := 17) rfl)
theorem se_X1_setLocal : Cond.selects RX1 yX1_setLocal yX1_setLocal ∈ TB := tb_26 _ (List.mem_of_getElem? (i := 18) rfl)
theorem gi_X1_156 : GoodIn TB (wsV RX1 156 RX1 yX1_setLocal (Cond.code yX1_setLocal cX1_setLocal 4 none :: TB)) := gi_v lk_X1_156 im_X1_setLocal se_X1_setLocal in_X1 co_X1_setLocal
theorem co_X3_wantedBy : Cond.code yX3_wantedBy cX3_wantedBy 3 (some .int) ∈ TB := tb_12 _ (List.mem_of_getElem? (i := 12) rfl)
theorem hd_X3_wantedBy : yX3_wantedBy.cls = RX3 ∧ yX3_wantedBy.cls ≠ "java/lang/invoke/MethodHandle" ∧ yX3_wantedBy.cls ≠ "java/lang/invoke/VarHandle" ∧ (parseMethodDescriptor yX3_wantedBy.desc).map (fun d => d.parameters.length) = some 2 := by decide +kernel
theorem lk_X1_159 : Cond.methodLink RX1 159 yX3_wantedBy ∈ TB := tb_27 _ (List.mem_of_getElem? (i := 2) rfl)
theorem im_X3_wantedBy : Cond.instanceMethod yX3_wantedBy ∈ TB := tb_12 _ (List.mem_of_getElem? (i := 10) rfl)
theorem se_X3_wantedBy : Cond.selects RX3 yX3_wantedBy yX3_wantedBy ∈ TB := tb_12 _ (List.mem_of_getElem? (i := 11) rfl)
theorem gi_X1_159 : GoodIn TB (wsV RX1 159 RX3 yX3_wantedBy (Cond.code yX3_wantedBy cX3_wantedBy 3 (some .int) :: TB)) := gi_v lk_X1_159 im_X3_wantedBy se_X3_wantedBy in_X3 co_X3_wantedBy
theorem co_X1_emitBranch : Cond.code yX1_emitBranch cX1_emitBranch 6 none ∈ TB := tb_27 _ (List.mem_of_getElem? (i := 6) rfl)
theorem hd_X1_emitBranch : yX1_emitBranch.cls = RX1 ∧ yX1_emitBranch.cls ≠ "java/lang/invoke/MethodHandle" ∧ yX1_emitBranch.cls ≠ "java/lang/invoke/VarHandle" ∧ (parseMethodDescriptor yX1_emitBranch.desc).map (fun d => d.parameters.length) = some 1 := by decide +kernel
theorem lk_X1_163 : Cond.methodLink RX1 163 yX1_emitBranch ∈ TB := tb_27 _ (List.mem_of_getElem? (i := 3) rfl)
theorem im_X1_emitBranch : Cond.instanceMethod yX1_emitBranch ∈ TB := tb_27 _ (List.mem_of_getElem? (i := 4) rfl)
theorem se_X1_emitBranch : Cond.selects RX1 yX1_emitBranch yX1_emitBranch ∈ TB := tb_27 _ (List.mem_of_getElem? (i := 5) rfl)
theorem gi_X1_163 : GoodIn TB (wsV RX1 163 RX1 yX1_emitBranch (Cond.code yX1_emitBranch cX1_emitBranch 6 none :: TB)) := gi_v lk_X1_163 im_X1_emitBranch se_X1_emitBranch in_X1 co_X1_emitBranch
theorem co_X1_branchIf : Cond.code yX1_branchIf cX1_branchIf 3 none ∈ TB := tb_27 _ (List.mem_of_getElem? (i := 14) rfl)
theorem hd_X1_branchIf : yX1_branchIf.cls = RX1 ∧ yX1_branchIf.cls ≠ "java/lang/invoke/MethodHandle" ∧ yX1_branchIf.cls ≠ "java/lang/invoke/VarHandle" ∧ (parseMethodDescriptor yX1_branchIf.desc).map (fun d => d.parameters.length) = some 1 := by decide +kernel
theorem lk_X1_166 : Cond.methodLink RX1 166 yX1_branchIf ∈ TB := tb_27 _ (List.mem_of_getElem? (i := 11) rfl)
theorem im_X1_branchIf : Cond.instanceMethod yX1_branchIf ∈ TB := tb_27 _ (List.mem_of_getElem? (i := 12) rfl)
theorem se_X1_branchIf : Cond.selects RX1 yX1_branchIf yX1_branchIf ∈ TB := tb_27 _ (List.mem_of_getElem? (i := 13) rfl)
theorem gi_X1_166 : GoodIn TB (wsV RX1 166 RX1 yX1_branchIf (Cond.code yX1_branchIf cX1_branchIf 3 none :: TB)) := gi_v lk_X1_166 im_X1_branchIf se_X1_branchIf in_X1 co_X1_branchIf
theorem co_X1_table : Cond.code yX1_table cX1_table 4 none ∈ TB := tb_27 _ (List.mem_of_getElem? (i := 18) rfl)
theorem hd_X1_table : yX1_table.cls = RX1 ∧ yX1_table.cls ≠ "java/lang/invoke/MethodHandle" ∧ yX1_table.cls ≠ "java/lang/invoke/VarHandle" ∧ (parseMethodDescriptor yX1_table.desc).map (fun d => d.parameters.length) = some 1 := by decide +kernel
theorem lk_X1_169 : Cond.methodLink RX1 169 yX1_table ∈ TB := tb_27 _ (List.mem_of_getElem? (i := 15) rfl)
theorem im_X1_table : Cond.instanceMethod yX1_table ∈ TB := tb_27 _ (List.mem_of_getElem? (i := 16) rfl)
theorem se_X1_table : Cond.selects RX1 yX1_table yX1_table ∈ TB := tb_27 _ (List.mem_of_getElem? (i := 17) rfl)
theorem gi_X1_169 : GoodIn TB (wsV RX1 169 RX1 yX1_table (Cond.code yX1_table cX1_table 4 none :: TB)) := gi_v lk_X1_169 im_X1_table se_X1_table in_X1 co_X1_table
theorem lk_X1_172 : Cond.fieldLink RX1 172 "RegisterMachine$Program" "results" "[I" ∈ TB := tb_27 _ (List.mem_of_getElem? (i := 0) rfl)
theorem lk_X1_175 : Cond.fieldLink RX1 175 "RegisterMachine$Program" "parameters" "[I" ∈ TB := tb_27 _ (List.mem_of_getElem? (i := 1) rfl)
theorem co_X1_callEntry : Cond.code yX1_callEntry cX1_callEntry 4 none ∈ TB := tb_27 _ (List.mem_of_getElem? (i := 22) rfl)
theorem hd_X1_callEntry : yX1_callEntry.cls = RX1 ∧ yX1_callEntry.cls ≠ "java/lang/invoke/MethodHandle" ∧ yX1_callEntry.cls ≠ "java/lang/invoke/VarHandle" ∧ (parseMethodDescriptor yX1_callEntry.desc).map (fun d => d.parameters.length) = some 2 := by decide +kernel
theorem lk_X1_178 : Cond.methodLink RX1 178 yX1_callEntry ∈ TB := tb_27 _ (List.mem_of_getElem? (i := 19) rfl)
theorem im_X1_callEntry : Cond.instanceMethod yX1_callEntry ∈ TB := tb_27 _ (List.mem_of_getElem? (i := 20) rfl)
theorem se_X1_callEntry : Cond.selects RX1 yX1_callEntry yX1_callEntry ∈ TB := tb_27 _ (List.mem_of_getElem? (i := 21) rfl)
theorem gi_X1_178 : GoodIn TB (wsV RX1 178 RX1 yX1_callEntry (Cond.code yX1_callEntry cX1_callEntry 4 none :: TB)) := gi_v lk_X1_178 im_X1_callEntry se_X1_callEntry in_X1 co_X1_callEntry
theorem co_X3_isLoop : Cond.code yX3_isLoop cX3_isLoop 2 (some .boolean) ∈ TB := tb_27 _ (List.mem_of_getElem? (i := 10) rfl)
theorem hd_X3_isLoop : yX3_isLoop.cls = RX3 ∧ yX3_isLoop.cls ≠ "java/lang/invoke/MethodHandle" ∧ yX3_isLoop.cls ≠ "java/lang/invoke/VarHandle" ∧ (parseMethodDescriptor yX3_isLoop.desc).map (fun d => d.parameters.length) = some 1 := by decide +kernel
theorem lk_X1_181 : Cond.methodLink RX1 181 yX3_isLoop ∈ TB := tb_27 _ (List.mem_of_getElem? (i := 7) rfl)
theorem im_X3_isLoop : Cond.instanceMethod yX3_isLoop ∈ TB := tb_27 _ (List.mem_of_getElem? (i := 8) rfl)
theorem se_X3_isLoop : Cond.selects RX3 yX3_isLoop yX3_isLoop ∈ TB := tb_27 _ (List.mem_of_getElem? (i := 9) rfl)
theorem gi_X1_181 : GoodIn TB (wsV RX1 181 RX3 yX3_isLoop (Cond.code yX3_isLoop cX3_isLoop 2 (some .boolean) :: TB)) := gi_v lk_X1_181 im_X3_isLoop se_X3_isLoop in_X3 co_X3_isLoop
theorem lk_X1_185 : Cond.fieldLink RX1 185 "RegisterMachine$RegisterCode" "weight" "[I" ∈ TB := tb_24 _ (List.mem_of_getElem? (i := 17) rfl)
theorem lk_X1_188 : Cond.fieldLink RX1 188 "RegisterMachine$RegisterCode" "to" "[I" ∈ TB := tb_24 _ (List.mem_of_getElem? (i := 18) rfl)
theorem lk_X1_191 : Cond.fieldLink RX1 191 "RegisterMachine$RegisterCode" "x" "[I" ∈ TB := tb_24 _ (List.mem_of_getElem? (i := 19) rfl)
theorem lk_X1_194 : Cond.fieldLink RX1 194 "RegisterMachine$RegisterCode" "y" "[I" ∈ TB := tb_24 _ (List.mem_of_getElem? (i := 20) rfl)
theorem lk_X1_197 : Cond.methodLink RX1 197 Lib.Math.max.name ∈ TB := tb_24 _ (List.mem_of_getElem? (i := 12) rfl)
theorem lk_X2_9 : Cond.methodLink RX2 9 yX2_operatorTakes ∈ TB := tb_16 _ (List.mem_of_getElem? (i := 9) rfl)
theorem gi_X2_9 : GoodIn TB (va_wsS RX2 9 yX2_operatorTakes (Cond.code yX2_operatorTakes cX2_operatorTakes 1 (some .int) :: TB)) := gi_s lk_X2_9 st_X2_operatorTakes in_X2 co_X2_operatorTakes
theorem co_X2_bit : Cond.code yX2_bit cX2_bit 1 (some .long) ∈ TB := tb_30 _ (List.mem_of_getElem? (i := 18) rfl)
theorem hd_X2_bit : yX2_bit.cls = RX2 ∧ yX2_bit.cls ≠ "java/lang/invoke/MethodHandle" ∧ yX2_bit.cls ≠ "java/lang/invoke/VarHandle" ∧ (parseMethodDescriptor yX2_bit.desc).map (fun d => d.parameters.length) = some 1 := by decide +kernel
theorem lk_X2_15 : Cond.methodLink RX2 15 yX2_bit ∈ TB := tb_30 _ (List.mem_of_getElem? (i := 16) rfl)
theorem st_X2_bit : Cond.static yX2_bit ∈ TB := tb_30 _ (List.mem_of_getElem? (i := 17) rfl)
theorem gi_X2_15 : GoodIn TB (va_wsS RX2 15 yX2_bit (Cond.code yX2_bit cX2_bit 1 (some .long) :: TB)) := gi_s lk_X2_15 st_X2_bit in_X2 co_X2_bit
theorem lk_X2_19 : Cond.constantLong RX2 19 (4294967295) ∈ TB := tb_30 _ (List.mem_of_getElem? (i := 15) rfl)
theorem lk_X3_9 : Cond.fieldLink RX3 9 "RegisterMachine$Program" "parameters" "[I" ∈ TB := tb_3 _ (List.mem_of_getElem? (i := 5) rfl)
theorem lk_X3_15 : Cond.fieldLink RX3 15 "RegisterMachine$Program" "results" "[I" ∈ TB := tb_3 _ (List.mem_of_getElem? (i := 6) rfl)
theorem lk_X3_18 : Cond.fieldLink RX3 18 "RegisterMachine$Program" "locals" "[I" ∈ TB := tb_3 _ (List.mem_of_getElem? (i := 7) rfl)
theorem lk_X3_33 : Cond.fieldLink RX3 33 "RegisterMachine$Program" "operation" "[I" ∈ TB := tb_3 _ (List.mem_of_getElem? (i := 12) rfl)
theorem lk_X3_36 : Cond.fieldLink RX3 36 "RegisterMachine$Program" "a" "[I" ∈ TB := tb_3 _ (List.mem_of_getElem? (i := 13) rfl)
theorem lk_X3_39 : Cond.fieldLink RX3 39 "RegisterMachine$Program" "b" "[I" ∈ TB := tb_3 _ (List.mem_of_getElem? (i := 14) rfl)
theorem lk_X3_51 : Cond.fieldLink RX3 51 "RegisterMachine$Program" "functions" "I" ∈ TB := tb_3 _ (List.mem_of_getElem? (i := 18) rfl)
theorem lk_X3_55 : Cond.fieldLink RX3 55 "RegisterMachine$Program" "written" "I" ∈ TB := tb_3 _ (List.mem_of_getElem? (i := 19) rfl)
theorem lk_X3_58 : Cond.fieldLink RX3 58 "RegisterMachine$Program" "size" "I" ∈ TB := tb_3 _ (List.mem_of_getElem? (i := 20) rfl)
theorem lk_X3_61 : Cond.methodLink RX3 61 Lib.Math.min.name ∈ TB := tb_11 _ (List.mem_of_getElem? (i := 2) rfl)
theorem lk_X3_73 : Cond.constantLong RX3 73 (4294967295) ∈ TB := tb_29 _ (List.mem_of_getElem? (i := 11) rfl)
theorem lk_X4_15 : Cond.fieldLink RX4 15 "RegisterMachine$RegisterCode" "operation" "[I" ∈ TB := tb_6 _ (List.mem_of_getElem? (i := 0) rfl)
theorem lk_X4_33 : Cond.fieldLink RX4 33 "RegisterMachine$RegisterCode" "size" "I" ∈ TB := tb_6 _ (List.mem_of_getElem? (i := 6) rfl)
theorem lk_X4_46 : Cond.methodLink RX4 46 Lib.Math.max.name ∈ TB := tb_23 _ (List.mem_of_getElem? (i := 10) rfl)
theorem lk_X4_52 : Cond.methodLink RX4 52 Lib.Math.min.name ∈ TB := tb_23 _ (List.mem_of_getElem? (i := 11) rfl)
theorem lk_X5_9 : Cond.fieldLink RX5 9 "RegisterMachine$RegisterRunner" "program" "LRegisterMachine$Program;" ∈ TB := tb_7 _ (List.mem_of_getElem? (i := 10) rfl)
theorem lk_X5_15 : Cond.fieldLink RX5 15 "RegisterMachine$RegisterRunner" "code" "LRegisterMachine$RegisterCode;" ∈ TB := tb_7 _ (List.mem_of_getElem? (i := 11) rfl)
theorem lk_X5_19 : Cond.fieldLink RX5 19 "RegisterMachine$RegisterRunner" "world" "LRegisterMachine$World;" ∈ TB := tb_7 _ (List.mem_of_getElem? (i := 12) rfl)
theorem lk_X5_23 : Cond.fieldLink RX5 23 "RegisterMachine$RegisterRunner" "activity" "LRegisterMachine$Activity;" ∈ TB := tb_7 _ (List.mem_of_getElem? (i := 13) rfl)
theorem lk_X5_27 : Cond.fieldLink RX5 27 "RegisterMachine$RegisterCode" "size" "I" ∈ TB := tb_28 _ (List.mem_of_getElem? (i := 11) rfl)
theorem co_X0_nextWithin : Cond.code yX0_nextWithin cX0_nextWithin 2 (some .int) ∈ TB := tb_28 _ (List.mem_of_getElem? (i := 16) rfl)
theorem hd_X0_nextWithin : yX0_nextWithin.cls = RX0 ∧ yX0_nextWithin.cls ≠ "java/lang/invoke/MethodHandle" ∧ yX0_nextWithin.cls ≠ "java/lang/invoke/VarHandle" ∧ (parseMethodDescriptor yX0_nextWithin.desc).map (fun d => d.parameters.length) = some 1 := by decide +kernel
theorem lk_X5_33 : Cond.methodLink RX5 33 yX0_nextWithin ∈ TB := tb_28 _ (List.mem_of_getElem? (i := 13) rfl)
theorem im_X0_nextWithin : Cond.instanceMethod yX0_nextWithin ∈ TB := tb_28 _ (List.mem_of_getElem? (i := 14) rfl)
theorem se_X0_nextWithin : Cond.selects RX0 yX0_nextWithin yX0_nextWithin ∈ TB := tb_28 _ (List.mem_of_getElem? (i := 15) rfl)
theorem gi_X5_33 : GoodIn TB (wsV RX5 33 RX0 yX0_nextWithin (Cond.code yX0_nextWithin cX0_nextWithin 2 (some .int) :: TB)) := gi_v lk_X5_33 im_X0_nextWithin se_X0_nextWithin in_X0 co_X0_nextWithin
theorem lk_X5_39 : Cond.fieldLink RX5 39 "RegisterMachine$Activity" "paid" "I" ∈ TB := tb_37 _ (List.mem_of_getElem? (i := 5) rfl)
theorem lk_X5_42 : Cond.fieldLink RX5 42 "RegisterMachine$RegisterCode" "weight" "[I" ∈ TB := tb_28 _ (List.mem_of_getElem? (i := 12) rfl)
theorem co_X5_perform : Cond.code yX5_perform cX5_perform 4 none ∈ TB := tb_28 _ (List.mem_of_getElem? (i := 20) rfl)
theorem hd_X5_perform : yX5_perform.cls = RX5 ∧ yX5_perform.cls ≠ "java/lang/invoke/MethodHandle" ∧ yX5_perform.cls ≠ "java/lang/invoke/VarHandle" ∧ (parseMethodDescriptor yX5_perform.desc).map (fun d => d.parameters.length) = some 1 := by decide +kernel
theorem lk_X5_46 : Cond.methodLink RX5 46 yX5_perform ∈ TB := tb_28 _ (List.mem_of_getElem? (i := 17) rfl)
theorem im_X5_perform : Cond.instanceMethod yX5_perform ∈ TB := tb_28 _ (List.mem_of_getElem? (i := 18) rfl)
theorem se_X5_perform : Cond.selects RX5 yX5_perform yX5_perform ∈ TB := tb_28 _ (List.mem_of_getElem? (i := 19) rfl)
theorem gi_X5_46 : GoodIn TB (wsV RX5 46 RX5 yX5_perform (Cond.code yX5_perform cX5_perform 4 none :: TB)) := gi_v lk_X5_46 im_X5_perform se_X5_perform in_X5 co_X5_perform
theorem lk_X5_50 : Cond.fieldLink RX5 50 "RegisterMachine$Activity" "frames" "I" ∈ TB := tb_28 _ (List.mem_of_getElem? (i := 21) rfl)
theorem lk_X5_53 : Cond.fieldLink RX5 53 "RegisterMachine$RegisterCode" "operation" "[I" ∈ TB := tb_28 _ (List.mem_of_getElem? (i := 22) rfl)
theorem lk_X5_56 : Cond.fieldLink RX5 56 "RegisterMachine$Activity" "next" "[I" ∈ TB := tb_28 _ (List.mem_of_getElem? (i := 23) rfl)
theorem lk_X5_59 : Cond.fieldLink RX5 59 "RegisterMachine$RegisterCode" "to" "[I" ∈ TB := tb_29 _ (List.mem_of_getElem? (i := 0) rfl)
theorem lk_X5_62 : Cond.fieldLink RX5 62 "RegisterMachine$RegisterCode" "x" "[I" ∈ TB := tb_29 _ (List.mem_of_getElem? (i := 1) rfl)
theorem co_X5_read : Cond.code yX5_read cX5_read 3 (some .long) ∈ TB := tb_29 _ (List.mem_of_getElem? (i := 5) rfl)
theorem hd_X5_read : yX5_read.cls = RX5 ∧ yX5_read.cls ≠ "java/lang/invoke/MethodHandle" ∧ yX5_read.cls ≠ "java/lang/invoke/VarHandle" ∧ (parseMethodDescriptor yX5_read.desc).map (fun d => d.parameters.length) = some 2 := by decide +kernel
theorem lk_X5_65 : Cond.methodLink RX5 65 yX5_read ∈ TB := tb_29 _ (List.mem_of_getElem? (i := 2) rfl)
theorem im_X5_read : Cond.instanceMethod yX5_read ∈ TB := tb_29 _ (List.mem_of_getElem? (i := 3) rfl)
theorem se_X5_read : Cond.selects RX5 yX5_read yX5_read ∈ TB := tb_29 _ (List.mem_of_getElem? (i := 4) rfl)
theorem gi_X5_65 : GoodIn TB (wsV RX5 65 RX5 yX5_read (Cond.code yX5_read cX5_read 3 (some .long) :: TB)) := gi_v lk_X5_65 im_X5_read se_X5_read in_X5 co_X5_read
theorem co_X5_setRegister : Cond.code yX5_setRegister cX5_setRegister 5 none ∈ TB := tb_29 _ (List.mem_of_getElem? (i := 19) rfl)
theorem hd_X5_setRegister : yX5_setRegister.cls = RX5 ∧ yX5_setRegister.cls ≠ "java/lang/invoke/MethodHandle" ∧ yX5_setRegister.cls ≠ "java/lang/invoke/VarHandle" ∧ (parseMethodDescriptor yX5_setRegister.desc).map (fun d => d.parameters.length) = some 3 := by decide +kernel
theorem lk_X5_69 : Cond.methodLink RX5 69 yX5_setRegister ∈ TB := tb_29 _ (List.mem_of_getElem? (i := 16) rfl)
theorem im_X5_setRegister : Cond.instanceMethod yX5_setRegister ∈ TB := tb_29 _ (List.mem_of_getElem? (i := 17) rfl)
theorem se_X5_setRegister : Cond.selects RX5 yX5_setRegister yX5_setRegister ∈ TB := tb_29 _ (List.mem_of_getElem? (i := 18) rfl)
theorem gi_X5_69 : GoodIn TB (wsV RX5 69 RX5 yX5_setRegister (Cond.code yX5_setRegister cX5_setRegister 5 none :: TB)) := gi_v lk_X5_69 im_X5_setRegister se_X5_setRegister in_X5 co_X5_setRegister
theorem co_X5_operate : Cond.code yX5_operate cX5_operate 8 none ∈ TB := tb_30 _ (List.mem_of_getElem? (i := 3) rfl)
theorem hd_X5_operate : yX5_operate.cls = RX5 ∧ yX5_operate.cls ≠ "java/lang/invoke/MethodHandle" ∧ yX5_operate.cls ≠ "java/lang/invoke/VarHandle" ∧ (parseMethodDescriptor yX5_operate.desc).map (fun d => d.parameters.length) = some 3 := by decide +kernel
theorem lk_X5_73 : Cond.methodLink RX5 73 yX5_operate ∈ TB := tb_30 _ (List.mem_of_getElem? (i := 0) rfl)
theorem im_X5_operate : Cond.instanceMethod yX5_operate ∈ TB := tb_30 _ (List.mem_of_getElem? (i := 1) rfl)
theorem se_X5_operate : Cond.selects RX5 yX5_operate yX5_operate ∈ TB := tb_30 _ (List.mem_of_getElem? (i := 2) rfl)
theorem gi_X5_73 : GoodIn TB (wsV RX5 73 RX5 yX5_operate (Cond.code yX5_operate cX5_operate 8 none :: TB)) := gi_v lk_X5_73 im_X5_operate se_X5_operate in_X5 co_X5_operate
theorem co_X5_useMemory : Cond.code yX5_useMemory cX5_useMemory 8 none ∈ TB := tb_30 _ (List.mem_of_getElem? (i := 22) rfl)
theorem hd_X5_useMemory : yX5_useMemory.cls = RX5 ∧ yX5_useMemory.cls ≠ "java/lang/invoke/MethodHandle" ∧ yX5_useMemory.cls ≠ "java/lang/invoke/VarHandle" ∧ (parseMethodDescriptor yX5_useMemory.desc).map (fun d => d.parameters.length) = some 3 := by decide +kernel
theorem lk_X5_77 : Cond.methodLink RX5 77 yX5_useMemory ∈ TB := tb_30 _ (List.mem_of_getElem? (i := 19) rfl)
theorem im_X5_useMemory : Cond.instanceMethod yX5_useMemory ∈ TB := tb_30 _ (List.mem_of_getElem? (i := 20) rfl)
theorem se_X5_useMemory : Cond.selects RX5 yX5_useMemory yX5_useMemory ∈ TB := tb_30 _ (List.mem_of_getElem? (i := 21) rfl)
theorem gi_X5_77 : GoodIn TB (wsV RX5 77 RX5 yX5_useMemory (Cond.code yX5_useMemory cX5_useMemory 8 none :: TB)) := gi_v lk_X5_77 im_X5_useMemory se_X5_useMemory in_X5 co_X5_useMemory
theorem co_X5_useVariable : Cond.code yX5_useVariable cX5_useVariable 5 none ∈ TB := tb_32 _ (List.mem_of_getElem? (i := 5) rfl)
theorem hd_X5_useVariable : yX5_useVariable.cls = RX5 ∧ yX5_useVariable.cls ≠ "java/lang/invoke/MethodHandle" ∧ yX5_useVariable.cls ≠ "java/lang/invoke/VarHandle" ∧ (parseMethodDescriptor yX5_useVariable.desc).map (fun d => d.parameters.length) = some 3 := by decide +kernel
theorem lk_X5_80 : Cond.methodLink RX5 80 yX5_useVariable ∈ TB := tb_32 _ (List.mem_of_getElem? (i := 2) rfl)
theorem im_X5_useVariable : Cond.instanceMethod yX5_useVariable ∈ TB := tb_32 _ (List.mem_of_getElem? (i := 3) rfl)
theorem se_X5_useVariable : Cond.selects RX5 yX5_useVariable yX5_useVariable ∈ TB := tb_32 _ (List.mem_of_getElem? (i := 4) rfl)
theorem gi_X5_80 : GoodIn TB (wsV RX5 80 RX5 yX5_useVariable (Cond.code yX5_useVariable cX5_useVariable 5 none :: TB)) := gi_v lk_X5_80 im_X5_useVariable se_X5_useVariable in_X5 co_X5_useVariable
theorem co_X5_control : Cond.code yX5_control cX5_control 4 none ∈ TB := tb_32 _ (List.mem_of_getElem? (i := 10) rfl)
theorem hd_X5_control : yX5_control.cls = RX5 ∧ yX5_control.cls ≠ "java/lang/invoke/MethodHandle" ∧ yX5_control.cls ≠ "java/lang/invoke/VarHandle" ∧ (parseMethodDescriptor yX5_control.desc).map (fun d => d.parameters.length) = some 3 := by decide +kernel
theorem lk_X5_83 : Cond.methodLink RX5 83 yX5_control ∈ TB := tb_32 _ (List.mem_of_getElem? (i := 7) rfl)
theorem im_X5_control : Cond.instanceMethod yX5_control ∈ TB := tb_32 _ (List.mem_of_getElem? (i := 8) rfl)
theorem se_X5_control : Cond.selects RX5 yX5_control yX5_control ∈ TB := tb_32 _ (List.mem_of_getElem? (i := 9) rfl)
theorem gi_X5_83 : GoodIn TB (wsV RX5 83 RX5 yX5_control (Cond.code yX5_control cX5_control 4 none :: TB)) := gi_v lk_X5_83 im_X5_control se_X5_control in_X5 co_X5_control
theorem lk_X5_86 : Cond.fieldLink RX5 86 "RegisterMachine$RegisterCode" "y" "[I" ∈ TB := tb_30 _ (List.mem_of_getElem? (i := 4) rfl)
theorem co_X2_dividesByZero : Cond.code yX2_dividesByZero cX2_dividesByZero 3 (some .boolean) ∈ TB := tb_30 _ (List.mem_of_getElem? (i := 7) rfl)
theorem hd_X2_dividesByZero : yX2_dividesByZero.cls = RX2 ∧ yX2_dividesByZero.cls ≠ "java/lang/invoke/MethodHandle" ∧ yX2_dividesByZero.cls ≠ "java/lang/invoke/VarHandle" ∧ (parseMethodDescriptor yX2_dividesByZero.desc).map (fun d => d.parameters.length) = some 2 := by decide +kernel
theorem lk_X5_89 : Cond.methodLink RX5 89 yX2_dividesByZero ∈ TB := tb_30 _ (List.mem_of_getElem? (i := 5) rfl)
theorem st_X2_dividesByZero : Cond.static yX2_dividesByZero ∈ TB := tb_30 _ (List.mem_of_getElem? (i := 6) rfl)
theorem gi_X5_89 : GoodIn TB (va_wsS RX5 89 yX2_dividesByZero (Cond.code yX2_dividesByZero cX2_dividesByZero 3 (some .boolean) :: TB)) := gi_s lk_X5_89 st_X2_dividesByZero in_X2 co_X2_dividesByZero
theorem co_X0_fail : Cond.code yX0_fail cX0_fail 2 none ∈ TB := tb_30 _ (List.mem_of_getElem? (i := 11) rfl)
theorem hd_X0_fail : yX0_fail.cls = RX0 ∧ yX0_fail.cls ≠ "java/lang/invoke/MethodHandle" ∧ yX0_fail.cls ≠ "java/lang/invoke/VarHandle" ∧ (parseMethodDescriptor yX0_fail.desc).map (fun d => d.parameters.length) = some 1 := by decide +kernel
theorem lk_X5_95 : Cond.methodLink RX5 95 yX0_fail ∈ TB := tb_30 _ (List.mem_of_getElem? (i := 8) rfl)
theorem im_X0_fail : Cond.instanceMethod yX0_fail ∈ TB := tb_30 _ (List.mem_of_getElem? (i := 9) rfl)
theorem se_X0_fail : Cond.selects RX0 yX0_fail yX0_fail ∈ TB := tb_30 _ (List.mem_of_getElem? (i := 10) rfl)
theorem gi_X5_95 : GoodIn TB (wsV RX5 95 RX0 yX0_fail (Cond.code yX0_fail cX0_fail 2 none :: TB)) := gi_v lk_X5_95 im_X0_fail se_X0_fail in_X0 co_X0_fail
theorem co_X2_compute : Cond.code yX2_compute cX2_compute 5 (some .long) ∈ TB := tb_30 _ (List.mem_of_getElem? (i := 14) rfl)
theorem hd_X2_compute : yX2_compute.cls = RX2 ∧ yX2_compute.cls ≠ "java/lang/invoke/MethodHandle" ∧ yX2_compute.cls ≠ "java/lang/invoke/VarHandle" ∧ (parseMethodDescriptor yX2_compute.desc).map (fun d => d.parameters.length) = some 3 := by decide +kernel
theorem lk_X5_98 : Cond.methodLink RX5 98 yX2_compute ∈ TB := tb_30 _ (List.mem_of_getElem? (i := 12) rfl)
theorem st_X2_compute : Cond.static yX2_compute ∈ TB := tb_30 _ (List.mem_of_getElem? (i := 13) rfl)
theorem gi_X5_98 : GoodIn TB (va_wsS RX5 98 yX2_compute (Cond.code yX2_compute cX2_compute 5 (some .long) :: TB)) := gi_s lk_X5_98 st_X2_compute in_X2 co_X2_compute
theorem lk_X5_102 : Cond.fieldLink RX5 102 "RegisterMachine$World" "pages" "I" ∈ TB := tb_30 _ (List.mem_of_getElem? (i := 23) rfl)
theorem co_X7_grow : Cond.code yX7_grow cX7_grow 6 (some .long) ∈ TB := tb_31 _ (List.mem_of_getElem? (i := 4) rfl)
theorem hd_X7_grow : yX7_grow.cls = RX7 ∧ yX7_grow.cls ≠ "java/lang/invoke/MethodHandle" ∧ yX7_grow.cls ≠ "java/lang/invoke/VarHandle" ∧ (parseMethodDescriptor yX7_grow.desc).map (fun d => d.parameters.length) = some 1 := by decide +kernel
theorem lk_X5_107 : Cond.methodLink RX5 107 yX7_grow ∈ TB := tb_31 _ (List.mem_of_getElem? (i := 1) rfl)
theorem im_X7_grow : Cond.instanceMethod yX7_grow ∈ TB := tb_31 _ (List.mem_of_getElem? (i := 2) rfl)
theorem se_X7_grow : Cond.selects RX7 yX7_grow yX7_grow ∈ TB := tb_31 _ (List.mem_of_getElem? (i := 3) rfl)
theorem gi_X5_107 : GoodIn TB (wsV RX5 107 RX7 yX7_grow (Cond.code yX7_grow cX7_grow 6 (some .long) :: TB)) := gi_v lk_X5_107 im_X7_grow se_X7_grow in_X7 co_X7_grow
theorem lk_X5_111 : Cond.fieldLink RX5 111 "RegisterMachine$RegisterCode" "z" "[I" ∈ TB := tb_31 _ (List.mem_of_getElem? (i := 0) rfl)
theorem co_X7_place : Cond.code yX7_place cX7_place 3 (some .long) ∈ TB := tb_31 _ (List.mem_of_getElem? (i := 8) rfl)
theorem hd_X7_place : yX7_place.cls = RX7 ∧ yX7_place.cls ≠ "java/lang/invoke/MethodHandle" ∧ yX7_place.cls ≠ "java/lang/invoke/VarHandle" ∧ (parseMethodDescriptor yX7_place.desc).map (fun d => d.parameters.length) = some 2 := by decide +kernel
theorem lk_X5_114 : Cond.methodLink RX5 114 yX7_place ∈ TB := tb_31 _ (List.mem_of_getElem? (i := 6) rfl)
theorem st_X7_place : Cond.static yX7_place ∈ TB := tb_31 _ (List.mem_of_getElem? (i := 7) rfl)
theorem gi_X5_114 : GoodIn TB (va_wsS RX5 114 yX7_place (Cond.code yX7_place cX7_place 3 (some .long) :: TB)) := gi_s lk_X5_114 st_X7_place in_X7 co_X7_place
theorem co_X7_width : Cond.code yX7_width cX7_width 1 (some .int) ∈ TB := tb_31 _ (List.mem_of_getElem? (i := 11) rfl)
theorem hd_X7_width : yX7_width.cls = RX7 ∧ yX7_width.cls ≠ "java/lang/invoke/MethodHandle" ∧ yX7_width.cls ≠ "java/lang/invoke/VarHandle" ∧ (parseMethodDescriptor yX7_width.desc).map (fun d => d.parameters.length) = some 1 := by decide +kernel
theorem lk_X5_118 : Cond.methodLink RX5 118 yX7_width ∈ TB := tb_31 _ (List.mem_of_getElem? (i := 9) rfl)
theorem st_X7_width : Cond.static yX7_width ∈ TB := tb_31 _ (List.mem_of_getElem? (i := 10) rfl)
theorem gi_X5_118 : GoodIn TB (va_wsS RX5 118 yX7_width (Cond.code yX7_width cX7_width 1 (some .int) :: TB)) := gi_s lk_X5_118 st_X7_width in_X7 co_X7_width
theorem lk_X5_121 : Cond.methodLink RX5 121 yX7_holds ∈ TB := tb_31 _ (List.mem_of_getElem? (i := 12) rfl)
theorem gi_X5_121 : GoodIn TB (wsV RX5 121 RX7 yX7_holds (Cond.code yX7_holds cX7_holds 4 (some .boolean) :: TB)) := gi_v lk_X5_121 im_X7_holds se_X7_holds in_X7 co_X7_holds
theorem co_X7_store : Cond.code yX7_store cX7_store 6 none ∈ TB := tb_31 _ (List.mem_of_getElem? (i := 20) rfl)
theorem hd_X7_store : yX7_store.cls = RX7 ∧ yX7_store.cls ≠ "java/lang/invoke/MethodHandle" ∧ yX7_store.cls ≠ "java/lang/invoke/VarHandle" ∧ (parseMethodDescriptor yX7_store.desc).map (fun d => d.parameters.length) = some 3 := by decide +kernel
theorem lk_X5_125 : Cond.methodLink RX5 125 yX7_store ∈ TB := tb_31 _ (List.mem_of_getElem? (i := 17) rfl)
theorem im_X7_store : Cond.instanceMethod yX7_store ∈ TB := tb_31 _ (List.mem_of_getElem? (i := 18) rfl)
theorem se_X7_store : Cond.selects RX7 yX7_store yX7_store ∈ TB := tb_31 _ (List.mem_of_getElem? (i := 19) rfl)
theorem gi_X5_125 : GoodIn TB (wsV RX5 125 RX7 yX7_store (Cond.code yX7_store cX7_store 6 none :: TB)) := gi_v lk_X5_125 im_X7_store se_X7_store in_X7 co_X7_store
theorem co_X7_load : Cond.code yX7_load cX7_load 6 (some .long) ∈ TB := tb_32 _ (List.mem_of_getElem? (i := 1) rfl)
theorem hd_X7_load : yX7_load.cls = RX7 ∧ yX7_load.cls ≠ "java/lang/invoke/MethodHandle" ∧ yX7_load.cls ≠ "java/lang/invoke/VarHandle" ∧ (parseMethodDescriptor yX7_load.desc).map (fun d => d.parameters.length) = some 2 := by decide +kernel
theorem lk_X5_128 : Cond.methodLink RX5 128 yX7_load ∈ TB := tb_31 _ (List.mem_of_getElem? (i := 22) rfl)
theorem im_X7_load : Cond.instanceMethod yX7_load ∈ TB := tb_31 _ (List.mem_of_getElem? (i := 23) rfl)
theorem se_X7_load : Cond.selects RX7 yX7_load yX7_load ∈ TB := tb_32 _ (List.mem_of_getElem? (i := 0) rfl)
theorem gi_X5_128 : GoodIn TB (wsV RX5 128 RX7 yX7_load (Cond.code yX7_load cX7_load 6 (some .long) :: TB)) := gi_v lk_X5_128 im_X7_load se_X7_load in_X7 co_X7_load
theorem lk_X5_131 : Cond.fieldLink RX5 131 "RegisterMachine$World" "globals" "[J" ∈ TB := tb_32 _ (List.mem_of_getElem? (i := 6) rfl)
theorem co_X5_isZero : Cond.code yX5_isZero cX5_isZero 3 (some .boolean) ∈ TB := tb_32 _ (List.mem_of_getElem? (i := 15) rfl)
theorem hd_X5_isZero : yX5_isZero.cls = RX5 ∧ yX5_isZero.cls ≠ "java/lang/invoke/MethodHandle" ∧ yX5_isZero.cls ≠ "java/lang/invoke/VarHandle" ∧ (parseMethodDescriptor yX5_isZero.desc).map (fun d => d.parameters.length) = some 2 := by decide +kernel
theorem lk_X5_135 : Cond.methodLink RX5 135 yX5_isZero ∈ TB := tb_32 _ (List.mem_of_getElem? (i := 12) rfl)
theorem im_X5_isZero : Cond.instanceMethod yX5_isZero ∈ TB := tb_32 _ (List.mem_of_getElem? (i := 13) rfl)
theorem se_X5_isZero : Cond.selects RX5 yX5_isZero yX5_isZero ∈ TB := tb_32 _ (List.mem_of_getElem? (i := 14) rfl)
theorem gi_X5_135 : GoodIn TB (wsV RX5 135 RX5 yX5_isZero (Cond.code yX5_isZero cX5_isZero 3 (some .boolean) :: TB)) := gi_v lk_X5_135 im_X5_isZero se_X5_isZero in_X5 co_X5_isZero
theorem co_X5_branch : Cond.code yX5_branch cX5_branch 4 none ∈ TB := tb_32 _ (List.mem_of_getElem? (i := 19) rfl)
theorem hd_X5_branch : yX5_branch.cls = RX5 ∧ yX5_branch.cls ≠ "java/lang/invoke/MethodHandle" ∧ yX5_branch.cls ≠ "java/lang/invoke/VarHandle" ∧ (parseMethodDescriptor yX5_branch.desc).map (fun d => d.parameters.length) = some 2 := by decide +kernel
theorem lk_X5_139 : Cond.methodLink RX5 139 yX5_branch ∈ TB := tb_32 _ (List.mem_of_getElem? (i := 16) rfl)
theorem im_X5_branch : Cond.instanceMethod yX5_branch ∈ TB := tb_32 _ (List.mem_of_getElem? (i := 17) rfl)
theorem se_X5_branch : Cond.selects RX5 yX5_branch yX5_branch ∈ TB := tb_32 _ (List.mem_of_getElem? (i := 18) rfl)
theorem gi_X5_139 : GoodIn TB (wsV RX5 139 RX5 yX5_branch (Cond.code yX5_branch cX5_branch 4 none :: TB)) := gi_v lk_X5_139 im_X5_branch se_X5_branch in_X5 co_X5_branch
theorem co_X5_tableEntry : Cond.code yX5_tableEntry cX5_tableEntry 3 (some .int) ∈ TB := tb_33 _ (List.mem_of_getElem? (i := 3) rfl)
theorem hd_X5_tableEntry : yX5_tableEntry.cls = RX5 ∧ yX5_tableEntry.cls ≠ "java/lang/invoke/MethodHandle" ∧ yX5_tableEntry.cls ≠ "java/lang/invoke/VarHandle" ∧ (parseMethodDescriptor yX5_tableEntry.desc).map (fun d => d.parameters.length) = some 2 := by decide +kernel
theorem lk_X5_143 : Cond.methodLink RX5 143 yX5_tableEntry ∈ TB := tb_33 _ (List.mem_of_getElem? (i := 0) rfl)
theorem im_X5_tableEntry : Cond.instanceMethod yX5_tableEntry ∈ TB := tb_33 _ (List.mem_of_getElem? (i := 1) rfl)
theorem se_X5_tableEntry : Cond.selects RX5 yX5_tableEntry yX5_tableEntry ∈ TB := tb_33 _ (List.mem_of_getElem? (i := 2) rfl)
theorem gi_X5_143 : GoodIn TB (wsV RX5 143 RX5 yX5_tableEntry (Cond.code yX5_tableEntry cX5_tableEntry 3 (some .int) :: TB)) := gi_v lk_X5_143 im_X5_tableEntry se_X5_tableEntry in_X5 co_X5_tableEntry
theorem lk_X5_147 : Cond.fieldLink RX5 147 "RegisterMachine$Activity" "base" "[I" ∈ TB := tb_29 _ (List.mem_of_getElem? (i := 6) rfl)
theorem co_X0_leave : Cond.code yX0_leave cX0_leave 4 none ∈ TB := tb_33 _ (List.mem_of_getElem? (i := 11) rfl)
theorem hd_X0_leave : yX0_leave.cls = RX0 ∧ yX0_leave.cls ≠ "java/lang/invoke/MethodHandle" ∧ yX0_leave.cls ≠ "java/lang/invoke/VarHandle" ∧ (parseMethodDescriptor yX0_leave.desc).map (fun d => d.parameters.length) = some 1 := by decide +kernel
theorem lk_X5_150 : Cond.methodLink RX5 150 yX0_leave ∈ TB := tb_33 _ (List.mem_of_getElem? (i := 8) rfl)
theorem im_X0_leave : Cond.instanceMethod yX0_leave ∈ TB := tb_33 _ (List.mem_of_getElem? (i := 9) rfl)
theorem se_X0_leave : Cond.selects RX0 yX0_leave yX0_leave ∈ TB := tb_33 _ (List.mem_of_getElem? (i := 10) rfl)
theorem gi_X5_150 : GoodIn TB (wsV RX5 150 RX0 yX0_leave (Cond.code yX0_leave cX0_leave 4 none :: TB)) := gi_v lk_X5_150 im_X0_leave se_X0_leave in_X0 co_X0_leave
theorem lk_X5_153 : Cond.fieldLink RX5 153 "RegisterMachine$Activity" "values" "[J" ∈ TB := tb_32 _ (List.mem_of_getElem? (i := 11) rfl)
theorem lk_X5_156 : Cond.methodLink RX5 156 yX0_enter ∈ TB := tb_33 _ (List.mem_of_getElem? (i := 15) rfl)
theorem gi_X5_156 : GoodIn TB (wsV RX5 156 RX0 yX0_enter (Cond.code yX0_enter cX0_enter 9 none :: TB)) := gi_v lk_X5_156 im_X0_enter se_X0_enter in_X0 co_X0_enter
theorem co_X5_invokeEntry : Cond.code yX5_invokeEntry cX5_invokeEntry 4 none ∈ TB := tb_33 _ (List.mem_of_getElem? (i := 19) rfl)
theorem hd_X5_invokeEntry : yX5_invokeEntry.cls = RX5 ∧ yX5_invokeEntry.cls ≠ "java/lang/invoke/MethodHandle" ∧ yX5_invokeEntry.cls ≠ "java/lang/invoke/VarHandle" ∧ (parseMethodDescriptor yX5_invokeEntry.desc).map (fun d => d.parameters.length) = some 2 := by decide +kernel
theorem lk_X5_160 : Cond.methodLink RX5 160 yX5_invokeEntry ∈ TB := tb_33 _ (List.mem_of_getElem? (i := 16) rfl)
theorem im_X5_invokeEntry : Cond.instanceMethod yX5_invokeEntry ∈ TB := tb_33 _ (List.mem_of_getElem? (i := 17) rfl)
theorem se_X5_invokeEntry : Cond.selects RX5 yX5_invokeEntry yX5_invokeEntry ∈ TB := tb_33 _ (List.mem_of_getElem? (i := 18) rfl)
theorem gi_X5_160 : GoodIn TB (wsV RX5 160 RX5 yX5_invokeEntry (Cond.code yX5_invokeEntry cX5_invokeEntry 4 none :: TB)) := gi_v lk_X5_160 im_X5_invokeEntry se_X5_invokeEntry in_X5 co_X5_invokeEntry
theorem lk_X5_163 : Cond.methodLink RX5 163 yX0_move ∈ TB := tb_32 _ (List.mem_of_getElem? (i := 20) rfl)
theorem gi_X5_163 : GoodIn TB (wsV RX5 163 RX0 yX0_move (Cond.code yX0_move cX0_move 5 none :: TB)) := gi_v lk_X5_163 im_X0_move se_X0_move in_X0 co_X0_move
theorem lk_X5_166 : Cond.constantLong RX5 166 (4294967295) ∈ TB := tb_33 _ (List.mem_of_getElem? (i := 4) rfl)
theorem lk_X5_168 : Cond.methodLink RX5 168 Lib.MathLoose.min_long.x ∈ TB := tb_33 _ (List.mem_of_getElem? (i := 5) rfl)
theorem co_X7_find : Cond.code yX7_find cX7_find 10 (some .int) ∈ TB := tb_33 _ (List.mem_of_getElem? (i := 23) rfl)
theorem hd_X7_find : yX7_find.cls = RX7 ∧ yX7_find.cls ≠ "java/lang/invoke/MethodHandle" ∧ yX7_find.cls ≠ "java/lang/invoke/VarHandle" ∧ (parseMethodDescriptor yX7_find.desc).map (fun d => d.parameters.length) = some 4 := by decide +kernel
theorem lk_X5_174 : Cond.methodLink RX5 174 yX7_find ∈ TB := tb_33 _ (List.mem_of_getElem? (i := 20) rfl)
theorem im_X7_find : Cond.instanceMethod yX7_find ∈ TB := tb_33 _ (List.mem_of_getElem? (i := 21) rfl)
theorem se_X7_find : Cond.selects RX7 yX7_find yX7_find ∈ TB := tb_33 _ (List.mem_of_getElem? (i := 22) rfl)
theorem gi_X5_174 : GoodIn TB (wsV RX5 174 RX7 yX7_find (Cond.code yX7_find cX7_find 10 (some .int) :: TB)) := gi_v lk_X5_174 im_X7_find se_X7_find in_X7 co_X7_find
theorem co_X3_constant : Cond.code yX3_constant cX3_constant 4 (some .long) ∈ TB := tb_29 _ (List.mem_of_getElem? (i := 10) rfl)
theorem hd_X3_constant : yX3_constant.cls = RX3 ∧ yX3_constant.cls ≠ "java/lang/invoke/MethodHandle" ∧ yX3_constant.cls ≠ "java/lang/invoke/VarHandle" ∧ (parseMethodDescriptor yX3_constant.desc).map (fun d => d.parameters.length) = some 1 := by decide +kernel
theorem lk_X5_178 : Cond.methodLink RX5 178 yX3_constant ∈ TB := tb_29 _ (List.mem_of_getElem? (i := 7) rfl)
theorem im_X3_constant : Cond.instanceMethod yX3_constant ∈ TB := tb_29 _ (List.mem_of_getElem? (i := 8) rfl)
theorem se_X3_constant : Cond.selects RX3 yX3_constant yX3_constant ∈ TB := tb_29 _ (List.mem_of_getElem? (i := 9) rfl)
theorem gi_X5_178 : GoodIn TB (wsV RX5 178 RX3 yX3_constant (Cond.code yX3_constant cX3_constant 4 (some .long) :: TB)) := gi_v lk_X5_178 im_X3_constant se_X3_constant in_X3 co_X3_constant
theorem lk_X5_184 : Cond.methodLink RX5 184 yX0_value ∈ TB := tb_29 _ (List.mem_of_getElem? (i := 12) rfl)
theorem gi_X5_184 : GoodIn TB (wsV RX5 184 RX0 yX0_value (Cond.code yX0_value cX0_value 2 (some .long) :: TB)) := gi_v lk_X5_184 im_X0_value se_X0_value in_X0 co_X0_value
theorem co_X0_setValue : Cond.code yX0_setValue cX0_setValue 4 none ∈ TB := tb_29 _ (List.mem_of_getElem? (i := 23) rfl)
theorem hd_X0_setValue : yX0_setValue.cls = RX0 ∧ yX0_setValue.cls ≠ "java/lang/invoke/MethodHandle" ∧ yX0_setValue.cls ≠ "java/lang/invoke/VarHandle" ∧ (parseMethodDescriptor yX0_setValue.desc).map (fun d => d.parameters.length) = some 2 := by decide +kernel
theorem lk_X5_187 : Cond.methodLink RX5 187 yX0_setValue ∈ TB := tb_29 _ (List.mem_of_getElem? (i := 20) rfl)
theorem im_X0_setValue : Cond.instanceMethod yX0_setValue ∈ TB := tb_29 _ (List.mem_of_getElem? (i := 21) rfl)
theorem se_X0_setValue : Cond.selects RX0 yX0_setValue yX0_setValue ∈ TB := tb_29 _ (List.mem_of_getElem? (i := 22) rfl)
theorem gi_X5_187 : GoodIn TB (wsV RX5 187 RX0 yX0_setValue (Cond.code yX0_setValue cX0_setValue 4 none :: TB)) := gi_v lk_X5_187 im_X0_setValue se_X0_setValue in_X0 co_X0_setValue
theorem lk_X6_9 : Cond.fieldLink RX6 9 "RegisterMachine$StackRunner" "program" "LRegisterMachine$Program;" ∈ TB := tb_7 _ (List.mem_of_getElem? (i := 3) rfl)
theorem lk_X6_15 : Cond.fieldLink RX6 15 "RegisterMachine$StackRunner" "world" "LRegisterMachine$World;" ∈ TB := tb_7 _ (List.mem_of_getElem? (i := 4) rfl)
theorem lk_X6_19 : Cond.fieldLink RX6 19 "RegisterMachine$StackRunner" "activity" "LRegisterMachine$Activity;" ∈ TB := tb_7 _ (List.mem_of_getElem? (i := 5) rfl)
theorem lk_X6_23 : Cond.fieldLink RX6 23 "RegisterMachine$Program" "size" "I" ∈ TB := tb_34 _ (List.mem_of_getElem? (i := 8) rfl)
theorem lk_X6_29 : Cond.methodLink RX6 29 yX0_nextWithin ∈ TB := tb_34 _ (List.mem_of_getElem? (i := 13) rfl)
theorem gi_X6_29 : GoodIn TB (wsV RX6 29 RX0 yX0_nextWithin (Cond.code yX0_nextWithin cX0_nextWithin 2 (some .int) :: TB)) := gi_v lk_X6_29 im_X0_nextWithin se_X0_nextWithin in_X0 co_X0_nextWithin
theorem lk_X6_35 : Cond.fieldLink RX6 35 "RegisterMachine$Activity" "frames" "I" ∈ TB := tb_34 _ (List.mem_of_getElem? (i := 9) rfl)
theorem lk_X6_38 : Cond.fieldLink RX6 38 "RegisterMachine$Program" "operation" "[I" ∈ TB := tb_34 _ (List.mem_of_getElem? (i := 10) rfl)
theorem lk_X6_42 : Cond.fieldLink RX6 42 "RegisterMachine$Activity" "next" "[I" ∈ TB := tb_34 _ (List.mem_of_getElem? (i := 11) rfl)
theorem lk_X6_45 : Cond.fieldLink RX6 45 "RegisterMachine$Program" "link" "[I" ∈ TB := tb_34 _ (List.mem_of_getElem? (i := 12) rfl)
theorem co_X6_giveBack : Cond.code yX6_giveBack cX6_giveBack 2 none ∈ TB := tb_34 _ (List.mem_of_getElem? (i := 17) rfl)
theorem hd_X6_giveBack : yX6_giveBack.cls = RX6 ∧ yX6_giveBack.cls ≠ "java/lang/invoke/MethodHandle" ∧ yX6_giveBack.cls ≠ "java/lang/invoke/VarHandle" ∧ (parseMethodDescriptor yX6_giveBack.desc).map (fun d => d.parameters.length) = some 1 := by decide +kernel
theorem lk_X6_48 : Cond.methodLink RX6 48 yX6_giveBack ∈ TB := tb_34 _ (List.mem_of_getElem? (i := 14) rfl)
theorem im_X6_giveBack : Cond.instanceMethod yX6_giveBack ∈ TB := tb_34 _ (List.mem_of_getElem? (i := 15) rfl)
theorem se_X6_giveBack : Cond.selects RX6 yX6_giveBack yX6_giveBack ∈ TB := tb_34 _ (List.mem_of_getElem? (i := 16) rfl)
theorem gi_X6_48 : GoodIn TB (wsV RX6 48 RX6 yX6_giveBack (Cond.code yX6_giveBack cX6_giveBack 2 none :: TB)) := gi_v lk_X6_48 im_X6_giveBack se_X6_giveBack in_X6 co_X6_giveBack
theorem co_X6_operate : Cond.code yX6_operate cX6_operate 7 none ∈ TB := tb_37 _ (List.mem_of_getElem? (i := 14) rfl)
theorem hd_X6_operate : yX6_operate.cls = RX6 ∧ yX6_operate.cls ≠ "java/lang/invoke/MethodHandle" ∧ yX6_operate.cls ≠ "java/lang/invoke/VarHandle" ∧ (parseMethodDescriptor yX6_operate.desc).map (fun d => d.parameters.length) = some 2 := by decide +kernel
theorem lk_X6_52 : Cond.methodLink RX6 52 yX6_operate ∈ TB := tb_37 _ (List.mem_of_getElem? (i := 11) rfl)
theorem im_X6_operate : Cond.instanceMethod yX6_operate ∈ TB := tb_37 _ (List.mem_of_getElem? (i := 12) rfl)
theorem se_X6_operate : Cond.selects RX6 yX6_operate yX6_operate ∈ TB := tb_37 _ (List.mem_of_getElem? (i := 13) rfl)
theorem gi_X6_52 : GoodIn TB (wsV RX6 52 RX6 yX6_operate (Cond.code yX6_operate cX6_operate 7 none :: TB)) := gi_v lk_X6_52 im_X6_operate se_X6_operate in_X6 co_X6_operate
theorem lk_X6_56 : Cond.methodLink RX6 56 yX3_constant ∈ TB := tb_38 _ (List.mem_of_getElem? (i := 5) rfl)
theorem gi_X6_56 : GoodIn TB (wsV RX6 56 RX3 yX3_constant (Cond.code yX3_constant cX3_constant 4 (some .long) :: TB)) := gi_v lk_X6_56 im_X3_constant se_X3_constant in_X3 co_X3_constant
theorem co_X6_push : Cond.code yX6_push cX6_push 4 none ∈ TB := tb_38 _ (List.mem_of_getElem? (i := 3) rfl)
theorem hd_X6_push : yX6_push.cls = RX6 ∧ yX6_push.cls ≠ "java/lang/invoke/MethodHandle" ∧ yX6_push.cls ≠ "java/lang/invoke/VarHandle" ∧ (parseMethodDescriptor yX6_push.desc).map (fun d => d.parameters.length) = some 2 := by decide +kernel
theorem lk_X6_60 : Cond.methodLink RX6 60 yX6_push ∈ TB := tb_38 _ (List.mem_of_getElem? (i := 0) rfl)
theorem im_X6_push : Cond.instanceMethod yX6_push ∈ TB := tb_38 _ (List.mem_of_getElem? (i := 1) rfl)
theorem se_X6_push : Cond.selects RX6 yX6_push yX6_push ∈ TB := tb_38 _ (List.mem_of_getElem? (i := 2) rfl)
theorem gi_X6_60 : GoodIn TB (wsV RX6 60 RX6 yX6_push (Cond.code yX6_push cX6_push 4 none :: TB)) := gi_v lk_X6_60 im_X6_push se_X6_push in_X6 co_X6_push
theorem lk_X6_64 : Cond.fieldLink RX6 64 "RegisterMachine$Program" "a" "[I" ∈ TB := tb_37 _ (List.mem_of_getElem? (i := 10) rfl)
theorem co_X6_useMemory : Cond.code yX6_useMemory cX6_useMemory 8 none ∈ TB := tb_38 _ (List.mem_of_getElem? (i := 9) rfl)
theorem hd_X6_useMemory : yX6_useMemory.cls = RX6 ∧ yX6_useMemory.cls ≠ "java/lang/invoke/MethodHandle" ∧ yX6_useMemory.cls ≠ "java/lang/invoke/VarHandle" ∧ (parseMethodDescriptor yX6_useMemory.desc).map (fun d => d.parameters.length) = some 3 := by decide +kernel
theorem lk_X6_67 : Cond.methodLink RX6 67 yX6_useMemory ∈ TB := tb_38 _ (List.mem_of_getElem? (i := 6) rfl)
theorem im_X6_useMemory : Cond.instanceMethod yX6_useMemory ∈ TB := tb_38 _ (List.mem_of_getElem? (i := 7) rfl)
theorem se_X6_useMemory : Cond.selects RX6 yX6_useMemory yX6_useMemory ∈ TB := tb_38 _ (List.mem_of_getElem? (i := 8) rfl)
theorem gi_X6_67 : GoodIn TB (wsV RX6 67 RX6 yX6_useMemory (Cond.code yX6_useMemory cX6_useMemory 8 none :: TB)) := gi_v lk_X6_67 im_X6_useMemory se_X6_useMemory in_X6 co_X6_useMemory
theorem co_X6_useVariable : Cond.code yX6_useVariable cX6_useVariable 5 none ∈ TB := tb_38 _ (List.mem_of_getElem? (i := 20) rfl)
theorem hd_X6_useVariable : yX6_useVariable.cls = RX6 ∧ yX6_useVariable.cls ≠ "java/lang/invoke/MethodHandle" ∧ yX6_useVariable.cls ≠ "java/lang/invoke/VarHandle" ∧ (parseMethodDescriptor yX6_useVariable.desc).map (fun d => d.parameters.length) = some 3 := by decide +kernel
theorem lk_X6_71 : Cond.methodLink RX6 71 yX6_useVariable ∈ TB := tb_38 _ (List.mem_of_getElem? (i := 17) rfl)
theorem im_X6_useVariable : Cond.instanceMethod yX6_useVariable ∈ TB := tb_38 _ (List.mem_of_getElem? (i := 18) rfl)
theorem se_X6_useVariable : Cond.selects RX6 yX6_useVariable yX6_useVariable ∈ TB := tb_38 _ (List.mem_of_getElem? (i := 19) rfl)
theorem gi_X6_71 : GoodIn TB (wsV RX6 71 RX6 yX6_useVariable (Cond.code yX6_useVariable cX6_useVariable 5 none :: TB)) := gi_v lk_X6_71 im_X6_useVariable se_X6_useVariable in_X6 co_X6_useVariable
theorem co_X6_control : Cond.code yX6_control cX6_control 4 none ∈ TB := tb_39 _ (List.mem_of_getElem? (i := 6) rfl)
theorem hd_X6_control : yX6_control.cls = RX6 ∧ yX6_control.cls ≠ "java/lang/invoke/MethodHandle" ∧ yX6_control.cls ≠ "java/lang/invoke/VarHandle" ∧ (parseMethodDescriptor yX6_control.desc).map (fun d => d.parameters.length) = some 3 := by decide +kernel
theorem lk_X6_74 : Cond.methodLink RX6 74 yX6_control ∈ TB := tb_39 _ (List.mem_of_getElem? (i := 3) rfl)
theorem im_X6_control : Cond.instanceMethod yX6_control ∈ TB := tb_39 _ (List.mem_of_getElem? (i := 4) rfl)
theorem se_X6_control : Cond.selects RX6 yX6_control yX6_control ∈ TB := tb_39 _ (List.mem_of_getElem? (i := 5) rfl)
theorem gi_X6_74 : GoodIn TB (wsV RX6 74 RX6 yX6_control (Cond.code yX6_control cX6_control 4 none :: TB)) := gi_v lk_X6_74 im_X6_control se_X6_control in_X6 co_X6_control
theorem lk_X6_77 : Cond.methodLink RX6 77 yX2_operatorTakes ∈ TB := tb_37 _ (List.mem_of_getElem? (i := 15) rfl)
theorem gi_X6_77 : GoodIn TB (va_wsS RX6 77 yX2_operatorTakes (Cond.code yX2_operatorTakes cX2_operatorTakes 1 (some .int) :: TB)) := gi_s lk_X6_77 st_X2_operatorTakes in_X2 co_X2_operatorTakes
theorem co_X6_pop : Cond.code yX6_pop cX6_pop 2 (some .long) ∈ TB := tb_37 _ (List.mem_of_getElem? (i := 19) rfl)
theorem hd_X6_pop : yX6_pop.cls = RX6 ∧ yX6_pop.cls ≠ "java/lang/invoke/MethodHandle" ∧ yX6_pop.cls ≠ "java/lang/invoke/VarHandle" ∧ (parseMethodDescriptor yX6_pop.desc).map (fun d => d.parameters.length) = some 1 := by decide +kernel
theorem lk_X6_82 : Cond.methodLink RX6 82 yX6_pop ∈ TB := tb_37 _ (List.mem_of_getElem? (i := 16) rfl)
theorem im_X6_pop : Cond.instanceMethod yX6_pop ∈ TB := tb_37 _ (List.mem_of_getElem? (i := 17) rfl)
theorem se_X6_pop : Cond.selects RX6 yX6_pop yX6_pop ∈ TB := tb_37 _ (List.mem_of_getElem? (i := 18) rfl)
theorem gi_X6_82 : GoodIn TB (wsV RX6 82 RX6 yX6_pop (Cond.code yX6_pop cX6_pop 2 (some .long) :: TB)) := gi_v lk_X6_82 im_X6_pop se_X6_pop in_X6 co_X6_pop
theorem lk_X6_85 : Cond.methodLink RX6 85 yX2_dividesByZero ∈ TB := tb_37 _ (List.mem_of_getElem? (i := 21) rfl)
theorem gi_X6_85 : GoodIn TB (va_wsS RX6 85 yX2_dividesByZero (Cond.code yX2_dividesByZero cX2_dividesByZero 3 (some .boolean) :: TB)) := gi_s lk_X6_85 st_X2_dividesByZero in_X2 co_X2_dividesByZero
theorem lk_X6_89 : Cond.methodLink RX6 89 yX0_fail ∈ TB := tb_37 _ (List.mem_of_getElem? (i := 22) rfl)
theorem gi_X6_89 : GoodIn TB (wsV RX6 89 RX0 yX0_fail (Cond.code yX0_fail cX0_fail 2 none :: TB)) := gi_v lk_X6_89 im_X0_fail se_X0_fail in_X0 co_X0_fail
theorem lk_X6_92 : Cond.methodLink RX6 92 yX2_compute ∈ TB := tb_37 _ (List.mem_of_getElem? (i := 23) rfl)
theorem gi_X6_92 : GoodIn TB (va_wsS RX6 92 yX2_compute (Cond.code yX2_compute cX2_compute 5 (some .long) :: TB)) := gi_s lk_X6_92 st_X2_compute in_X2 co_X2_compute
theorem lk_X6_96 : Cond.fieldLink RX6 96 "RegisterMachine$World" "pages" "I" ∈ TB := tb_38 _ (List.mem_of_getElem? (i := 10) rfl)
theorem lk_X6_101 : Cond.methodLink RX6 101 yX7_grow ∈ TB := tb_38 _ (List.mem_of_getElem? (i := 11) rfl)
theorem gi_X6_101 : GoodIn TB (wsV RX6 101 RX7 yX7_grow (Cond.code yX7_grow cX7_grow 6 (some .long) :: TB)) := gi_v lk_X6_101 im_X7_grow se_X7_grow in_X7 co_X7_grow
theorem lk_X6_105 : Cond.methodLink RX6 105 yX7_place ∈ TB := tb_38 _ (List.mem_of_getElem? (i := 12) rfl)
theorem gi_X6_105 : GoodIn TB (va_wsS RX6 105 yX7_place (Cond.code yX7_place cX7_place 3 (some .long) :: TB)) := gi_s lk_X6_105 st_X7_place in_X7 co_X7_place
theorem lk_X6_109 : Cond.methodLink RX6 109 yX7_width ∈ TB := tb_38 _ (List.mem_of_getElem? (i := 13) rfl)
theorem gi_X6_109 : GoodIn TB (va_wsS RX6 109 yX7_width (Cond.code yX7_width cX7_width 1 (some .int) :: TB)) := gi_s lk_X6_109 st_X7_width in_X7 co_X7_width
theorem lk_X6_112 : Cond.methodLink RX6 112 yX7_holds ∈ TB := tb_38 _ (List.mem_of_getElem? (i := 14) rfl)
theorem gi_X6_112 : GoodIn TB (wsV RX6 112 RX7 yX7_holds (Cond.code yX7_holds cX7_holds 4 (some .boolean) :: TB)) := gi_v lk_X6_112 im_X7_holds se_X7_holds in_X7 co_X7_holds
theorem lk_X6_116 : Cond.methodLink RX6 116 yX7_store ∈ TB := tb_38 _ (List.mem_of_getElem? (i := 15) rfl)
theorem gi_X6_116 : GoodIn TB (wsV RX6 116 RX7 yX7_store (Cond.code yX7_store cX7_store 6 none :: TB)) := gi_v lk_X6_116 im_X7_store se_X7_store in_X7 co_X7_store
theorem lk_X6_120 : Cond.methodLink RX6 120 yX7_load ∈ TB := tb_38 _ (List.mem_of_getElem? (i := 16) rfl)
theorem gi_X6_120 : GoodIn TB (wsV RX6 120 RX7 yX7_load (Cond.code yX7_load cX7_load 6 (some .long) :: TB)) := gi_v lk_X6_120 im_X7_load se_X7_load in_X7 co_X7_load
theorem lk_X6_124 : Cond.fieldLink RX6 124 "RegisterMachine$Activity" "base" "[I" ∈ TB := tb_38 _ (List.mem_of_getElem? (i := 21) rfl)
theorem co_X6_select : Cond.code yX6_select cX6_select 7 none ∈ TB := tb_39 _ (List.mem_of_getElem? (i := 2) rfl)
theorem hd_X6_select : yX6_select.cls = RX6 ∧ yX6_select.cls ≠ "java/lang/invoke/MethodHandle" ∧ yX6_select.cls ≠ "java/lang/invoke/VarHandle" ∧ (parseMethodDescriptor yX6_select.desc).map (fun d => d.parameters.length) = some 1 := by decide +kernel
theorem lk_X6_127 : Cond.methodLink RX6 127 yX6_select ∈ TB := tb_38 _ (List.mem_of_getElem? (i := 23) rfl)
theorem im_X6_select : Cond.instanceMethod yX6_select ∈ TB := tb_39 _ (List.mem_of_getElem? (i := 0) rfl)
theorem se_X6_select : Cond.selects RX6 yX6_select yX6_select ∈ TB := tb_39 _ (List.mem_of_getElem? (i := 1) rfl)
theorem gi_X6_127 : GoodIn TB (wsV RX6 127 RX6 yX6_select (Cond.code yX6_select cX6_select 7 none :: TB)) := gi_v lk_X6_127 im_X6_select se_X6_select in_X6 co_X6_select
theorem lk_X6_130 : Cond.methodLink RX6 130 yX0_value ∈ TB := tb_37 _ (List.mem_of_getElem? (i := 20) rfl)
theorem gi_X6_130 : GoodIn TB (wsV RX6 130 RX0 yX0_value (Cond.code yX0_value cX0_value 2 (some .long) :: TB)) := gi_v lk_X6_130 im_X0_value se_X0_value in_X0 co_X0_value
theorem lk_X6_133 : Cond.methodLink RX6 133 yX0_setValue ∈ TB := tb_38 _ (List.mem_of_getElem? (i := 4) rfl)
theorem gi_X6_133 : GoodIn TB (wsV RX6 133 RX0 yX0_setValue (Cond.code yX0_setValue cX0_setValue 4 none :: TB)) := gi_v lk_X6_133 im_X0_setValue se_X0_setValue in_X0 co_X0_setValue
theorem lk_X6_136 : Cond.fieldLink RX6 136 "RegisterMachine$Activity" "top" "[I" ∈ TB := tb_34 _ (List.mem_of_getElem? (i := 18) rfl)
theorem lk_X6_139 : Cond.fieldLink RX6 139 "RegisterMachine$World" "globals" "[J" ∈ TB := tb_38 _ (List.mem_of_getElem? (i := 22) rfl)
theorem co_X6_beginIf : Cond.code yX6_beginIf cX6_beginIf 4 none ∈ TB := tb_39 _ (List.mem_of_getElem? (i := 12) rfl)
theorem hd_X6_beginIf : yX6_beginIf.cls = RX6 ∧ yX6_beginIf.cls ≠ "java/lang/invoke/MethodHandle" ∧ yX6_beginIf.cls ≠ "java/lang/invoke/VarHandle" ∧ (parseMethodDescriptor yX6_beginIf.desc).map (fun d => d.parameters.length) = some 2 := by decide +kernel
theorem lk_X6_143 : Cond.methodLink RX6 143 yX6_beginIf ∈ TB := tb_39 _ (List.mem_of_getElem? (i := 9) rfl)
theorem im_X6_beginIf : Cond.instanceMethod yX6_beginIf ∈ TB := tb_39 _ (List.mem_of_getElem? (i := 10) rfl)
theorem se_X6_beginIf : Cond.selects RX6 yX6_beginIf yX6_beginIf ∈ TB := tb_39 _ (List.mem_of_getElem? (i := 11) rfl)
theorem gi_X6_143 : GoodIn TB (wsV RX6 143 RX6 yX6_beginIf (Cond.code yX6_beginIf cX6_beginIf 4 none :: TB)) := gi_v lk_X6_143 im_X6_beginIf se_X6_beginIf in_X6 co_X6_beginIf
theorem co_X6_branch : Cond.code yX6_branch cX6_branch 7 none ∈ TB := tb_39 _ (List.mem_of_getElem? (i := 17) rfl)
theorem hd_X6_branch : yX6_branch.cls = RX6 ∧ yX6_branch.cls ≠ "java/lang/invoke/MethodHandle" ∧ yX6_branch.cls ≠ "java/lang/invoke/VarHandle" ∧ (parseMethodDescriptor yX6_branch.desc).map (fun d => d.parameters.length) = some 2 := by decide +kernel
theorem lk_X6_146 : Cond.methodLink RX6 146 yX6_branch ∈ TB := tb_39 _ (List.mem_of_getElem? (i := 14) rfl)
theorem im_X6_branch : Cond.instanceMethod yX6_branch ∈ TB := tb_39 _ (List.mem_of_getElem? (i := 15) rfl)
theorem se_X6_branch : Cond.selects RX6 yX6_branch yX6_branch ∈ TB := tb_39 _ (List.mem_of_getElem? (i := 16) rfl)
theorem gi_X6_146 : GoodIn TB (wsV RX6 146 RX6 yX6_branch (Cond.code yX6_branch cX6_branch 7 none :: TB)) := gi_v lk_X6_146 im_X6_branch se_X6_branch in_X6 co_X6_branch
theorem lk_X6_149 : Cond.constantLong RX6 149 (4294967295) ∈ TB := tb_39 _ (List.mem_of_getElem? (i := 7) rfl)
theorem lk_X6_151 : Cond.methodLink RX6 151 Lib.MathLoose.min_long.x ∈ TB := tb_39 _ (List.mem_of_getElem? (i := 8) rfl)
theorem co_X6_invoke : Cond.code yX6_invoke cX6_invoke 3 none ∈ TB := tb_40 _ (List.mem_of_getElem? (i := 2) rfl)
theorem hd_X6_invoke : yX6_invoke.cls = RX6 ∧ yX6_invoke.cls ≠ "java/lang/invoke/MethodHandle" ∧ yX6_invoke.cls ≠ "java/lang/invoke/VarHandle" ∧ (parseMethodDescriptor yX6_invoke.desc).map (fun d => d.parameters.length) = some 2 := by decide +kernel
theorem lk_X6_157 : Cond.methodLink RX6 157 yX6_invoke ∈ TB := tb_39 _ (List.mem_of_getElem? (i := 23) rfl)
theorem im_X6_invoke : Cond.instanceMethod yX6_invoke ∈ TB := tb_40 _ (List.mem_of_getElem? (i := 0) rfl)
theorem se_X6_invoke : Cond.selects RX6 yX6_invoke yX6_invoke ∈ TB := tb_40 _ (List.mem_of_getElem? (i := 1) rfl)
theorem gi_X6_157 : GoodIn TB (wsV RX6 157 RX6 yX6_invoke (Cond.code yX6_invoke cX6_invoke 3 none :: TB)) := gi_v lk_X6_157 im_X6_invoke se_X6_invoke in_X6 co_X6_invoke
theorem co_X6_invokeEntry : Cond.code yX6_invokeEntry cX6_invokeEntry 4 none ∈ TB := tb_40 _ (List.mem_of_getElem? (i := 9) rfl)
theorem hd_X6_invokeEntry : yX6_invokeEntry.cls = RX6 ∧ yX6_invokeEntry.cls ≠ "java/lang/invoke/MethodHandle" ∧ yX6_invokeEntry.cls ≠ "java/lang/invoke/VarHandle" ∧ (parseMethodDescriptor yX6_invokeEntry.desc).map (fun d => d.parameters.length) = some 2 := by decide +kernel
theorem lk_X6_160 : Cond.methodLink RX6 160 yX6_invokeEntry ∈ TB := tb_40 _ (List.mem_of_getElem? (i := 6) rfl)
theorem im_X6_invokeEntry : Cond.instanceMethod yX6_invokeEntry ∈ TB := tb_40 _ (List.mem_of_getElem? (i := 7) rfl)
theorem se_X6_invokeEntry : Cond.selects RX6 yX6_invokeEntry yX6_invokeEntry ∈ TB := tb_40 _ (List.mem_of_getElem? (i := 8) rfl)
theorem gi_X6_160 : GoodIn TB (wsV RX6 160 RX6 yX6_invokeEntry (Cond.code yX6_invokeEntry cX6_invokeEntry 4 none :: TB)) := gi_v lk_X6_160 im_X6_invokeEntry se_X6_invokeEntry in_X6 co_X6_invokeEntry
theorem lk_X6_163 : Cond.fieldLink RX6 163 "RegisterMachine$Program" "other" "[I" ∈ TB := tb_39 _ (List.mem_of_getElem? (i := 13) rfl)
theorem lk_X6_166 : Cond.fieldLink RX6 166 "RegisterMachine$Activity" "function" "[I" ∈ TB := tb_34 _ (List.mem_of_getElem? (i := 20) rfl)
theorem lk_X6_169 : Cond.methodLink RX6 169 yX3_wantedBy ∈ TB := tb_39 _ (List.mem_of_getElem? (i := 19) rfl)
theorem gi_X6_169 : GoodIn TB (wsV RX6 169 RX3 yX3_wantedBy (Cond.code yX3_wantedBy cX3_wantedBy 3 (some .int) :: TB)) := gi_v lk_X6_169 im_X3_wantedBy se_X3_wantedBy in_X3 co_X3_wantedBy
theorem lk_X6_173 : Cond.methodLink RX6 173 yX3_allLocals ∈ TB := tb_39 _ (List.mem_of_getElem? (i := 20) rfl)
theorem gi_X6_173 : GoodIn TB (wsV RX6 173 RX3 yX3_allLocals (Cond.code yX3_allLocals cX3_allLocals 2 (some .int) :: TB)) := gi_v lk_X6_173 im_X3_allLocals se_X3_allLocals in_X3 co_X3_allLocals
theorem lk_X6_176 : Cond.fieldLink RX6 176 "RegisterMachine$Program" "height" "[I" ∈ TB := tb_39 _ (List.mem_of_getElem? (i := 18) rfl)
theorem lk_X6_179 : Cond.methodLink RX6 179 yX0_move ∈ TB := tb_39 _ (List.mem_of_getElem? (i := 21) rfl)
theorem gi_X6_179 : GoodIn TB (wsV RX6 179 RX0 yX0_move (Cond.code yX0_move cX0_move 5 none :: TB)) := gi_v lk_X6_179 im_X0_move se_X0_move in_X0 co_X0_move
theorem lk_X6_182 : Cond.methodLink RX6 182 yX3_isLoop ∈ TB := tb_39 _ (List.mem_of_getElem? (i := 22) rfl)
theorem gi_X6_182 : GoodIn TB (wsV RX6 182 RX3 yX3_isLoop (Cond.code yX3_isLoop cX3_isLoop 2 (some .boolean) :: TB)) := gi_v lk_X6_182 im_X3_isLoop se_X3_isLoop in_X3 co_X3_isLoop
theorem lk_X6_186 : Cond.fieldLink RX6 186 "RegisterMachine$Program" "results" "[I" ∈ TB := tb_34 _ (List.mem_of_getElem? (i := 19) rfl)
theorem lk_X6_189 : Cond.methodLink RX6 189 yX0_leave ∈ TB := tb_34 _ (List.mem_of_getElem? (i := 21) rfl)
theorem gi_X6_189 : GoodIn TB (wsV RX6 189 RX0 yX0_leave (Cond.code yX0_leave cX0_leave 4 none :: TB)) := gi_v lk_X6_189 im_X0_leave se_X0_leave in_X0 co_X0_leave
theorem lk_X6_192 : Cond.fieldLink RX6 192 "RegisterMachine$Activity" "values" "[J" ∈ TB := tb_40 _ (List.mem_of_getElem? (i := 3) rfl)
theorem lk_X6_195 : Cond.fieldLink RX6 195 "RegisterMachine$Program" "parameters" "[I" ∈ TB := tb_40 _ (List.mem_of_getElem? (i := 4) rfl)
theorem lk_X6_198 : Cond.methodLink RX6 198 yX0_enter ∈ TB := tb_40 _ (List.mem_of_getElem? (i := 5) rfl)
theorem gi_X6_198 : GoodIn TB (wsV RX6 198 RX0 yX0_enter (Cond.code yX0_enter cX0_enter 9 none :: TB)) := gi_v lk_X6_198 im_X0_enter se_X0_enter in_X0 co_X0_enter
theorem lk_X6_202 : Cond.fieldLink RX6 202 "RegisterMachine$Program" "b" "[I" ∈ TB := tb_40 _ (List.mem_of_getElem? (i := 10) rfl)
theorem lk_X6_205 : Cond.methodLink RX6 205 yX7_find ∈ TB := tb_40 _ (List.mem_of_getElem? (i := 11) rfl)
theorem gi_X6_205 : GoodIn TB (wsV RX6 205 RX7 yX7_find (Cond.code yX7_find cX7_find 10 (some .int) :: TB)) := gi_v lk_X6_205 im_X7_find se_X7_find in_X7 co_X7_find
theorem lk_X7_9 : Cond.fieldLink RX7 9 "RegisterMachine$World" "table" "[I" ∈ TB := tb_4 _ (List.mem_of_getElem? (i := 13) rfl)
theorem lk_X7_19 : Cond.fieldLink RX7 19 "RegisterMachine$World" "bytes" "[B" ∈ TB := tb_4 _ (List.mem_of_getElem? (i := 16) rfl)
theorem lk_X7_23 : Cond.fieldLink RX7 23 "RegisterMachine$World" "pages" "I" ∈ TB := tb_4 _ (List.mem_of_getElem? (i := 17) rfl)
theorem lk_X7_33 : Cond.constantLong RX7 33 (64) ∈ TB := tb_31 _ (List.mem_of_getElem? (i := 16) rfl)
theorem lk_X7_35 : Cond.constantLong RX7 35 (4294967295) ∈ TB := tb_31 _ (List.mem_of_getElem? (i := 5) rfl)
theorem lk_X7_37 : Cond.constantLong RX7 37 (30) ∈ TB := tb_34 _ (List.mem_of_getElem? (i := 0) rfl)
theorem lk_X7_39 : Cond.methodLink RX7 39 yX3_isWhole ∈ TB := tb_34 _ (List.mem_of_getElem? (i := 3) rfl)
theorem gi_X7_39 : GoodIn TB (wsV RX7 39 RX3 yX3_isWhole (Cond.code yX3_isWhole cX3_isWhole 2 (some .boolean) :: TB)) := gi_v lk_X7_39 im_X3_isWhole se_X3_isWhole in_X3 co_X3_isWhole
theorem lk_X7_45 : Cond.fieldLink RX7 45 "RegisterMachine$Program" "parameters" "[I" ∈ TB := tb_34 _ (List.mem_of_getElem? (i := 1) rfl)
theorem lk_X7_48 : Cond.fieldLink RX7 48 "RegisterMachine$Program" "results" "[I" ∈ TB := tb_34 _ (List.mem_of_getElem? (i := 2) rfl)
theorem lk_X7_51 : Cond.methodLink RX7 51 yX7_width ∈ TB := tb_31 _ (List.mem_of_getElem? (i := 21) rfl)
theorem gi_X7_51 : GoodIn TB (va_wsS RX7 51 yX7_width (Cond.code yX7_width cX7_width 1 (some .int) :: TB)) := gi_s lk_X7_51 st_X7_width in_X7 co_X7_width
theorem lk_X8_9 : Cond.fieldLink RX8 9 "RegisterMachine$Writer" "begins" "[I" ∈ TB := tb_4 _ (List.mem_of_getElem? (i := 1) rfl)
theorem lk_X8_15 : Cond.fieldLink RX8 15 "RegisterMachine$Writer" "dead" "[Z" ∈ TB := tb_4 _ (List.mem_of_getElem? (i := 3) rfl)
theorem lk_X8_19 : Cond.fieldLink RX8 19 "RegisterMachine$Writer" "labels" "I" ∈ TB := tb_4 _ (List.mem_of_getElem? (i := 4) rfl)
theorem lk_X8_23 : Cond.fieldLink RX8 23 "RegisterMachine$Writer" "operands" "I" ∈ TB := tb_4 _ (List.mem_of_getElem? (i := 5) rfl)
theorem lk_X8_26 : Cond.fieldLink RX8 26 "RegisterMachine$Writer" "entriesLeft" "I" ∈ TB := tb_4 _ (List.mem_of_getElem? (i := 6) rfl)
theorem lk_X8_29 : Cond.fieldLink RX8 29 "RegisterMachine$Writer" "entriesWant" "I" ∈ TB := tb_4 _ (List.mem_of_getElem? (i := 7) rfl)
theorem lk_X8_32 : Cond.fieldLink RX8 32 "RegisterMachine$Writer" "program" "LRegisterMachine$Program;" ∈ TB := tb_4 _ (List.mem_of_getElem? (i := 8) rfl)
theorem lk_X8_36 : Cond.fieldLink RX8 36 "RegisterMachine$Program" "functions" "I" ∈ TB := tb_9 _ (List.mem_of_getElem? (i := 8) rfl)
theorem lk_X8_41 : Cond.fieldLink RX8 41 "RegisterMachine$Program" "written" "I" ∈ TB := tb_9 _ (List.mem_of_getElem? (i := 9) rfl)
theorem co_X9_isWithin : Cond.code yX9_isWithin cX9_isWithin 2 (some .boolean) ∈ TB := tb_9 _ (List.mem_of_getElem? (i := 18) rfl)
theorem hd_X9_isWithin : yX9_isWithin.cls = RX9 ∧ yX9_isWithin.cls ≠ "java/lang/invoke/MethodHandle" ∧ yX9_isWithin.cls ≠ "java/lang/invoke/VarHandle" ∧ (parseMethodDescriptor yX9_isWithin.desc).map (fun d => d.parameters.length) = some 2 := by decide +kernel
theorem st_X9_isWithin : Cond.static yX9_isWithin ∈ TB := tb_9 _ (List.mem_of_getElem? (i := 17) rfl)
theorem gj_X9_isWithin : GoodIn TB (Cond.code yX9_isWithin cX9_isWithin 2 (some .boolean) :: TB) := tb_good (List.forall_mem_cons.mpr ⟨co_X9_isWithin, fun _ h => h⟩)
theorem lk_X8_48 : Cond.fieldLink RX8 48 "RegisterMachine$Program" "parameters" "[I" ∈ TB := tb_9 _ (List.mem_of_getElem? (i := 10) rfl)
theorem lk_X8_51 : Cond.fieldLink RX8 51 "RegisterMachine$Program" "results" "[I" ∈ TB := tb_9 _ (List.mem_of_getElem? (i := 11) rfl)
theorem lk_X8_54 : Cond.fieldLink RX8 54 "RegisterMachine$Program" "locals" "[I" ∈ TB := tb_9 _ (List.mem_of_getElem? (i := 12) rfl)
theorem lk_X8_57 : Cond.fieldLink RX8 57 "RegisterMachine$Program" "most" "[I" ∈ TB := tb_9 _ (List.mem_of_getElem? (i := 13) rfl)
theorem lk_X8_60 : Cond.fieldLink RX8 60 "RegisterMachine$Program" "counted" "[I" ∈ TB := tb_9 _ (List.mem_of_getElem? (i := 14) rfl)
theorem lk_X8_63 : Cond.fieldLink RX8 63 "RegisterMachine$Program" "first" "[I" ∈ TB := tb_9 _ (List.mem_of_getElem? (i := 15) rfl)
theorem lk_X8_66 : Cond.fieldLink RX8 66 "RegisterMachine$Program" "size" "I" ∈ TB := tb_9 _ (List.mem_of_getElem? (i := 16) rfl)
theorem co_X8_stop : Cond.code yX8_stop cX8_stop 1 none ∈ TB := tb_15 _ (List.mem_of_getElem? (i := 0) rfl)
theorem hd_X8_stop : yX8_stop.cls = RX8 ∧ yX8_stop.cls ≠ "java/lang/invoke/MethodHandle" ∧ yX8_stop.cls ≠ "java/lang/invoke/VarHandle" ∧ (parseMethodDescriptor yX8_stop.desc).map (fun d => d.parameters.length) = some 0 := by decide +kernel
theorem lk_X8_69 : Cond.methodLink RX8 69 yX8_stop ∈ TB := tb_14 _ (List.mem_of_getElem? (i := 21) rfl)
theorem im_X8_stop : Cond.instanceMethod yX8_stop ∈ TB := tb_14 _ (List.mem_of_getElem? (i := 22) rfl)
theorem se_X8_stop : Cond.selects RX8 yX8_stop yX8_stop ∈ TB := tb_14 _ (List.mem_of_getElem? (i := 23) rfl)
theorem gi_X8_69 : GoodIn TB (wsV RX8 69 RX8 yX8_stop (Cond.code yX8_stop cX8_stop 1 none :: TB)) := gi_v lk_X8_69 im_X8_stop se_X8_stop in_X8 co_X8_stop
theorem co_X3_makeRoom : Cond.code yX3_makeRoom cX3_makeRoom 2 (some .boolean) ∈ TB := tb_11 _ (List.mem_of_getElem? (i := 1) rfl)
theorem hd_X3_makeRoom : yX3_makeRoom.cls = RX3 ∧ yX3_makeRoom.cls ≠ "java/lang/invoke/MethodHandle" ∧ yX3_makeRoom.cls ≠ "java/lang/invoke/VarHandle" ∧ (parseMethodDescriptor yX3_makeRoom.desc).map (fun d => d.parameters.length) = some 0 := by decide +kernel
theorem lk_X8_72 : Cond.methodLink RX8 72 yX3_makeRoom ∈ TB := tb_10 _ (List.mem_of_getElem? (i := 22) rfl)
theorem im_X3_makeRoom : Cond.instanceMethod yX3_makeRoom ∈ TB := tb_10 _ (List.mem_of_getElem? (i := 23) rfl)
theorem se_X3_makeRoom : Cond.selects RX3 yX3_makeRoom yX3_makeRoom ∈ TB := tb_11 _ (List.mem_of_getElem? (i := 0) rfl)
theorem gi_X8_72 : GoodIn TB (wsV RX8 72 RX3 yX3_makeRoom (Cond.code yX3_makeRoom cX3_makeRoom 2 (some .boolean) :: TB)) := gi_v lk_X8_72 im_X3_makeRoom se_X3_makeRoom in_X3 co_X3_makeRoom
theorem co_X8_admits : Cond.code yX8_admits cX8_admits 4 (some .boolean) ∈ TB := tb_11 _ (List.mem_of_getElem? (i := 23) rfl)
theorem hd_X8_admits : yX8_admits.cls = RX8 ∧ yX8_admits.cls ≠ "java/lang/invoke/MethodHandle" ∧ yX8_admits.cls ≠ "java/lang/invoke/VarHandle" ∧ (parseMethodDescriptor yX8_admits.desc).map (fun d => d.parameters.length) = some 3 := by decide +kernel
theorem lk_X8_76 : Cond.methodLink RX8 76 yX8_admits ∈ TB := tb_11 _ (List.mem_of_getElem? (i := 20) rfl)
theorem im_X8_admits : Cond.instanceMethod yX8_admits ∈ TB := tb_11 _ (List.mem_of_getElem? (i := 21) rfl)
theorem se_X8_admits : Cond.selects RX8 yX8_admits yX8_admits ∈ TB := tb_11 _ (List.mem_of_getElem? (i := 22) rfl)
theorem gi_X8_76 : GoodIn TB (wsV RX8 76 RX8 yX8_admits (Cond.code yX8_admits cX8_admits 4 (some .boolean) :: TB)) := gi_v lk_X8_76 im_X8_admits se_X8_admits in_X8 co_X8_admits
theorem lk_X8_80 : Cond.fieldLink RX8 80 "RegisterMachine$Program" "operation" "[I" ∈ TB := tb_10 _ (List.mem_of_getElem? (i := 19) rfl)
theorem lk_X8_83 : Cond.fieldLink RX8 83 "RegisterMachine$Program" "a" "[I" ∈ TB := tb_10 _ (List.mem_of_getElem? (i := 20) rfl)
theorem lk_X8_86 : Cond.fieldLink RX8 86 "RegisterMachine$Program" "b" "[I" ∈ TB := tb_10 _ (List.mem_of_getElem? (i := 21) rfl)
theorem co_X8_height : Cond.code yX8_height cX8_height 2 (some .int) ∈ TB := tb_12 _ (List.mem_of_getElem? (i := 20) rfl)
theorem hd_X8_height : yX8_height.cls = RX8 ∧ yX8_height.cls ≠ "java/lang/invoke/MethodHandle" ∧ yX8_height.cls ≠ "java/lang/invoke/VarHandle" ∧ (parseMethodDescriptor yX8_height.desc).map (fun d => d.parameters.length) = some 0 := by decide +kernel
theorem lk_X8_89 : Cond.methodLink RX8 89 yX8_height ∈ TB := tb_12 _ (List.mem_of_getElem? (i := 17) rfl)
theorem im_X8_height : Cond.instanceMethod yX8_height ∈ TB := tb_12 _ (List.mem_of_getElem? (i := 18) rfl)
theorem se_X8_height : Cond.selects RX8 yX8_height yX8_height ∈ TB := tb_12 _ (List.mem_of_getElem? (i := 19) rfl)
theorem gi_X8_89 : GoodIn TB (wsV RX8 89 RX8 yX8_height (Cond.code yX8_height cX8_height 2 (some .int) :: TB)) := gi_v lk_X8_89 im_X8_height se_X8_height in_X8 co_X8_height
theorem co_X8_admitsTableEntry : Cond.code yX8_admitsTableEntry cX8_admitsTableEntry 3 (some .boolean) ∈ TB := tb_12 _ (List.mem_of_getElem? (i := 3) rfl)
theorem hd_X8_admitsTableEntry : yX8_admitsTableEntry.cls = RX8 ∧ yX8_admitsTableEntry.cls ≠ "java/lang/invoke/MethodHandle" ∧ yX8_admitsTableEntry.cls ≠ "java/lang/invoke/VarHandle" ∧ (parseMethodDescriptor yX8_admitsTableEntry.desc).map (fun d => d.parameters.length) = some 1 := by decide +kernel
theorem lk_X8_93 : Cond.methodLink RX8 93 yX8_admitsTableEntry ∈ TB := tb_12 _ (List.mem_of_getElem? (i := 0) rfl)
theorem im_X8_admitsTableEntry : Cond.instanceMethod yX8_admitsTableEntry ∈ TB := tb_12 _ (List.mem_of_getElem? (i := 1) rfl)
theorem se_X8_admitsTableEntry : Cond.selects RX8 yX8_admitsTableEntry yX8_admitsTableEntry ∈ TB := tb_12 _ (List.mem_of_getElem? (i := 2) rfl)
theorem gi_X8_93 : GoodIn TB (wsV RX8 93 RX8 yX8_admitsTableEntry (Cond.code yX8_admitsTableEntry cX8_admitsTableEntry 3 (some .boolean) :: TB)) := gi_v lk_X8_93 im_X8_admitsTableEntry se_X8_admitsTableEntry in_X8 co_X8_admitsTableEntry
theorem co_X8_die : Cond.code yX8_die cX8_die 1 none ∈ TB := tb_13 _ (List.mem_of_getElem? (i := 1) rfl)
theorem hd_X8_die : yX8_die.cls = RX8 ∧ yX8_die.cls ≠ "java/lang/invoke/MethodHandle" ∧ yX8_die.cls ≠ "java/lang/invoke/VarHandle" ∧ (parseMethodDescriptor yX8_die.desc).map (fun d => d.parameters.length) = some 0 := by decide +kernel
theorem lk_X8_97 : Cond.methodLink RX8 97 yX8_die ∈ TB := tb_12 _ (List.mem_of_getElem? (i := 22) rfl)
theorem im_X8_die : Cond.instanceMethod yX8_die ∈ TB := tb_12 _ (List.mem_of_getElem? (i := 23) rfl)
theorem se_X8_die : Cond.selects RX8 yX8_die yX8_die ∈ TB := tb_13 _ (List.mem_of_getElem? (i := 0) rfl)
theorem gi_X8_97 : GoodIn TB (wsV RX8 97 RX8 yX8_die (Cond.code yX8_die cX8_die 1 none :: TB)) := gi_v lk_X8_97 im_X8_die se_X8_die in_X8 co_X8_die
theorem co_X8_admitsBegin : Cond.code yX8_admitsBegin cX8_admitsBegin 5 (some .boolean) ∈ TB := tb_13 _ (List.mem_of_getElem? (i := 5) rfl)
theorem hd_X8_admitsBegin : yX8_admitsBegin.cls = RX8 ∧ yX8_admitsBegin.cls ≠ "java/lang/invoke/MethodHandle" ∧ yX8_admitsBegin.cls ≠ "java/lang/invoke/VarHandle" ∧ (parseMethodDescriptor yX8_admitsBegin.desc).map (fun d => d.parameters.length) = some 3 := by decide +kernel
theorem lk_X8_100 : Cond.methodLink RX8 100 yX8_admitsBegin ∈ TB := tb_13 _ (List.mem_of_getElem? (i := 2) rfl)
theorem im_X8_admitsBegin : Cond.instanceMethod yX8_admitsBegin ∈ TB := tb_13 _ (List.mem_of_getElem? (i := 3) rfl)
theorem se_X8_admitsBegin : Cond.selects RX8 yX8_admitsBegin yX8_admitsBegin ∈ TB := tb_13 _ (List.mem_of_getElem? (i := 4) rfl)
theorem gi_X8_100 : GoodIn TB (wsV RX8 100 RX8 yX8_admitsBegin (Cond.code yX8_admitsBegin cX8_admitsBegin 5 (some .boolean) :: TB)) := gi_v lk_X8_100 im_X8_admitsBegin se_X8_admitsBegin in_X8 co_X8_admitsBegin
theorem co_X8_admitsElse : Cond.code yX8_admitsElse cX8_admitsElse 3 (some .boolean) ∈ TB := tb_14 _ (List.mem_of_getElem? (i := 3) rfl)
theorem hd_X8_admitsElse : yX8_admitsElse.cls = RX8 ∧ yX8_admitsElse.cls ≠ "java/lang/invoke/MethodHandle" ∧ yX8_admitsElse.cls ≠ "java/lang/invoke/VarHandle" ∧ (parseMethodDescriptor yX8_admitsElse.desc).map (fun d => d.parameters.length) = some 0 := by decide +kernel
theorem lk_X8_103 : Cond.methodLink RX8 103 yX8_admitsElse ∈ TB := tb_14 _ (List.mem_of_getElem? (i := 0) rfl)
theorem im_X8_admitsElse : Cond.instanceMethod yX8_admitsElse ∈ TB := tb_14 _ (List.mem_of_getElem? (i := 1) rfl)
theorem se_X8_admitsElse : Cond.selects RX8 yX8_admitsElse yX8_admitsElse ∈ TB := tb_14 _ (List.mem_of_getElem? (i := 2) rfl)
theorem gi_X8_103 : GoodIn TB (wsV RX8 103 RX8 yX8_admitsElse (Cond.code yX8_admitsElse cX8_admitsElse 3 (some .boolean) :: TB)) := gi_v lk_X8_103 im_X8_admitsElse se_X8_admitsElse in_X8 co_X8_admitsElse
theorem co_X8_admitsEnd : Cond.code yX8_admitsEnd cX8_admitsEnd 4 (some .boolean) ∈ TB := tb_14 _ (List.mem_of_getElem? (i := 19) rfl)
theorem hd_X8_admitsEnd : yX8_admitsEnd.cls = RX8 ∧ yX8_admitsEnd.cls ≠ "java/lang/invoke/MethodHandle" ∧ yX8_admitsEnd.cls ≠ "java/lang/invoke/VarHandle" ∧ (parseMethodDescriptor yX8_admitsEnd.desc).map (fun d => d.parameters.length) = some 0 := by decide +kernel
theorem lk_X8_106 : Cond.methodLink RX8 106 yX8_admitsEnd ∈ TB := tb_14 _ (List.mem_of_getElem? (i := 16) rfl)
theorem im_X8_admitsEnd : Cond.instanceMethod yX8_admitsEnd ∈ TB := tb_14 _ (List.mem_of_getElem? (i := 17) rfl)
theorem se_X8_admitsEnd : Cond.selects RX8 yX8_admitsEnd yX8_admitsEnd ∈ TB := tb_14 _ (List.mem_of_getElem? (i := 18) rfl)
theorem gi_X8_106 : GoodIn TB (wsV RX8 106 RX8 yX8_admitsEnd (Cond.code yX8_admitsEnd cX8_admitsEnd 4 (some .boolean) :: TB)) := gi_v lk_X8_106 im_X8_admitsEnd se_X8_admitsEnd in_X8 co_X8_admitsEnd
theorem co_X8_admitsBranch : Cond.code yX8_admitsBranch cX8_admitsBranch 2 (some .boolean) ∈ TB := tb_15 _ (List.mem_of_getElem? (i := 4) rfl)
theorem hd_X8_admitsBranch : yX8_admitsBranch.cls = RX8 ∧ yX8_admitsBranch.cls ≠ "java/lang/invoke/MethodHandle" ∧ yX8_admitsBranch.cls ≠ "java/lang/invoke/VarHandle" ∧ (parseMethodDescriptor yX8_admitsBranch.desc).map (fun d => d.parameters.length) = some 1 := by decide +kernel
theorem lk_X8_109 : Cond.methodLink RX8 109 yX8_admitsBranch ∈ TB := tb_15 _ (List.mem_of_getElem? (i := 1) rfl)
theorem im_X8_admitsBranch : Cond.instanceMethod yX8_admitsBranch ∈ TB := tb_15 _ (List.mem_of_getElem? (i := 2) rfl)
theorem se_X8_admitsBranch : Cond.selects RX8 yX8_admitsBranch yX8_admitsBranch ∈ TB := tb_15 _ (List.mem_of_getElem? (i := 3) rfl)
theorem gi_X8_109 : GoodIn TB (wsV RX8 109 RX8 yX8_admitsBranch (Cond.code yX8_admitsBranch cX8_admitsBranch 2 (some .boolean) :: TB)) := gi_v lk_X8_109 im_X8_admitsBranch se_X8_admitsBranch in_X8 co_X8_admitsBranch
theorem co_X8_admitsBranchIf : Cond.code yX8_admitsBranchIf cX8_admitsBranchIf 2 (some .boolean) ∈ TB := tb_15 _ (List.mem_of_getElem? (i := 8) rfl)
theorem hd_X8_admitsBranchIf : yX8_admitsBranchIf.cls = RX8 ∧ yX8_admitsBranchIf.cls ≠ "java/lang/invoke/MethodHandle" ∧ yX8_admitsBranchIf.cls ≠ "java/lang/invoke/VarHandle" ∧ (parseMethodDescriptor yX8_admitsBranchIf.desc).map (fun d => d.parameters.length) = some 1 := by decide +kernel
theorem lk_X8_112 : Cond.methodLink RX8 112 yX8_admitsBranchIf ∈ TB := tb_15 _ (List.mem_of_getElem? (i := 5) rfl)
theorem im_X8_admitsBranchIf : Cond.instanceMethod yX8_admitsBranchIf ∈ TB := tb_15 _ (List.mem_of_getElem? (i := 6) rfl)
theorem se_X8_admitsBranchIf : Cond.selects RX8 yX8_admitsBranchIf yX8_admitsBranchIf ∈ TB := tb_15 _ (List.mem_of_getElem? (i := 7) rfl)
theorem gi_X8_112 : GoodIn TB (wsV RX8 112 RX8 yX8_admitsBranchIf (Cond.code yX8_admitsBranchIf cX8_admitsBranchIf 2 (some .boolean) :: TB)) := gi_v lk_X8_112 im_X8_admitsBranchIf se_X8_admitsBranchIf in_X8 co_X8_admitsBranchIf
theorem co_X8_admitsTable : Cond.code yX8_admitsTable cX8_admitsTable 2 (some .boolean) ∈ TB := tb_15 _ (List.mem_of_getElem? (i := 16) rfl)
theorem hd_X8_admitsTable : yX8_admitsTable.cls = RX8 ∧ yX8_admitsTable.cls ≠ "java/lang/invoke/MethodHandle" ∧ yX8_admitsTable.cls ≠ "java/lang/invoke/VarHandle" ∧ (parseMethodDescriptor yX8_admitsTable.desc).map (fun d => d.parameters.length) = some 1 := by decide +kernel
theorem lk_X8_115 : Cond.methodLink RX8 115 yX8_admitsTable ∈ TB := tb_15 _ (List.mem_of_getElem? (i := 13) rfl)
theorem im_X8_admitsTable : Cond.instanceMethod yX8_admitsTable ∈ TB := tb_15 _ (List.mem_of_getElem? (i := 14) rfl)
theorem se_X8_admitsTable : Cond.selects RX8 yX8_admitsTable yX8_admitsTable ∈ TB := tb_15 _ (List.mem_of_getElem? (i := 15) rfl)
theorem gi_X8_115 : GoodIn TB (wsV RX8 115 RX8 yX8_admitsTable (Cond.code yX8_admitsTable cX8_admitsTable 2 (some .boolean) :: TB)) := gi_v lk_X8_115 im_X8_admitsTable se_X8_admitsTable in_X8 co_X8_admitsTable
theorem co_X8_admitsReturn : Cond.code yX8_admitsReturn cX8_admitsReturn 1 (some .boolean) ∈ TB := tb_15 _ (List.mem_of_getElem? (i := 20) rfl)
theorem hd_X8_admitsReturn : yX8_admitsReturn.cls = RX8 ∧ yX8_admitsReturn.cls ≠ "java/lang/invoke/MethodHandle" ∧ yX8_admitsReturn.cls ≠ "java/lang/invoke/VarHandle" ∧ (parseMethodDescriptor yX8_admitsReturn.desc).map (fun d => d.parameters.length) = some 0 := by decide +kernel
theorem lk_X8_118 : Cond.methodLink RX8 118 yX8_admitsReturn ∈ TB := tb_15 _ (List.mem_of_getElem? (i := 17) rfl)
theorem im_X8_admitsReturn : Cond.instanceMethod yX8_admitsReturn ∈ TB := tb_15 _ (List.mem_of_getElem? (i := 18) rfl)
theorem se_X8_admitsReturn : Cond.selects RX8 yX8_admitsReturn yX8_admitsReturn ∈ TB := tb_15 _ (List.mem_of_getElem? (i := 19) rfl)
theorem gi_X8_118 : GoodIn TB (wsV RX8 118 RX8 yX8_admitsReturn (Cond.code yX8_admitsReturn cX8_admitsReturn 1 (some .boolean) :: TB)) := gi_v lk_X8_118 im_X8_admitsReturn se_X8_admitsReturn in_X8 co_X8_admitsReturn
theorem co_X8_exchanges : Cond.code yX8_exchanges cX8_exchanges 3 (some .boolean) ∈ TB := tb_15 _ (List.mem_of_getElem? (i := 12) rfl)
theorem hd_X8_exchanges : yX8_exchanges.cls = RX8 ∧ yX8_exchanges.cls ≠ "java/lang/invoke/MethodHandle" ∧ yX8_exchanges.cls ≠ "java/lang/invoke/VarHandle" ∧ (parseMethodDescriptor yX8_exchanges.desc).map (fun d => d.parameters.length) = some 2 := by decide +kernel
theorem lk_X8_121 : Cond.methodLink RX8 121 yX8_exchanges ∈ TB := tb_15 _ (List.mem_of_getElem? (i := 9) rfl)
theorem im_X8_exchanges : Cond.instanceMethod yX8_exchanges ∈ TB := tb_15 _ (List.mem_of_getElem? (i := 10) rfl)
theorem se_X8_exchanges : Cond.selects RX8 yX8_exchanges yX8_exchanges ∈ TB := tb_15 _ (List.mem_of_getElem? (i := 11) rfl)
theorem gi_X8_121 : GoodIn TB (wsV RX8 121 RX8 yX8_exchanges (Cond.code yX8_exchanges cX8_exchanges 3 (some .boolean) :: TB)) := gi_v lk_X8_121 im_X8_exchanges se_X8_exchanges in_X8 co_X8_exchanges
theorem co_X8_admitsPlain : Cond.code yX8_admitsPlain cX8_admitsPlain 6 (some .boolean) ∈ TB := tb_16 _ (List.mem_of_getElem? (i := 0) rfl)
theorem hd_X8_admitsPlain : yX8_admitsPlain.cls = RX8 ∧ yX8_admitsPlain.cls ≠ "java/lang/invoke/MethodHandle" ∧ yX8_admitsPlain.cls ≠ "java/lang/invoke/VarHandle" ∧ (parseMethodDescriptor yX8_admitsPlain.desc).map (fun d => d.parameters.length) = some 2 := by decide +kernel
theorem lk_X8_124 : Cond.methodLink RX8 124 yX8_admitsPlain ∈ TB := tb_15 _ (List.mem_of_getElem? (i := 21) rfl)
theorem im_X8_admitsPlain : Cond.instanceMethod yX8_admitsPlain ∈ TB := tb_15 _ (List.mem_of_getElem? (i := 22) rfl)
theorem se_X8_admitsPlain : Cond.selects RX8 yX8_admitsPlain yX8_admitsPlain ∈ TB := tb_15 _ (List.mem_of_getElem? (i := 23) rfl)
theorem gi_X8_124 : GoodIn TB (wsV RX8 124 RX8 yX8_admitsPlain (Cond.code yX8_admitsPlain cX8_admitsPlain 6 (some .boolean) :: TB)) := gi_v lk_X8_124 im_X8_admitsPlain se_X8_admitsPlain in_X8 co_X8_admitsPlain
theorem co_X8_has : Cond.code yX8_has cX8_has 2 (some .boolean) ∈ TB := tb_12 _ (List.mem_of_getElem? (i := 16) rfl)
theorem hd_X8_has : yX8_has.cls = RX8 ∧ yX8_has.cls ≠ "java/lang/invoke/MethodHandle" ∧ yX8_has.cls ≠ "java/lang/invoke/VarHandle" ∧ (parseMethodDescriptor yX8_has.desc).map (fun d => d.parameters.length) = some 1 := by decide +kernel
theorem lk_X8_127 : Cond.methodLink RX8 127 yX8_has ∈ TB := tb_12 _ (List.mem_of_getElem? (i := 13) rfl)
theorem im_X8_has : Cond.instanceMethod yX8_has ∈ TB := tb_12 _ (List.mem_of_getElem? (i := 14) rfl)
theorem se_X8_has : Cond.selects RX8 yX8_has yX8_has ∈ TB := tb_12 _ (List.mem_of_getElem? (i := 15) rfl)
theorem gi_X8_127 : GoodIn TB (wsV RX8 127 RX8 yX8_has (Cond.code yX8_has cX8_has 2 (some .boolean) :: TB)) := gi_v lk_X8_127 im_X8_has se_X8_has in_X8 co_X8_has
theorem co_X8_makeRoom : Cond.code yX8_makeRoom cX8_makeRoom 5 (some .boolean) ∈ TB := tb_13 _ (List.mem_of_getElem? (i := 10) rfl)
theorem hd_X8_makeRoom : yX8_makeRoom.cls = RX8 ∧ yX8_makeRoom.cls ≠ "java/lang/invoke/MethodHandle" ∧ yX8_makeRoom.cls ≠ "java/lang/invoke/VarHandle" ∧ (parseMethodDescriptor yX8_makeRoom.desc).map (fun d => d.parameters.length) = some 0 := by decide +kernel
theorem lk_X8_130 : Cond.methodLink RX8 130 yX8_makeRoom ∈ TB := tb_13 _ (List.mem_of_getElem? (i := 7) rfl)
theorem im_X8_makeRoom : Cond.instanceMethod yX8_makeRoom ∈ TB := tb_13 _ (List.mem_of_getElem? (i := 8) rfl)
theorem se_X8_makeRoom : Cond.selects RX8 yX8_makeRoom yX8_makeRoom ∈ TB := tb_13 _ (List.mem_of_getElem? (i := 9) rfl)
theorem gi_X8_130 : GoodIn TB (wsV RX8 130 RX8 yX8_makeRoom (Cond.code yX8_makeRoom cX8_makeRoom 5 (some .boolean) :: TB)) := gi_v lk_X8_130 im_X8_makeRoom se_X8_makeRoom in_X8 co_X8_makeRoom
theorem co_X8_take : Cond.code yX8_take cX8_take 2 none ∈ TB := tb_13 _ (List.mem_of_getElem? (i := 16) rfl)
theorem hd_X8_take : yX8_take.cls = RX8 ∧ yX8_take.cls ≠ "java/lang/invoke/MethodHandle" ∧ yX8_take.cls ≠ "java/lang/invoke/VarHandle" ∧ (parseMethodDescriptor yX8_take.desc).map (fun d => d.parameters.length) = some 1 := by decide +kernel
theorem lk_X8_131 : Cond.methodLink RX8 131 yX8_take ∈ TB := tb_13 _ (List.mem_of_getElem? (i := 13) rfl)
theorem im_X8_take : Cond.instanceMethod yX8_take ∈ TB := tb_13 _ (List.mem_of_getElem? (i := 14) rfl)
theorem se_X8_take : Cond.selects RX8 yX8_take yX8_take ∈ TB := tb_13 _ (List.mem_of_getElem? (i := 15) rfl)
theorem gi_X8_131 : GoodIn TB (wsV RX8 131 RX8 yX8_take (Cond.code yX8_take cX8_take 2 none :: TB)) := gi_v lk_X8_131 im_X8_take se_X8_take in_X8 co_X8_take
theorem lk_X8_135 : Cond.fieldLink RX8 135 "RegisterMachine$Program" "height" "[I" ∈ TB := tb_12 _ (List.mem_of_getElem? (i := 21) rfl)
theorem lk_X8_137 : Cond.fieldLink RX8 137 "RegisterMachine$Program" "link" "[I" ∈ TB := tb_12 _ (List.mem_of_getElem? (i := 4) rfl)
theorem lk_X8_140 : Cond.fieldLink RX8 140 "RegisterMachine$Program" "other" "[I" ∈ TB := tb_13 _ (List.mem_of_getElem? (i := 6) rfl)
theorem co_X8_put : Cond.code yX8_put cX8_put 2 none ∈ TB := tb_13 _ (List.mem_of_getElem? (i := 23) rfl)
theorem hd_X8_put : yX8_put.cls = RX8 ∧ yX8_put.cls ≠ "java/lang/invoke/MethodHandle" ∧ yX8_put.cls ≠ "java/lang/invoke/VarHandle" ∧ (parseMethodDescriptor yX8_put.desc).map (fun d => d.parameters.length) = some 1 := by decide +kernel
theorem lk_X8_143 : Cond.methodLink RX8 143 yX8_put ∈ TB := tb_13 _ (List.mem_of_getElem? (i := 20) rfl)
theorem im_X8_put : Cond.instanceMethod yX8_put ∈ TB := tb_13 _ (List.mem_of_getElem? (i := 21) rfl)
theorem se_X8_put : Cond.selects RX8 yX8_put yX8_put ∈ TB := tb_13 _ (List.mem_of_getElem? (i := 22) rfl)
theorem gi_X8_143 : GoodIn TB (wsV RX8 143 RX8 yX8_put (Cond.code yX8_put cX8_put 2 none :: TB)) := gi_v lk_X8_143 im_X8_put se_X8_put in_X8 co_X8_put
theorem lk_X8_146 : Cond.methodLink RX8 146 Lib.Math.min.name ∈ TB := tb_13 _ (List.mem_of_getElem? (i := 11) rfl)
theorem co_X8_isIfWithoutElse : Cond.code yX8_isIfWithoutElse cX8_isIfWithoutElse 2 (some .boolean) ∈ TB := tb_14 _ (List.mem_of_getElem? (i := 7) rfl)
theorem hd_X8_isIfWithoutElse : yX8_isIfWithoutElse.cls = RX8 ∧ yX8_isIfWithoutElse.cls ≠ "java/lang/invoke/MethodHandle" ∧ yX8_isIfWithoutElse.cls ≠ "java/lang/invoke/VarHandle" ∧ (parseMethodDescriptor yX8_isIfWithoutElse.desc).map (fun d => d.parameters.length) = some 1 := by decide +kernel
theorem lk_X8_158 : Cond.methodLink RX8 158 yX8_isIfWithoutElse ∈ TB := tb_14 _ (List.mem_of_getElem? (i := 4) rfl)
theorem im_X8_isIfWithoutElse : Cond.instanceMethod yX8_isIfWithoutElse ∈ TB := tb_14 _ (List.mem_of_getElem? (i := 5) rfl)
theorem se_X8_isIfWithoutElse : Cond.selects RX8 yX8_isIfWithoutElse yX8_isIfWithoutElse ∈ TB := tb_14 _ (List.mem_of_getElem? (i := 6) rfl)
theorem gi_X8_158 : GoodIn TB (wsV RX8 158 RX8 yX8_isIfWithoutElse (Cond.code yX8_isIfWithoutElse cX8_isIfWithoutElse 2 (some .boolean) :: TB)) := gi_v lk_X8_158 im_X8_isIfWithoutElse se_X8_isIfWithoutElse in_X8 co_X8_isIfWithoutElse
theorem co_X8_isReadyToEnd : Cond.code yX8_isReadyToEnd cX8_isReadyToEnd 3 (some .boolean) ∈ TB := tb_14 _ (List.mem_of_getElem? (i := 11) rfl)
theorem hd_X8_isReadyToEnd : yX8_isReadyToEnd.cls = RX8 ∧ yX8_isReadyToEnd.cls ≠ "java/lang/invoke/MethodHandle" ∧ yX8_isReadyToEnd.cls ≠ "java/lang/invoke/VarHandle" ∧ (parseMethodDescriptor yX8_isReadyToEnd.desc).map (fun d => d.parameters.length) = some 0 := by decide +kernel
theorem lk_X8_161 : Cond.methodLink RX8 161 yX8_isReadyToEnd ∈ TB := tb_14 _ (List.mem_of_getElem? (i := 8) rfl)
theorem im_X8_isReadyToEnd : Cond.instanceMethod yX8_isReadyToEnd ∈ TB := tb_14 _ (List.mem_of_getElem? (i := 9) rfl)
theorem se_X8_isReadyToEnd : Cond.selects RX8 yX8_isReadyToEnd yX8_isReadyToEnd ∈ TB := tb_14 _ (List.mem_of_getElem? (i := 10) rfl)
theorem gi_X8_161 : GoodIn TB (wsV RX8 161 RX8 yX8_isReadyToEnd (Cond.code yX8_isReadyToEnd cX8_isReadyToEnd 3 (some .boolean) :: TB)) := gi_v lk_X8_161 im_X8_isReadyToEnd se_X8_isReadyToEnd in_X8 co_X8_isReadyToEnd
theorem lk_X8_164 : Cond.fieldLink RX8 164 "RegisterMachine$Program" "last" "[I" ∈ TB := tb_14 _ (List.mem_of_getElem? (i := 20) rfl)
theorem co_X8_wantedBy : Cond.code yX8_wantedBy cX8_wantedBy 2 (some .int) ∈ TB := tb_12 _ (List.mem_of_getElem? (i := 8) rfl)
theorem hd_X8_wantedBy : yX8_wantedBy.cls = RX8 ∧ yX8_wantedBy.cls ≠ "java/lang/invoke/MethodHandle" ∧ yX8_wantedBy.cls ≠ "java/lang/invoke/VarHandle" ∧ (parseMethodDescriptor yX8_wantedBy.desc).map (fun d => d.parameters.length) = some 1 := by decide +kernel
theorem lk_X8_167 : Cond.methodLink RX8 167 yX8_wantedBy ∈ TB := tb_12 _ (List.mem_of_getElem? (i := 5) rfl)
theorem im_X8_wantedBy : Cond.instanceMethod yX8_wantedBy ∈ TB := tb_12 _ (List.mem_of_getElem? (i := 6) rfl)
theorem se_X8_wantedBy : Cond.selects RX8 yX8_wantedBy yX8_wantedBy ∈ TB := tb_12 _ (List.mem_of_getElem? (i := 7) rfl)
theorem gi_X8_167 : GoodIn TB (wsV RX8 167 RX8 yX8_wantedBy (Cond.code yX8_wantedBy cX8_wantedBy 2 (some .int) :: TB)) := gi_v lk_X8_167 im_X8_wantedBy se_X8_wantedBy in_X8 co_X8_wantedBy
theorem lk_X8_171 : Cond.methodLink RX8 171 yX3_allLocals ∈ TB := tb_16 _ (List.mem_of_getElem? (i := 1) rfl)
theorem gi_X8_171 : GoodIn TB (wsV RX8 171 RX3 yX3_allLocals (Cond.code yX3_allLocals cX3_allLocals 2 (some .int) :: TB)) := gi_v lk_X8_171 im_X3_allLocals se_X3_allLocals in_X3 co_X3_allLocals
theorem co_X2_takes : Cond.code yX2_takes cX2_takes 1 (some .int) ∈ TB := tb_16 _ (List.mem_of_getElem? (i := 8) rfl)
theorem hd_X2_takes : yX2_takes.cls = RX2 ∧ yX2_takes.cls ≠ "java/lang/invoke/MethodHandle" ∧ yX2_takes.cls ≠ "java/lang/invoke/VarHandle" ∧ (parseMethodDescriptor yX2_takes.desc).map (fun d => d.parameters.length) = some 1 := by decide +kernel
theorem lk_X8_174 : Cond.methodLink RX8 174 yX2_takes ∈ TB := tb_16 _ (List.mem_of_getElem? (i := 5) rfl)
theorem st_X2_takes : Cond.static yX2_takes ∈ TB := tb_16 _ (List.mem_of_getElem? (i := 6) rfl)
theorem gi_X8_174 : GoodIn TB (va_wsS RX8 174 yX2_takes (Cond.code yX2_takes cX2_takes 1 (some .int) :: TB)) := gi_s lk_X8_174 st_X2_takes in_X2 co_X2_takes
theorem co_X2_puts : Cond.code yX2_puts cX2_puts 3 (some .int) ∈ TB := tb_16 _ (List.mem_of_getElem? (i := 14) rfl)
theorem hd_X2_puts : yX2_puts.cls = RX2 ∧ yX2_puts.cls ≠ "java/lang/invoke/MethodHandle" ∧ yX2_puts.cls ≠ "java/lang/invoke/VarHandle" ∧ (parseMethodDescriptor yX2_puts.desc).map (fun d => d.parameters.length) = some 1 := by decide +kernel
theorem lk_X8_179 : Cond.methodLink RX8 179 yX2_puts ∈ TB := tb_16 _ (List.mem_of_getElem? (i := 12) rfl)
theorem st_X2_puts : Cond.static yX2_puts ∈ TB := tb_16 _ (List.mem_of_getElem? (i := 13) rfl)
theorem gi_X8_179 : GoodIn TB (va_wsS RX8 179 yX2_puts (Cond.code yX2_puts cX2_puts 3 (some .int) :: TB)) := gi_s lk_X8_179 st_X2_puts in_X2 co_X2_puts
theorem co_X3_resultsOf : Cond.code yX3_resultsOf cX3_resultsOf 3 (some .int) ∈ TB := tb_14 _ (List.mem_of_getElem? (i := 15) rfl)
theorem hd_X3_resultsOf : yX3_resultsOf.cls = RX3 ∧ yX3_resultsOf.cls ≠ "java/lang/invoke/MethodHandle" ∧ yX3_resultsOf.cls ≠ "java/lang/invoke/VarHandle" ∧ (parseMethodDescriptor yX3_resultsOf.desc).map (fun d => d.parameters.length) = some 2 := by decide +kernel
theorem lk_X8_182 : Cond.methodLink RX8 182 yX3_resultsOf ∈ TB := tb_14 _ (List.mem_of_getElem? (i := 12) rfl)
theorem im_X3_resultsOf : Cond.instanceMethod yX3_resultsOf ∈ TB := tb_14 _ (List.mem_of_getElem? (i := 13) rfl)
theorem se_X3_resultsOf : Cond.selects RX3 yX3_resultsOf yX3_resultsOf ∈ TB := tb_14 _ (List.mem_of_getElem? (i := 14) rfl)
theorem gi_X8_182 : GoodIn TB (wsV RX8 182 RX3 yX3_resultsOf (Cond.code yX3_resultsOf cX3_resultsOf 3 (some .int) :: TB)) := gi_v lk_X8_182 im_X3_resultsOf se_X3_resultsOf in_X3 co_X3_resultsOf
theorem lk_X8_185 : Cond.methodLink RX8 185 yX3_wantedBy ∈ TB := tb_12 _ (List.mem_of_getElem? (i := 9) rfl)
theorem gi_X8_185 : GoodIn TB (wsV RX8 185 RX3 yX3_wantedBy (Cond.code yX3_wantedBy cX3_wantedBy 3 (some .int) :: TB)) := gi_v lk_X8_185 im_X3_wantedBy se_X3_wantedBy in_X3 co_X3_wantedBy
theorem lk_X8_187 : Cond.methodLink RX8 187 Lib.Math.max.name ∈ TB := tb_13 _ (List.mem_of_getElem? (i := 17) rfl)
theorem lk_X10_7 : Cond.fieldLink RX10 7 "RegisterMachineModel" "start" "[I" ∈ TB := tb_7 _ (List.mem_of_getElem? (i := 18) rfl)
theorem lk_X10_13 : Cond.fieldLink RX10 13 "RegisterMachineModel" "length" "[I" ∈ TB := tb_7 _ (List.mem_of_getElem? (i := 19) rfl)
theorem lk_X10_16 : Cond.fieldLink RX10 16 "RegisterMachineModel" "parameters" "[I" ∈ TB := tb_7 _ (List.mem_of_getElem? (i := 20) rfl)
theorem lk_X10_19 : Cond.fieldLink RX10 19 "RegisterMachineModel" "results" "[I" ∈ TB := tb_7 _ (List.mem_of_getElem? (i := 21) rfl)
theorem lk_X10_22 : Cond.fieldLink RX10 22 "RegisterMachineModel" "locals" "[I" ∈ TB := tb_7 _ (List.mem_of_getElem? (i := 22) rfl)
theorem lk_X10_25 : Cond.fieldLink RX10 25 "RegisterMachineModel" "most" "[I" ∈ TB := tb_7 _ (List.mem_of_getElem? (i := 23) rfl)
theorem lk_X10_28 : Cond.fieldLink RX10 28 "RegisterMachineModel" "op" "[I" ∈ TB := tb_8 _ (List.mem_of_getElem? (i := 0) rfl)
theorem lk_X10_31 : Cond.fieldLink RX10 31 "RegisterMachineModel" "one" "[I" ∈ TB := tb_8 _ (List.mem_of_getElem? (i := 1) rfl)
theorem lk_X10_34 : Cond.fieldLink RX10 34 "RegisterMachineModel" "two" "[I" ∈ TB := tb_8 _ (List.mem_of_getElem? (i := 2) rfl)
theorem lk_X10_37 : Cond.fieldLink RX10 37 "RegisterMachineModel" "below" "[I" ∈ TB := tb_8 _ (List.mem_of_getElem? (i := 3) rfl)
theorem lk_X10_40 : Cond.fieldLink RX10 40 "RegisterMachineModel" "by" "[I" ∈ TB := tb_8 _ (List.mem_of_getElem? (i := 4) rfl)
theorem lk_X10_43 : Cond.fieldLink RX10 43 "RegisterMachineModel" "takes" "[I" ∈ TB := tb_8 _ (List.mem_of_getElem? (i := 5) rfl)
theorem lk_X10_46 : Cond.fieldLink RX10 46 "RegisterMachineModel" "gives" "[I" ∈ TB := tb_8 _ (List.mem_of_getElem? (i := 6) rfl)
theorem lk_X10_49 : Cond.fieldLink RX10 49 "RegisterMachineModel" "height" "[I" ∈ TB := tb_8 _ (List.mem_of_getElem? (i := 7) rfl)
theorem lk_X10_52 : Cond.fieldLink RX10 52 "RegisterMachineModel" "own" "[I" ∈ TB := tb_8 _ (List.mem_of_getElem? (i := 8) rfl)
theorem lk_X10_55 : Cond.fieldLink RX10 55 "RegisterMachineModel" "dead" "[Z" ∈ TB := tb_8 _ (List.mem_of_getElem? (i := 9) rfl)
theorem lk_X10_59 : Cond.fieldLink RX10 59 "RegisterMachineModel" "table" "[I" ∈ TB := tb_8 _ (List.mem_of_getElem? (i := 10) rfl)
theorem lk_X10_62 : Cond.fieldLink RX10 62 "RegisterMachineModel" "globals" "[J" ∈ TB := tb_8 _ (List.mem_of_getElem? (i := 11) rfl)
theorem lk_X10_66 : Cond.fieldLink RX10 66 "RegisterMachineModel" "bytes" "[I" ∈ TB := tb_8 _ (List.mem_of_getElem? (i := 12) rfl)
theorem lk_X10_69 : Cond.fieldLink RX10 69 "RegisterMachineModel" "pages" "I" ∈ TB := tb_8 _ (List.mem_of_getElem? (i := 13) rfl)
theorem lk_X10_73 : Cond.fieldLink RX10 73 "RegisterMachineModel" "argument" "[J" ∈ TB := tb_8 _ (List.mem_of_getElem? (i := 14) rfl)
theorem lk_X10_76 : Cond.fieldLink RX10 76 "RegisterMachineModel" "value" "[J" ∈ TB := tb_8 _ (List.mem_of_getElem? (i := 15) rfl)
theorem lk_X10_79 : Cond.fieldLink RX10 79 "RegisterMachineModel" "function" "[I" ∈ TB := tb_8 _ (List.mem_of_getElem? (i := 16) rfl)
theorem lk_X10_82 : Cond.fieldLink RX10 82 "RegisterMachineModel" "first" "[I" ∈ TB := tb_8 _ (List.mem_of_getElem? (i := 17) rfl)
theorem lk_X10_85 : Cond.fieldLink RX10 85 "RegisterMachineModel" "back" "[I" ∈ TB := tb_8 _ (List.mem_of_getElem? (i := 18) rfl)
theorem lk_X10_88 : Cond.fieldLink RX10 88 "RegisterMachineModel" "often" "I" ∈ TB := tb_8 _ (List.mem_of_getElem? (i := 19) rfl)
theorem lk_X10_91 : Cond.fieldLink RX10 91 "RegisterMachineModel" "latest" "I" ∈ TB := tb_8 _ (List.mem_of_getElem? (i := 20) rfl)
theorem lk_X10_94 : Cond.fieldLink RX10 94 "RegisterMachineModel" "counted" "[I" ∈ TB := tb_8 _ (List.mem_of_getElem? (i := 21) rfl)
theorem lk_X10_97 : Cond.fieldLink RX10 97 "RegisterMachineModel" "compiled" "[Z" ∈ TB := tb_8 _ (List.mem_of_getElem? (i := 22) rfl)
theorem lk_X10_100 : Cond.fieldLink RX10 100 "RegisterMachineModel" "outcome" "[J" ∈ TB := tb_8 _ (List.mem_of_getElem? (i := 23) rfl)
theorem lk_X10_103 : Cond.fieldLink RX10 103 "RegisterMachineModel" "writing" "Z" ∈ TB := tb_9 _ (List.mem_of_getElem? (i := 23) rfl)
theorem lk_X10_107 : Cond.fieldLink RX10 107 "RegisterMachineModel" "functions" "I" ∈ TB := tb_10 _ (List.mem_of_getElem? (i := 0) rfl)
theorem co_X10_within : Cond.code yX10_within cX10_within 2 (some .boolean) ∈ TB := tb_10 _ (List.mem_of_getElem? (i := 6) rfl)
theorem in_X10 : Cond.initialized RX10 ∈ TB := tb_1 _ (List.mem_of_getElem? (i := 5) rfl)
theorem hd_X10_within : yX10_within.cls = RX10 ∧ yX10_within.cls ≠ "java/lang/invoke/MethodHandle" ∧ yX10_within.cls ≠ "java/lang/invoke/VarHandle" ∧ (parseMethodDescriptor yX10_within.desc).map (fun d => d.parameters.length) = some 2 := by decide +kernel
theorem lk_X10_110 : Cond.methodLink RX10 110 yX10_within ∈ TB := tb_10 _ (List.mem_of_getElem? (i := 4) rfl)
theorem st_X10_within : Cond.static yX10_within ∈ TB := tb_10 _ (List.mem_of_getElem? (i := 5) rfl)
theorem gi_X10_110 : GoodIn TB (va_wsS RX10 110 yX10_within (Cond.code yX10_within cX10_within 2 (some .boolean) :: TB)) := gi_s lk_X10_110 st_X10_within in_X10 co_X10_within
theorem lk_X10_114 : Cond.fieldLink RX10 114 "RegisterMachineModel" "total" "I" ∈ TB := tb_10 _ (List.mem_of_getElem? (i := 1) rfl)
theorem lk_X10_117 : Cond.fieldLink RX10 117 "RegisterMachineModel" "labels" "I" ∈ TB := tb_10 _ (List.mem_of_getElem? (i := 2) rfl)
theorem lk_X10_120 : Cond.fieldLink RX10 120 "RegisterMachineModel" "entriesLeft" "I" ∈ TB := tb_10 _ (List.mem_of_getElem? (i := 3) rfl)
theorem co_X10_begin : Cond.code yX10_begin cX10_begin 5 none ∈ TB := tb_10 _ (List.mem_of_getElem? (i := 10) rfl)
theorem hd_X10_begin : yX10_begin.cls = RX10 ∧ yX10_begin.cls ≠ "java/lang/invoke/MethodHandle" ∧ yX10_begin.cls ≠ "java/lang/invoke/VarHandle" ∧ (parseMethodDescriptor yX10_begin.desc).map (fun d => d.parameters.length) = some 3 := by decide +kernel
theorem lk_X10_123 : Cond.methodLink RX10 123 yX10_begin ∈ TB := tb_10 _ (List.mem_of_getElem? (i := 7) rfl)
theorem im_X10_begin : Cond.instanceMethod yX10_begin ∈ TB := tb_10 _ (List.mem_of_getElem? (i := 8) rfl)
theorem se_X10_begin : Cond.selects RX10 yX10_begin yX10_begin ∈ TB := tb_10 _ (List.mem_of_getElem? (i := 9) rfl)
theorem gi_X10_123 : GoodIn TB (wsV RX10 123 RX10 yX10_begin (Cond.code yX10_begin cX10_begin 5 none :: TB)) := gi_v lk_X10_123 im_X10_begin se_X10_begin in_X10 co_X10_begin
theorem co_X10_inner : Cond.code yX10_inner cX10_inner 1 (some .int) ∈ TB := tb_17 _ (List.mem_of_getElem? (i := 12) rfl)
theorem hd_X10_inner : yX10_inner.cls = RX10 ∧ yX10_inner.cls ≠ "java/lang/invoke/MethodHandle" ∧ yX10_inner.cls ≠ "java/lang/invoke/VarHandle" ∧ (parseMethodDescriptor yX10_inner.desc).map (fun d => d.parameters.length) = some 0 := by decide +kernel
theorem lk_X10_127 : Cond.methodLink RX10 127 yX10_inner ∈ TB := tb_17 _ (List.mem_of_getElem? (i := 9) rfl)
theorem im_X10_inner : Cond.instanceMethod yX10_inner ∈ TB := tb_17 _ (List.mem_of_getElem? (i := 10) rfl)
theorem se_X10_inner : Cond.selects RX10 yX10_inner yX10_inner ∈ TB := tb_17 _ (List.mem_of_getElem? (i := 11) rfl)
theorem gi_X10_127 : GoodIn TB (wsV RX10 127 RX10 yX10_inner (Cond.code yX10_inner cX10_inner 1 (some .int) :: TB)) := gi_v lk_X10_127 im_X10_inner se_X10_inner in_X10 co_X10_inner
theorem co_X10_has : Cond.code yX10_has cX10_has 2 (some .boolean) ∈ TB := tb_17 _ (List.mem_of_getElem? (i := 16) rfl)
theorem hd_X10_has : yX10_has.cls = RX10 ∧ yX10_has.cls ≠ "java/lang/invoke/MethodHandle" ∧ yX10_has.cls ≠ "java/lang/invoke/VarHandle" ∧ (parseMethodDescriptor yX10_has.desc).map (fun d => d.parameters.length) = some 1 := by decide +kernel
theorem lk_X10_131 : Cond.methodLink RX10 131 yX10_has ∈ TB := tb_17 _ (List.mem_of_getElem? (i := 13) rfl)
theorem im_X10_has : Cond.instanceMethod yX10_has ∈ TB := tb_17 _ (List.mem_of_getElem? (i := 14) rfl)
theorem se_X10_has : Cond.selects RX10 yX10_has yX10_has ∈ TB := tb_17 _ (List.mem_of_getElem? (i := 15) rfl)
theorem gi_X10_131 : GoodIn TB (wsV RX10 131 RX10 yX10_has (Cond.code yX10_has cX10_has 2 (some .boolean) :: TB)) := gi_v lk_X10_131 im_X10_has se_X10_has in_X10 co_X10_has
theorem co_X10_take : Cond.code yX10_take cX10_take 2 none ∈ TB := tb_18 _ (List.mem_of_getElem? (i := 12) rfl)
theorem hd_X10_take : yX10_take.cls = RX10 ∧ yX10_take.cls ≠ "java/lang/invoke/MethodHandle" ∧ yX10_take.cls ≠ "java/lang/invoke/VarHandle" ∧ (parseMethodDescriptor yX10_take.desc).map (fun d => d.parameters.length) = some 1 := by decide +kernel
theorem lk_X10_135 : Cond.methodLink RX10 135 yX10_take ∈ TB := tb_18 _ (List.mem_of_getElem? (i := 9) rfl)
theorem im_X10_take : Cond.instanceMethod yX10_take ∈ TB := tb_18 _ (List.mem_of_getElem? (i := 10) rfl)
theorem se_X10_take : Cond.selects RX10 yX10_take yX10_take ∈ TB := tb_18 _ (List.mem_of_getElem? (i := 11) rfl)
theorem gi_X10_135 : GoodIn TB (wsV RX10 135 RX10 yX10_take (Cond.code yX10_take cX10_take 2 none :: TB)) := gi_v lk_X10_135 im_X10_take se_X10_take in_X10 co_X10_take
theorem co_X10_die : Cond.code yX10_die cX10_die 1 none ∈ TB := tb_17 _ (List.mem_of_getElem? (i := 20) rfl)
theorem hd_X10_die : yX10_die.cls = RX10 ∧ yX10_die.cls ≠ "java/lang/invoke/MethodHandle" ∧ yX10_die.cls ≠ "java/lang/invoke/VarHandle" ∧ (parseMethodDescriptor yX10_die.desc).map (fun d => d.parameters.length) = some 0 := by decide +kernel
theorem lk_X10_139 : Cond.methodLink RX10 139 yX10_die ∈ TB := tb_17 _ (List.mem_of_getElem? (i := 17) rfl)
theorem im_X10_die : Cond.instanceMethod yX10_die ∈ TB := tb_17 _ (List.mem_of_getElem? (i := 18) rfl)
theorem se_X10_die : Cond.selects RX10 yX10_die yX10_die ∈ TB := tb_17 _ (List.mem_of_getElem? (i := 19) rfl)
theorem gi_X10_139 : GoodIn TB (wsV RX10 139 RX10 yX10_die (Cond.code yX10_die cX10_die 1 none :: TB)) := gi_v lk_X10_139 im_X10_die se_X10_die in_X10 co_X10_die
theorem co_X10_isDone : Cond.code yX10_isDone cX10_isDone 1 (some .boolean) ∈ TB := tb_18 _ (List.mem_of_getElem? (i := 20) rfl)
theorem hd_X10_isDone : yX10_isDone.cls = RX10 ∧ yX10_isDone.cls ≠ "java/lang/invoke/MethodHandle" ∧ yX10_isDone.cls ≠ "java/lang/invoke/VarHandle" ∧ (parseMethodDescriptor yX10_isDone.desc).map (fun d => d.parameters.length) = some 0 := by decide +kernel
theorem lk_X10_142 : Cond.methodLink RX10 142 yX10_isDone ∈ TB := tb_18 _ (List.mem_of_getElem? (i := 17) rfl)
theorem im_X10_isDone : Cond.instanceMethod yX10_isDone ∈ TB := tb_18 _ (List.mem_of_getElem? (i := 18) rfl)
theorem se_X10_isDone : Cond.selects RX10 yX10_isDone yX10_isDone ∈ TB := tb_18 _ (List.mem_of_getElem? (i := 19) rfl)
theorem gi_X10_142 : GoodIn TB (wsV RX10 142 RX10 yX10_isDone (Cond.code yX10_isDone cX10_isDone 1 (some .boolean) :: TB)) := gi_v lk_X10_142 im_X10_isDone se_X10_isDone in_X10 co_X10_isDone
theorem lk_X10_146 : Cond.fieldLink RX10 146 "RegisterMachineModel" "firstEntry" "Z" ∈ TB := tb_16 _ (List.mem_of_getElem? (i := 23) rfl)
theorem co_X10_isLabel : Cond.code yX10_isLabel cX10_isLabel 2 (some .boolean) ∈ TB := tb_17 _ (List.mem_of_getElem? (i := 4) rfl)
theorem hd_X10_isLabel : yX10_isLabel.cls = RX10 ∧ yX10_isLabel.cls ≠ "java/lang/invoke/MethodHandle" ∧ yX10_isLabel.cls ≠ "java/lang/invoke/VarHandle" ∧ (parseMethodDescriptor yX10_isLabel.desc).map (fun d => d.parameters.length) = some 1 := by decide +kernel
theorem lk_X10_149 : Cond.methodLink RX10 149 yX10_isLabel ∈ TB := tb_17 _ (List.mem_of_getElem? (i := 1) rfl)
theorem im_X10_isLabel : Cond.instanceMethod yX10_isLabel ∈ TB := tb_17 _ (List.mem_of_getElem? (i := 2) rfl)
theorem se_X10_isLabel : Cond.selects RX10 yX10_isLabel yX10_isLabel ∈ TB := tb_17 _ (List.mem_of_getElem? (i := 3) rfl)
theorem gi_X10_149 : GoodIn TB (wsV RX10 149 RX10 yX10_isLabel (Cond.code yX10_isLabel cX10_isLabel 2 (some .boolean) :: TB)) := gi_v lk_X10_149 im_X10_isLabel se_X10_isLabel in_X10 co_X10_isLabel
theorem co_X10_wants : Cond.code yX10_wants cX10_wants 2 (some .int) ∈ TB := tb_17 _ (List.mem_of_getElem? (i := 8) rfl)
theorem hd_X10_wants : yX10_wants.cls = RX10 ∧ yX10_wants.cls ≠ "java/lang/invoke/MethodHandle" ∧ yX10_wants.cls ≠ "java/lang/invoke/VarHandle" ∧ (parseMethodDescriptor yX10_wants.desc).map (fun d => d.parameters.length) = some 1 := by decide +kernel
theorem lk_X10_152 : Cond.methodLink RX10 152 yX10_wants ∈ TB := tb_17 _ (List.mem_of_getElem? (i := 5) rfl)
theorem im_X10_wants : Cond.instanceMethod yX10_wants ∈ TB := tb_17 _ (List.mem_of_getElem? (i := 6) rfl)
theorem se_X10_wants : Cond.selects RX10 yX10_wants yX10_wants ∈ TB := tb_17 _ (List.mem_of_getElem? (i := 7) rfl)
theorem gi_X10_152 : GoodIn TB (wsV RX10 152 RX10 yX10_wants (Cond.code yX10_wants cX10_wants 2 (some .int) :: TB)) := gi_v lk_X10_152 im_X10_wants se_X10_wants in_X10 co_X10_wants
theorem lk_X10_156 : Cond.fieldLink RX10 156 "RegisterMachineModel" "wanted" "I" ∈ TB := tb_17 _ (List.mem_of_getElem? (i := 0) rfl)
theorem co_X10_ends : Cond.code yX10_ends cX10_ends 2 (some .boolean) ∈ TB := tb_18 _ (List.mem_of_getElem? (i := 4) rfl)
theorem hd_X10_ends : yX10_ends.cls = RX10 ∧ yX10_ends.cls ≠ "java/lang/invoke/MethodHandle" ∧ yX10_ends.cls ≠ "java/lang/invoke/VarHandle" ∧ (parseMethodDescriptor yX10_ends.desc).map (fun d => d.parameters.length) = some 1 := by decide +kernel
theorem lk_X10_159 : Cond.methodLink RX10 159 yX10_ends ∈ TB := tb_18 _ (List.mem_of_getElem? (i := 1) rfl)
theorem im_X10_ends : Cond.instanceMethod yX10_ends ∈ TB := tb_18 _ (List.mem_of_getElem? (i := 2) rfl)
theorem se_X10_ends : Cond.selects RX10 yX10_ends yX10_ends ∈ TB := tb_18 _ (List.mem_of_getElem? (i := 3) rfl)
theorem gi_X10_159 : GoodIn TB (wsV RX10 159 RX10 yX10_ends (Cond.code yX10_ends cX10_ends 2 (some .boolean) :: TB)) := gi_v lk_X10_159 im_X10_ends se_X10_ends in_X10 co_X10_ends
theorem co_X10_block : Cond.code yX10_block cX10_block 5 (some .boolean) ∈ TB := tb_18 _ (List.mem_of_getElem? (i := 8) rfl)
theorem hd_X10_block : yX10_block.cls = RX10 ∧ yX10_block.cls ≠ "java/lang/invoke/MethodHandle" ∧ yX10_block.cls ≠ "java/lang/invoke/VarHandle" ∧ (parseMethodDescriptor yX10_block.desc).map (fun d => d.parameters.length) = some 3 := by decide +kernel
theorem lk_X10_162 : Cond.methodLink RX10 162 yX10_block ∈ TB := tb_18 _ (List.mem_of_getElem? (i := 5) rfl)
theorem im_X10_block : Cond.instanceMethod yX10_block ∈ TB := tb_18 _ (List.mem_of_getElem? (i := 6) rfl)
theorem se_X10_block : Cond.selects RX10 yX10_block yX10_block ∈ TB := tb_18 _ (List.mem_of_getElem? (i := 7) rfl)
theorem gi_X10_162 : GoodIn TB (wsV RX10 162 RX10 yX10_block (Cond.code yX10_block cX10_block 5 (some .boolean) :: TB)) := gi_v lk_X10_162 im_X10_block se_X10_block in_X10 co_X10_block
theorem co_X10_otherwise : Cond.code yX10_otherwise cX10_otherwise 1 (some .boolean) ∈ TB := tb_18 _ (List.mem_of_getElem? (i := 16) rfl)
theorem hd_X10_otherwise : yX10_otherwise.cls = RX10 ∧ yX10_otherwise.cls ≠ "java/lang/invoke/MethodHandle" ∧ yX10_otherwise.cls ≠ "java/lang/invoke/VarHandle" ∧ (parseMethodDescriptor yX10_otherwise.desc).map (fun d => d.parameters.length) = some 0 := by decide +kernel
theorem lk_X10_166 : Cond.methodLink RX10 166 yX10_otherwise ∈ TB := tb_18 _ (List.mem_of_getElem? (i := 13) rfl)
theorem im_X10_otherwise : Cond.instanceMethod yX10_otherwise ∈ TB := tb_18 _ (List.mem_of_getElem? (i := 14) rfl)
theorem se_X10_otherwise : Cond.selects RX10 yX10_otherwise yX10_otherwise ∈ TB := tb_18 _ (List.mem_of_getElem? (i := 15) rfl)
theorem gi_X10_166 : GoodIn TB (wsV RX10 166 RX10 yX10_otherwise (Cond.code yX10_otherwise cX10_otherwise 1 (some .boolean) :: TB)) := gi_v lk_X10_166 im_X10_otherwise se_X10_otherwise in_X10 co_X10_otherwise
theorem co_X10_end : Cond.code yX10_end cX10_end 2 (some .boolean) ∈ TB := tb_19 _ (List.mem_of_getElem? (i := 0) rfl)
theorem hd_X10_end : yX10_end.cls = RX10 ∧ yX10_end.cls ≠ "java/lang/invoke/MethodHandle" ∧ yX10_end.cls ≠ "java/lang/invoke/VarHandle" ∧ (parseMethodDescriptor yX10_end.desc).map (fun d => d.parameters.length) = some 0 := by decide +kernel
theorem lk_X10_169 : Cond.methodLink RX10 169 yX10_end ∈ TB := tb_18 _ (List.mem_of_getElem? (i := 21) rfl)
theorem im_X10_end : Cond.instanceMethod yX10_end ∈ TB := tb_18 _ (List.mem_of_getElem? (i := 22) rfl)
theorem se_X10_end : Cond.selects RX10 yX10_end yX10_end ∈ TB := tb_18 _ (List.mem_of_getElem? (i := 23) rfl)
theorem gi_X10_169 : GoodIn TB (wsV RX10 169 RX10 yX10_end (Cond.code yX10_end cX10_end 2 (some .boolean) :: TB)) := gi_v lk_X10_169 im_X10_end se_X10_end in_X10 co_X10_end
theorem co_X10_turn : Cond.code yX10_turn cX10_turn 3 (some .boolean) ∈ TB := tb_19 _ (List.mem_of_getElem? (i := 4) rfl)
theorem hd_X10_turn : yX10_turn.cls = RX10 ∧ yX10_turn.cls ≠ "java/lang/invoke/MethodHandle" ∧ yX10_turn.cls ≠ "java/lang/invoke/VarHandle" ∧ (parseMethodDescriptor yX10_turn.desc).map (fun d => d.parameters.length) = some 2 := by decide +kernel
theorem lk_X10_172 : Cond.methodLink RX10 172 yX10_turn ∈ TB := tb_19 _ (List.mem_of_getElem? (i := 1) rfl)
theorem im_X10_turn : Cond.instanceMethod yX10_turn ∈ TB := tb_19 _ (List.mem_of_getElem? (i := 2) rfl)
theorem se_X10_turn : Cond.selects RX10 yX10_turn yX10_turn ∈ TB := tb_19 _ (List.mem_of_getElem? (i := 3) rfl)
theorem gi_X10_172 : GoodIn TB (wsV RX10 172 RX10 yX10_turn (Cond.code yX10_turn cX10_turn 3 (some .boolean) :: TB)) := gi_v lk_X10_172 im_X10_turn se_X10_turn in_X10 co_X10_turn
theorem co_X10_entries : Cond.code yX10_entries cX10_entries 2 (some .boolean) ∈ TB := tb_19 _ (List.mem_of_getElem? (i := 8) rfl)
theorem hd_X10_entries : yX10_entries.cls = RX10 ∧ yX10_entries.cls ≠ "java/lang/invoke/MethodHandle" ∧ yX10_entries.cls ≠ "java/lang/invoke/VarHandle" ∧ (parseMethodDescriptor yX10_entries.desc).map (fun d => d.parameters.length) = some 1 := by decide +kernel
theorem lk_X10_175 : Cond.methodLink RX10 175 yX10_entries ∈ TB := tb_19 _ (List.mem_of_getElem? (i := 5) rfl)
theorem im_X10_entries : Cond.instanceMethod yX10_entries ∈ TB := tb_19 _ (List.mem_of_getElem? (i := 6) rfl)
theorem se_X10_entries : Cond.selects RX10 yX10_entries yX10_entries ∈ TB := tb_19 _ (List.mem_of_getElem? (i := 7) rfl)
theorem gi_X10_175 : GoodIn TB (wsV RX10 175 RX10 yX10_entries (Cond.code yX10_entries cX10_entries 2 (some .boolean) :: TB)) := gi_v lk_X10_175 im_X10_entries se_X10_entries in_X10 co_X10_entries
theorem co_X10_entryTo : Cond.code yX10_entryTo cX10_entryTo 2 (some .boolean) ∈ TB := tb_16 _ (List.mem_of_getElem? (i := 22) rfl)
theorem hd_X10_entryTo : yX10_entryTo.cls = RX10 ∧ yX10_entryTo.cls ≠ "java/lang/invoke/MethodHandle" ∧ yX10_entryTo.cls ≠ "java/lang/invoke/VarHandle" ∧ (parseMethodDescriptor yX10_entryTo.desc).map (fun d => d.parameters.length) = some 1 := by decide +kernel
theorem lk_X10_178 : Cond.methodLink RX10 178 yX10_entryTo ∈ TB := tb_16 _ (List.mem_of_getElem? (i := 19) rfl)
theorem im_X10_entryTo : Cond.instanceMethod yX10_entryTo ∈ TB := tb_16 _ (List.mem_of_getElem? (i := 20) rfl)
theorem se_X10_entryTo : Cond.selects RX10 yX10_entryTo yX10_entryTo ∈ TB := tb_16 _ (List.mem_of_getElem? (i := 21) rfl)
theorem gi_X10_178 : GoodIn TB (wsV RX10 178 RX10 yX10_entryTo (Cond.code yX10_entryTo cX10_entryTo 2 (some .boolean) :: TB)) := gi_v lk_X10_178 im_X10_entryTo se_X10_entryTo in_X10 co_X10_entryTo
theorem co_X10_control : Cond.code yX10_control cX10_control 4 (some .boolean) ∈ TB := tb_18 _ (List.mem_of_getElem? (i := 0) rfl)
theorem hd_X10_control : yX10_control.cls = RX10 ∧ yX10_control.cls ≠ "java/lang/invoke/MethodHandle" ∧ yX10_control.cls ≠ "java/lang/invoke/VarHandle" ∧ (parseMethodDescriptor yX10_control.desc).map (fun d => d.parameters.length) = some 3 := by decide +kernel
theorem lk_X10_181 : Cond.methodLink RX10 181 yX10_control ∈ TB := tb_17 _ (List.mem_of_getElem? (i := 21) rfl)
theorem im_X10_control : Cond.instanceMethod yX10_control ∈ TB := tb_17 _ (List.mem_of_getElem? (i := 22) rfl)
theorem se_X10_control : Cond.selects RX10 yX10_control yX10_control ∈ TB := tb_17 _ (List.mem_of_getElem? (i := 23) rfl)
theorem gi_X10_181 : GoodIn TB (wsV RX10 181 RX10 yX10_control (Cond.code yX10_control cX10_control 4 (some .boolean) :: TB)) := gi_v lk_X10_181 im_X10_control se_X10_control in_X10 co_X10_control
theorem co_X10_plain : Cond.code yX10_plain cX10_plain 4 (some .boolean) ∈ TB := tb_19 _ (List.mem_of_getElem? (i := 12) rfl)
theorem hd_X10_plain : yX10_plain.cls = RX10 ∧ yX10_plain.cls ≠ "java/lang/invoke/MethodHandle" ∧ yX10_plain.cls ≠ "java/lang/invoke/VarHandle" ∧ (parseMethodDescriptor yX10_plain.desc).map (fun d => d.parameters.length) = some 2 := by decide +kernel
theorem lk_X10_184 : Cond.methodLink RX10 184 yX10_plain ∈ TB := tb_19 _ (List.mem_of_getElem? (i := 9) rfl)
theorem im_X10_plain : Cond.instanceMethod yX10_plain ∈ TB := tb_19 _ (List.mem_of_getElem? (i := 10) rfl)
theorem se_X10_plain : Cond.selects RX10 yX10_plain yX10_plain ∈ TB := tb_19 _ (List.mem_of_getElem? (i := 11) rfl)
theorem gi_X10_184 : GoodIn TB (wsV RX10 184 RX10 yX10_plain (Cond.code yX10_plain cX10_plain 4 (some .boolean) :: TB)) := gi_v lk_X10_184 im_X10_plain se_X10_plain in_X10 co_X10_plain
theorem co_X10_isWhole : Cond.code yX10_isWhole cX10_isWhole 2 (some .boolean) ∈ TB := tb_20 _ (List.mem_of_getElem? (i := 17) rfl)
theorem hd_X10_isWhole : yX10_isWhole.cls = RX10 ∧ yX10_isWhole.cls ≠ "java/lang/invoke/MethodHandle" ∧ yX10_isWhole.cls ≠ "java/lang/invoke/VarHandle" ∧ (parseMethodDescriptor yX10_isWhole.desc).map (fun d => d.parameters.length) = some 1 := by decide +kernel
theorem lk_X10_187 : Cond.methodLink RX10 187 yX10_isWhole ∈ TB := tb_20 _ (List.mem_of_getElem? (i := 14) rfl)
theorem im_X10_isWhole : Cond.instanceMethod yX10_isWhole ∈ TB := tb_20 _ (List.mem_of_getElem? (i := 15) rfl)
theorem se_X10_isWhole : Cond.selects RX10 yX10_isWhole yX10_isWhole ∈ TB := tb_20 _ (List.mem_of_getElem? (i := 16) rfl)
theorem gi_X10_187 : GoodIn TB (wsV RX10 187 RX10 yX10_isWhole (Cond.code yX10_isWhole cX10_isWhole 2 (some .boolean) :: TB)) := gi_v lk_X10_187 im_X10_isWhole se_X10_isWhole in_X10 co_X10_isWhole
theorem lk_X10_190 : Cond.fieldLink RX10 190 "RegisterMachineModel" "frames" "I" ∈ TB := tb_35 _ (List.mem_of_getElem? (i := 4) rfl)
theorem co_X10_begins : Cond.code yX10_begins cX10_begins 1 (some .boolean) ∈ TB := tb_36 _ (List.mem_of_getElem? (i := 11) rfl)
theorem hd_X10_begins : yX10_begins.cls = RX10 ∧ yX10_begins.cls ≠ "java/lang/invoke/MethodHandle" ∧ yX10_begins.cls ≠ "java/lang/invoke/VarHandle" ∧ (parseMethodDescriptor yX10_begins.desc).map (fun d => d.parameters.length) = some 1 := by decide +kernel
theorem lk_X10_193 : Cond.methodLink RX10 193 yX10_begins ∈ TB := tb_36 _ (List.mem_of_getElem? (i := 9) rfl)
theorem st_X10_begins : Cond.static yX10_begins ∈ TB := tb_36 _ (List.mem_of_getElem? (i := 10) rfl)
theorem gi_X10_193 : GoodIn TB (va_wsS RX10 193 yX10_begins (Cond.code yX10_begins cX10_begins 1 (some .boolean) :: TB)) := gi_s lk_X10_193 st_X10_begins in_X10 co_X10_begins
theorem co_X10_namesOf : Cond.code yX10_namesOf cX10_namesOf 2 (some .int) ∈ TB := tb_36 _ (List.mem_of_getElem? (i := 0) rfl)
theorem hd_X10_namesOf : yX10_namesOf.cls = RX10 ∧ yX10_namesOf.cls ≠ "java/lang/invoke/MethodHandle" ∧ yX10_namesOf.cls ≠ "java/lang/invoke/VarHandle" ∧ (parseMethodDescriptor yX10_namesOf.desc).map (fun d => d.parameters.length) = some 1 := by decide +kernel
theorem lk_X10_196 : Cond.methodLink RX10 196 yX10_namesOf ∈ TB := tb_35 _ (List.mem_of_getElem? (i := 21) rfl)
theorem im_X10_namesOf : Cond.instanceMethod yX10_namesOf ∈ TB := tb_35 _ (List.mem_of_getElem? (i := 22) rfl)
theorem se_X10_namesOf : Cond.selects RX10 yX10_namesOf yX10_namesOf ∈ TB := tb_35 _ (List.mem_of_getElem? (i := 23) rfl)
theorem gi_X10_196 : GoodIn TB (wsV RX10 196 RX10 yX10_namesOf (Cond.code yX10_namesOf cX10_namesOf 2 (some .int) :: TB)) := gi_v lk_X10_196 im_X10_namesOf se_X10_namesOf in_X10 co_X10_namesOf
theorem lk_X10_199 : Cond.fieldLink RX10 199 "RegisterMachineModel" "values" "I" ∈ TB := tb_35 _ (List.mem_of_getElem? (i := 5) rfl)
theorem co_X10_keep : Cond.code yX10_keep cX10_keep 4 none ∈ TB := tb_36 _ (List.mem_of_getElem? (i := 19) rfl)
theorem hd_X10_keep : yX10_keep.cls = RX10 ∧ yX10_keep.cls ≠ "java/lang/invoke/MethodHandle" ∧ yX10_keep.cls ≠ "java/lang/invoke/VarHandle" ∧ (parseMethodDescriptor yX10_keep.desc).map (fun d => d.parameters.length) = some 2 := by decide +kernel
theorem lk_X10_202 : Cond.methodLink RX10 202 yX10_keep ∈ TB := tb_36 _ (List.mem_of_getElem? (i := 16) rfl)
theorem im_X10_keep : Cond.instanceMethod yX10_keep ∈ TB := tb_36 _ (List.mem_of_getElem? (i := 17) rfl)
theorem se_X10_keep : Cond.selects RX10 yX10_keep yX10_keep ∈ TB := tb_36 _ (List.mem_of_getElem? (i := 18) rfl)
theorem gi_X10_202 : GoodIn TB (wsV RX10 202 RX10 yX10_keep (Cond.code yX10_keep cX10_keep 4 none :: TB)) := gi_v lk_X10_202 im_X10_keep se_X10_keep in_X10 co_X10_keep
theorem lk_X10_206 : Cond.fieldLink RX10 206 "RegisterMachineModel" "asked" "I" ∈ TB := tb_35 _ (List.mem_of_getElem? (i := 6) rfl)
theorem co_X10_asks : Cond.code yX10_asks cX10_asks 2 (some .int) ∈ TB := tb_35 _ (List.mem_of_getElem? (i := 20) rfl)
theorem hd_X10_asks : yX10_asks.cls = RX10 ∧ yX10_asks.cls ≠ "java/lang/invoke/MethodHandle" ∧ yX10_asks.cls ≠ "java/lang/invoke/VarHandle" ∧ (parseMethodDescriptor yX10_asks.desc).map (fun d => d.parameters.length) = some 1 := by decide +kernel
theorem lk_X10_209 : Cond.methodLink RX10 209 yX10_asks ∈ TB := tb_35 _ (List.mem_of_getElem? (i := 17) rfl)
theorem im_X10_asks : Cond.instanceMethod yX10_asks ∈ TB := tb_35 _ (List.mem_of_getElem? (i := 18) rfl)
theorem se_X10_asks : Cond.selects RX10 yX10_asks yX10_asks ∈ TB := tb_35 _ (List.mem_of_getElem? (i := 19) rfl)
theorem gi_X10_209 : GoodIn TB (wsV RX10 209 RX10 yX10_asks (Cond.code yX10_asks cX10_asks 2 (some .int) :: TB)) := gi_v lk_X10_209 im_X10_asks se_X10_asks in_X10 co_X10_asks
theorem lk_X10_212 : Cond.fieldLink RX10 212 "RegisterMachineModel" "at" "I" ∈ TB := tb_35 _ (List.mem_of_getElem? (i := 8) rfl)
theorem lk_X10_215 : Cond.fieldLink RX10 215 "RegisterMachineModel" "state" "I" ∈ TB := tb_35 _ (List.mem_of_getElem? (i := 2) rfl)
theorem lk_X10_218 : Cond.fieldLink RX10 218 "RegisterMachineModel" "outcomes" "I" ∈ TB := tb_35 _ (List.mem_of_getElem? (i := 7) rfl)
theorem co_X10_push : Cond.code yX10_push cX10_push 3 none ∈ TB := tb_35 _ (List.mem_of_getElem? (i := 12) rfl)
theorem hd_X10_push : yX10_push.cls = RX10 ∧ yX10_push.cls ≠ "java/lang/invoke/MethodHandle" ∧ yX10_push.cls ≠ "java/lang/invoke/VarHandle" ∧ (parseMethodDescriptor yX10_push.desc).map (fun d => d.parameters.length) = some 1 := by decide +kernel
theorem lk_X10_221 : Cond.methodLink RX10 221 yX10_push ∈ TB := tb_35 _ (List.mem_of_getElem? (i := 9) rfl)
theorem im_X10_push : Cond.instanceMethod yX10_push ∈ TB := tb_35 _ (List.mem_of_getElem? (i := 10) rfl)
theorem se_X10_push : Cond.selects RX10 yX10_push yX10_push ∈ TB := tb_35 _ (List.mem_of_getElem? (i := 11) rfl)
theorem gi_X10_221 : GoodIn TB (wsV RX10 221 RX10 yX10_push (Cond.code yX10_push cX10_push 3 none :: TB)) := gi_v lk_X10_221 im_X10_push se_X10_push in_X10 co_X10_push
theorem co_X10_endOf : Cond.code yX10_endOf cX10_endOf 5 (some .int) ∈ TB := tb_36 _ (List.mem_of_getElem? (i := 8) rfl)
theorem hd_X10_endOf : yX10_endOf.cls = RX10 ∧ yX10_endOf.cls ≠ "java/lang/invoke/MethodHandle" ∧ yX10_endOf.cls ≠ "java/lang/invoke/VarHandle" ∧ (parseMethodDescriptor yX10_endOf.desc).map (fun d => d.parameters.length) = some 2 := by decide +kernel
theorem lk_X10_225 : Cond.methodLink RX10 225 yX10_endOf ∈ TB := tb_36 _ (List.mem_of_getElem? (i := 5) rfl)
theorem im_X10_endOf : Cond.instanceMethod yX10_endOf ∈ TB := tb_36 _ (List.mem_of_getElem? (i := 6) rfl)
theorem se_X10_endOf : Cond.selects RX10 yX10_endOf yX10_endOf ∈ TB := tb_36 _ (List.mem_of_getElem? (i := 7) rfl)
theorem gi_X10_225 : GoodIn TB (wsV RX10 225 RX10 yX10_endOf (Cond.code yX10_endOf cX10_endOf 5 (some .int) :: TB)) := gi_v lk_X10_225 im_X10_endOf se_X10_endOf in_X10 co_X10_endOf
theorem co_X10_back : Cond.code yX10_back cX10_back 3 none ∈ TB := tb_36 _ (List.mem_of_getElem? (i := 15) rfl)
theorem hd_X10_back : yX10_back.cls = RX10 ∧ yX10_back.cls ≠ "java/lang/invoke/MethodHandle" ∧ yX10_back.cls ≠ "java/lang/invoke/VarHandle" ∧ (parseMethodDescriptor yX10_back.desc).map (fun d => d.parameters.length) = some 0 := by decide +kernel
theorem lk_X10_229 : Cond.methodLink RX10 229 yX10_back ∈ TB := tb_36 _ (List.mem_of_getElem? (i := 12) rfl)
theorem im_X10_back : Cond.instanceMethod yX10_back ∈ TB := tb_36 _ (List.mem_of_getElem? (i := 13) rfl)
theorem se_X10_back : Cond.selects RX10 yX10_back yX10_back ∈ TB := tb_36 _ (List.mem_of_getElem? (i := 14) rfl)
theorem gi_X10_229 : GoodIn TB (wsV RX10 229 RX10 yX10_back (Cond.code yX10_back cX10_back 3 none :: TB)) := gi_v lk_X10_229 im_X10_back se_X10_back in_X10 co_X10_back
theorem co_X10_beginOf : Cond.code yX10_beginOf cX10_beginOf 6 (some .int) ∈ TB := tb_41 _ (List.mem_of_getElem? (i := 20) rfl)
theorem hd_X10_beginOf : yX10_beginOf.cls = RX10 ∧ yX10_beginOf.cls ≠ "java/lang/invoke/MethodHandle" ∧ yX10_beginOf.cls ≠ "java/lang/invoke/VarHandle" ∧ (parseMethodDescriptor yX10_beginOf.desc).map (fun d => d.parameters.length) = some 2 := by decide +kernel
theorem lk_X10_231 : Cond.methodLink RX10 231 yX10_beginOf ∈ TB := tb_41 _ (List.mem_of_getElem? (i := 17) rfl)
theorem im_X10_beginOf : Cond.instanceMethod yX10_beginOf ∈ TB := tb_41 _ (List.mem_of_getElem? (i := 18) rfl)
theorem se_X10_beginOf : Cond.selects RX10 yX10_beginOf yX10_beginOf ∈ TB := tb_41 _ (List.mem_of_getElem? (i := 19) rfl)
theorem gi_X10_231 : GoodIn TB (wsV RX10 231 RX10 yX10_beginOf (Cond.code yX10_beginOf cX10_beginOf 6 (some .int) :: TB)) := gi_v lk_X10_231 im_X10_beginOf se_X10_beginOf in_X10 co_X10_beginOf
theorem co_X10_base : Cond.code yX10_base cX10_base 1 (some .int) ∈ TB := tb_42 _ (List.mem_of_getElem? (i := 0) rfl)
theorem hd_X10_base : yX10_base.cls = RX10 ∧ yX10_base.cls ≠ "java/lang/invoke/MethodHandle" ∧ yX10_base.cls ≠ "java/lang/invoke/VarHandle" ∧ (parseMethodDescriptor yX10_base.desc).map (fun d => d.parameters.length) = some 0 := by decide +kernel
theorem lk_X10_235 : Cond.methodLink RX10 235 yX10_base ∈ TB := tb_41 _ (List.mem_of_getElem? (i := 21) rfl)
theorem im_X10_base : Cond.instanceMethod yX10_base ∈ TB := tb_41 _ (List.mem_of_getElem? (i := 22) rfl)
theorem se_X10_base : Cond.selects RX10 yX10_base yX10_base ∈ TB := tb_41 _ (List.mem_of_getElem? (i := 23) rfl)
theorem gi_X10_235 : GoodIn TB (wsV RX10 235 RX10 yX10_base (Cond.code yX10_base cX10_base 1 (some .int) :: TB)) := gi_v lk_X10_235 im_X10_base se_X10_base in_X10 co_X10_base
theorem lk_X10_238 : Cond.fieldLink RX10 238 "RegisterMachineModel" "trap" "I" ∈ TB := tb_41 _ (List.mem_of_getElem? (i := 1) rfl)
theorem lk_X10_241 : Cond.constantLong RX10 241 (4294967295) ∈ TB := tb_40 _ (List.mem_of_getElem? (i := 20) rfl)
theorem co_X10_pop : Cond.code yX10_pop cX10_pop 1 (some .long) ∈ TB := tb_41 _ (List.mem_of_getElem? (i := 9) rfl)
theorem hd_X10_pop : yX10_pop.cls = RX10 ∧ yX10_pop.cls ≠ "java/lang/invoke/MethodHandle" ∧ yX10_pop.cls ≠ "java/lang/invoke/VarHandle" ∧ (parseMethodDescriptor yX10_pop.desc).map (fun d => d.parameters.length) = some 0 := by decide +kernel
theorem lk_X10_243 : Cond.methodLink RX10 243 yX10_pop ∈ TB := tb_41 _ (List.mem_of_getElem? (i := 6) rfl)
theorem im_X10_pop : Cond.instanceMethod yX10_pop ∈ TB := tb_41 _ (List.mem_of_getElem? (i := 7) rfl)
theorem se_X10_pop : Cond.selects RX10 yX10_pop yX10_pop ∈ TB := tb_41 _ (List.mem_of_getElem? (i := 8) rfl)
theorem gi_X10_243 : GoodIn TB (wsV RX10 243 RX10 yX10_pop (Cond.code yX10_pop cX10_pop 1 (some .long) :: TB)) := gi_v lk_X10_243 im_X10_pop se_X10_pop in_X10 co_X10_pop
theorem lk_X10_247 : Cond.constantLong RX10 247 (30) ∈ TB := tb_42 _ (List.mem_of_getElem? (i := 9) rfl)
theorem co_X10_traps : Cond.code yX10_traps cX10_traps 2 none ∈ TB := tb_41 _ (List.mem_of_getElem? (i := 0) rfl)
theorem hd_X10_traps : yX10_traps.cls = RX10 ∧ yX10_traps.cls ≠ "java/lang/invoke/MethodHandle" ∧ yX10_traps.cls ≠ "java/lang/invoke/VarHandle" ∧ (parseMethodDescriptor yX10_traps.desc).map (fun d => d.parameters.length) = some 1 := by decide +kernel
theorem lk_X10_249 : Cond.methodLink RX10 249 yX10_traps ∈ TB := tb_40 _ (List.mem_of_getElem? (i := 21) rfl)
theorem im_X10_traps : Cond.instanceMethod yX10_traps ∈ TB := tb_40 _ (List.mem_of_getElem? (i := 22) rfl)
theorem se_X10_traps : Cond.selects RX10 yX10_traps yX10_traps ∈ TB := tb_40 _ (List.mem_of_getElem? (i := 23) rfl)
theorem gi_X10_249 : GoodIn TB (wsV RX10 249 RX10 yX10_traps (Cond.code yX10_traps cX10_traps 2 none :: TB)) := gi_v lk_X10_249 im_X10_traps se_X10_traps in_X10 co_X10_traps
theorem co_X10_enter : Cond.code yX10_enter cX10_enter 3 none ∈ TB := tb_35 _ (List.mem_of_getElem? (i := 16) rfl)
theorem hd_X10_enter : yX10_enter.cls = RX10 ∧ yX10_enter.cls ≠ "java/lang/invoke/MethodHandle" ∧ yX10_enter.cls ≠ "java/lang/invoke/VarHandle" ∧ (parseMethodDescriptor yX10_enter.desc).map (fun d => d.parameters.length) = some 1 := by decide +kernel
theorem lk_X10_252 : Cond.methodLink RX10 252 yX10_enter ∈ TB := tb_35 _ (List.mem_of_getElem? (i := 13) rfl)
theorem im_X10_enter : Cond.instanceMethod yX10_enter ∈ TB := tb_35 _ (List.mem_of_getElem? (i := 14) rfl)
theorem se_X10_enter : Cond.selects RX10 yX10_enter yX10_enter ∈ TB := tb_35 _ (List.mem_of_getElem? (i := 15) rfl)
theorem gi_X10_252 : GoodIn TB (wsV RX10 252 RX10 yX10_enter (Cond.code yX10_enter cX10_enter 3 none :: TB)) := gi_v lk_X10_252 im_X10_enter se_X10_enter in_X10 co_X10_enter
theorem co_X10_size : Cond.code yX10_size cX10_size 1 (some .int) ∈ TB := tb_43 _ (List.mem_of_getElem? (i := 6) rfl)
theorem hd_X10_size : yX10_size.cls = RX10 ∧ yX10_size.cls ≠ "java/lang/invoke/MethodHandle" ∧ yX10_size.cls ≠ "java/lang/invoke/VarHandle" ∧ (parseMethodDescriptor yX10_size.desc).map (fun d => d.parameters.length) = some 1 := by decide +kernel
theorem lk_X10_255 : Cond.methodLink RX10 255 yX10_size ∈ TB := tb_43 _ (List.mem_of_getElem? (i := 4) rfl)
theorem st_X10_size : Cond.static yX10_size ∈ TB := tb_43 _ (List.mem_of_getElem? (i := 5) rfl)
theorem gi_X10_255 : GoodIn TB (va_wsS RX10 255 yX10_size (Cond.code yX10_size cX10_size 1 (some .int) :: TB)) := gi_s lk_X10_255 st_X10_size in_X10 co_X10_size
theorem lk_X10_258 : Cond.constantLong RX10 258 (64) ∈ TB := tb_43 _ (List.mem_of_getElem? (i := 2) rfl)
theorem lk_X10_260 : Cond.constantLong RX10 260 (255) ∈ TB := tb_43 _ (List.mem_of_getElem? (i := 3) rfl)
theorem lk_X10_262 : Cond.constantLong RX10 262 (6) ∈ TB := tb_43 _ (List.mem_of_getElem? (i := 11) rfl)
theorem co_X10_truth : Cond.code yX10_truth cX10_truth 1 (some .long) ∈ TB := tb_43 _ (List.mem_of_getElem? (i := 19) rfl)
theorem hd_X10_truth : yX10_truth.cls = RX10 ∧ yX10_truth.cls ≠ "java/lang/invoke/MethodHandle" ∧ yX10_truth.cls ≠ "java/lang/invoke/VarHandle" ∧ (parseMethodDescriptor yX10_truth.desc).map (fun d => d.parameters.length) = some 1 := by decide +kernel
theorem lk_X10_264 : Cond.methodLink RX10 264 yX10_truth ∈ TB := tb_43 _ (List.mem_of_getElem? (i := 17) rfl)
theorem st_X10_truth : Cond.static yX10_truth ∈ TB := tb_43 _ (List.mem_of_getElem? (i := 18) rfl)
theorem gi_X10_264 : GoodIn TB (va_wsS RX10 264 yX10_truth (Cond.code yX10_truth cX10_truth 1 (some .long) :: TB)) := gi_s lk_X10_264 st_X10_truth in_X10 co_X10_truth
theorem lk_X10_268 : Cond.constantLong RX10 268 (31) ∈ TB := tb_43 _ (List.mem_of_getElem? (i := 16) rfl)
theorem co_X10_choose : Cond.code yX10_choose cX10_choose 6 none ∈ TB := tb_42 _ (List.mem_of_getElem? (i := 17) rfl)
theorem hd_X10_choose : yX10_choose.cls = RX10 ∧ yX10_choose.cls ≠ "java/lang/invoke/MethodHandle" ∧ yX10_choose.cls ≠ "java/lang/invoke/VarHandle" ∧ (parseMethodDescriptor yX10_choose.desc).map (fun d => d.parameters.length) = some 0 := by decide +kernel
theorem lk_X10_270 : Cond.methodLink RX10 270 yX10_choose ∈ TB := tb_42 _ (List.mem_of_getElem? (i := 14) rfl)
theorem im_X10_choose : Cond.instanceMethod yX10_choose ∈ TB := tb_42 _ (List.mem_of_getElem? (i := 15) rfl)
theorem se_X10_choose : Cond.selects RX10 yX10_choose yX10_choose ∈ TB := tb_42 _ (List.mem_of_getElem? (i := 16) rfl)
theorem gi_X10_270 : GoodIn TB (wsV RX10 270 RX10 yX10_choose (Cond.code yX10_choose cX10_choose 6 none :: TB)) := gi_v lk_X10_270 im_X10_choose se_X10_choose in_X10 co_X10_choose
theorem co_X10_variable : Cond.code yX10_variable cX10_variable 4 none ∈ TB := tb_42 _ (List.mem_of_getElem? (i := 21) rfl)
theorem hd_X10_variable : yX10_variable.cls = RX10 ∧ yX10_variable.cls ≠ "java/lang/invoke/MethodHandle" ∧ yX10_variable.cls ≠ "java/lang/invoke/VarHandle" ∧ (parseMethodDescriptor yX10_variable.desc).map (fun d => d.parameters.length) = some 2 := by decide +kernel
theorem lk_X10_273 : Cond.methodLink RX10 273 yX10_variable ∈ TB := tb_42 _ (List.mem_of_getElem? (i := 18) rfl)
theorem im_X10_variable : Cond.instanceMethod yX10_variable ∈ TB := tb_42 _ (List.mem_of_getElem? (i := 19) rfl)
theorem se_X10_variable : Cond.selects RX10 yX10_variable yX10_variable ∈ TB := tb_42 _ (List.mem_of_getElem? (i := 20) rfl)
theorem gi_X10_273 : GoodIn TB (wsV RX10 273 RX10 yX10_variable (Cond.code yX10_variable cX10_variable 4 none :: TB)) := gi_v lk_X10_273 im_X10_variable se_X10_variable in_X10 co_X10_variable
theorem co_X10_move : Cond.code yX10_move cX10_move 12 none ∈ TB := tb_43 _ (List.mem_of_getElem? (i := 1) rfl)
theorem hd_X10_move : yX10_move.cls = RX10 ∧ yX10_move.cls ≠ "java/lang/invoke/MethodHandle" ∧ yX10_move.cls ≠ "java/lang/invoke/VarHandle" ∧ (parseMethodDescriptor yX10_move.desc).map (fun d => d.parameters.length) = some 2 := by decide +kernel
theorem lk_X10_276 : Cond.methodLink RX10 276 yX10_move ∈ TB := tb_42 _ (List.mem_of_getElem? (i := 22) rfl)
theorem im_X10_move : Cond.instanceMethod yX10_move ∈ TB := tb_42 _ (List.mem_of_getElem? (i := 23) rfl)
theorem se_X10_move : Cond.selects RX10 yX10_move yX10_move ∈ TB := tb_43 _ (List.mem_of_getElem? (i := 0) rfl)
theorem gi_X10_276 : GoodIn TB (wsV RX10 276 RX10 yX10_move (Cond.code yX10_move cX10_move 12 none :: TB)) := gi_v lk_X10_276 im_X10_move se_X10_move in_X10 co_X10_move
theorem co_X10_grow : Cond.code yX10_grow cX10_grow 4 none ∈ TB := tb_43 _ (List.mem_of_getElem? (i := 10) rfl)
theorem hd_X10_grow : yX10_grow.cls = RX10 ∧ yX10_grow.cls ≠ "java/lang/invoke/MethodHandle" ∧ yX10_grow.cls ≠ "java/lang/invoke/VarHandle" ∧ (parseMethodDescriptor yX10_grow.desc).map (fun d => d.parameters.length) = some 0 := by decide +kernel
theorem lk_X10_279 : Cond.methodLink RX10 279 yX10_grow ∈ TB := tb_43 _ (List.mem_of_getElem? (i := 7) rfl)
theorem im_X10_grow : Cond.instanceMethod yX10_grow ∈ TB := tb_43 _ (List.mem_of_getElem? (i := 8) rfl)
theorem se_X10_grow : Cond.selects RX10 yX10_grow yX10_grow ∈ TB := tb_43 _ (List.mem_of_getElem? (i := 9) rfl)
theorem gi_X10_279 : GoodIn TB (wsV RX10 279 RX10 yX10_grow (Cond.code yX10_grow cX10_grow 4 none :: TB)) := gi_v lk_X10_279 im_X10_grow se_X10_grow in_X10 co_X10_grow
theorem co_X10_work : Cond.code yX10_work cX10_work 10 none ∈ TB := tb_43 _ (List.mem_of_getElem? (i := 15) rfl)
theorem hd_X10_work : yX10_work.cls = RX10 ∧ yX10_work.cls ≠ "java/lang/invoke/MethodHandle" ∧ yX10_work.cls ≠ "java/lang/invoke/VarHandle" ∧ (parseMethodDescriptor yX10_work.desc).map (fun d => d.parameters.length) = some 1 := by decide +kernel
theorem lk_X10_282 : Cond.methodLink RX10 282 yX10_work ∈ TB := tb_43 _ (List.mem_of_getElem? (i := 12) rfl)
theorem im_X10_work : Cond.instanceMethod yX10_work ∈ TB := tb_43 _ (List.mem_of_getElem? (i := 13) rfl)
theorem se_X10_work : Cond.selects RX10 yX10_work yX10_work ∈ TB := tb_43 _ (List.mem_of_getElem? (i := 14) rfl)
theorem gi_X10_282 : GoodIn TB (wsV RX10 282 RX10 yX10_work (Cond.code yX10_work cX10_work 10 none :: TB)) := gi_v lk_X10_282 im_X10_work se_X10_work in_X10 co_X10_work
theorem co_X10_isTrue : Cond.code yX10_isTrue cX10_isTrue 2 (some .boolean) ∈ TB := tb_41 _ (List.mem_of_getElem? (i := 12) rfl)
theorem hd_X10_isTrue : yX10_isTrue.cls = RX10 ∧ yX10_isTrue.cls ≠ "java/lang/invoke/MethodHandle" ∧ yX10_isTrue.cls ≠ "java/lang/invoke/VarHandle" ∧ (parseMethodDescriptor yX10_isTrue.desc).map (fun d => d.parameters.length) = some 1 := by decide +kernel
theorem lk_X10_285 : Cond.methodLink RX10 285 yX10_isTrue ∈ TB := tb_41 _ (List.mem_of_getElem? (i := 10) rfl)
theorem st_X10_isTrue : Cond.static yX10_isTrue ∈ TB := tb_41 _ (List.mem_of_getElem? (i := 11) rfl)
theorem gi_X10_285 : GoodIn TB (va_wsS RX10 285 yX10_isTrue (Cond.code yX10_isTrue cX10_isTrue 2 (some .boolean) :: TB)) := gi_s lk_X10_285 st_X10_isTrue in_X10 co_X10_isTrue
theorem lk_X10_289 : Cond.fieldLink RX10 289 "RegisterMachineModel" "steps" "I" ∈ TB := tb_35 _ (List.mem_of_getElem? (i := 3) rfl)
theorem co_X10_condition : Cond.code yX10_condition cX10_condition 4 none ∈ TB := tb_41 _ (List.mem_of_getElem? (i := 5) rfl)
theorem hd_X10_condition : yX10_condition.cls = RX10 ∧ yX10_condition.cls ≠ "java/lang/invoke/MethodHandle" ∧ yX10_condition.cls ≠ "java/lang/invoke/VarHandle" ∧ (parseMethodDescriptor yX10_condition.desc).map (fun d => d.parameters.length) = some 1 := by decide +kernel
theorem lk_X10_292 : Cond.methodLink RX10 292 yX10_condition ∈ TB := tb_41 _ (List.mem_of_getElem? (i := 2) rfl)
theorem im_X10_condition : Cond.instanceMethod yX10_condition ∈ TB := tb_41 _ (List.mem_of_getElem? (i := 3) rfl)
theorem se_X10_condition : Cond.selects RX10 yX10_condition yX10_condition ∈ TB := tb_41 _ (List.mem_of_getElem? (i := 4) rfl)
theorem gi_X10_292 : GoodIn TB (wsV RX10 292 RX10 yX10_condition (Cond.code yX10_condition cX10_condition 4 none :: TB)) := gi_v lk_X10_292 im_X10_condition se_X10_condition in_X10 co_X10_condition
theorem co_X10_branch : Cond.code yX10_branch cX10_branch 3 none ∈ TB := tb_41 _ (List.mem_of_getElem? (i := 16) rfl)
theorem hd_X10_branch : yX10_branch.cls = RX10 ∧ yX10_branch.cls ≠ "java/lang/invoke/MethodHandle" ∧ yX10_branch.cls ≠ "java/lang/invoke/VarHandle" ∧ (parseMethodDescriptor yX10_branch.desc).map (fun d => d.parameters.length) = some 1 := by decide +kernel
theorem lk_X10_295 : Cond.methodLink RX10 295 yX10_branch ∈ TB := tb_41 _ (List.mem_of_getElem? (i := 13) rfl)
theorem im_X10_branch : Cond.instanceMethod yX10_branch ∈ TB := tb_41 _ (List.mem_of_getElem? (i := 14) rfl)
theorem se_X10_branch : Cond.selects RX10 yX10_branch yX10_branch ∈ TB := tb_41 _ (List.mem_of_getElem? (i := 15) rfl)
theorem gi_X10_295 : GoodIn TB (wsV RX10 295 RX10 yX10_branch (Cond.code yX10_branch cX10_branch 3 none :: TB)) := gi_v lk_X10_295 im_X10_branch se_X10_branch in_X10 co_X10_branch
theorem co_X10_outermost : Cond.code yX10_outermost cX10_outermost 2 (some .int) ∈ TB := tb_42 _ (List.mem_of_getElem? (i := 4) rfl)
theorem hd_X10_outermost : yX10_outermost.cls = RX10 ∧ yX10_outermost.cls ≠ "java/lang/invoke/MethodHandle" ∧ yX10_outermost.cls ≠ "java/lang/invoke/VarHandle" ∧ (parseMethodDescriptor yX10_outermost.desc).map (fun d => d.parameters.length) = some 0 := by decide +kernel
theorem lk_X10_298 : Cond.methodLink RX10 298 yX10_outermost ∈ TB := tb_42 _ (List.mem_of_getElem? (i := 1) rfl)
theorem im_X10_outermost : Cond.instanceMethod yX10_outermost ∈ TB := tb_42 _ (List.mem_of_getElem? (i := 2) rfl)
theorem se_X10_outermost : Cond.selects RX10 yX10_outermost yX10_outermost ∈ TB := tb_42 _ (List.mem_of_getElem? (i := 3) rfl)
theorem gi_X10_298 : GoodIn TB (wsV RX10 298 RX10 yX10_outermost (Cond.code yX10_outermost cX10_outermost 2 (some .int) :: TB)) := gi_v lk_X10_298 im_X10_outermost se_X10_outermost in_X10 co_X10_outermost
theorem co_X10_callTable : Cond.code yX10_callTable cX10_callTable 6 none ∈ TB := tb_42 _ (List.mem_of_getElem? (i := 8) rfl)
theorem hd_X10_callTable : yX10_callTable.cls = RX10 ∧ yX10_callTable.cls ≠ "java/lang/invoke/MethodHandle" ∧ yX10_callTable.cls ≠ "java/lang/invoke/VarHandle" ∧ (parseMethodDescriptor yX10_callTable.desc).map (fun d => d.parameters.length) = some 2 := by decide +kernel
theorem lk_X10_301 : Cond.methodLink RX10 301 yX10_callTable ∈ TB := tb_42 _ (List.mem_of_getElem? (i := 5) rfl)
theorem im_X10_callTable : Cond.instanceMethod yX10_callTable ∈ TB := tb_42 _ (List.mem_of_getElem? (i := 6) rfl)
theorem se_X10_callTable : Cond.selects RX10 yX10_callTable yX10_callTable ∈ TB := tb_42 _ (List.mem_of_getElem? (i := 7) rfl)
theorem gi_X10_301 : GoodIn TB (wsV RX10 301 RX10 yX10_callTable (Cond.code yX10_callTable cX10_callTable 6 none :: TB)) := gi_v lk_X10_301 im_X10_callTable se_X10_callTable in_X10 co_X10_callTable
theorem co_X10_simple : Cond.code yX10_simple cX10_simple 4 none ∈ TB := tb_42 _ (List.mem_of_getElem? (i := 13) rfl)
theorem hd_X10_simple : yX10_simple.cls = RX10 ∧ yX10_simple.cls ≠ "java/lang/invoke/MethodHandle" ∧ yX10_simple.cls ≠ "java/lang/invoke/VarHandle" ∧ (parseMethodDescriptor yX10_simple.desc).map (fun d => d.parameters.length) = some 3 := by decide +kernel
theorem lk_X10_304 : Cond.methodLink RX10 304 yX10_simple ∈ TB := tb_42 _ (List.mem_of_getElem? (i := 10) rfl)
theorem im_X10_simple : Cond.instanceMethod yX10_simple ∈ TB := tb_42 _ (List.mem_of_getElem? (i := 11) rfl)
theorem se_X10_simple : Cond.selects RX10 yX10_simple yX10_simple ∈ TB := tb_42 _ (List.mem_of_getElem? (i := 12) rfl)
theorem gi_X10_304 : GoodIn TB (wsV RX10 304 RX10 yX10_simple (Cond.code yX10_simple cX10_simple 4 none :: TB)) := gi_v lk_X10_304 im_X10_simple se_X10_simple in_X10 co_X10_simple
theorem co_X10_pass : Cond.code yX10_pass cX10_pass 2 none ∈ TB := tb_36 _ (List.mem_of_getElem? (i := 4) rfl)
theorem hd_X10_pass : yX10_pass.cls = RX10 ∧ yX10_pass.cls ≠ "java/lang/invoke/MethodHandle" ∧ yX10_pass.cls ≠ "java/lang/invoke/VarHandle" ∧ (parseMethodDescriptor yX10_pass.desc).map (fun d => d.parameters.length) = some 0 := by decide +kernel
theorem lk_X10_307 : Cond.methodLink RX10 307 yX10_pass ∈ TB := tb_36 _ (List.mem_of_getElem? (i := 1) rfl)
theorem im_X10_pass : Cond.instanceMethod yX10_pass ∈ TB := tb_36 _ (List.mem_of_getElem? (i := 2) rfl)
theorem se_X10_pass : Cond.selects RX10 yX10_pass yX10_pass ∈ TB := tb_36 _ (List.mem_of_getElem? (i := 3) rfl)
theorem gi_X10_307 : GoodIn TB (wsV RX10 307 RX10 yX10_pass (Cond.code yX10_pass cX10_pass 2 none :: TB)) := gi_v lk_X10_307 im_X10_pass se_X10_pass in_X10 co_X10_pass
theorem lk_X10_310 : Cond.fieldLink RX10 310 "RegisterMachineModel" "arguments" "I" ∈ TB := tb_21 _ (List.mem_of_getElem? (i := 2) rfl)
theorem co_X10_step : Cond.code yX10_step cX10_step 6 none ∈ TB := tb_40 _ (List.mem_of_getElem? (i := 19) rfl)
theorem hd_X10_step : yX10_step.cls = RX10 ∧ yX10_step.cls ≠ "java/lang/invoke/MethodHandle" ∧ yX10_step.cls ≠ "java/lang/invoke/VarHandle" ∧ (parseMethodDescriptor yX10_step.desc).map (fun d => d.parameters.length) = some 0 := by decide +kernel
theorem lk_X10_313 : Cond.methodLink RX10 313 yX10_step ∈ TB := tb_40 _ (List.mem_of_getElem? (i := 16) rfl)
theorem im_X10_step : Cond.instanceMethod yX10_step ∈ TB := tb_40 _ (List.mem_of_getElem? (i := 17) rfl)
theorem se_X10_step : Cond.selects RX10 yX10_step yX10_step ∈ TB := tb_40 _ (List.mem_of_getElem? (i := 18) rfl)
theorem gi_X10_313 : GoodIn TB (wsV RX10 313 RX10 yX10_step (Cond.code yX10_step cX10_step 6 none :: TB)) := gi_v lk_X10_313 im_X10_step se_X10_step in_X10 co_X10_step
theorem co_X10_compiledOnes : Cond.code yX10_compiledOnes cX10_compiledOnes 3 (some .int) ∈ TB := tb_44 _ (List.mem_of_getElem? (i := 23) rfl)
theorem hd_X10_compiledOnes : yX10_compiledOnes.cls = RX10 ∧ yX10_compiledOnes.cls ≠ "java/lang/invoke/MethodHandle" ∧ yX10_compiledOnes.cls ≠ "java/lang/invoke/VarHandle" ∧ (parseMethodDescriptor yX10_compiledOnes.desc).map (fun d => d.parameters.length) = some 0 := by decide +kernel
theorem lk_X10_316 : Cond.methodLink RX10 316 yX10_compiledOnes ∈ TB := tb_44 _ (List.mem_of_getElem? (i := 20) rfl)
theorem im_X10_compiledOnes : Cond.instanceMethod yX10_compiledOnes ∈ TB := tb_44 _ (List.mem_of_getElem? (i := 21) rfl)
theorem se_X10_compiledOnes : Cond.selects RX10 yX10_compiledOnes yX10_compiledOnes ∈ TB := tb_44 _ (List.mem_of_getElem? (i := 22) rfl)
theorem gi_X10_316 : GoodIn TB (wsV RX10 316 RX10 yX10_compiledOnes (Cond.code yX10_compiledOnes cX10_compiledOnes 3 (some .int) :: TB)) := gi_v lk_X10_316 im_X10_compiledOnes se_X10_compiledOnes in_X10 co_X10_compiledOnes
theorem st_mmax : Cond.static Lib.Math.max.name ∈ TB := tb_13 _ (List.mem_of_getElem? (i := 18) rfl)
theorem st_mmin : Cond.static Lib.Math.min.name ∈ TB := tb_11 _ (List.mem_of_getElem? (i := 3) rfl)
theorem in_math : Cond.initialized "java/lang/Math" ∈ TB := tb_11 _ (List.mem_of_getElem? (i := 4) rfl)
theorem st_mminl : Cond.static Lib.MathLoose.min_long.x ∈ TB := tb_33 _ (List.mem_of_getElem? (i := 6) rfl)
theorem co_mmax : Cond.code Lib.Math.max.name Lib.Math.max.code 2 (some .int) ∈ TB := tb_13 _ (List.mem_of_getElem? (i := 19) rfl)
theorem co_mmin : Cond.code Lib.Math.min.name Lib.Math.min.code 2 (some .int) ∈ TB := tb_11 _ (List.mem_of_getElem? (i := 5) rfl)
theorem co_mminl : Cond.code Lib.MathLoose.min_long.x Lib.MathLoose.min_long.code 4 (some .long) ∈ TB := tb_33 _ (List.mem_of_getElem? (i := 7) rfl)
theorem lk_J7_304 : Cond.methodLink RJ7 304 Lib.Math.min.name ∈ TB := tb_11 _ (List.mem_of_getElem? (i := 15) rfl)
theorem lk_J7_150 : Cond.methodLink RJ7 150 arraycopyName ∈ TB := tb_11 _ (List.mem_of_getElem? (i := 16) rfl)
theorem nt_acopy : Cond.native arraycopyName ∈ TB := tb_11 _ (List.mem_of_getElem? (i := 17) rfl)
theorem st_acopy : Cond.static arraycopyName ∈ TB := tb_11 _ (List.mem_of_getElem? (i := 18) rfl)
theorem in_system : Cond.initialized "java/lang/System" ∈ TB := tb_11 _ (List.mem_of_getElem? (i := 19) rfl)
theorem ac_I : Cond.arrayClass .int ∈ TB := tb_3 _ (List.mem_of_getElem? (i := 4) rfl)
theorem ac_Z : Cond.arrayClass .boolean ∈ TB := tb_4 _ (List.mem_of_getElem? (i := 2) rfl)
theorem st_copyOf : Cond.static yJ7_copyOf_59c91 ∈ TB := tb_11 _ (List.mem_of_getElem? (i := 7) rfl)
theorem in_arrays : Cond.initialized RJ7 ∈ TB := tb_4 _ (List.mem_of_getElem? (i := 20) rfl)
theorem co_copyOf : Cond.code yJ7_copyOf_59c91 cJ7_copyOf_59c91 3 (some (.array .int)) ∈ TB := tb_11 _ (List.mem_of_getElem? (i := 8) rfl)
theorem hd_copyOf : yJ7_copyOf_59c91.cls ≠ "java/lang/invoke/MethodHandle" ∧ yJ7_copyOf_59c91.cls ≠ "java/lang/invoke/VarHandle" ∧ (parseMethodDescriptor yJ7_copyOf_59c91.desc).map (fun d => d.parameters.length) = some 2 := by decide +kernel
theorem lk_X3_67 : Cond.methodLink RX3 67 yJ7_copyOf_59c91 ∈ TB := tb_11 _ (List.mem_of_getElem? (i := 6) rfl)
theorem gi_X3_67 : GoodIn TB (va_wsS RX3 67 yJ7_copyOf_59c91 (Cond.code yJ7_copyOf_59c91 cJ7_copyOf_59c91 3 (some (.array .int)) :: TB)) := gi_s lk_X3_67 st_copyOf in_arrays co_copyOf
theorem lk_X4_55 : Cond.methodLink RX4 55 yJ7_copyOf_59c91 ∈ TB := tb_23 _ (List.mem_of_getElem? (i := 12) rfl)
theorem gi_X4_55 : GoodIn TB (va_wsS RX4 55 yJ7_copyOf_59c91 (Cond.code yJ7_copyOf_59c91 cJ7_copyOf_59c91 3 (some (.array .int)) :: TB)) := gi_s lk_X4_55 st_copyOf in_arrays co_copyOf
theorem lk_X8_152 : Cond.methodLink RX8 152 yJ7_copyOf_59c91 ∈ TB := tb_13 _ (List.mem_of_getElem? (i := 12) rfl)
theorem gi_X8_152 : GoodIn TB (va_wsS RX8 152 yJ7_copyOf_59c91 (Cond.code yJ7_copyOf_59c91 cJ7_copyOf_59c91 3 (some (.array .int)) :: TB)) := gi_s lk_X8_152 st_copyOf in_arrays co_copyOf
theorem lk_X3_42 : Cond.fieldLink RX3 42 "RegisterMachine$Program" "link" "[I" ∈ TB := tb_3 _ (List.mem_of_getElem? (i := 15) rfl)
theorem lk_X3_45 : Cond.fieldLink RX3 45 "RegisterMachine$Program" "other" "[I" ∈ TB := tb_3 _ (List.mem_of_getElem? (i := 16) rfl)
theorem lk_X3_48 : Cond.fieldLink RX3 48 "RegisterMachine$Program" "height" "[I" ∈ TB := tb_3 _ (List.mem_of_getElem? (i := 17) rfl)
theorem lk_X4_18 : Cond.fieldLink RX4 18 "RegisterMachine$RegisterCode" "weight" "[I" ∈ TB := tb_6 _ (List.mem_of_getElem? (i := 1) rfl)
theorem lk_X4_21 : Cond.fieldLink RX4 21 "RegisterMachine$RegisterCode" "to" "[I" ∈ TB := tb_6 _ (List.mem_of_getElem? (i := 2) rfl)
theorem lk_X4_24 : Cond.fieldLink RX4 24 "RegisterMachine$RegisterCode" "x" "[I" ∈ TB := tb_6 _ (List.mem_of_getElem? (i := 3) rfl)
theorem lk_X4_27 : Cond.fieldLink RX4 27 "RegisterMachine$RegisterCode" "y" "[I" ∈ TB := tb_6 _ (List.mem_of_getElem? (i := 4) rfl)
theorem lk_X4_30 : Cond.fieldLink RX4 30 "RegisterMachine$RegisterCode" "z" "[I" ∈ TB := tb_6 _ (List.mem_of_getElem? (i := 5) rfl)
