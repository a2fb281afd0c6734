theorem im_X0_init : Cond.instanceMethod yX0_init ∈ sh_tb := (sh_w2 (sh_tl50 (sh_tl50 (sh_tl10 (sh_tl10 (sh_tl1 (sh_tl1 (sh_tl1 (sh_tl1 (sh_tl1 (sh_tl1 sh_hd)))))))))) rfl)
theorem pm_X0_init : (parseMethodDescriptor yX0_init.desc).map (fun d => d.parameters.length) = some 1 := by decide +kernel
theorem im_X0_behind : Cond.instanceMethod yX0_behind ∈ sh_tb := (sh_w4 (sh_tl50 (sh_tl50 (sh_tl50 (sh_tl10 (sh_tl10 (sh_tl1 (sh_tl1 (sh_tl1 (sh_tl1 (sh_tl1 (sh_tl1 (sh_tl1 sh_hd)))))))))))) rfl)
theorem se_X0_behind : Cond.selects yX0_behind.cls yX0_behind yX0_behind ∈ sh_tb := (sh_w4 (sh_tl50 (sh_tl50 (sh_tl50 (sh_tl10 (sh_tl10 (sh_tl1 (sh_tl1 (sh_tl1 (sh_tl1 (sh_tl1 (sh_tl1 (sh_tl1 (sh_tl1 sh_hd))))))))))))) rfl)
theorem pm_X0_behind : (parseMethodDescriptor yX0_behind.desc).map (fun d => d.parameters.length) = some 3 := by decide +kernel
theorem im_X0_daysToRise : Cond.instanceMethod yX0_daysToRise ∈ sh_tb := (sh_w4 (sh_tl50 (sh_tl50 (sh_tl50 (sh_tl50 (sh_tl10 (sh_tl10 (sh_tl1 (sh_tl1 (sh_tl1 sh_hd))))))))) rfl)
theorem se_X0_daysToRise : Cond.selects yX0_daysToRise.cls yX0_daysToRise yX0_daysToRise ∈ sh_tb := (sh_w4 (sh_tl50 (sh_tl50 (sh_tl50 (sh_tl50 (sh_tl10 (sh_tl10 (sh_tl1 (sh_tl1 (sh_tl1 (sh_tl1 sh_hd)))))))))) rfl)
theorem pm_X0_daysToRise : (parseMethodDescriptor yX0_daysToRise.desc).map (fun d => d.parameters.length) = some 3 := by decide +kernel
theorem im_X0_learnOwnHeights : Cond.instanceMethod yX0_learnOwnHeights ∈ sh_tb := (sh_w5 (sh_tl50 (sh_tl10 (sh_tl1 (sh_tl1 (sh_tl1 (sh_tl1 (sh_tl1 (sh_tl1 (sh_tl1 sh_hd))))))))) rfl)
theorem se_X0_learnOwnHeights : Cond.selects yX0_learnOwnHeights.cls yX0_learnOwnHeights yX0_learnOwnHeights ∈ sh_tb := (sh_w5 (sh_tl50 (sh_tl10 (sh_tl1 (sh_tl1 (sh_tl1 (sh_tl1 (sh_tl1 (sh_tl1 (sh_tl1 (sh_tl1 sh_hd)))))))))) rfl)
theorem pm_X0_learnOwnHeights : (parseMethodDescriptor yX0_learnOwnHeights.desc).map (fun d => d.parameters.length) = some 2 := by decide +kernel
theorem im_X0_isAtRest : Cond.instanceMethod yX0_isAtRest ∈ sh_tb := (sh_w5 (sh_tl50 (sh_tl10 (sh_tl10 (sh_tl1 (sh_tl1 sh_hd))))) rfl)
theorem se_X0_isAtRest : Cond.selects yX0_isAtRest.cls yX0_isAtRest yX0_isAtRest ∈ sh_tb := (sh_w5 (sh_tl50 (sh_tl10 (sh_tl10 (sh_tl1 (sh_tl1 (sh_tl1 sh_hd)))))) rfl)
theorem pm_X0_isAtRest : (parseMethodDescriptor yX0_isAtRest.desc).map (fun d => d.parameters.length) = some 1 := by decide +kernel
theorem im_X0_askEach : Cond.instanceMethod yX0_askEach ∈ sh_tb := (sh_w5 (sh_tl50 (sh_tl10 (sh_tl10 (sh_tl10 (sh_tl10 (sh_tl1 (sh_tl1 (sh_tl1 (sh_tl1 sh_hd))))))))) rfl)
theorem se_X0_askEach : Cond.selects yX0_askEach.cls yX0_askEach yX0_askEach ∈ sh_tb := (sh_wp3 (w := (⟨"ShrugHills$Foresight", "askEach", "(LShrugHills$Land;I)V"⟩, _)) (List.mem_cons_of_mem _ (List.mem_cons_of_mem _ (List.mem_cons_of_mem _ (List.mem_cons_of_mem _ (List.mem_cons_of_mem _ (List.mem_cons_of_mem _ (List.mem_cons_of_mem _ (List.mem_cons_of_mem _ (List.mem_cons_of_mem _ (List.mem_cons_of_mem _ (List.mem_cons_of_mem _ List.mem_cons_self))))))))))))
theorem pm_X0_askEach : (parseMethodDescriptor yX0_askEach.desc).map (fun d => d.parameters.length) = some 2 := by decide +kernel
theorem im_X0_whoFits : Cond.instanceMethod yX0_whoFits ∈ sh_tb := (sh_w5 (sh_tl50 (sh_tl10 (sh_tl10 (sh_tl10 (sh_tl1 (sh_tl1 (sh_tl1 (sh_tl1 (sh_tl1 (sh_tl1 (sh_tl1 (sh_tl1 (sh_tl1 sh_hd))))))))))))) rfl)
theorem se_X0_whoFits : Cond.selects yX0_whoFits.cls yX0_whoFits yX0_whoFits ∈ sh_tb := (sh_w5 (sh_tl50 (sh_tl10 (sh_tl10 (sh_tl10 (sh_tl10 sh_hd))))) rfl)
theorem pm_X0_whoFits : (parseMethodDescriptor yX0_whoFits.desc).map (fun d => d.parameters.length) = some 2 := by decide +kernel
theorem im_X0_isAsSeen : Cond.instanceMethod yX0_isAsSeen ∈ sh_tb := (sh_w5 (sh_tl50 (sh_tl10 (sh_tl10 (sh_tl10 (sh_tl10 (sh_tl1 (sh_tl1 (sh_tl1 (sh_tl1 (sh_tl1 (sh_tl1 (sh_tl1 (sh_tl1 (sh_tl1 sh_hd)))))))))))))) rfl)
theorem se_X0_isAsSeen : Cond.selects yX0_isAsSeen.cls yX0_isAsSeen yX0_isAsSeen ∈ sh_tb := (sh_wp3 (w := (⟨"ShrugHills$Foresight", "isAsSeen", "(LShrugHills$Land;I)Z"⟩, _)) (List.mem_cons_of_mem _ (List.mem_cons_of_mem _ (List.mem_cons_of_mem _ (List.mem_cons_of_mem _ (List.mem_cons_of_mem _ (List.mem_cons_of_mem _ (List.mem_cons_of_mem _ (List.mem_cons_of_mem _ (List.mem_cons_of_mem _ (List.mem_cons_of_mem _ (List.mem_cons_of_mem _ (List.mem_cons_of_mem _ List.mem_cons_self)))))))))))))
theorem pm_X0_isAsSeen : (parseMethodDescriptor yX0_isAsSeen.desc).map (fun d => d.parameters.length) = some 2 := by decide +kernel
theorem im_X0_findTelling : Cond.instanceMethod yX0_findTelling ∈ sh_tb := (sh_w5 (sh_tl50 (sh_tl50 (sh_tl1 (sh_tl1 (sh_tl1 (sh_tl1 (sh_tl1 (sh_tl1 sh_hd)))))))) rfl)
theorem se_X0_findTelling : Cond.selects yX0_findTelling.cls yX0_findTelling yX0_findTelling ∈ sh_tb := (sh_w5 (sh_tl50 (sh_tl50 (sh_tl1 (sh_tl1 (sh_tl1 (sh_tl1 (sh_tl1 (sh_tl1 (sh_tl1 sh_hd))))))))) rfl)
theorem pm_X0_findTelling : (parseMethodDescriptor yX0_findTelling.desc).map (fun d => d.parameters.length) = some 3 := by decide +kernel
theorem im_X0_mostLeft : Cond.instanceMethod yX0_mostLeft ∈ sh_tb := (sh_w5 (sh_tl50 (sh_tl50 (sh_tl10 (sh_tl1 (sh_tl1 sh_hd))))) rfl)
theorem se_X0_mostLeft : Cond.selects yX0_mostLeft.cls yX0_mostLeft yX0_mostLeft ∈ sh_tb := (sh_wp3 (w := (⟨"ShrugHills$Foresight", "mostLeft", "(II)I"⟩, _)) (List.mem_cons_of_mem _ (List.mem_cons_of_mem _ (List.mem_cons_of_mem _ (List.mem_cons_of_mem _ (List.mem_cons_of_mem _ (List.mem_cons_of_mem _ (List.mem_cons_of_mem _ (List.mem_cons_of_mem _ (List.mem_cons_of_mem _ (List.mem_cons_of_mem _ (List.mem_cons_of_mem _ (List.mem_cons_of_mem _ (List.mem_cons_of_mem _ List.mem_cons_self))))))))))))))
theorem pm_X0_mostLeft : (parseMethodDescriptor yX0_mostLeft.desc).map (fun d => d.parameters.length) = some 2 := by decide +kernel
theorem im_X1_init : Cond.instanceMethod yX1_init ∈ sh_tb := (sh_w1 (sh_tl50 (sh_tl10 (sh_tl10 (sh_tl10 (sh_tl1 (sh_tl1 (sh_tl1 (sh_tl1 (sh_tl1 (sh_tl1 sh_hd)))))))))) rfl)
theorem pm_X1_init : (parseMethodDescriptor yX1_init.desc).map (fun d => d.parameters.length) = some 0 := by decide +kernel
theorem im_X1_add : Cond.instanceMethod yX1_add ∈ sh_tb := (sh_w3 (sh_tl50 (sh_tl50 (sh_tl10 (sh_tl10 (sh_tl10 (sh_tl1 (sh_tl1 (sh_tl1 (sh_tl1 (sh_tl1 (sh_tl1 (sh_tl1 sh_hd)))))))))))) rfl)
theorem se_X1_add : Cond.selects yX1_add.cls yX1_add yX1_add ∈ sh_tb := (sh_w3 (sh_tl50 (sh_tl50 (sh_tl10 (sh_tl10 (sh_tl10 (sh_tl1 (sh_tl1 (sh_tl1 (sh_tl1 (sh_tl1 (sh_tl1 (sh_tl1 (sh_tl1 sh_hd))))))))))))) rfl)
theorem pm_X1_add : (parseMethodDescriptor yX1_add.desc).map (fun d => d.parameters.length) = some 1 := by decide +kernel
theorem im_X1_addWord : Cond.instanceMethod yX1_addWord ∈ sh_tb := (sh_w3 (sh_tl50 (sh_tl50 (sh_tl10 (sh_tl10 (sh_tl10 (sh_tl10 (sh_tl1 sh_hd))))))) rfl)
theorem se_X1_addWord : Cond.selects yX1_addWord.cls yX1_addWord yX1_addWord ∈ sh_tb := (sh_w3 (sh_tl50 (sh_tl50 (sh_tl10 (sh_tl10 (sh_tl10 (sh_tl10 (sh_tl1 (sh_tl1 sh_hd)))))))) rfl)
theorem pm_X1_addWord : (parseMethodDescriptor yX1_addWord.desc).map (fun d => d.parameters.length) = some 1 := by decide +kernel
theorem im_X1_addMark : Cond.instanceMethod yX1_addMark ∈ sh_tb := (sh_w3 (sh_tl50 (sh_tl50 (sh_tl10 (sh_tl10 (sh_tl10 (sh_tl10 (sh_tl1 (sh_tl1 (sh_tl1 (sh_tl1 (sh_tl1 (sh_tl1 sh_hd)))))))))))) rfl)
theorem se_X1_addMark : Cond.selects yX1_addMark.cls yX1_addMark yX1_addMark ∈ sh_tb := (sh_w3 (sh_tl50 (sh_tl50 (sh_tl10 (sh_tl10 (sh_tl10 (sh_tl10 (sh_tl1 (sh_tl1 (sh_tl1 (sh_tl1 (sh_tl1 (sh_tl1 (sh_tl1 sh_hd))))))))))))) rfl)
theorem pm_X1_addMark : (parseMethodDescriptor yX1_addMark.desc).map (fun d => d.parameters.length) = some 1 := by decide +kernel
theorem im_X1_names : Cond.instanceMethod yX1_names ∈ sh_tb := (sh_w5 (sh_tl1 (sh_tl1 (sh_tl1 (sh_tl1 (sh_tl1 sh_hd))))) rfl)
theorem se_X1_names : Cond.selects yX1_names.cls yX1_names yX1_names ∈ sh_tb := (sh_w5 (sh_tl1 (sh_tl1 (sh_tl1 (sh_tl1 (sh_tl1 (sh_tl1 sh_hd)))))) rfl)
theorem pm_X1_names : (parseMethodDescriptor yX1_names.desc).map (fun d => d.parameters.length) = some 1 := by decide +kernel
theorem im_X1_value : Cond.instanceMethod yX1_value ∈ sh_tb := (sh_w4 (sh_tl50 (sh_tl50 (sh_tl10 (sh_tl10 (sh_tl10 (sh_tl1 (sh_tl1 (sh_tl1 (sh_tl1 (sh_tl1 (sh_tl1 sh_hd))))))))))) rfl)
theorem se_X1_value : Cond.selects yX1_value.cls yX1_value yX1_value ∈ sh_tb := (sh_w4 (sh_tl50 (sh_tl50 (sh_tl10 (sh_tl10 (sh_tl10 (sh_tl1 (sh_tl1 (sh_tl1 (sh_tl1 (sh_tl1 (sh_tl1 (sh_tl1 sh_hd)))))))))))) rfl)
theorem pm_X1_value : (parseMethodDescriptor yX1_value.desc).map (fun d => d.parameters.length) = some 1 := by decide +kernel
theorem sm_X1_isFact : Cond.static yX1_isFact ∈ sh_tb := (sh_w4 (sh_tl50 (sh_tl50 (sh_tl10 (sh_tl10 (sh_tl10 (sh_tl10 sh_hd)))))) rfl)
theorem pm_X1_isFact : (parseMethodDescriptor yX1_isFact.desc).map (fun d => d.parameters.length) = some 1 := by decide +kernel
theorem sm_X1_ofOne : Cond.static yX1_ofOne ∈ sh_tb := (sh_w4 (sh_tl50 (sh_tl50 (sh_tl10 (sh_tl10 (sh_tl10 (sh_tl10 (sh_tl1 (sh_tl1 (sh_tl1 sh_hd))))))))) rfl)
theorem pm_X1_ofOne : (parseMethodDescriptor yX1_ofOne.desc).map (fun d => d.parameters.length) = some 3 := by decide +kernel
theorem sm_X1_ofTwo : Cond.static yX1_ofTwo ∈ sh_tb := (sh_w4 (sh_tl50 (sh_tl50 (sh_tl10 (sh_tl10 (sh_tl10 (sh_tl10 (sh_tl1 (sh_tl1 (sh_tl1 (sh_tl1 (sh_tl1 (sh_tl1 (sh_tl1 sh_hd))))))))))))) rfl)
theorem pm_X1_ofTwo : (parseMethodDescriptor yX1_ofTwo.desc).map (fun d => d.parameters.length) = some 3 := by decide +kernel
theorem im_X2_init : Cond.instanceMethod yX2_init ∈ sh_tb := (sh_w1 (sh_tl50 (sh_tl50 (sh_tl1 (sh_tl1 (sh_tl1 (sh_tl1 (sh_tl1 sh_hd))))))) rfl)
theorem pm_X2_init : (parseMethodDescriptor yX2_init.desc).map (fun d => d.parameters.length) = some 2 := by decide +kernel
theorem im_X2_begin : Cond.instanceMethod yX2_begin ∈ sh_tb := (sh_w4 (sh_tl1 (sh_tl1 (sh_tl1 sh_hd))) rfl)
theorem se_X2_begin : Cond.selects yX2_begin.cls yX2_begin yX2_begin ∈ sh_tb := (sh_w4 (sh_tl1 (sh_tl1 (sh_tl1 (sh_tl1 sh_hd)))) rfl)
theorem pm_X2_begin : (parseMethodDescriptor yX2_begin.desc).map (fun d => d.parameters.length) = some 2 := by decide +kernel
theorem im_X2_readQuestion : Cond.instanceMethod yX2_readQuestion ∈ sh_tb := (sh_w5 (sh_tl50 (sh_tl50 (sh_tl50 (sh_tl10 (sh_tl10 (sh_tl10 (sh_tl1 (sh_tl1 (sh_tl1 (sh_tl1 (sh_tl1 (sh_tl1 (sh_tl1 (sh_tl1 (sh_tl1 sh_hd))))))))))))))) rfl)
theorem se_X2_readQuestion : Cond.selects yX2_readQuestion.cls yX2_readQuestion yX2_readQuestion ∈ sh_tb := (sh_w5 (sh_tl50 (sh_tl50 (sh_tl50 (sh_tl10 (sh_tl10 (sh_tl10 (sh_tl10 sh_hd))))))) rfl)
theorem pm_X2_readQuestion : (parseMethodDescriptor yX2_readQuestion.desc).map (fun d => d.parameters.length) = some 1 := by decide +kernel
theorem im_X2_test : Cond.instanceMethod yX2_test ∈ sh_tb := (sh_w4 (sh_tl10 (sh_tl10 (sh_tl10 (sh_tl10 sh_hd)))) rfl)
theorem se_X2_test : Cond.selects yX2_test.cls yX2_test yX2_test ∈ sh_tb := (sh_wp2 (w := (⟨"ShrugHills$FormulaReader", "test", "(I)Z"⟩, _)) (List.mem_cons_of_mem _ (List.mem_cons_of_mem _ (List.mem_cons_of_mem _ (List.mem_cons_of_mem _ (List.mem_cons_of_mem _ (List.mem_cons_of_mem _ (List.mem_cons_of_mem _ (List.mem_cons_of_mem _ List.mem_cons_self)))))))))
theorem pm_X2_test : (parseMethodDescriptor yX2_test.desc).map (fun d => d.parameters.length) = some 1 := by decide +kernel
theorem im_X2_both : Cond.instanceMethod yX2_both ∈ sh_tb := (sh_w4 (sh_tl10 (sh_tl10 (sh_tl10 (sh_tl10 (sh_tl1 (sh_tl1 (sh_tl1 (sh_tl1 sh_hd)))))))) rfl)
theorem se_X2_both : Cond.selects yX2_both.cls yX2_both yX2_both ∈ sh_tb := (sh_wp2 (w := (⟨"ShrugHills$FormulaReader", "both", "(I)Z"⟩, _)) (List.mem_cons_of_mem _ (List.mem_cons_of_mem _ (List.mem_cons_of_mem _ (List.mem_cons_of_mem _ (List.mem_cons_of_mem _ (List.mem_cons_of_mem _ (List.mem_cons_of_mem _ (List.mem_cons_of_mem _ (List.mem_cons_of_mem _ List.mem_cons_self))))))))))
theorem pm_X2_both : (parseMethodDescriptor yX2_both.desc).map (fun d => d.parameters.length) = some 1 := by decide +kernel
theorem im_X2_fact : Cond.instanceMethod yX2_fact ∈ sh_tb := (sh_w4 (sh_tl10 (sh_tl10 (sh_tl10 (sh_tl10 (sh_tl1 (sh_tl1 (sh_tl1 (sh_tl1 (sh_tl1 (sh_tl1 (sh_tl1 (sh_tl1 sh_hd)))))))))))) rfl)
theorem se_X2_fact : Cond.selects yX2_fact.cls yX2_fact yX2_fact ∈ sh_tb := (sh_wp2 (w := (⟨"ShrugHills$FormulaReader", "fact", "(I)Z"⟩, _)) (List.mem_cons_of_mem _ (List.mem_cons_of_mem _ (List.mem_cons_of_mem _ (List.mem_cons_of_mem _ (List.mem_cons_of_mem _ (List.mem_cons_of_mem _ (List.mem_cons_of_mem _ (List.mem_cons_of_mem _ (List.mem_cons_of_mem _ (List.mem_cons_of_mem _ List.mem_cons_self)))))))))))
theorem pm_X2_fact : (parseMethodDescriptor yX2_fact.desc).map (fun d => d.parameters.length) = some 1 := by decide +kernel
theorem im_X2_opens : Cond.instanceMethod yX2_opens ∈ sh_tb := (sh_w4 (sh_tl10 (sh_tl10 sh_hd)) rfl)
theorem se_X2_opens : Cond.selects yX2_opens.cls yX2_opens yX2_opens ∈ sh_tb := (sh_wp2 (w := (⟨"ShrugHills$FormulaReader", "opens", "(I)Z"⟩, _)) (List.mem_cons_of_mem _ (List.mem_cons_of_mem _ (List.mem_cons_of_mem _ (List.mem_cons_of_mem _ (List.mem_cons_of_mem _ List.mem_cons_self))))))
theorem pm_X2_opens : (parseMethodDescriptor yX2_opens.desc).map (fun d => d.parameters.length) = some 1 := by decide +kernel
theorem im_X2_sum : Cond.instanceMethod yX2_sum ∈ sh_tb := (sh_w4 (sh_tl1 (sh_tl1 (sh_tl1 (sh_tl1 (sh_tl1 (sh_tl1 (sh_tl1 (sh_tl1 sh_hd)))))))) rfl)
theorem se_X2_sum : Cond.selects yX2_sum.cls yX2_sum yX2_sum ∈ sh_tb := (sh_wp2 (w := (⟨"ShrugHills$FormulaReader", "sum", "(I)Z"⟩, _)) (List.mem_cons_of_mem _ (List.mem_cons_of_mem _ List.mem_cons_self)))
theorem pm_X2_sum : (parseMethodDescriptor yX2_sum.desc).map (fun d => d.parameters.length) = some 1 := by decide +kernel
theorem im_X2_product : Cond.instanceMethod yX2_product ∈ sh_tb := (sh_w4 (sh_tl10 (sh_tl1 (sh_tl1 sh_hd))) rfl)
theorem se_X2_product : Cond.selects yX2_product.cls yX2_product yX2_product ∈ sh_tb := (sh_wp2 (w := (⟨"ShrugHills$FormulaReader", "product", "(I)Z"⟩, _)) (List.mem_cons_of_mem _ (List.mem_cons_of_mem _ (List.mem_cons_of_mem _ List.mem_cons_self))))
theorem pm_X2_product : (parseMethodDescriptor yX2_product.desc).map (fun d => d.parameters.length) = some 1 := by decide +kernel
theorem im_X2_part : Cond.instanceMethod yX2_part ∈ sh_tb := (sh_w4 (sh_tl10 (sh_tl1 (sh_tl1 (sh_tl1 (sh_tl1 (sh_tl1 (sh_tl1 sh_hd))))))) rfl)
theorem se_X2_part : Cond.selects yX2_part.cls yX2_part yX2_part ∈ sh_tb := (sh_wp2 (w := (⟨"ShrugHills$FormulaReader", "part", "(I)Z"⟩, _)) (List.mem_cons_of_mem _ (List.mem_cons_of_mem _ (List.mem_cons_of_mem _ (List.mem_cons_of_mem _ List.mem_cons_self)))))
theorem pm_X2_part : (parseMethodDescriptor yX2_part.desc).map (fun d => d.parameters.length) = some 1 := by decide +kernel
theorem im_X2_ofTwoSums : Cond.instanceMethod yX2_ofTwoSums ∈ sh_tb := (sh_w4 (sh_tl10 (sh_tl10 (sh_tl10 sh_hd))) rfl)
theorem se_X2_ofTwoSums : Cond.selects yX2_ofTwoSums.cls yX2_ofTwoSums yX2_ofTwoSums ∈ sh_tb := (sh_wp2 (w := (⟨"ShrugHills$FormulaReader", "ofTwoSums", "(II)Z"⟩, _)) (List.mem_cons_of_mem _ (List.mem_cons_of_mem _ (List.mem_cons_of_mem _ (List.mem_cons_of_mem _ (List.mem_cons_of_mem _ (List.mem_cons_of_mem _ List.mem_cons_self)))))))
theorem pm_X2_ofTwoSums : (parseMethodDescriptor yX2_ofTwoSums.desc).map (fun d => d.parameters.length) = some 2 := by decide +kernel
theorem im_X2_isFactHere : Cond.instanceMethod yX2_isFactHere ∈ sh_tb := (sh_w4 (sh_tl10 (sh_tl10 (sh_tl10 (sh_tl1 (sh_tl1 (sh_tl1 (sh_tl1 (sh_tl1 sh_hd)))))))) rfl)
theorem se_X2_isFactHere : Cond.selects yX2_isFactHere.cls yX2_isFactHere yX2_isFactHere ∈ sh_tb := (sh_wp2 (w := (⟨"ShrugHills$FormulaReader", "isFactHere", "(I)Z"⟩, _)) (List.mem_cons_of_mem _ (List.mem_cons_of_mem _ (List.mem_cons_of_mem _ (List.mem_cons_of_mem _ (List.mem_cons_of_mem _ (List.mem_cons_of_mem _ (List.mem_cons_of_mem _ List.mem_cons_self))))))))
theorem pm_X2_isFactHere : (parseMethodDescriptor yX2_isFactHere.desc).map (fun d => d.parameters.length) = some 1 := by decide +kernel
theorem im_X3_init : Cond.instanceMethod yX3_init ∈ sh_tb := (sh_w1 (sh_tl50 (sh_tl50 (sh_tl10 (sh_tl10 (sh_tl10 (sh_tl1 (sh_tl1 (sh_tl1 (sh_tl1 (sh_tl1 sh_hd)))))))))) rfl)
theorem pm_X3_init : (parseMethodDescriptor yX3_init.desc).map (fun d => d.parameters.length) = some 0 := by decide +kernel
theorem im_X3_copyFrom : Cond.instanceMethod yX3_copyFrom ∈ sh_tb := (sh_w4 (sh_tl50 (sh_tl10 (sh_tl1 sh_hd))) rfl)
theorem se_X3_copyFrom : Cond.selects yX3_copyFrom.cls yX3_copyFrom yX3_copyFrom ∈ sh_tb := (sh_w4 (sh_tl50 (sh_tl10 (sh_tl1 (sh_tl1 sh_hd)))) rfl)
theorem pm_X3_copyFrom : (parseMethodDescriptor yX3_copyFrom.desc).map (fun d => d.parameters.length) = some 1 := by decide +kernel
theorem im_X3_together : Cond.instanceMethod yX3_together ∈ sh_tb := (sh_w4 (sh_tl50 (sh_tl10 (sh_tl10 (sh_tl10 (sh_tl1 (sh_tl1 (sh_tl1 (sh_tl1 (sh_tl1 sh_hd))))))))) rfl)
theorem se_X3_together : Cond.selects yX3_together.cls yX3_together yX3_together ∈ sh_tb := (sh_w4 (sh_tl50 (sh_tl10 (sh_tl10 (sh_tl10 (sh_tl1 (sh_tl1 (sh_tl1 (sh_tl1 (sh_tl1 (sh_tl1 sh_hd)))))))))) rfl)
theorem pm_X3_together : (parseMethodDescriptor yX3_together.desc).map (fun d => d.parameters.length) = some 1 := by decide +kernel
theorem im_X3_isSomeoneAt : Cond.instanceMethod yX3_isSomeoneAt ∈ sh_tb := (sh_w3 (sh_tl50 (sh_tl50 (sh_tl50 (sh_tl50 (sh_tl10 (sh_tl1 (sh_tl1 (sh_tl1 (sh_tl1 (sh_tl1 (sh_tl1 (sh_tl1 (sh_tl1 (sh_tl1 sh_hd)))))))))))))) rfl)
theorem se_X3_isSomeoneAt : Cond.selects yX3_isSomeoneAt.cls yX3_isSomeoneAt yX3_isSomeoneAt ∈ sh_tb := (sh_w3 (sh_tl50 (sh_tl50 (sh_tl50 (sh_tl50 (sh_tl10 (sh_tl10 sh_hd)))))) rfl)
theorem pm_X3_isSomeoneAt : (parseMethodDescriptor yX3_isSomeoneAt.desc).map (fun d => d.parameters.length) = some 3 := by decide +kernel
theorem im_X4_init : Cond.instanceMethod yX4_init ∈ sh_tb := (sh_w2 (sh_tl50 (sh_tl10 (sh_tl10 (sh_tl10 (sh_tl10 sh_hd))))) rfl)
theorem pm_X4_init : (parseMethodDescriptor yX4_init.desc).map (fun d => d.parameters.length) = some 0 := by decide +kernel
theorem im_X4_forget : Cond.instanceMethod yX4_forget ∈ sh_tb := (sh_w4 (sh_tl50 (sh_tl10 (sh_tl1 (sh_tl1 (sh_tl1 (sh_tl1 (sh_tl1 (sh_tl1 (sh_tl1 (sh_tl1 sh_hd)))))))))) rfl)
theorem se_X4_forget : Cond.selects yX4_forget.cls yX4_forget yX4_forget ∈ sh_tb := (sh_w4 (sh_tl50 (sh_tl10 (sh_tl1 (sh_tl1 (sh_tl1 (sh_tl1 (sh_tl1 (sh_tl1 (sh_tl1 (sh_tl1 (sh_tl1 sh_hd))))))))))) rfl)
theorem pm_X4_forget : (parseMethodDescriptor yX4_forget.desc).map (fun d => d.parameters.length) = some 0 := by decide +kernel
theorem im_X4_keep : Cond.instanceMethod yX4_keep ∈ sh_tb := (sh_w5 (sh_tl50 (sh_tl50 (sh_tl10 (sh_tl10 (sh_tl10 sh_hd))))) rfl)
theorem se_X4_keep : Cond.selects yX4_keep.cls yX4_keep yX4_keep ∈ sh_tb := (sh_w5 (sh_tl50 (sh_tl50 (sh_tl10 (sh_tl10 (sh_tl10 (sh_tl1 sh_hd)))))) rfl)
theorem pm_X4_keep : (parseMethodDescriptor yX4_keep.desc).map (fun d => d.parameters.length) = some 4 := by decide +kernel
theorem im_X4_remember : Cond.instanceMethod yX4_remember ∈ sh_tb := (sh_w5 (sh_tl50 (sh_tl50 (sh_tl10 (sh_tl1 (sh_tl1 (sh_tl1 (sh_tl1 (sh_tl1 (sh_tl1 (sh_tl1 (sh_tl1 (sh_tl1 sh_hd)))))))))))) rfl)
theorem se_X4_remember : Cond.selects yX4_remember.cls yX4_remember yX4_remember ∈ sh_tb := (sh_w5 (sh_tl50 (sh_tl50 (sh_tl10 (sh_tl10 sh_hd)))) rfl)
theorem pm_X4_remember : (parseMethodDescriptor yX4_remember.desc).map (fun d => d.parameters.length) = some 1 := by decide +kernel
theorem im_X4_goBack : Cond.instanceMethod yX4_goBack ∈ sh_tb := (sh_w5 (sh_tl50 (sh_tl50 (sh_tl50 (sh_tl10 (sh_tl10 (sh_tl1 (sh_tl1 (sh_tl1 (sh_tl1 (sh_tl1 (sh_tl1 sh_hd))))))))))) rfl)
theorem se_X4_goBack : Cond.selects yX4_goBack.cls yX4_goBack yX4_goBack ∈ sh_tb := (sh_w5 (sh_tl50 (sh_tl50 (sh_tl50 (sh_tl10 (sh_tl10 (sh_tl1 (sh_tl1 (sh_tl1 (sh_tl1 (sh_tl1 (sh_tl1 (sh_tl1 sh_hd)))))))))))) rfl)
theorem pm_X4_goBack : (parseMethodDescriptor yX4_goBack.desc).map (fun d => d.parameters.length) = some 1 := by decide +kernel
theorem im_X5_init : Cond.instanceMethod yX5_init ∈ sh_tb := (sh_w1 (sh_tl50 (sh_tl50 (sh_tl10 (sh_tl10 (sh_tl1 (sh_tl1 (sh_tl1 (sh_tl1 (sh_tl1 (sh_tl1 (sh_tl1 sh_hd))))))))))) rfl)
theorem pm_X5_init : (parseMethodDescriptor yX5_init.desc).map (fun d => d.parameters.length) = some 0 := by decide +kernel
theorem im_X5_clear : Cond.instanceMethod yX5_clear ∈ sh_tb := (sh_w3 (sh_tl50 (sh_tl50 (sh_tl10 (sh_tl10 (sh_tl10 sh_hd))))) rfl)
theorem se_X5_clear : Cond.selects yX5_clear.cls yX5_clear yX5_clear ∈ sh_tb := (sh_w3 (sh_tl50 (sh_tl50 (sh_tl10 (sh_tl10 (sh_tl10 (sh_tl1 sh_hd)))))) rfl)
theorem pm_X5_clear : (parseMethodDescriptor yX5_clear.desc).map (fun d => d.parameters.length) = some 0 := by decide +kernel
theorem im_X5_cells : Cond.instanceMethod yX5_cells ∈ sh_tb := (sh_w4 (sh_tl50 (sh_tl10 (sh_tl10 (sh_tl10 (sh_tl1 sh_hd))))) rfl)
theorem se_X5_cells : Cond.selects yX5_cells.cls yX5_cells yX5_cells ∈ sh_tb := (sh_w4 (sh_tl50 (sh_tl10 (sh_tl10 (sh_tl10 (sh_tl1 (sh_tl1 sh_hd)))))) rfl)
theorem pm_X5_cells : (parseMethodDescriptor yX5_cells.desc).map (fun d => d.parameters.length) = some 0 := by decide +kernel
theorem im_X5_cellAt : Cond.instanceMethod yX5_cellAt ∈ sh_tb := (sh_w3 (sh_tl50 (sh_tl50 (sh_tl50 (sh_tl10 (sh_tl10 (sh_tl10 (sh_tl1 (sh_tl1 (sh_tl1 (sh_tl1 (sh_tl1 (sh_tl1 (sh_tl1 (sh_tl1 sh_hd)))))))))))))) rfl)
theorem se_X5_cellAt : Cond.selects yX5_cellAt.cls yX5_cellAt yX5_cellAt ∈ sh_tb := (sh_w3 (sh_tl50 (sh_tl50 (sh_tl50 (sh_tl10 (sh_tl10 (sh_tl10 (sh_tl1 (sh_tl1 (sh_tl1 (sh_tl1 (sh_tl1 (sh_tl1 (sh_tl1 (sh_tl1 (sh_tl1 sh_hd))))))))))))))) rfl)
theorem pm_X5_cellAt : (parseMethodDescriptor yX5_cellAt.desc).map (fun d => d.parameters.length) = some 2 := by decide +kernel
theorem im_X5_cellOf : Cond.instanceMethod yX5_cellOf ∈ sh_tb := (sh_w4 (sh_tl50 (sh_tl50 (sh_tl50 (sh_tl50 (sh_tl10 (sh_tl10 (sh_tl10 (sh_tl1 sh_hd)))))))) rfl)
theorem se_X5_cellOf : Cond.selects yX5_cellOf.cls yX5_cellOf yX5_cellOf ∈ sh_tb := (sh_w4 (sh_tl50 (sh_tl50 (sh_tl50 (sh_tl50 (sh_tl10 (sh_tl10 (sh_tl10 (sh_tl1 (sh_tl1 sh_hd))))))))) rfl)
theorem pm_X5_cellOf : (parseMethodDescriptor yX5_cellOf.desc).map (fun d => d.parameters.length) = some 1 := by decide +kernel
theorem im_X5_numberOf : Cond.instanceMethod yX5_numberOf ∈ sh_tb := (sh_w5 (sh_tl50 (sh_tl1 (sh_tl1 (sh_tl1 (sh_tl1 sh_hd))))) rfl)
theorem se_X5_numberOf : Cond.selects yX5_numberOf.cls yX5_numberOf yX5_numberOf ∈ sh_tb := (sh_w5 (sh_tl50 (sh_tl1 (sh_tl1 (sh_tl1 (sh_tl1 (sh_tl1 sh_hd)))))) rfl)
theorem pm_X5_numberOf : (parseMethodDescriptor yX5_numberOf.desc).map (fun d => d.parameters.length) = some 1 := by decide +kernel
theorem im_X5_nextTo : Cond.instanceMethod yX5_nextTo ∈ sh_tb := (sh_w5 (sh_tl10 (sh_tl10 (sh_tl10 (sh_tl1 (sh_tl1 (sh_tl1 (sh_tl1 (sh_tl1 (sh_tl1 (sh_tl1 (sh_tl1 sh_hd))))))))))) rfl)
theorem se_X5_nextTo : Cond.selects yX5_nextTo.cls yX5_nextTo yX5_nextTo ∈ sh_tb := (sh_w5 (sh_tl10 (sh_tl10 (sh_tl10 (sh_tl1 (sh_tl1 (sh_tl1 (sh_tl1 (sh_tl1 (sh_tl1 (sh_tl1 (sh_tl1 (sh_tl1 sh_hd)))))))))))) rfl)
theorem pm_X5_nextTo : (parseMethodDescriptor yX5_nextTo.desc).map (fun d => d.parameters.length) = some 2 := by decide +kernel
theorem im_X5_rowOf : Cond.instanceMethod yX5_rowOf ∈ sh_tb := (sh_w4 (sh_tl50 (sh_tl50 (sh_tl50 (sh_tl10 (sh_tl10 (sh_tl10 (sh_tl1 (sh_tl1 (sh_tl1 (sh_tl1 (sh_tl1 (sh_tl1 sh_hd)))))))))))) rfl)
theorem se_X5_rowOf : Cond.selects yX5_rowOf.cls yX5_rowOf yX5_rowOf ∈ sh_tb := (sh_w4 (sh_tl50 (sh_tl50 (sh_tl50 (sh_tl10 (sh_tl10 (sh_tl10 (sh_tl1 (sh_tl1 (sh_tl1 (sh_tl1 (sh_tl1 (sh_tl1 (sh_tl1 sh_hd))))))))))))) rfl)
theorem pm_X5_rowOf : (parseMethodDescriptor yX5_rowOf.desc).map (fun d => d.parameters.length) = some 1 := by decide +kernel
theorem im_X5_topicOf : Cond.instanceMethod yX5_topicOf ∈ sh_tb := (sh_w3 (sh_tl50 (sh_tl50 (sh_tl50 (sh_tl50 (sh_tl1 (sh_tl1 (sh_tl1 (sh_tl1 sh_hd)))))))) rfl)
theorem se_X5_topicOf : Cond.selects yX5_topicOf.cls yX5_topicOf yX5_topicOf ∈ sh_tb := (sh_w3 (sh_tl50 (sh_tl50 (sh_tl50 (sh_tl50 (sh_tl1 (sh_tl1 (sh_tl1 (sh_tl1 (sh_tl1 sh_hd))))))))) rfl)
theorem pm_X5_topicOf : (parseMethodDescriptor yX5_topicOf.desc).map (fun d => d.parameters.length) = some 1 := by decide +kernel
theorem im_X5_personOf : Cond.instanceMethod yX5_personOf ∈ sh_tb := (sh_w3 (sh_tl50 (sh_tl50 (sh_tl50 (sh_tl50 (sh_tl10 (sh_tl1 sh_hd)))))) rfl)
theorem se_X5_personOf : Cond.selects yX5_personOf.cls yX5_personOf yX5_personOf ∈ sh_tb := (sh_w3 (sh_tl50 (sh_tl50 (sh_tl50 (sh_tl50 (sh_tl10 (sh_tl1 (sh_tl1 sh_hd))))))) rfl)
theorem pm_X5_personOf : (parseMethodDescriptor yX5_personOf.desc).map (fun d => d.parameters.length) = some 1 := by decide +kernel
theorem sm_X5_placeOf : Cond.static yX5_placeOf ∈ sh_tb := (sh_w3 (sh_tl50 (sh_tl50 (sh_tl50 (sh_tl50 (sh_tl1 (sh_tl1 (sh_tl1 (sh_tl1 (sh_tl1 (sh_tl1 (sh_tl1 (sh_tl1 sh_hd)))))))))))) rfl)
theorem pm_X5_placeOf : (parseMethodDescriptor yX5_placeOf.desc).map (fun d => d.parameters.length) = some 3 := by decide +kernel
theorem im_X5_topicCounts : Cond.instanceMethod yX5_topicCounts ∈ sh_tb := (sh_w5 (sh_tl1 sh_hd) rfl)
theorem se_X5_topicCounts : Cond.selects yX5_topicCounts.cls yX5_topicCounts yX5_topicCounts ∈ sh_tb := (sh_w5 (sh_tl1 (sh_tl1 sh_hd)) rfl)
theorem pm_X5_topicCounts : (parseMethodDescriptor yX5_topicCounts.desc).map (fun d => d.parameters.length) = some 0 := by decide +kernel
theorem im_X6_init : Cond.instanceMethod yX6_init ∈ sh_tb := (sh_w1 (sh_tl50 (sh_tl50 (sh_tl10 (sh_tl10 (sh_tl1 sh_hd))))) rfl)
theorem pm_X6_init : (parseMethodDescriptor yX6_init.desc).map (fun d => d.parameters.length) = some 2 := by decide +kernel
theorem im_X6_read : Cond.instanceMethod yX6_read ∈ sh_tb := (sh_w3 (sh_tl50 (sh_tl50 (sh_tl10 (sh_tl10 (sh_tl1 (sh_tl1 (sh_tl1 (sh_tl1 (sh_tl1 (sh_tl1 sh_hd)))))))))) rfl)
theorem se_X6_read : Cond.selects yX6_read.cls yX6_read yX6_read ∈ sh_tb := (sh_w3 (sh_tl50 (sh_tl50 (sh_tl10 (sh_tl10 (sh_tl1 (sh_tl1 (sh_tl1 (sh_tl1 (sh_tl1 (sh_tl1 (sh_tl1 sh_hd))))))))))) rfl)
theorem pm_X6_read : (parseMethodDescriptor yX6_read.desc).map (fun d => d.parameters.length) = some 0 := by decide +kernel
theorem im_X6_readPlain : Cond.instanceMethod yX6_readPlain ∈ sh_tb := (sh_w3 (sh_tl50 (sh_tl50 (sh_tl50 (sh_tl1 sh_hd)))) rfl)
theorem se_X6_readPlain : Cond.selects yX6_readPlain.cls yX6_readPlain yX6_readPlain ∈ sh_tb := (sh_wp1 (w := (⟨"ShrugHills$PlainReader", "readPlain", "()Z"⟩, _)) (List.mem_cons_of_mem _ (List.mem_cons_of_mem _ (List.mem_cons_of_mem _ (List.mem_cons_of_mem _ (List.mem_cons_of_mem _ (List.mem_cons_of_mem _ List.mem_cons_self)))))))
theorem pm_X6_readPlain : (parseMethodDescriptor yX6_readPlain.desc).map (fun d => d.parameters.length) = some 0 := by decide +kernel
theorem im_X6_readStatement : Cond.instanceMethod yX6_readStatement ∈ sh_tb := (sh_w3 (sh_tl50 (sh_tl50 (sh_tl50 (sh_tl10 (sh_tl10 (sh_tl1 (sh_tl1 (sh_tl1 (sh_tl1 (sh_tl1 sh_hd)))))))))) rfl)
theorem se_X6_readStatement : Cond.selects yX6_readStatement.cls yX6_readStatement yX6_readStatement ∈ sh_tb := (sh_wp1 (w := (⟨"ShrugHills$PlainReader", "readStatement", "()Z"⟩, _)) (List.mem_cons_of_mem _ (List.mem_cons_of_mem _ (List.mem_cons_of_mem _ (List.mem_cons_of_mem _ (List.mem_cons_of_mem _ (List.mem_cons_of_mem _ (List.mem_cons_of_mem _ List.mem_cons_self))))))))
theorem pm_X6_readStatement : (parseMethodDescriptor yX6_readStatement.desc).map (fun d => d.parameters.length) = some 0 := by decide +kernel
theorem im_X6_isOneTooMany : Cond.instanceMethod yX6_isOneTooMany ∈ sh_tb := (sh_w3 (sh_tl50 (sh_tl50 (sh_tl50 (sh_tl10 (sh_tl10 (sh_tl1 (sh_tl1 (sh_tl1 (sh_tl1 (sh_tl1 (sh_tl1 (sh_tl1 (sh_tl1 (sh_tl1 sh_hd)))))))))))))) rfl)
theorem se_X6_isOneTooMany : Cond.selects yX6_isOneTooMany.cls yX6_isOneTooMany yX6_isOneTooMany ∈ sh_tb := (sh_wp1 (w := (⟨"ShrugHills$PlainReader", "isOneTooMany", "(I)Z"⟩, _)) (List.mem_cons_of_mem _ (List.mem_cons_of_mem _ (List.mem_cons_of_mem _ (List.mem_cons_of_mem _ (List.mem_cons_of_mem _ (List.mem_cons_of_mem _ (List.mem_cons_of_mem _ (List.mem_cons_of_mem _ List.mem_cons_self)))))))))
theorem pm_X6_isOneTooMany : (parseMethodDescriptor yX6_isOneTooMany.desc).map (fun d => d.parameters.length) = some 1 := by decide +kernel
theorem im_X6_readHigh : Cond.instanceMethod yX6_readHigh ∈ sh_tb := (sh_w3 (sh_tl50 (sh_tl50 (sh_tl50 (sh_tl10 (sh_tl10 (sh_tl10 (sh_tl1 (sh_tl1 (sh_tl1 (sh_tl1 sh_hd)))))))))) rfl)
theorem se_X6_readHigh : Cond.selects yX6_readHigh.cls yX6_readHigh yX6_readHigh ∈ sh_tb := (sh_wp1 (w := (⟨"ShrugHills$PlainReader", "readHigh", "()Z"⟩, _)) (List.mem_cons_of_mem _ (List.mem_cons_of_mem _ (List.mem_cons_of_mem _ (List.mem_cons_of_mem _ (List.mem_cons_of_mem _ (List.mem_cons_of_mem _ (List.mem_cons_of_mem _ (List.mem_cons_of_mem _ (List.mem_cons_of_mem _ List.mem_cons_self))))))))))
theorem pm_X6_readHigh : (parseMethodDescriptor yX6_readHigh.desc).map (fun d => d.parameters.length) = some 0 := by decide +kernel
theorem im_X6_isNew : Cond.instanceMethod yX6_isNew ∈ sh_tb := (sh_w3 (sh_tl50 (sh_tl50 (sh_tl50 (sh_tl50 (sh_tl1 sh_hd))))) rfl)
theorem se_X6_isNew : Cond.selects yX6_isNew.cls yX6_isNew yX6_isNew ∈ sh_tb := (sh_wp1 (w := (⟨"ShrugHills$PlainReader", "isNew", "(I)Z"⟩, _)) (List.mem_cons_of_mem _ (List.mem_cons_of_mem _ (List.mem_cons_of_mem _ (List.mem_cons_of_mem _ (List.mem_cons_of_mem _ (List.mem_cons_of_mem _ (List.mem_cons_of_mem _ (List.mem_cons_of_mem _ (List.mem_cons_of_mem _ (List.mem_cons_of_mem _ (List.mem_cons_of_mem _ List.mem_cons_self))))))))))))
theorem pm_X6_isNew : (parseMethodDescriptor yX6_isNew.desc).map (fun d => d.parameters.length) = some 1 := by decide +kernel
theorem im_X6_readTopic : Cond.instanceMethod yX6_readTopic ∈ sh_tb := (sh_w3 (sh_tl50 (sh_tl50 (sh_tl50 (sh_tl10 (sh_tl10 (sh_tl10 (sh_tl10 (sh_tl1 (sh_tl1 (sh_tl1 sh_hd)))))))))) rfl)
theorem se_X6_readTopic : Cond.selects yX6_readTopic.cls yX6_readTopic yX6_readTopic ∈ sh_tb := (sh_wp1 (w := (⟨"ShrugHills$PlainReader", "readTopic", "()Z"⟩, _)) (List.mem_cons_of_mem _ (List.mem_cons_of_mem _ (List.mem_cons_of_mem _ (List.mem_cons_of_mem _ (List.mem_cons_of_mem _ (List.mem_cons_of_mem _ (List.mem_cons_of_mem _ (List.mem_cons_of_mem _ (List.mem_cons_of_mem _ (List.mem_cons_of_mem _ List.mem_cons_self)))))))))))
theorem pm_X6_readTopic : (parseMethodDescriptor yX6_readTopic.desc).map (fun d => d.parameters.length) = some 0 := by decide +kernel
theorem im_X6_readPerson : Cond.instanceMethod yX6_readPerson ∈ sh_tb := (sh_w3 (sh_tl50 (sh_tl50 (sh_tl50 (sh_tl50 (sh_tl10 (sh_tl1 (sh_tl1 (sh_tl1 (sh_tl1 (sh_tl1 (sh_tl1 sh_hd))))))))))) rfl)
theorem se_X6_readPerson : Cond.selects yX6_readPerson.cls yX6_readPerson yX6_readPerson ∈ sh_tb := (sh_wp1 (w := (⟨"ShrugHills$PlainReader", "readPerson", "()Z"⟩, _)) (List.mem_cons_of_mem _ (List.mem_cons_of_mem _ (List.mem_cons_of_mem _ (List.mem_cons_of_mem _ (List.mem_cons_of_mem _ (List.mem_cons_of_mem _ (List.mem_cons_of_mem _ (List.mem_cons_of_mem _ (List.mem_cons_of_mem _ (List.mem_cons_of_mem _ (List.mem_cons_of_mem _ (List.mem_cons_of_mem _ List.mem_cons_self)))))))))))))
theorem pm_X6_readPerson : (parseMethodDescriptor yX6_readPerson.desc).map (fun d => d.parameters.length) = some 0 := by decide +kernel
theorem im_X6_asPerson : Cond.instanceMethod yX6_asPerson ∈ sh_tb := (sh_w3 (sh_tl50 (sh_tl50 (sh_tl50 (sh_tl50 (sh_tl10 (sh_tl10 (sh_tl1 (sh_tl1 (sh_tl1 (sh_tl1 (sh_tl1 (sh_tl1 (sh_tl1 (sh_tl1 sh_hd)))))))))))))) rfl)
theorem se_X6_asPerson : Cond.selects yX6_asPerson.cls yX6_asPerson yX6_asPerson ∈ sh_tb := (sh_wp1 (w := (⟨"ShrugHills$PlainReader", "asPerson", "(I)I"⟩, _)) (List.mem_cons_of_mem _ (List.mem_cons_of_mem _ (List.mem_cons_of_mem _ (List.mem_cons_of_mem _ (List.mem_cons_of_mem _ (List.mem_cons_of_mem _ (List.mem_cons_of_mem _ (List.mem_cons_of_mem _ (List.mem_cons_of_mem _ (List.mem_cons_of_mem _ (List.mem_cons_of_mem _ (List.mem_cons_of_mem _ (List.mem_cons_of_mem _ (List.mem_cons_of_mem _ List.mem_cons_self)))))))))))))))
theorem pm_X6_asPerson : (parseMethodDescriptor yX6_asPerson.desc).map (fun d => d.parameters.length) = some 1 := by decide +kernel
theorem im_X6_asTopic : Cond.instanceMethod yX6_asTopic ∈ sh_tb := (sh_w3 (sh_tl50 (sh_tl50 (sh_tl50 (sh_tl50 (sh_tl10 (sh_tl10 (sh_tl10 (sh_tl1 (sh_tl1 sh_hd))))))))) rfl)
theorem se_X6_asTopic : Cond.selects yX6_asTopic.cls yX6_asTopic yX6_asTopic ∈ sh_tb := (sh_wp1 (w := (⟨"ShrugHills$PlainReader", "asTopic", "(I)I"⟩, _)) (List.mem_cons_of_mem _ (List.mem_cons_of_mem _ (List.mem_cons_of_mem _ (List.mem_cons_of_mem _ (List.mem_cons_of_mem _ (List.mem_cons_of_mem _ (List.mem_cons_of_mem _ (List.mem_cons_of_mem _ (List.mem_cons_of_mem _ (List.mem_cons_of_mem _ (List.mem_cons_of_mem _ (List.mem_cons_of_mem _ (List.mem_cons_of_mem _ (List.mem_cons_of_mem _ (List.mem_cons_of_mem _ List.mem_cons_self))))))))))))))))
theorem pm_X6_asTopic : (parseMethodDescriptor yX6_asTopic.desc).map (fun d => d.parameters.length) = some 1 := by decide +kernel
theorem im_X6_readKnows : Cond.instanceMethod yX6_readKnows ∈ sh_tb := (sh_w3 (sh_tl50 (sh_tl50 (sh_tl50 (sh_tl50 (sh_tl10 (sh_tl10 (sh_tl1 (sh_tl1 (sh_tl1 (sh_tl1 sh_hd)))))))))) rfl)
theorem se_X6_readKnows : Cond.selects yX6_readKnows.cls yX6_readKnows yX6_readKnows ∈ sh_tb := (sh_wp1 (w := (⟨"ShrugHills$PlainReader", "readKnows", "()Z"⟩, _)) (List.mem_cons_of_mem _ (List.mem_cons_of_mem _ (List.mem_cons_of_mem _ (List.mem_cons_of_mem _ (List.mem_cons_of_mem _ (List.mem_cons_of_mem _ (List.mem_cons_of_mem _ (List.mem_cons_of_mem _ (List.mem_cons_of_mem _ (List.mem_cons_of_mem _ (List.mem_cons_of_mem _ (List.mem_cons_of_mem _ (List.mem_cons_of_mem _ List.mem_cons_self))))))))))))))
theorem pm_X6_readKnows : (parseMethodDescriptor yX6_readKnows.desc).map (fun d => d.parameters.length) = some 0 := by decide +kernel
theorem im_X6_readAsks : Cond.instanceMethod yX6_readAsks ∈ sh_tb := (sh_w3 (sh_tl50 (sh_tl50 (sh_tl50 (sh_tl50 (sh_tl10 (sh_tl10 (sh_tl10 (sh_tl1 (sh_tl1 (sh_tl1 (sh_tl1 (sh_tl1 (sh_tl1 sh_hd))))))))))))) rfl)
theorem se_X6_readAsks : Cond.selects yX6_readAsks.cls yX6_readAsks yX6_readAsks ∈ sh_tb := (sh_wp2 (w := (⟨"ShrugHills$PlainReader", "readAsks", "()Z"⟩, _)) List.mem_cons_self)
theorem pm_X6_readAsks : (parseMethodDescriptor yX6_readAsks.desc).map (fun d => d.parameters.length) = some 0 := by decide +kernel
theorem im_X6_beginRule : Cond.instanceMethod yX6_beginRule ∈ sh_tb := (sh_w4 sh_hd rfl)
theorem se_X6_beginRule : Cond.selects yX6_beginRule.cls yX6_beginRule yX6_beginRule ∈ sh_tb := (sh_wp2 (w := (⟨"ShrugHills$PlainReader", "beginRule", "(LShrugHills$Formula;I)V"⟩, _)) (List.mem_cons_of_mem _ List.mem_cons_self))
theorem pm_X6_beginRule : (parseMethodDescriptor yX6_beginRule.desc).map (fun d => d.parameters.length) = some 2 := by decide +kernel
theorem im_X6_readCrowd : Cond.instanceMethod yX6_readCrowd ∈ sh_tb := (sh_w4 (sh_tl50 (sh_tl1 (sh_tl1 (sh_tl1 (sh_tl1 sh_hd))))) rfl)
theorem se_X6_readCrowd : Cond.selects yX6_readCrowd.cls yX6_readCrowd yX6_readCrowd ∈ sh_tb := (sh_wp2 (w := (⟨"ShrugHills$PlainReader", "readCrowd", "()Z"⟩, _)) (List.mem_cons_of_mem _ (List.mem_cons_of_mem _ (List.mem_cons_of_mem _ (List.mem_cons_of_mem _ (List.mem_cons_of_mem _ (List.mem_cons_of_mem _ (List.mem_cons_of_mem _ (List.mem_cons_of_mem _ (List.mem_cons_of_mem _ (List.mem_cons_of_mem _ (List.mem_cons_of_mem _ List.mem_cons_self))))))))))))
theorem pm_X6_readCrowd : (parseMethodDescriptor yX6_readCrowd.desc).map (fun d => d.parameters.length) = some 0 := by decide +kernel
theorem im_X7_init : Cond.instanceMethod yX7_init ∈ sh_tb := (sh_w2 (sh_tl50 (sh_tl50 (sh_tl50 (sh_tl10 (sh_tl1 (sh_tl1 (sh_tl1 (sh_tl1 (sh_tl1 (sh_tl1 (sh_tl1 sh_hd))))))))))) rfl)
theorem pm_X7_init : (parseMethodDescriptor yX7_init.desc).map (fun d => d.parameters.length) = some 1 := by decide +kernel
theorem im_X7_find : Cond.instanceMethod yX7_find ∈ sh_tb := (sh_w4 (sh_tl50 (sh_tl50 (sh_tl50 (sh_tl50 (sh_tl10 (sh_tl10 (sh_tl10 (sh_tl1 (sh_tl1 (sh_tl1 (sh_tl1 (sh_tl1 (sh_tl1 sh_hd))))))))))))) rfl)
theorem se_X7_find : Cond.selects yX7_find.cls yX7_find yX7_find ∈ sh_tb := (sh_w4 (sh_tl50 (sh_tl50 (sh_tl50 (sh_tl50 (sh_tl10 (sh_tl10 (sh_tl10 (sh_tl1 (sh_tl1 (sh_tl1 (sh_tl1 (sh_tl1 (sh_tl1 (sh_tl1 sh_hd)))))))))))))) rfl)
theorem pm_X7_find : (parseMethodDescriptor yX7_find.desc).map (fun d => d.parameters.length) = some 4 := by decide +kernel
theorem im_X7_goesOn : Cond.instanceMethod yX7_goesOn ∈ sh_tb := (sh_w5 (sh_tl10 sh_hd) rfl)
theorem se_X7_goesOn : Cond.selects yX7_goesOn.cls yX7_goesOn yX7_goesOn ∈ sh_tb := (sh_wp3 (w := (⟨"ShrugHills$Planner", "goesOn", "(II)Z"⟩, _)) (List.mem_cons_of_mem _ (List.mem_cons_of_mem _ (List.mem_cons_of_mem _ (List.mem_cons_of_mem _ (List.mem_cons_of_mem _ (List.mem_cons_of_mem _ List.mem_cons_self)))))))
theorem pm_X7_goesOn : (parseMethodDescriptor yX7_goesOn.desc).map (fun d => d.parameters.length) = some 2 := by decide +kernel
theorem im_X7_mayRise : Cond.instanceMethod yX7_mayRise ∈ sh_tb := (sh_w5 (sh_tl10 (sh_tl1 (sh_tl1 (sh_tl1 (sh_tl1 sh_hd))))) rfl)
theorem se_X7_mayRise : Cond.selects yX7_mayRise.cls yX7_mayRise yX7_mayRise ∈ sh_tb := (sh_wp3 (w := (⟨"ShrugHills$Planner", "mayRise", "(LShrugHills$Land;IIII)Z"⟩, _)) (List.mem_cons_of_mem _ (List.mem_cons_of_mem _ (List.mem_cons_of_mem _ (List.mem_cons_of_mem _ (List.mem_cons_of_mem _ (List.mem_cons_of_mem _ (List.mem_cons_of_mem _ List.mem_cons_self))))))))
theorem pm_X7_mayRise : (parseMethodDescriptor yX7_mayRise.desc).map (fun d => d.parameters.length) = some 5 := by decide +kernel
theorem im_X7_goesOnBy : Cond.instanceMethod yX7_goesOnBy ∈ sh_tb := (sh_w5 (sh_tl10 (sh_tl1 (sh_tl1 (sh_tl1 (sh_tl1 (sh_tl1 (sh_tl1 (sh_tl1 (sh_tl1 (sh_tl1 sh_hd)))))))))) rfl)
theorem se_X7_goesOnBy : Cond.selects yX7_goesOnBy.cls yX7_goesOnBy yX7_goesOnBy ∈ sh_tb := (sh_wp3 (w := (⟨"ShrugHills$Planner", "goesOnBy", "(III)Z"⟩, _)) (List.mem_cons_of_mem _ (List.mem_cons_of_mem _ (List.mem_cons_of_mem _ (List.mem_cons_of_mem _ (List.mem_cons_of_mem _ (List.mem_cons_of_mem _ (List.mem_cons_of_mem _ (List.mem_cons_of_mem _ List.mem_cons_self)))))))))
theorem pm_X7_goesOnBy : (parseMethodDescriptor yX7_goesOnBy.desc).map (fun d => d.parameters.length) = some 3 := by decide +kernel
theorem im_X8_init : Cond.instanceMethod yX8_init ∈ sh_tb := (sh_w1 (sh_tl10 (sh_tl10 (sh_tl10 (sh_tl1 (sh_tl1 (sh_tl1 sh_hd)))))) rfl)
theorem pm_X8_init : (parseMethodDescriptor yX8_init.desc).map (fun d => d.parameters.length) = some 1 := by decide +kernel
theorem im_X8_begin : Cond.instanceMethod yX8_begin ∈ sh_tb := (sh_w3 (sh_tl50 (sh_tl1 (sh_tl1 (sh_tl1 (sh_tl1 (sh_tl1 sh_hd)))))) rfl)
theorem se_X8_begin : Cond.selects yX8_begin.cls yX8_begin yX8_begin ∈ sh_tb := (sh_w3 (sh_tl50 (sh_tl1 (sh_tl1 (sh_tl1 (sh_tl1 (sh_tl1 (sh_tl1 sh_hd))))))) rfl)
theorem pm_X8_begin : (parseMethodDescriptor yX8_begin.desc).map (fun d => d.parameters.length) = some 1 := by decide +kernel
theorem im_X8_advance : Cond.instanceMethod yX8_advance ∈ sh_tb := (sh_w3 (sh_tl50 (sh_tl10 (sh_tl1 (sh_tl1 sh_hd)))) rfl)
theorem se_X8_advance : Cond.selects yX8_advance.cls yX8_advance yX8_advance ∈ sh_tb := (sh_w3 (sh_tl50 (sh_tl10 (sh_tl1 (sh_tl1 (sh_tl1 sh_hd))))) rfl)
theorem pm_X8_advance : (parseMethodDescriptor yX8_advance.desc).map (fun d => d.parameters.length) = some 0 := by decide +kernel
theorem im_X8_takeLetters : Cond.instanceMethod yX8_takeLetters ∈ sh_tb := (sh_w3 (sh_tl50 (sh_tl10 (sh_tl1 (sh_tl1 (sh_tl1 (sh_tl1 (sh_tl1 (sh_tl1 (sh_tl1 sh_hd))))))))) rfl)
theorem se_X8_takeLetters : Cond.selects yX8_takeLetters.cls yX8_takeLetters yX8_takeLetters ∈ sh_tb := (sh_wp1 (w := (⟨"ShrugHills$Text", "takeLetters", "()V"⟩, _)) (List.mem_cons_of_mem _ (List.mem_cons_of_mem _ (List.mem_cons_of_mem _ (List.mem_cons_of_mem _ List.mem_cons_self)))))
theorem pm_X8_takeLetters : (parseMethodDescriptor yX8_takeLetters.desc).map (fun d => d.parameters.length) = some 0 := by decide +kernel
theorem im_X8_takeDigits : Cond.instanceMethod yX8_takeDigits ∈ sh_tb := (sh_w3 (sh_tl50 (sh_tl50 (sh_tl10 (sh_tl10 (sh_tl1 (sh_tl1 (sh_tl1 sh_hd))))))) rfl)
theorem se_X8_takeDigits : Cond.selects yX8_takeDigits.cls yX8_takeDigits yX8_takeDigits ∈ sh_tb := (sh_wp1 (w := (⟨"ShrugHills$Text", "takeDigits", "()V"⟩, _)) (List.mem_cons_of_mem _ (List.mem_cons_of_mem _ (List.mem_cons_of_mem _ (List.mem_cons_of_mem _ (List.mem_cons_of_mem _ List.mem_cons_self))))))
theorem pm_X8_takeDigits : (parseMethodDescriptor yX8_takeDigits.desc).map (fun d => d.parameters.length) = some 0 := by decide +kernel
theorem sm_X8_wordOf : Cond.static yX8_wordOf ∈ sh_tb := (sh_w3 (sh_tl50 (sh_tl10 (sh_tl10 sh_hd))) rfl)
theorem pm_X8_wordOf : (parseMethodDescriptor yX8_wordOf.desc).map (fun d => d.parameters.length) = some 1 := by decide +kernel
theorem im_X8_fails : Cond.instanceMethod yX8_fails ∈ sh_tb := (sh_w3 (sh_tl50 (sh_tl50 (sh_tl50 (sh_tl10 (sh_tl1 (sh_tl1 sh_hd)))))) rfl)
theorem se_X8_fails : Cond.selects yX8_fails.cls yX8_fails yX8_fails ∈ sh_tb := (sh_w3 (sh_tl50 (sh_tl50 (sh_tl50 (sh_tl10 (sh_tl1 (sh_tl1 (sh_tl1 sh_hd))))))) rfl)
theorem pm_X8_fails : (parseMethodDescriptor yX8_fails.desc).map (fun d => d.parameters.length) = some 2 := by decide +kernel
theorem im_X8_isWord : Cond.instanceMethod yX8_isWord ∈ sh_tb := (sh_w3 (sh_tl50 (sh_tl50 (sh_tl50 (sh_tl1 (sh_tl1 (sh_tl1 (sh_tl1 (sh_tl1 (sh_tl1 (sh_tl1 (sh_tl1 sh_hd))))))))))) rfl)
theorem se_X8_isWord : Cond.selects yX8_isWord.cls yX8_isWord yX8_isWord ∈ sh_tb := (sh_w3 (sh_tl50 (sh_tl50 (sh_tl50 (sh_tl1 (sh_tl1 (sh_tl1 (sh_tl1 (sh_tl1 (sh_tl1 (sh_tl1 (sh_tl1 (sh_tl1 sh_hd)))))))))))) rfl)
theorem pm_X8_isWord : (parseMethodDescriptor yX8_isWord.desc).map (fun d => d.parameters.length) = some 1 := by decide +kernel
theorem im_X8_takesWord : Cond.instanceMethod yX8_takesWord ∈ sh_tb := (sh_w3 (sh_tl50 (sh_tl50 (sh_tl50 (sh_tl1 (sh_tl1 (sh_tl1 (sh_tl1 sh_hd))))))) rfl)
theorem se_X8_takesWord : Cond.selects yX8_takesWord.cls yX8_takesWord yX8_takesWord ∈ sh_tb := (sh_w3 (sh_tl50 (sh_tl50 (sh_tl50 (sh_tl1 (sh_tl1 (sh_tl1 (sh_tl1 (sh_tl1 sh_hd)))))))) rfl)
theorem pm_X8_takesWord : (parseMethodDescriptor yX8_takesWord.desc).map (fun d => d.parameters.length) = some 1 := by decide +kernel
theorem im_X8_takesMark : Cond.instanceMethod yX8_takesMark ∈ sh_tb := (sh_w3 (sh_tl50 (sh_tl50 (sh_tl50 (sh_tl10 (sh_tl10 sh_hd))))) rfl)
theorem se_X8_takesMark : Cond.selects yX8_takesMark.cls yX8_takesMark yX8_takesMark ∈ sh_tb := (sh_w3 (sh_tl50 (sh_tl50 (sh_tl50 (sh_tl10 (sh_tl10 (sh_tl1 sh_hd)))))) rfl)
theorem pm_X8_takesMark : (parseMethodDescriptor yX8_takesMark.desc).map (fun d => d.parameters.length) = some 1 := by decide +kernel
theorem im_X8_takeNumber : Cond.instanceMethod yX8_takeNumber ∈ sh_tb := (sh_w3 (sh_tl50 (sh_tl50 (sh_tl50 (sh_tl10 (sh_tl1 (sh_tl1 (sh_tl1 (sh_tl1 (sh_tl1 (sh_tl1 sh_hd)))))))))) rfl)
theorem se_X8_takeNumber : Cond.selects yX8_takeNumber.cls yX8_takeNumber yX8_takeNumber ∈ sh_tb := (sh_w3 (sh_tl50 (sh_tl50 (sh_tl50 (sh_tl10 (sh_tl1 (sh_tl1 (sh_tl1 (sh_tl1 (sh_tl1 (sh_tl1 (sh_tl1 sh_hd))))))))))) rfl)
theorem pm_X8_takeNumber : (parseMethodDescriptor yX8_takeNumber.desc).map (fun d => d.parameters.length) = some 2 := by decide +kernel
theorem im_X8_takeName : Cond.instanceMethod yX8_takeName ∈ sh_tb := (sh_w3 (sh_tl50 (sh_tl50 (sh_tl50 (sh_tl10 (sh_tl10 (sh_tl10 (sh_tl10 (sh_tl1 (sh_tl1 (sh_tl1 (sh_tl1 (sh_tl1 (sh_tl1 sh_hd))))))))))))) rfl)
theorem se_X8_takeName : Cond.selects yX8_takeName.cls yX8_takeName yX8_takeName ∈ sh_tb := (sh_w3 (sh_tl50 (sh_tl50 (sh_tl50 (sh_tl10 (sh_tl10 (sh_tl10 (sh_tl10 (sh_tl1 (sh_tl1 (sh_tl1 (sh_tl1 (sh_tl1 (sh_tl1 (sh_tl1 sh_hd)))))))))))))) rfl)
theorem pm_X8_takeName : (parseMethodDescriptor yX8_takeName.desc).map (fun d => d.parameters.length) = some 0 := by decide +kernel
theorem im_X9_init : Cond.instanceMethod yX9_init ∈ sh_tb := (sh_w2 (sh_tl50 (sh_tl50 (sh_tl50 (sh_tl10 (sh_tl10 (sh_tl10 (sh_tl10 (sh_tl1 (sh_tl1 (sh_tl1 (sh_tl1 (sh_tl1 (sh_tl1 (sh_tl1 (sh_tl1 sh_hd))))))))))))))) rfl)
theorem pm_X9_init : (parseMethodDescriptor yX9_init.desc).map (fun d => d.parameters.length) = some 0 := by decide +kernel
theorem im_X9_cost : Cond.instanceMethod yX9_cost ∈ sh_tb := (sh_w5 (sh_tl10 (sh_tl10 (sh_tl1 (sh_tl1 (sh_tl1 (sh_tl1 (sh_tl1 (sh_tl1 (sh_tl1 sh_hd))))))))) rfl)
theorem se_X9_cost : Cond.selects yX9_cost.cls yX9_cost yX9_cost ∈ sh_tb := (sh_w5 (sh_tl10 (sh_tl10 (sh_tl1 (sh_tl1 (sh_tl1 (sh_tl1 (sh_tl1 (sh_tl1 (sh_tl1 (sh_tl1 sh_hd)))))))))) rfl)
theorem pm_X9_cost : (parseMethodDescriptor yX9_cost.desc).map (fun d => d.parameters.length) = some 4 := by decide +kernel
theorem im_X9_improves : Cond.instanceMethod yX9_improves ∈ sh_tb := (sh_w5 (sh_tl10 (sh_tl10 (sh_tl10 (sh_tl1 (sh_tl1 (sh_tl1 (sh_tl1 (sh_tl1 sh_hd)))))))) rfl)
theorem se_X9_improves : Cond.selects yX9_improves.cls yX9_improves yX9_improves ∈ sh_tb := (sh_wp3 (w := (⟨"ShrugHills$Ways", "improves", "(LShrugHills$Plain;LShrugHills$Land;I)Z"⟩, _)) (List.mem_cons_of_mem _ (List.mem_cons_of_mem _ (List.mem_cons_of_mem _ (List.mem_cons_of_mem _ (List.mem_cons_of_mem _ (List.mem_cons_of_mem _ (List.mem_cons_of_mem _ (List.mem_cons_of_mem _ (List.mem_cons_of_mem _ List.mem_cons_self))))))))))
theorem pm_X9_improves : (parseMethodDescriptor yX9_improves.desc).map (fun d => d.parameters.length) = some 3 := by decide +kernel
theorem im_X9_lowestFrom : Cond.instanceMethod yX9_lowestFrom ∈ sh_tb := (sh_w5 (sh_tl50 sh_hd) rfl)
theorem se_X9_lowestFrom : Cond.selects yX9_lowestFrom.cls yX9_lowestFrom yX9_lowestFrom ∈ sh_tb := (sh_w5 (sh_tl50 (sh_tl1 sh_hd)) rfl)
theorem pm_X9_lowestFrom : (parseMethodDescriptor yX9_lowestFrom.desc).map (fun d => d.parameters.length) = some 3 := by decide +kernel
theorem im_X10_init : Cond.instanceMethod yX10_init ∈ sh_tb := (sh_w2 (sh_tl50 sh_hd) rfl)
theorem pm_X10_init : (parseMethodDescriptor yX10_init.desc).map (fun d => d.parameters.length) = some 1 := by decide +kernel
theorem im_X10_gather : Cond.instanceMethod yX10_gather ∈ sh_tb := (sh_w4 (sh_tl50 (sh_tl50 (sh_tl10 (sh_tl10 (sh_tl1 (sh_tl1 (sh_tl1 (sh_tl1 (sh_tl1 (sh_tl1 sh_hd)))))))))) rfl)
theorem se_X10_gather : Cond.selects yX10_gather.cls yX10_gather yX10_gather ∈ sh_tb := (sh_wp2 (w := (⟨"ShrugHills$World", "gather", "(LShrugHills$Land;I[I)V"⟩, _)) (List.mem_cons_of_mem _ (List.mem_cons_of_mem _ (List.mem_cons_of_mem _ (List.mem_cons_of_mem _ (List.mem_cons_of_mem _ (List.mem_cons_of_mem _ (List.mem_cons_of_mem _ (List.mem_cons_of_mem _ (List.mem_cons_of_mem _ (List.mem_cons_of_mem _ (List.mem_cons_of_mem _ (List.mem_cons_of_mem _ (List.mem_cons_of_mem _ (List.mem_cons_of_mem _ (List.mem_cons_of_mem _ List.mem_cons_self))))))))))))))))
theorem pm_X10_gather : (parseMethodDescriptor yX10_gather.desc).map (fun d => d.parameters.length) = some 3 := by decide +kernel
theorem im_X10_describe : Cond.instanceMethod yX10_describe ∈ sh_tb := (sh_w5 (sh_tl50 (sh_tl50 (sh_tl50 (sh_tl50 sh_hd)))) rfl)
theorem se_X10_describe : Cond.selects yX10_describe.cls yX10_describe yX10_describe ∈ sh_tb := (sh_w5 (sh_tl50 (sh_tl50 (sh_tl50 (sh_tl50 (sh_tl1 sh_hd))))) rfl)
theorem pm_X10_describe : (parseMethodDescriptor yX10_describe.desc).map (fun d => d.parameters.length) = some 4 := by decide +kernel
theorem im_X10_deed : Cond.instanceMethod yX10_deed ∈ sh_tb := (sh_w4 (sh_tl50 (sh_tl50 (sh_tl10 (sh_tl10 (sh_tl1 sh_hd))))) rfl)
theorem se_X10_deed : Cond.selects yX10_deed.cls yX10_deed yX10_deed ∈ sh_tb := (sh_w4 (sh_tl50 (sh_tl50 (sh_tl10 (sh_tl10 (sh_tl1 (sh_tl1 sh_hd)))))) rfl)
theorem pm_X10_deed : (parseMethodDescriptor yX10_deed.desc).map (fun d => d.parameters.length) = some 3 := by decide +kernel
theorem im_X10_asked : Cond.instanceMethod yX10_asked ∈ sh_tb := (sh_w4 (sh_tl50 (sh_tl50 (sh_tl50 (sh_tl10 (sh_tl10 (sh_tl10 (sh_tl10 sh_hd))))))) rfl)
theorem se_X10_asked : Cond.selects yX10_asked.cls yX10_asked yX10_asked ∈ sh_tb := (sh_w4 (sh_tl50 (sh_tl50 (sh_tl50 (sh_tl10 (sh_tl10 (sh_tl10 (sh_tl10 (sh_tl1 sh_hd)))))))) rfl)
theorem pm_X10_asked : (parseMethodDescriptor yX10_asked.desc).map (fun d => d.parameters.length) = some 3 := by decide +kernel
theorem sm_X10_within : Cond.static yX10_within ∈ sh_tb := (sh_w4 (sh_tl50 (sh_tl50 (sh_tl50 (sh_tl50 (sh_tl1 (sh_tl1 (sh_tl1 (sh_tl1 (sh_tl1 (sh_tl1 (sh_tl1 (sh_tl1 sh_hd)))))))))))) rfl)
theorem pm_X10_within : (parseMethodDescriptor yX10_within.desc).map (fun d => d.parameters.length) = some 2 := by decide +kernel
theorem im_X10_lookAround : Cond.instanceMethod yX10_lookAround ∈ sh_tb := (sh_w4 (sh_tl50 (sh_tl50 (sh_tl50 (sh_tl10 (sh_tl10 (sh_tl10 (sh_tl10 (sh_tl1 (sh_tl1 (sh_tl1 (sh_tl1 (sh_tl1 (sh_tl1 sh_hd))))))))))))) rfl)
theorem se_X10_lookAround : Cond.selects yX10_lookAround.cls yX10_lookAround yX10_lookAround ∈ sh_tb := (sh_wp3 (w := (⟨"ShrugHills$World", "lookAround", "(LShrugHills$Land;I)V"⟩, _)) (List.mem_cons_of_mem _ (List.mem_cons_of_mem _ List.mem_cons_self)))
theorem pm_X10_lookAround : (parseMethodDescriptor yX10_lookAround.desc).map (fun d => d.parameters.length) = some 2 := by decide +kernel
theorem im_X10_isElsewhere : Cond.instanceMethod yX10_isElsewhere ∈ sh_tb := (sh_w4 (sh_tl50 (sh_tl50 (sh_tl50 (sh_tl50 (sh_tl1 sh_hd))))) rfl)
theorem se_X10_isElsewhere : Cond.selects yX10_isElsewhere.cls yX10_isElsewhere yX10_isElsewhere ∈ sh_tb := (sh_wp3 (w := (⟨"ShrugHills$World", "isElsewhere", "(I)Z"⟩, _)) (List.mem_cons_of_mem _ (List.mem_cons_of_mem _ (List.mem_cons_of_mem _ List.mem_cons_self))))
theorem pm_X10_isElsewhere : (parseMethodDescriptor yX10_isElsewhere.desc).map (fun d => d.parameters.length) = some 1 := by decide +kernel
theorem im_X10_lift : Cond.instanceMethod yX10_lift ∈ sh_tb := (sh_w4 (sh_tl50 (sh_tl50 (sh_tl50 (sh_tl50 (sh_tl1 (sh_tl1 (sh_tl1 (sh_tl1 (sh_tl1 sh_hd))))))))) rfl)
theorem se_X10_lift : Cond.selects yX10_lift.cls yX10_lift yX10_lift ∈ sh_tb := (sh_wp3 (w := (⟨"ShrugHills$World", "lift", "(LShrugHills$Land;I)V"⟩, _)) (List.mem_cons_of_mem _ (List.mem_cons_of_mem _ (List.mem_cons_of_mem _ (List.mem_cons_of_mem _ List.mem_cons_self)))))
theorem pm_X10_lift : (parseMethodDescriptor yX10_lift.desc).map (fun d => d.parameters.length) = some 2 := by decide +kernel
theorem im_X10_findHighest : Cond.instanceMethod yX10_findHighest ∈ sh_tb := (sh_w4 (sh_tl50 (sh_tl50 (sh_tl50 (sh_tl50 (sh_tl10 (sh_tl1 (sh_tl1 sh_hd))))))) rfl)
theorem se_X10_findHighest : Cond.selects yX10_findHighest.cls yX10_findHighest yX10_findHighest ∈ sh_tb := (sh_wp3 (w := (⟨"ShrugHills$World", "findHighest", "(LShrugHills$Land;)Z"⟩, _)) (List.mem_cons_of_mem _ (List.mem_cons_of_mem _ (List.mem_cons_of_mem _ (List.mem_cons_of_mem _ (List.mem_cons_of_mem _ List.mem_cons_self))))))
theorem pm_X10_findHighest : (parseMethodDescriptor yX10_findHighest.desc).map (fun d => d.parameters.length) = some 1 := by decide +kernel
theorem im_X10_passDay : Cond.instanceMethod yX10_passDay ∈ sh_tb := (sh_w4 (sh_tl50 (sh_tl50 (sh_tl50 (sh_tl10 (sh_tl10 (sh_tl10 (sh_tl1 (sh_tl1 sh_hd)))))))) rfl)
theorem se_X10_passDay : Cond.selects yX10_passDay.cls yX10_passDay yX10_passDay ∈ sh_tb := (sh_w4 (sh_tl50 (sh_tl50 (sh_tl50 (sh_tl10 (sh_tl10 (sh_tl10 (sh_tl1 (sh_tl1 (sh_tl1 sh_hd))))))))) rfl)
theorem pm_X10_passDay : (parseMethodDescriptor yX10_passDay.desc).map (fun d => d.parameters.length) = some 2 := by decide +kernel
theorem im_X11_init : Cond.instanceMethod yX11_init ∈ sh_tb := (sh_w1 (sh_tl10 (sh_tl10 (sh_tl1 (sh_tl1 (sh_tl1 (sh_tl1 (sh_tl1 sh_hd))))))) rfl)
theorem pm_X11_init : (parseMethodDescriptor yX11_init.desc).map (fun d => d.parameters.length) = some 0 := by decide +kernel
theorem im_X11_feed : Cond.instanceMethod yX11_feed ∈ sh_tb := (sh_w3 (sh_tl10 (sh_tl10 (sh_tl1 (sh_tl1 (sh_tl1 (sh_tl1 (sh_tl1 (sh_tl1 (sh_tl1 sh_hd))))))))) rfl)
theorem se_X11_feed : Cond.selects yX11_feed.cls yX11_feed yX11_feed ∈ sh_tb := (sh_w3 (sh_tl10 (sh_tl10 (sh_tl1 (sh_tl1 (sh_tl1 (sh_tl1 (sh_tl1 (sh_tl1 (sh_tl1 (sh_tl1 sh_hd)))))))))) rfl)
theorem pm_X11_feed : (parseMethodDescriptor yX11_feed.desc).map (fun d => d.parameters.length) = some 5 := by decide +kernel
theorem im_X11_append : Cond.instanceMethod yX11_append ∈ sh_tb := (sh_w3 (sh_tl10 (sh_tl10 (sh_tl10 (sh_tl1 (sh_tl1 (sh_tl1 (sh_tl1 (sh_tl1 (sh_tl1 sh_hd))))))))) rfl)
theorem se_X11_append : Cond.selects yX11_append.cls yX11_append yX11_append ∈ sh_tb := (sh_wp1 (w := (⟨"ShrugHills", "append", "(I)V"⟩, _)) (List.mem_cons_of_mem _ List.mem_cons_self))
theorem pm_X11_append : (parseMethodDescriptor yX11_append.desc).map (fun d => d.parameters.length) = some 1 := by decide +kernel
theorem im_X11_end : Cond.instanceMethod yX11_end ∈ sh_tb := (sh_w3 (sh_tl10 (sh_tl10 (sh_tl10 (sh_tl1 (sh_tl1 (sh_tl1 (sh_tl1 (sh_tl1 (sh_tl1 (sh_tl1 (sh_tl1 (sh_tl1 sh_hd)))))))))))) rfl)
theorem se_X11_end : Cond.selects yX11_end.cls yX11_end yX11_end ∈ sh_tb := (sh_w3 (sh_tl10 (sh_tl10 (sh_tl10 (sh_tl10 sh_hd)))) rfl)
theorem pm_X11_end : (parseMethodDescriptor yX11_end.desc).map (fun d => d.parameters.length) = some 1 := by decide +kernel
theorem im_X11_takeTape : Cond.instanceMethod yX11_takeTape ∈ sh_tb := (sh_w3 (sh_tl50 (sh_tl1 (sh_tl1 sh_hd))) rfl)
theorem se_X11_takeTape : Cond.selects yX11_takeTape.cls yX11_takeTape yX11_takeTape ∈ sh_tb := (sh_wp1 (w := (⟨"ShrugHills", "takeTape", "()I"⟩, _)) (List.mem_cons_of_mem _ (List.mem_cons_of_mem _ (List.mem_cons_of_mem _ List.mem_cons_self))))
theorem pm_X11_takeTape : (parseMethodDescriptor yX11_takeTape.desc).map (fun d => d.parameters.length) = some 0 := by decide +kernel
theorem im_X11_refuse : Cond.instanceMethod yX11_refuse ∈ sh_tb := (sh_w3 (sh_tl10 (sh_tl10 (sh_tl10 (sh_tl10 (sh_tl1 (sh_tl1 (sh_tl1 (sh_tl1 sh_hd)))))))) rfl)
theorem se_X11_refuse : Cond.selects yX11_refuse.cls yX11_refuse yX11_refuse ∈ sh_tb := (sh_wp1 (w := (⟨"ShrugHills", "refuse", "(I)Z"⟩, _)) (List.mem_cons_of_mem _ (List.mem_cons_of_mem _ List.mem_cons_self)))
theorem pm_X11_refuse : (parseMethodDescriptor yX11_refuse.desc).map (fun d => d.parameters.length) = some 1 := by decide +kernel
theorem im_X11_refuseNumber : Cond.instanceMethod yX11_refuseNumber ∈ sh_tb := (sh_w3 (sh_tl10 (sh_tl10 (sh_tl10 (sh_tl1 (sh_tl1 sh_hd))))) rfl)
theorem se_X11_refuseNumber : Cond.selects yX11_refuseNumber.cls yX11_refuseNumber yX11_refuseNumber ∈ sh_tb := (sh_wp1 (w := (⟨"ShrugHills", "refuseNumber", "(I)I"⟩, _)) List.mem_cons_self)
theorem pm_X11_refuseNumber : (parseMethodDescriptor yX11_refuseNumber.desc).map (fun d => d.parameters.length) = some 1 := by decide +kernel
theorem im_X11_plain : Cond.instanceMethod yX11_plain ∈ sh_tb := (sh_w3 (sh_tl10 (sh_tl10 (sh_tl10 (sh_tl10 (sh_tl1 (sh_tl1 (sh_tl1 (sh_tl1 (sh_tl1 (sh_tl1 (sh_tl1 sh_hd))))))))))) rfl)
theorem se_X11_plain : Cond.selects yX11_plain.cls yX11_plain yX11_plain ∈ sh_tb := (sh_w3 (sh_tl10 (sh_tl10 (sh_tl10 (sh_tl10 (sh_tl1 (sh_tl1 (sh_tl1 (sh_tl1 (sh_tl1 (sh_tl1 (sh_tl1 (sh_tl1 sh_hd)))))))))))) rfl)
theorem pm_X11_plain : (parseMethodDescriptor yX11_plain.desc).map (fun d => d.parameters.length) = some 0 := by decide +kernel
theorem im_X11_noteFault : Cond.instanceMethod yX11_noteFault ∈ sh_tb := (sh_w4 (sh_tl50 (sh_tl1 (sh_tl1 (sh_tl1 (sh_tl1 (sh_tl1 (sh_tl1 (sh_tl1 (sh_tl1 sh_hd))))))))) rfl)
theorem se_X11_noteFault : Cond.selects yX11_noteFault.cls yX11_noteFault yX11_noteFault ∈ sh_tb := (sh_wp2 (w := (⟨"ShrugHills", "noteFault", "()V"⟩, _)) (List.mem_cons_of_mem _ (List.mem_cons_of_mem _ (List.mem_cons_of_mem _ (List.mem_cons_of_mem _ (List.mem_cons_of_mem _ (List.mem_cons_of_mem _ (List.mem_cons_of_mem _ (List.mem_cons_of_mem _ (List.mem_cons_of_mem _ (List.mem_cons_of_mem _ (List.mem_cons_of_mem _ (List.mem_cons_of_mem _ List.mem_cons_self)))))))))))))
theorem pm_X11_noteFault : (parseMethodDescriptor yX11_noteFault.desc).map (fun d => d.parameters.length) = some 0 := by decide +kernel
theorem im_X11_fault : Cond.instanceMethod yX11_fault ∈ sh_tb := (sh_w4 (sh_tl50 (sh_tl10 (sh_tl10 (sh_tl1 (sh_tl1 (sh_tl1 sh_hd)))))) rfl)
theorem se_X11_fault : Cond.selects yX11_fault.cls yX11_fault yX11_fault ∈ sh_tb := (sh_w4 (sh_tl50 (sh_tl10 (sh_tl10 (sh_tl1 (sh_tl1 (sh_tl1 (sh_tl1 sh_hd))))))) rfl)
theorem pm_X11_fault : (parseMethodDescriptor yX11_fault.desc).map (fun d => d.parameters.length) = some 1 := by decide +kernel
theorem im_X11_has : Cond.instanceMethod yX11_has ∈ sh_tb := (sh_w4 (sh_tl50 (sh_tl10 (sh_tl10 (sh_tl1 (sh_tl1 (sh_tl1 (sh_tl1 (sh_tl1 (sh_tl1 (sh_tl1 sh_hd)))))))))) rfl)
theorem se_X11_has : Cond.selects yX11_has.cls yX11_has yX11_has ∈ sh_tb := (sh_w4 (sh_tl50 (sh_tl10 (sh_tl10 (sh_tl1 (sh_tl1 (sh_tl1 (sh_tl1 (sh_tl1 (sh_tl1 (sh_tl1 (sh_tl1 sh_hd))))))))))) rfl)
theorem pm_X11_has : (parseMethodDescriptor yX11_has.desc).map (fun d => d.parameters.length) = some 1 := by decide +kernel
theorem im_X11_letter : Cond.instanceMethod yX11_letter ∈ sh_tb := (sh_w4 (sh_tl50 (sh_tl10 (sh_tl10 (sh_tl10 (sh_tl1 (sh_tl1 (sh_tl1 (sh_tl1 (sh_tl1 (sh_tl1 (sh_tl1 (sh_tl1 (sh_tl1 sh_hd))))))))))))) rfl)
theorem se_X11_letter : Cond.selects yX11_letter.cls yX11_letter yX11_letter ∈ sh_tb := (sh_w4 (sh_tl50 (sh_tl10 (sh_tl10 (sh_tl10 (sh_tl10 sh_hd))))) rfl)
theorem pm_X11_letter : (parseMethodDescriptor yX11_letter.desc).map (fun d => d.parameters.length) = some 3 := by decide +kernel
theorem sm_X11_letterOf : Cond.static yX11_letterOf ∈ sh_tb := (sh_w4 (sh_tl50 (sh_tl10 (sh_tl10 (sh_tl10 (sh_tl10 (sh_tl1 (sh_tl1 (sh_tl1 (sh_tl1 (sh_tl1 (sh_tl1 (sh_tl1 sh_hd)))))))))))) rfl)
theorem pm_X11_letterOf : (parseMethodDescriptor yX11_letterOf.desc).map (fun d => d.parameters.length) = some 2 := by decide +kernel
theorem im_X11_isPlain : Cond.instanceMethod yX11_isPlain ∈ sh_tb := (sh_w4 (sh_tl50 (sh_tl50 (sh_tl50 (sh_tl10 (sh_tl10 (sh_tl1 (sh_tl1 (sh_tl1 (sh_tl1 sh_hd))))))))) rfl)
theorem se_X11_isPlain : Cond.selects yX11_isPlain.cls yX11_isPlain yX11_isPlain ∈ sh_tb := (sh_wp3 (w := (⟨"ShrugHills", "isPlain", "()Z"⟩, _)) (List.mem_cons_of_mem _ List.mem_cons_self))
theorem pm_X11_isPlain : (parseMethodDescriptor yX11_isPlain.desc).map (fun d => d.parameters.length) = some 0 := by decide +kernel
theorem im_X11_isTopic : Cond.instanceMethod yX11_isTopic ∈ sh_tb := (sh_w4 (sh_tl50 (sh_tl10 (sh_tl10 (sh_tl10 (sh_tl10 (sh_tl1 (sh_tl1 (sh_tl1 (sh_tl1 sh_hd))))))))) rfl)
theorem se_X11_isTopic : Cond.selects yX11_isTopic.cls yX11_isTopic yX11_isTopic ∈ sh_tb := (sh_wp2 (w := (⟨"ShrugHills", "isTopic", "(I)Z"⟩, _)) (List.mem_cons_of_mem _ (List.mem_cons_of_mem _ (List.mem_cons_of_mem _ (List.mem_cons_of_mem _ (List.mem_cons_of_mem _ (List.mem_cons_of_mem _ (List.mem_cons_of_mem _ (List.mem_cons_of_mem _ (List.mem_cons_of_mem _ (List.mem_cons_of_mem _ (List.mem_cons_of_mem _ (List.mem_cons_of_mem _ (List.mem_cons_of_mem _ List.mem_cons_self))))))))))))))
theorem pm_X11_isTopic : (parseMethodDescriptor yX11_isTopic.desc).map (fun d => d.parameters.length) = some 1 := by decide +kernel
theorem im_X11_isPerson : Cond.instanceMethod yX11_isPerson ∈ sh_tb := (sh_w4 (sh_tl50 (sh_tl50 (sh_tl1 sh_hd))) rfl)
theorem se_X11_isPerson : Cond.selects yX11_isPerson.cls yX11_isPerson yX11_isPerson ∈ sh_tb := (sh_wp2 (w := (⟨"ShrugHills", "isPerson", "(I)Z"⟩, _)) (List.mem_cons_of_mem _ (List.mem_cons_of_mem _ (List.mem_cons_of_mem _ (List.mem_cons_of_mem _ (List.mem_cons_of_mem _ (List.mem_cons_of_mem _ (List.mem_cons_of_mem _ (List.mem_cons_of_mem _ (List.mem_cons_of_mem _ (List.mem_cons_of_mem _ (List.mem_cons_of_mem _ (List.mem_cons_of_mem _ (List.mem_cons_of_mem _ (List.mem_cons_of_mem _ List.mem_cons_self)))))))))))))))
theorem pm_X11_isPerson : (parseMethodDescriptor yX11_isPerson.desc).map (fun d => d.parameters.length) = some 1 := by decide +kernel
theorem im_X11_height : Cond.instanceMethod yX11_height ∈ sh_tb := (sh_w4 (sh_tl50 (sh_tl50 (sh_tl1 (sh_tl1 (sh_tl1 (sh_tl1 sh_hd)))))) rfl)
theorem se_X11_height : Cond.selects yX11_height.cls yX11_height yX11_height ∈ sh_tb := (sh_w4 (sh_tl50 (sh_tl50 (sh_tl1 (sh_tl1 (sh_tl1 (sh_tl1 (sh_tl1 sh_hd))))))) rfl)
theorem pm_X11_height : (parseMethodDescriptor yX11_height.desc).map (fun d => d.parameters.length) = some 2 := by decide +kernel
theorem im_X11_person : Cond.instanceMethod yX11_person ∈ sh_tb := (sh_w4 (sh_tl50 (sh_tl50 (sh_tl1 (sh_tl1 (sh_tl1 (sh_tl1 (sh_tl1 (sh_tl1 (sh_tl1 (sh_tl1 (sh_tl1 sh_hd))))))))))) rfl)
theorem se_X11_person : Cond.selects yX11_person.cls yX11_person yX11_person ∈ sh_tb := (sh_w4 (sh_tl50 (sh_tl50 (sh_tl10 sh_hd))) rfl)
theorem pm_X11_person : (parseMethodDescriptor yX11_person.desc).map (fun d => d.parameters.length) = some 2 := by decide +kernel
theorem im_X11_list : Cond.instanceMethod yX11_list ∈ sh_tb := (sh_w4 (sh_tl50 (sh_tl50 (sh_tl10 (sh_tl1 (sh_tl1 (sh_tl1 sh_hd)))))) rfl)
theorem se_X11_list : Cond.selects yX11_list.cls yX11_list yX11_list ∈ sh_tb := (sh_w4 (sh_tl50 (sh_tl50 (sh_tl10 (sh_tl1 (sh_tl1 (sh_tl1 (sh_tl1 sh_hd))))))) rfl)
theorem pm_X11_list : (parseMethodDescriptor yX11_list.desc).map (fun d => d.parameters.length) = some 2 := by decide +kernel
theorem im_X11_would : Cond.instanceMethod yX11_would ∈ sh_tb := (sh_w4 (sh_tl50 (sh_tl50 (sh_tl10 (sh_tl1 (sh_tl1 (sh_tl1 (sh_tl1 (sh_tl1 (sh_tl1 (sh_tl1 sh_hd)))))))))) rfl)
theorem se_X11_would : Cond.selects yX11_would.cls yX11_would yX11_would ∈ sh_tb := (sh_w4 (sh_tl50 (sh_tl50 (sh_tl10 (sh_tl1 (sh_tl1 (sh_tl1 (sh_tl1 (sh_tl1 (sh_tl1 (sh_tl1 (sh_tl1 sh_hd))))))))))) rfl)
theorem pm_X11_would : (parseMethodDescriptor yX11_would.desc).map (fun d => d.parameters.length) = some 2 := by decide +kernel
theorem im_X11_kept : Cond.instanceMethod yX11_kept ∈ sh_tb := (sh_w4 (sh_tl50 (sh_tl50 (sh_tl50 (sh_tl10 (sh_tl1 sh_hd))))) rfl)
theorem se_X11_kept : Cond.selects yX11_kept.cls yX11_kept yX11_kept ∈ sh_tb := (sh_w4 (sh_tl50 (sh_tl50 (sh_tl50 (sh_tl10 (sh_tl1 (sh_tl1 sh_hd)))))) rfl)
theorem pm_X11_kept : (parseMethodDescriptor yX11_kept.desc).map (fun d => d.parameters.length) = some 2 := by decide +kernel
theorem im_X11_isAhead : Cond.instanceMethod yX11_isAhead ∈ sh_tb := (sh_w4 (sh_tl50 (sh_tl50 (sh_tl50 (sh_tl10 (sh_tl10 sh_hd))))) rfl)
theorem se_X11_isAhead : Cond.selects yX11_isAhead.cls yX11_isAhead yX11_isAhead ∈ sh_tb := (sh_wp3 (w := (⟨"ShrugHills", "isAhead", "(III)Z"⟩, _)) List.mem_cons_self)
theorem pm_X11_isAhead : (parseMethodDescriptor yX11_isAhead.desc).map (fun d => d.parameters.length) = some 3 := by decide +kernel
theorem im_X11_later : Cond.instanceMethod yX11_later ∈ sh_tb := (sh_w4 (sh_tl50 (sh_tl50 (sh_tl50 (sh_tl10 (sh_tl1 (sh_tl1 (sh_tl1 (sh_tl1 (sh_tl1 sh_hd))))))))) rfl)
theorem se_X11_later : Cond.selects yX11_later.cls yX11_later yX11_later ∈ sh_tb := (sh_w4 (sh_tl50 (sh_tl50 (sh_tl50 (sh_tl10 (sh_tl1 (sh_tl1 (sh_tl1 (sh_tl1 (sh_tl1 (sh_tl1 sh_hd)))))))))) rfl)
theorem pm_X11_later : (parseMethodDescriptor yX11_later.desc).map (fun d => d.parameters.length) = some 3 := by decide +kernel
theorem im_X11_tired : Cond.instanceMethod yX11_tired ∈ sh_tb := (sh_w4 (sh_tl50 (sh_tl50 (sh_tl50 (sh_tl50 (sh_tl10 (sh_tl1 (sh_tl1 (sh_tl1 (sh_tl1 (sh_tl1 sh_hd)))))))))) rfl)
theorem se_X11_tired : Cond.selects yX11_tired.cls yX11_tired yX11_tired ∈ sh_tb := (sh_w4 (sh_tl50 (sh_tl50 (sh_tl50 (sh_tl50 (sh_tl10 (sh_tl1 (sh_tl1 (sh_tl1 (sh_tl1 (sh_tl1 (sh_tl1 sh_hd))))))))))) rfl)
theorem pm_X11_tired : (parseMethodDescriptor yX11_tired.desc).map (fun d => d.parameters.length) = some 2 := by decide +kernel
theorem im_X11_rises : Cond.instanceMethod yX11_rises ∈ sh_tb := (sh_w4 (sh_tl50 (sh_tl50 (sh_tl50 (sh_tl50 (sh_tl10 (sh_tl1 (sh_tl1 (sh_tl1 (sh_tl1 (sh_tl1 (sh_tl1 (sh_tl1 (sh_tl1 (sh_tl1 sh_hd)))))))))))))) rfl)
theorem se_X11_rises : Cond.selects yX11_rises.cls yX11_rises yX11_rises ∈ sh_tb := (sh_w4 (sh_tl50 (sh_tl50 (sh_tl50 (sh_tl50 (sh_tl10 (sh_tl10 sh_hd)))))) rfl)
theorem pm_X11_rises : (parseMethodDescriptor yX11_rises.desc).map (fun d => d.parameters.length) = some 3 := by decide +kernel
theorem im_X11_plan : Cond.instanceMethod yX11_plan ∈ sh_tb := (sh_w4 (sh_tl50 (sh_tl50 (sh_tl50 (sh_tl50 (sh_tl10 (sh_tl10 (sh_tl1 (sh_tl1 (sh_tl1 (sh_tl1 (sh_tl1 (sh_tl1 (sh_tl1 sh_hd))))))))))))) rfl)
theorem se_X11_plan : Cond.selects yX11_plan.cls yX11_plan yX11_plan ∈ sh_tb := (sh_w4 (sh_tl50 (sh_tl50 (sh_tl50 (sh_tl50 (sh_tl10 (sh_tl10 (sh_tl1 (sh_tl1 (sh_tl1 (sh_tl1 (sh_tl1 (sh_tl1 (sh_tl1 (sh_tl1 sh_hd)))))))))))))) rfl)
theorem pm_X11_plan : (parseMethodDescriptor yX11_plan.desc).map (fun d => d.parameters.length) = some 4 := by decide +kernel
theorem im_X11_way : Cond.instanceMethod yX11_way ∈ sh_tb := (sh_w5 (sh_tl10 (sh_tl10 (sh_tl1 (sh_tl1 (sh_tl1 sh_hd))))) rfl)
theorem se_X11_way : Cond.selects yX11_way.cls yX11_way yX11_way ∈ sh_tb := (sh_w5 (sh_tl10 (sh_tl10 (sh_tl1 (sh_tl1 (sh_tl1 (sh_tl1 sh_hd)))))) rfl)
theorem pm_X11_way : (parseMethodDescriptor yX11_way.desc).map (fun d => d.parameters.length) = some 2 := by decide +kernel
theorem im_X11_pond : Cond.instanceMethod yX11_pond ∈ sh_tb := (sh_w5 (sh_tl10 (sh_tl10 (sh_tl10 (sh_tl10 (sh_tl1 (sh_tl1 (sh_tl1 (sh_tl1 (sh_tl1 (sh_tl1 sh_hd)))))))))) rfl)
theorem se_X11_pond : Cond.selects yX11_pond.cls yX11_pond yX11_pond ∈ sh_tb := (sh_w5 (sh_tl10 (sh_tl10 (sh_tl10 (sh_tl10 (sh_tl1 (sh_tl1 (sh_tl1 (sh_tl1 (sh_tl1 (sh_tl1 (sh_tl1 sh_hd))))))))))) rfl)
theorem pm_X11_pond : (parseMethodDescriptor yX11_pond.desc).map (fun d => d.parameters.length) = some 2 := by decide +kernel
theorem im_X11_keeps : Cond.instanceMethod yX11_keeps ∈ sh_tb := (sh_w5 (sh_tl50 (sh_tl1 (sh_tl1 (sh_tl1 (sh_tl1 (sh_tl1 (sh_tl1 (sh_tl1 (sh_tl1 sh_hd))))))))) rfl)
theorem se_X11_keeps : Cond.selects yX11_keeps.cls yX11_keeps yX11_keeps ∈ sh_tb := (sh_w5 (sh_tl50 (sh_tl1 (sh_tl1 (sh_tl1 (sh_tl1 (sh_tl1 (sh_tl1 (sh_tl1 (sh_tl1 (sh_tl1 sh_hd)))))))))) rfl)
theorem pm_X11_keeps : (parseMethodDescriptor yX11_keeps.desc).map (fun d => d.parameters.length) = some 3 := by decide +kernel
theorem im_X11_rest : Cond.instanceMethod yX11_rest ∈ sh_tb := (sh_w5 (sh_tl50 (sh_tl10 (sh_tl1 (sh_tl1 (sh_tl1 sh_hd))))) rfl)
theorem se_X11_rest : Cond.selects yX11_rest.cls yX11_rest yX11_rest ∈ sh_tb := (sh_w5 (sh_tl50 (sh_tl10 (sh_tl1 (sh_tl1 (sh_tl1 (sh_tl1 sh_hd)))))) rfl)
theorem pm_X11_rest : (parseMethodDescriptor yX11_rest.desc).map (fun d => d.parameters.length) = some 1 := by decide +kernel
theorem im_X11_see : Cond.instanceMethod yX11_see ∈ sh_tb := (sh_w5 (sh_tl50 (sh_tl10 (sh_tl10 (sh_tl1 (sh_tl1 (sh_tl1 (sh_tl1 (sh_tl1 (sh_tl1 sh_hd))))))))) rfl)
theorem se_X11_see : Cond.selects yX11_see.cls yX11_see yX11_see ∈ sh_tb := (sh_w5 (sh_tl50 (sh_tl10 (sh_tl10 (sh_tl1 (sh_tl1 (sh_tl1 (sh_tl1 (sh_tl1 (sh_tl1 (sh_tl1 sh_hd)))))))))) rfl)
theorem pm_X11_see : (parseMethodDescriptor yX11_see.desc).map (fun d => d.parameters.length) = some 0 := by decide +kernel
theorem im_X11_isSeen : Cond.instanceMethod yX11_isSeen ∈ sh_tb := (sh_w5 (sh_tl50 (sh_tl10 (sh_tl10 (sh_tl10 (sh_tl1 sh_hd))))) rfl)
theorem se_X11_isSeen : Cond.selects yX11_isSeen.cls yX11_isSeen yX11_isSeen ∈ sh_tb := (sh_wp3 (w := (⟨"ShrugHills", "isSeen", "(I)Z"⟩, _)) (List.mem_cons_of_mem _ (List.mem_cons_of_mem _ (List.mem_cons_of_mem _ (List.mem_cons_of_mem _ (List.mem_cons_of_mem _ (List.mem_cons_of_mem _ (List.mem_cons_of_mem _ (List.mem_cons_of_mem _ (List.mem_cons_of_mem _ (List.mem_cons_of_mem _ List.mem_cons_self)))))))))))
theorem pm_X11_isSeen : (parseMethodDescriptor yX11_isSeen.desc).map (fun d => d.parameters.length) = some 1 := by decide +kernel
theorem im_X11_who : Cond.instanceMethod yX11_who ∈ sh_tb := (sh_w5 (sh_tl50 (sh_tl10 (sh_tl10 (sh_tl10 (sh_tl1 (sh_tl1 (sh_tl1 (sh_tl1 (sh_tl1 sh_hd))))))))) rfl)
theorem se_X11_who : Cond.selects yX11_who.cls yX11_who yX11_who ∈ sh_tb := (sh_w5 (sh_tl50 (sh_tl10 (sh_tl10 (sh_tl10 (sh_tl1 (sh_tl1 (sh_tl1 (sh_tl1 (sh_tl1 (sh_tl1 sh_hd)))))))))) rfl)
theorem pm_X11_who : (parseMethodDescriptor yX11_who.desc).map (fun d => d.parameters.length) = some 1 := by decide +kernel
theorem im_X11_tells : Cond.instanceMethod yX11_tells ∈ sh_tb := (sh_w5 (sh_tl50 (sh_tl50 (sh_tl1 (sh_tl1 sh_hd)))) rfl)
theorem se_X11_tells : Cond.selects yX11_tells.cls yX11_tells yX11_tells ∈ sh_tb := (sh_w5 (sh_tl50 (sh_tl50 (sh_tl1 (sh_tl1 (sh_tl1 sh_hd))))) rfl)
theorem pm_X11_tells : (parseMethodDescriptor yX11_tells.desc).map (fun d => d.parameters.length) = some 2 := by decide +kernel
theorem im_X11_asks : Cond.instanceMethod yX11_asks ∈ sh_tb := (sh_w5 (sh_tl50 (sh_tl50 (sh_tl10 (sh_tl1 (sh_tl1 (sh_tl1 (sh_tl1 (sh_tl1 sh_hd)))))))) rfl)
theorem se_X11_asks : Cond.selects yX11_asks.cls yX11_asks yX11_asks ∈ sh_tb := (sh_w5 (sh_tl50 (sh_tl50 (sh_tl10 (sh_tl1 (sh_tl1 (sh_tl1 (sh_tl1 (sh_tl1 (sh_tl1 sh_hd))))))))) rfl)
theorem pm_X11_asks : (parseMethodDescriptor yX11_asks.desc).map (fun d => d.parameters.length) = some 2 := by decide +kernel
theorem im_X11_askNow : Cond.instanceMethod yX11_askNow ∈ sh_tb := (sh_w5 (sh_tl50 (sh_tl50 (sh_tl10 (sh_tl10 (sh_tl1 (sh_tl1 (sh_tl1 (sh_tl1 (sh_tl1 (sh_tl1 sh_hd)))))))))) rfl)
theorem se_X11_askNow : Cond.selects yX11_askNow.cls yX11_askNow yX11_askNow ∈ sh_tb := (sh_wp3 (w := (⟨"ShrugHills", "askNow", "(II)I"⟩, _)) (List.mem_cons_of_mem _ (List.mem_cons_of_mem _ (List.mem_cons_of_mem _ (List.mem_cons_of_mem _ (List.mem_cons_of_mem _ (List.mem_cons_of_mem _ (List.mem_cons_of_mem _ (List.mem_cons_of_mem _ (List.mem_cons_of_mem _ (List.mem_cons_of_mem _ (List.mem_cons_of_mem _ (List.mem_cons_of_mem _ (List.mem_cons_of_mem _ (List.mem_cons_of_mem _ List.mem_cons_self)))))))))))))))
theorem pm_X11_askNow : (parseMethodDescriptor yX11_askNow.desc).map (fun d => d.parameters.length) = some 2 := by decide +kernel
theorem im_X11_teach : Cond.instanceMethod yX11_teach ∈ sh_tb := (sh_w5 (sh_tl50 (sh_tl50 (sh_tl10 (sh_tl10 (sh_tl10 (sh_tl1 (sh_tl1 (sh_tl1 (sh_tl1 sh_hd))))))))) rfl)
theorem se_X11_teach : Cond.selects yX11_teach.cls yX11_teach yX11_teach ∈ sh_tb := (sh_w5 (sh_tl50 (sh_tl50 (sh_tl10 (sh_tl10 (sh_tl10 (sh_tl1 (sh_tl1 (sh_tl1 (sh_tl1 (sh_tl1 sh_hd)))))))))) rfl)
theorem pm_X11_teach : (parseMethodDescriptor yX11_teach.desc).map (fun d => d.parameters.length) = some 3 := by decide +kernel
theorem im_X11_go : Cond.instanceMethod yX11_go ∈ sh_tb := (sh_w5 (sh_tl50 (sh_tl50 (sh_tl10 (sh_tl10 (sh_tl10 (sh_tl1 (sh_tl1 (sh_tl1 (sh_tl1 (sh_tl1 (sh_tl1 (sh_tl1 (sh_tl1 sh_hd))))))))))))) rfl)
theorem se_X11_go : Cond.selects yX11_go.cls yX11_go yX11_go ∈ sh_tb := (sh_w5 (sh_tl50 (sh_tl50 (sh_tl10 (sh_tl10 (sh_tl10 (sh_tl1 (sh_tl1 (sh_tl1 (sh_tl1 (sh_tl1 (sh_tl1 (sh_tl1 (sh_tl1 (sh_tl1 sh_hd)))))))))))))) rfl)
theorem pm_X11_go : (parseMethodDescriptor yX11_go.desc).map (fun d => d.parameters.length) = some 3 := by decide +kernel
theorem im_X11_ease : Cond.instanceMethod yX11_ease ∈ sh_tb := (sh_w5 (sh_tl50 (sh_tl50 (sh_tl10 (sh_tl10 (sh_tl10 (sh_tl10 (sh_tl1 (sh_tl1 (sh_tl1 sh_hd))))))))) rfl)
theorem se_X11_ease : Cond.selects yX11_ease.cls yX11_ease yX11_ease ∈ sh_tb := (sh_w5 (sh_tl50 (sh_tl50 (sh_tl10 (sh_tl10 (sh_tl10 (sh_tl10 (sh_tl1 (sh_tl1 (sh_tl1 (sh_tl1 sh_hd)))))))))) rfl)
theorem pm_X11_ease : (parseMethodDescriptor yX11_ease.desc).map (fun d => d.parameters.length) = some 1 := by decide +kernel
theorem im_X11_days : Cond.instanceMethod yX11_days ∈ sh_tb := (sh_w5 (sh_tl50 (sh_tl50 (sh_tl10 (sh_tl10 (sh_tl10 (sh_tl10 (sh_tl1 (sh_tl1 (sh_tl1 (sh_tl1 (sh_tl1 (sh_tl1 (sh_tl1 sh_hd))))))))))))) rfl)
theorem se_X11_days : Cond.selects yX11_days.cls yX11_days yX11_days ∈ sh_tb := (sh_w5 (sh_tl50 (sh_tl50 (sh_tl10 (sh_tl10 (sh_tl10 (sh_tl10 (sh_tl1 (sh_tl1 (sh_tl1 (sh_tl1 (sh_tl1 (sh_tl1 (sh_tl1 (sh_tl1 sh_hd)))))))))))))) rfl)
theorem pm_X11_days : (parseMethodDescriptor yX11_days.desc).map (fun d => d.parameters.length) = some 1 := by decide +kernel
theorem im_X11_dayNow : Cond.instanceMethod yX11_dayNow ∈ sh_tb := (sh_w5 (sh_tl50 (sh_tl50 (sh_tl50 (sh_tl1 (sh_tl1 sh_hd))))) rfl)
theorem se_X11_dayNow : Cond.selects yX11_dayNow.cls yX11_dayNow yX11_dayNow ∈ sh_tb := (sh_wp3 (w := (⟨"ShrugHills", "dayNow", "()I"⟩, _)) (List.mem_cons_of_mem _ (List.mem_cons_of_mem _ (List.mem_cons_of_mem _ (List.mem_cons_of_mem _ (List.mem_cons_of_mem _ (List.mem_cons_of_mem _ (List.mem_cons_of_mem _ (List.mem_cons_of_mem _ (List.mem_cons_of_mem _ (List.mem_cons_of_mem _ (List.mem_cons_of_mem _ (List.mem_cons_of_mem _ (List.mem_cons_of_mem _ (List.mem_cons_of_mem _ (List.mem_cons_of_mem _ List.mem_cons_self))))))))))))))))
theorem pm_X11_dayNow : (parseMethodDescriptor yX11_dayNow.desc).map (fun d => d.parameters.length) = some 0 := by decide +kernel
theorem im_X11_chance : Cond.instanceMethod yX11_chance ∈ sh_tb := (sh_w5 (sh_tl50 (sh_tl50 (sh_tl50 (sh_tl1 (sh_tl1 (sh_tl1 (sh_tl1 (sh_tl1 (sh_tl1 sh_hd))))))))) rfl)
theorem se_X11_chance : Cond.selects yX11_chance.cls yX11_chance yX11_chance ∈ sh_tb := (sh_w5 (sh_tl50 (sh_tl50 (sh_tl50 (sh_tl1 (sh_tl1 (sh_tl1 (sh_tl1 (sh_tl1 (sh_tl1 (sh_tl1 sh_hd)))))))))) rfl)
theorem pm_X11_chance : (parseMethodDescriptor yX11_chance.desc).map (fun d => d.parameters.length) = some 1 := by decide +kernel
theorem im_X11_crowdNow : Cond.instanceMethod yX11_crowdNow ∈ sh_tb := (sh_w5 (sh_tl50 (sh_tl50 (sh_tl50 (sh_tl10 (sh_tl1 sh_hd))))) rfl)
theorem se_X11_crowdNow : Cond.selects yX11_crowdNow.cls yX11_crowdNow yX11_crowdNow ∈ sh_tb := (sh_wp4 (w := (⟨"ShrugHills", "crowdNow", "()I"⟩, _)) List.mem_cons_self)
theorem pm_X11_crowdNow : (parseMethodDescriptor yX11_crowdNow.desc).map (fun d => d.parameters.length) = some 0 := by decide +kernel
theorem im_X11_draw : Cond.instanceMethod yX11_draw ∈ sh_tb := (sh_w5 (sh_tl50 (sh_tl50 (sh_tl50 (sh_tl10 (sh_tl1 (sh_tl1 (sh_tl1 (sh_tl1 (sh_tl1 sh_hd))))))))) rfl)
theorem se_X11_draw : Cond.selects yX11_draw.cls yX11_draw yX11_draw ∈ sh_tb := (sh_wp4 (w := (⟨"ShrugHills", "draw", "(I)I"⟩, _)) (List.mem_cons_of_mem _ List.mem_cons_self))
theorem pm_X11_draw : (parseMethodDescriptor yX11_draw.desc).map (fun d => d.parameters.length) = some 1 := by decide +kernel
theorem im_X11_undo : Cond.instanceMethod yX11_undo ∈ sh_tb := (sh_w5 (sh_tl50 (sh_tl50 (sh_tl50 (sh_tl10 (sh_tl10 (sh_tl1 (sh_tl1 sh_hd))))))) rfl)
theorem se_X11_undo : Cond.selects yX11_undo.cls yX11_undo yX11_undo ∈ sh_tb := (sh_w5 (sh_tl50 (sh_tl50 (sh_tl50 (sh_tl10 (sh_tl10 (sh_tl1 (sh_tl1 (sh_tl1 sh_hd)))))))) rfl)
theorem pm_X11_undo : (parseMethodDescriptor yX11_undo.desc).map (fun d => d.parameters.length) = some 0 := by decide +kernel
theorem im_X11_seed : Cond.instanceMethod yX11_seed ∈ sh_tb := (sh_w5 (sh_tl50 (sh_tl50 (sh_tl50 (sh_tl10 (sh_tl10 (sh_tl10 sh_hd)))))) rfl)
theorem se_X11_seed : Cond.selects yX11_seed.cls yX11_seed yX11_seed ∈ sh_tb := (sh_w5 (sh_tl50 (sh_tl50 (sh_tl50 (sh_tl10 (sh_tl10 (sh_tl10 (sh_tl1 sh_hd))))))) rfl)
theorem pm_X11_seed : (parseMethodDescriptor yX11_seed.desc).map (fun d => d.parameters.length) = some 1 := by decide +kernel
theorem im_X11_ask : Cond.instanceMethod yX11_ask ∈ sh_tb := (sh_w5 (sh_tl50 (sh_tl50 (sh_tl50 (sh_tl10 (sh_tl10 (sh_tl10 (sh_tl1 (sh_tl1 (sh_tl1 (sh_tl1 sh_hd)))))))))) rfl)
theorem se_X11_ask : Cond.selects yX11_ask.cls yX11_ask yX11_ask ∈ sh_tb := (sh_w5 (sh_tl50 (sh_tl50 (sh_tl50 (sh_tl10 (sh_tl10 (sh_tl10 (sh_tl1 (sh_tl1 (sh_tl1 (sh_tl1 (sh_tl1 sh_hd))))))))))) rfl)
theorem pm_X11_ask : (parseMethodDescriptor yX11_ask.desc).map (fun d => d.parameters.length) = some 0 := by decide +kernel
theorem im_X11_answer : Cond.instanceMethod yX11_answer ∈ sh_tb := (sh_w5 (sh_tl50 (sh_tl50 (sh_tl50 (sh_tl10 (sh_tl10 (sh_tl10 (sh_tl10 (sh_tl1 (sh_tl1 (sh_tl1 (sh_tl1 (sh_tl1 sh_hd)))))))))))) rfl)
theorem se_X11_answer : Cond.selects yX11_answer.cls yX11_answer yX11_answer ∈ sh_tb := (sh_wp4 (w := (⟨"ShrugHills", "answer", "(I)J"⟩, _)) (List.mem_cons_of_mem _ (List.mem_cons_of_mem _ List.mem_cons_self)))
theorem pm_X11_answer : (parseMethodDescriptor yX11_answer.desc).map (fun d => d.parameters.length) = some 1 := by decide +kernel
theorem sm_X11_joined : Cond.static yX11_joined ∈ sh_tb := (sh_w5 (sh_tl50 (sh_tl50 (sh_tl50 (sh_tl50 (sh_tl1 (sh_tl1 (sh_tl1 (sh_tl1 (sh_tl1 (sh_tl1 sh_hd)))))))))) rfl)
theorem pm_X11_joined : (parseMethodDescriptor yX11_joined.desc).map (fun d => d.parameters.length) = some 4 := by decide +kernel
theorem im_X11_image : Cond.instanceMethod yX11_image ∈ sh_tb := (sh_w5 (sh_tl50 (sh_tl50 (sh_tl50 (sh_tl50 (sh_tl1 (sh_tl1 (sh_tl1 (sh_tl1 (sh_tl1 (sh_tl1 (sh_tl1 (sh_tl1 (sh_tl1 sh_hd))))))))))))) rfl)
theorem se_X11_image : Cond.selects yX11_image.cls yX11_image yX11_image ∈ sh_tb := (sh_w5 (sh_tl50 (sh_tl50 (sh_tl50 (sh_tl50 (sh_tl10 sh_hd))))) rfl)
theorem pm_X11_image : (parseMethodDescriptor yX11_image.desc).map (fun d => d.parameters.length) = some 0 := by decide +kernel
theorem sm_X11_checkOf : Cond.static yX11_checkOf ∈ sh_tb := (sh_w5 (sh_tl50 (sh_tl50 (sh_tl50 (sh_tl50 (sh_tl10 (sh_tl1 (sh_tl1 (sh_tl1 sh_hd)))))))) rfl)
theorem pm_X11_checkOf : (parseMethodDescriptor yX11_checkOf.desc).map (fun d => d.parameters.length) = some 2 := by decide +kernel
theorem im_X11_octet : Cond.instanceMethod yX11_octet ∈ sh_tb := (sh_w5 (sh_tl50 (sh_tl50 (sh_tl50 (sh_tl50 (sh_tl10 (sh_tl1 (sh_tl1 (sh_tl1 (sh_tl1 (sh_tl1 (sh_tl1 sh_hd))))))))))) rfl)
theorem se_X11_octet : Cond.selects yX11_octet.cls yX11_octet yX11_octet ∈ sh_tb := (sh_w5 (sh_tl50 (sh_tl50 (sh_tl50 (sh_tl50 (sh_tl10 (sh_tl1 (sh_tl1 (sh_tl1 (sh_tl1 (sh_tl1 (sh_tl1 (sh_tl1 sh_hd)))))))))))) rfl)
theorem pm_X11_octet : (parseMethodDescriptor yX11_octet.desc).map (fun d => d.parameters.length) = some 1 := by decide +kernel
theorem im_X11_on : Cond.instanceMethod yX11_on ∈ sh_tb := (sh_w5 (sh_tl50 (sh_tl50 (sh_tl50 (sh_tl50 (sh_tl10 (sh_tl10 sh_hd)))))) rfl)
theorem se_X11_on : Cond.selects yX11_on.cls yX11_on yX11_on ∈ sh_tb := (sh_w5 (sh_tl50 (sh_tl50 (sh_tl50 (sh_tl50 (sh_tl10 (sh_tl10 (sh_tl1 sh_hd))))))) rfl)
theorem pm_X11_on : (parseMethodDescriptor yX11_on.desc).map (fun d => d.parameters.length) = some 0 := by decide +kernel
theorem im_X11_isImage : Cond.instanceMethod yX11_isImage ∈ sh_tb := (sh_w5 (sh_tl50 (sh_tl50 (sh_tl50 (sh_tl50 (sh_tl10 (sh_tl10 (sh_tl1 (sh_tl1 (sh_tl1 (sh_tl1 (sh_tl1 sh_hd))))))))))) rfl)
theorem se_X11_isImage : Cond.selects yX11_isImage.cls yX11_isImage yX11_isImage ∈ sh_tb := (sh_wp4 (w := (⟨"ShrugHills", "isImage", "(I)Z"⟩, _)) (List.mem_cons_of_mem _ (List.mem_cons_of_mem _ (List.mem_cons_of_mem _ List.mem_cons_self))))
theorem pm_X11_isImage : (parseMethodDescriptor yX11_isImage.desc).map (fun d => d.parameters.length) = some 1 := by decide +kernel
theorem im_X11_isPersonTold : Cond.instanceMethod yX11_isPersonTold ∈ sh_tb := (sh_w5 (sh_tl50 (sh_tl50 (sh_tl50 (sh_tl50 (sh_tl10 (sh_tl10 (sh_tl1 (sh_tl1 (sh_tl1 (sh_tl1 (sh_tl1 (sh_tl1 (sh_tl1 (sh_tl1 (sh_tl1 sh_hd))))))))))))))) rfl)
theorem se_X11_isPersonTold : Cond.selects yX11_isPersonTold.cls yX11_isPersonTold yX11_isPersonTold ∈ sh_tb := (sh_wp4 (w := (⟨"ShrugHills", "isPersonTold", "(II)Z"⟩, _)) (List.mem_cons_of_mem _ (List.mem_cons_of_mem _ (List.mem_cons_of_mem _ (List.mem_cons_of_mem _ List.mem_cons_self)))))
theorem pm_X11_isPersonTold : (parseMethodDescriptor yX11_isPersonTold.desc).map (fun d => d.parameters.length) = some 2 := by decide +kernel
theorem im_X11_status : Cond.instanceMethod yX11_status ∈ sh_tb := (sh_w5 (sh_tl50 (sh_tl50 (sh_tl50 (sh_tl50 (sh_tl10 (sh_tl10 (sh_tl10 (sh_tl1 (sh_tl1 sh_hd))))))))) rfl)
theorem se_X11_status : Cond.selects yX11_status.cls yX11_status yX11_status ∈ sh_tb := (sh_w5 (sh_tl50 (sh_tl50 (sh_tl50 (sh_tl50 (sh_tl10 (sh_tl10 (sh_tl10 (sh_tl1 (sh_tl1 (sh_tl1 sh_hd)))))))))) rfl)
theorem pm_X11_status : (parseMethodDescriptor yX11_status.desc).map (fun d => d.parameters.length) = some 1 := by decide +kernel
theorem im_X12_init : Cond.instanceMethod yX12_init ∈ sh_tb := (sh_w5 (sh_tl50 (sh_tl50 (sh_tl50 (sh_tl50 (sh_tl10 (sh_tl10 (sh_tl10 (sh_tl1 (sh_tl1 (sh_tl1 (sh_tl1 (sh_tl1 (sh_tl1 (sh_tl1 (sh_tl1 sh_hd))))))))))))))) rfl)
theorem pm_X12_init : (parseMethodDescriptor yX12_init.desc).map (fun d => d.parameters.length) = some 0 := by decide +kernel
theorem sm_X12_isIn : Cond.static yX12_isIn ∈ sh_tb := (sh_w7 (sh_tl50 (sh_tl50 (sh_tl50 (sh_tl1 (sh_tl1 sh_hd))))) rfl)
theorem pm_X12_isIn : (parseMethodDescriptor yX12_isIn.desc).map (fun d => d.parameters.length) = some 3 := by decide +kernel
theorem sm_X12_cut : Cond.static yX12_cut ∈ sh_tb := (sh_w8 (sh_tl50 (sh_tl50 (sh_tl50 (sh_tl50 (sh_tl1 (sh_tl1 (sh_tl1 (sh_tl1 (sh_tl1 (sh_tl1 (sh_tl1 (sh_tl1 (sh_tl1 sh_hd))))))))))))) rfl)
theorem pm_X12_cut : (parseMethodDescriptor yX12_cut.desc).map (fun d => d.parameters.length) = some 1 := by decide +kernel
theorem im_X12_feed : Cond.instanceMethod yX12_feed ∈ sh_tb := (sh_w7 (sh_tl50 (sh_tl50 (sh_tl1 (sh_tl1 (sh_tl1 (sh_tl1 (sh_tl1 (sh_tl1 sh_hd)))))))) rfl)
theorem se_X12_feed : Cond.selects yX12_feed.cls yX12_feed yX12_feed ∈ sh_tb := (sh_w7 (sh_tl50 (sh_tl50 (sh_tl1 (sh_tl1 (sh_tl1 (sh_tl1 (sh_tl1 (sh_tl1 (sh_tl1 sh_hd))))))))) rfl)
theorem pm_X12_feed : (parseMethodDescriptor yX12_feed.desc).map (fun d => d.parameters.length) = some 5 := by decide +kernel
theorem im_X12_end : Cond.instanceMethod yX12_end ∈ sh_tb := (sh_w7 (sh_tl50 (sh_tl50 (sh_tl10 sh_hd))) rfl)
theorem se_X12_end : Cond.selects yX12_end.cls yX12_end yX12_end ∈ sh_tb := (sh_w7 (sh_tl50 (sh_tl50 (sh_tl10 (sh_tl1 sh_hd)))) rfl)
theorem pm_X12_end : (parseMethodDescriptor yX12_end.desc).map (fun d => d.parameters.length) = some 1 := by decide +kernel
theorem im_X12_fail : Cond.instanceMethod yX12_fail ∈ sh_tb := (sh_w7 (sh_tl50 (sh_tl50 (sh_tl10 (sh_tl10 (sh_tl10 (sh_tl10 (sh_tl1 (sh_tl1 sh_hd)))))))) rfl)
theorem se_X12_fail : Cond.selects yX12_fail.cls yX12_fail yX12_fail ∈ sh_tb := (sh_wp4 (w := (⟨"ShrugHillsModel", "fail", "(II)V"⟩, _)) (List.mem_cons_of_mem _ (List.mem_cons_of_mem _ (List.mem_cons_of_mem _ (List.mem_cons_of_mem _ (List.mem_cons_of_mem _ (List.mem_cons_of_mem _ (List.mem_cons_of_mem _ (List.mem_cons_of_mem _ (List.mem_cons_of_mem _ (List.mem_cons_of_mem _ List.mem_cons_self)))))))))))
theorem pm_X12_fail : (parseMethodDescriptor yX12_fail.desc).map (fun d => d.parameters.length) = some 2 := by decide +kernel
theorem sm_X12_isLetter : Cond.static yX12_isLetter ∈ sh_tb := (sh_w7 (sh_tl50 (sh_tl50 (sh_tl10 (sh_tl10 (sh_tl10 (sh_tl1 (sh_tl1 (sh_tl1 (sh_tl1 (sh_tl1 (sh_tl1 (sh_tl1 (sh_tl1 sh_hd))))))))))))) rfl)
theorem pm_X12_isLetter : (parseMethodDescriptor yX12_isLetter.desc).map (fun d => d.parameters.length) = some 1 := by decide +kernel
theorem sm_X12_isDigit : Cond.static yX12_isDigit ∈ sh_tb := (sh_w7 (sh_tl50 (sh_tl50 (sh_tl10 (sh_tl10 (sh_tl10 (sh_tl10 (sh_tl1 (sh_tl1 (sh_tl1 (sh_tl1 (sh_tl1 (sh_tl1 (sh_tl1 (sh_tl1 (sh_tl1 sh_hd))))))))))))))) rfl)
theorem pm_X12_isDigit : (parseMethodDescriptor yX12_isDigit.desc).map (fun d => d.parameters.length) = some 1 := by decide +kernel
theorem im_X12_look : Cond.instanceMethod yX12_look ∈ sh_tb := (sh_w7 (sh_tl50 (sh_tl50 (sh_tl10 (sh_tl10 (sh_tl10 (sh_tl1 (sh_tl1 (sh_tl1 (sh_tl1 (sh_tl1 sh_hd)))))))))) rfl)
theorem se_X12_look : Cond.selects yX12_look.cls yX12_look yX12_look ∈ sh_tb := (sh_wp4 (w := (⟨"ShrugHillsModel", "look", "()I"⟩, _)) (List.mem_cons_of_mem _ (List.mem_cons_of_mem _ (List.mem_cons_of_mem _ (List.mem_cons_of_mem _ (List.mem_cons_of_mem _ (List.mem_cons_of_mem _ (List.mem_cons_of_mem _ (List.mem_cons_of_mem _ (List.mem_cons_of_mem _ List.mem_cons_self))))))))))
theorem pm_X12_look : (parseMethodDescriptor yX12_look.desc).map (fun d => d.parameters.length) = some 0 := by decide +kernel
theorem im_X12_isHere : Cond.instanceMethod yX12_isHere ∈ sh_tb := (sh_w7 (sh_tl50 (sh_tl50 (sh_tl10 (sh_tl10 (sh_tl10 (sh_tl1 sh_hd)))))) rfl)
theorem se_X12_isHere : Cond.selects yX12_isHere.cls yX12_isHere yX12_isHere ∈ sh_tb := (sh_wp4 (w := (⟨"ShrugHillsModel", "isHere", "([C)Z"⟩, _)) (List.mem_cons_of_mem _ (List.mem_cons_of_mem _ (List.mem_cons_of_mem _ (List.mem_cons_of_mem _ (List.mem_cons_of_mem _ (List.mem_cons_of_mem _ (List.mem_cons_of_mem _ (List.mem_cons_of_mem _ List.mem_cons_self)))))))))
theorem pm_X12_isHere : (parseMethodDescriptor yX12_isHere.desc).map (fun d => d.parameters.length) = some 1 := by decide +kernel
theorem im_X12_takes : Cond.instanceMethod yX12_takes ∈ sh_tb := (sh_w7 (sh_tl50 (sh_tl50 (sh_tl10 (sh_tl10 (sh_tl1 (sh_tl1 (sh_tl1 (sh_tl1 (sh_tl1 (sh_tl1 (sh_tl1 sh_hd))))))))))) rfl)
theorem se_X12_takes : Cond.selects yX12_takes.cls yX12_takes yX12_takes ∈ sh_tb := (sh_wp4 (w := (⟨"ShrugHillsModel", "takes", "([C)Z"⟩, _)) (List.mem_cons_of_mem _ (List.mem_cons_of_mem _ (List.mem_cons_of_mem _ (List.mem_cons_of_mem _ (List.mem_cons_of_mem _ (List.mem_cons_of_mem _ (List.mem_cons_of_mem _ List.mem_cons_self))))))))
theorem pm_X12_takes : (parseMethodDescriptor yX12_takes.desc).map (fun d => d.parameters.length) = some 1 := by decide +kernel
theorem im_X12_needs : Cond.instanceMethod yX12_needs ∈ sh_tb := (sh_w7 (sh_tl50 (sh_tl50 (sh_tl10 (sh_tl10 (sh_tl1 (sh_tl1 (sh_tl1 sh_hd))))))) rfl)
theorem se_X12_needs : Cond.selects yX12_needs.cls yX12_needs yX12_needs ∈ sh_tb := (sh_wp4 (w := (⟨"ShrugHillsModel", "needs", "([C)V"⟩, _)) (List.mem_cons_of_mem _ (List.mem_cons_of_mem _ (List.mem_cons_of_mem _ (List.mem_cons_of_mem _ (List.mem_cons_of_mem _ (List.mem_cons_of_mem _ List.mem_cons_self)))))))
theorem pm_X12_needs : (parseMethodDescriptor yX12_needs.desc).map (fun d => d.parameters.length) = some 1 := by decide +kernel
theorem im_X12_takesSign : Cond.instanceMethod yX12_takesSign ∈ sh_tb := (sh_w7 (sh_tl50 (sh_tl50 (sh_tl50 (sh_tl10 sh_hd)))) rfl)
theorem se_X12_takesSign : Cond.selects yX12_takesSign.cls yX12_takesSign yX12_takesSign ∈ sh_tb := (sh_wp4 (w := (⟨"ShrugHillsModel", "takesSign", "(I)Z"⟩, _)) (List.mem_cons_of_mem _ (List.mem_cons_of_mem _ (List.mem_cons_of_mem _ (List.mem_cons_of_mem _ (List.mem_cons_of_mem _ (List.mem_cons_of_mem _ (List.mem_cons_of_mem _ (List.mem_cons_of_mem _ (List.mem_cons_of_mem _ (List.mem_cons_of_mem _ (List.mem_cons_of_mem _ (List.mem_cons_of_mem _ (List.mem_cons_of_mem _ List.mem_cons_self))))))))))))))
theorem pm_X12_takesSign : (parseMethodDescriptor yX12_takesSign.desc).map (fun d => d.parameters.length) = some 1 := by decide +kernel
theorem im_X12_asksSign : Cond.instanceMethod yX12_asksSign ∈ sh_tb := (sh_w7 (sh_tl50 (sh_tl50 (sh_tl50 (sh_tl1 (sh_tl1 (sh_tl1 (sh_tl1 (sh_tl1 (sh_tl1 sh_hd))))))))) rfl)
theorem se_X12_asksSign : Cond.selects yX12_asksSign.cls yX12_asksSign yX12_asksSign ∈ sh_tb := (sh_wp4 (w := (⟨"ShrugHillsModel", "asksSign", "(I)V"⟩, _)) (List.mem_cons_of_mem _ (List.mem_cons_of_mem _ (List.mem_cons_of_mem _ (List.mem_cons_of_mem _ (List.mem_cons_of_mem _ (List.mem_cons_of_mem _ (List.mem_cons_of_mem _ (List.mem_cons_of_mem _ (List.mem_cons_of_mem _ (List.mem_cons_of_mem _ (List.mem_cons_of_mem _ (List.mem_cons_of_mem _ List.mem_cons_self)))))))))))))
theorem pm_X12_asksSign : (parseMethodDescriptor yX12_asksSign.desc).map (fun d => d.parameters.length) = some 1 := by decide +kernel
theorem im_X12_number : Cond.instanceMethod yX12_number ∈ sh_tb := (sh_w7 (sh_tl50 (sh_tl50 (sh_tl10 (sh_tl10 (sh_tl10 (sh_tl10 (sh_tl1 (sh_tl1 (sh_tl1 (sh_tl1 (sh_tl1 (sh_tl1 sh_hd)))))))))))) rfl)
theorem se_X12_number : Cond.selects yX12_number.cls yX12_number yX12_number ∈ sh_tb := (sh_wp4 (w := (⟨"ShrugHillsModel", "number", "(II)I"⟩, _)) (List.mem_cons_of_mem _ (List.mem_cons_of_mem _ (List.mem_cons_of_mem _ (List.mem_cons_of_mem _ (List.mem_cons_of_mem _ (List.mem_cons_of_mem _ (List.mem_cons_of_mem _ (List.mem_cons_of_mem _ (List.mem_cons_of_mem _ (List.mem_cons_of_mem _ (List.mem_cons_of_mem _ List.mem_cons_self))))))))))))
theorem pm_X12_number : (parseMethodDescriptor yX12_number.desc).map (fun d => d.parameters.length) = some 2 := by decide +kernel
theorem im_X12_isOwnHere : Cond.instanceMethod yX12_isOwnHere ∈ sh_tb := (sh_w7 (sh_tl50 (sh_tl50 (sh_tl50 (sh_tl10 (sh_tl10 (sh_tl10 (sh_tl10 (sh_tl1 (sh_tl1 sh_hd))))))))) rfl)
theorem se_X12_isOwnHere : Cond.selects yX12_isOwnHere.cls yX12_isOwnHere yX12_isOwnHere ∈ sh_tb := (sh_wp5 (w := (⟨"ShrugHillsModel", "isOwnHere", "()Z"⟩, _)) (List.mem_cons_of_mem _ (List.mem_cons_of_mem _ (List.mem_cons_of_mem _ (List.mem_cons_of_mem _ (List.mem_cons_of_mem _ List.mem_cons_self))))))
theorem pm_X12_isOwnHere : (parseMethodDescriptor yX12_isOwnHere.desc).map (fun d => d.parameters.length) = some 0 := by decide +kernel
theorem im_X12_name : Cond.instanceMethod yX12_name ∈ sh_tb := (sh_w7 (sh_tl50 (sh_tl50 (sh_tl50 (sh_tl10 (sh_tl10 (sh_tl10 (sh_tl1 (sh_tl1 (sh_tl1 (sh_tl1 (sh_tl1 (sh_tl1 (sh_tl1 (sh_tl1 sh_hd)))))))))))))) rfl)
theorem se_X12_name : Cond.selects yX12_name.cls yX12_name yX12_name ∈ sh_tb := (sh_wp5 (w := (⟨"ShrugHillsModel", "name", "()J"⟩, _)) (List.mem_cons_of_mem _ (List.mem_cons_of_mem _ (List.mem_cons_of_mem _ (List.mem_cons_of_mem _ List.mem_cons_self)))))
theorem pm_X12_name : (parseMethodDescriptor yX12_name.desc).map (fun d => d.parameters.length) = some 0 := by decide +kernel
theorem im_X12_isAllowed : Cond.instanceMethod yX12_isAllowed ∈ sh_tb := (sh_w8 (sh_tl10 sh_hd) rfl)
theorem se_X12_isAllowed : Cond.selects yX12_isAllowed.cls yX12_isAllowed yX12_isAllowed ∈ sh_tb := (sh_wp6 (w := (⟨"ShrugHillsModel", "isAllowed", "(I)Z"⟩, _)) (List.mem_cons_of_mem _ (List.mem_cons_of_mem _ (List.mem_cons_of_mem _ List.mem_cons_self))))
theorem pm_X12_isAllowed : (parseMethodDescriptor yX12_isAllowed.desc).map (fun d => d.parameters.length) = some 1 := by decide +kernel
theorem im_X12_isFull : Cond.instanceMethod yX12_isFull ∈ sh_tb := (sh_w7 (sh_tl50 (sh_tl50 (sh_tl50 (sh_tl10 (sh_tl10 (sh_tl10 sh_hd)))))) rfl)
theorem se_X12_isFull : Cond.selects yX12_isFull.cls yX12_isFull yX12_isFull ∈ sh_tb := (sh_wp5 (w := (⟨"ShrugHillsModel", "isFull", "(III)Z"⟩, _)) (List.mem_cons_of_mem _ (List.mem_cons_of_mem _ List.mem_cons_self)))
theorem pm_X12_isFull : (parseMethodDescriptor yX12_isFull.desc).map (fun d => d.parameters.length) = some 3 := by decide +kernel
theorem im_X12_newName : Cond.instanceMethod yX12_newName ∈ sh_tb := (sh_w7 (sh_tl50 (sh_tl50 (sh_tl50 (sh_tl10 (sh_tl10 (sh_tl10 (sh_tl1 (sh_tl1 (sh_tl1 (sh_tl1 sh_hd)))))))))) rfl)
theorem se_X12_newName : Cond.selects yX12_newName.cls yX12_newName yX12_newName ∈ sh_tb := (sh_wp5 (w := (⟨"ShrugHillsModel", "newName", "()J"⟩, _)) (List.mem_cons_of_mem _ (List.mem_cons_of_mem _ (List.mem_cons_of_mem _ List.mem_cons_self))))
theorem pm_X12_newName : (parseMethodDescriptor yX12_newName.desc).map (fun d => d.parameters.length) = some 0 := by decide +kernel
theorem im_X12_named : Cond.instanceMethod yX12_named ∈ sh_tb := (sh_w7 (sh_tl50 (sh_tl50 (sh_tl50 (sh_tl50 (sh_tl1 (sh_tl1 (sh_tl1 (sh_tl1 (sh_tl1 (sh_tl1 sh_hd)))))))))) rfl)
theorem se_X12_named : Cond.selects yX12_named.cls yX12_named yX12_named ∈ sh_tb := (sh_wp5 (w := (⟨"ShrugHillsModel", "named", "(I)I"⟩, _)) (List.mem_cons_of_mem _ (List.mem_cons_of_mem _ (List.mem_cons_of_mem _ (List.mem_cons_of_mem _ (List.mem_cons_of_mem _ (List.mem_cons_of_mem _ (List.mem_cons_of_mem _ (List.mem_cons_of_mem _ List.mem_cons_self)))))))))
theorem pm_X12_named : (parseMethodDescriptor yX12_named.desc).map (fun d => d.parameters.length) = some 1 := by decide +kernel
theorem im_X12_plainTold : Cond.instanceMethod yX12_plainTold ∈ sh_tb := (sh_w7 (sh_tl50 (sh_tl50 (sh_tl10 (sh_tl1 (sh_tl1 (sh_tl1 (sh_tl1 (sh_tl1 (sh_tl1 (sh_tl1 (sh_tl1 (sh_tl1 sh_hd)))))))))))) rfl)
theorem se_X12_plainTold : Cond.selects yX12_plainTold.cls yX12_plainTold yX12_plainTold ∈ sh_tb := (sh_wp4 (w := (⟨"ShrugHillsModel", "plainTold", "()V"⟩, _)) (List.mem_cons_of_mem _ (List.mem_cons_of_mem _ (List.mem_cons_of_mem _ (List.mem_cons_of_mem _ (List.mem_cons_of_mem _ List.mem_cons_self))))))
theorem pm_X12_plainTold : (parseMethodDescriptor yX12_plainTold.desc).map (fun d => d.parameters.length) = some 0 := by decide +kernel
theorem im_X12_cellTold : Cond.instanceMethod yX12_cellTold ∈ sh_tb := (sh_w7 (sh_tl50 (sh_tl50 (sh_tl50 (sh_tl10 (sh_tl10 (sh_tl1 (sh_tl1 sh_hd))))))) rfl)
theorem se_X12_cellTold : Cond.selects yX12_cellTold.cls yX12_cellTold yX12_cellTold ∈ sh_tb := (sh_wp5 (w := (⟨"ShrugHillsModel", "cellTold", "()I"⟩, _)) List.mem_cons_self)
theorem pm_X12_cellTold : (parseMethodDescriptor yX12_cellTold.desc).map (fun d => d.parameters.length) = some 0 := by decide +kernel
theorem im_X12_highTold : Cond.instanceMethod yX12_highTold ∈ sh_tb := (sh_w7 (sh_tl50 (sh_tl50 (sh_tl50 (sh_tl10 (sh_tl1 (sh_tl1 (sh_tl1 (sh_tl1 (sh_tl1 (sh_tl1 (sh_tl1 (sh_tl1 sh_hd)))))))))))) rfl)
theorem se_X12_highTold : Cond.selects yX12_highTold.cls yX12_highTold yX12_highTold ∈ sh_tb := (sh_wp4 (w := (⟨"ShrugHillsModel", "highTold", "()V"⟩, _)) (List.mem_cons_of_mem _ (List.mem_cons_of_mem _ (List.mem_cons_of_mem _ (List.mem_cons_of_mem _ (List.mem_cons_of_mem _ (List.mem_cons_of_mem _ (List.mem_cons_of_mem _ (List.mem_cons_of_mem _ (List.mem_cons_of_mem _ (List.mem_cons_of_mem _ (List.mem_cons_of_mem _ (List.mem_cons_of_mem _ (List.mem_cons_of_mem _ (List.mem_cons_of_mem _ (List.mem_cons_of_mem _ List.mem_cons_self))))))))))))))))
theorem pm_X12_highTold : (parseMethodDescriptor yX12_highTold.desc).map (fun d => d.parameters.length) = some 0 := by decide +kernel
theorem im_X12_topicTold : Cond.instanceMethod yX12_topicTold ∈ sh_tb := (sh_w7 (sh_tl50 (sh_tl50 (sh_tl50 (sh_tl10 (sh_tl10 (sh_tl1 (sh_tl1 (sh_tl1 (sh_tl1 (sh_tl1 (sh_tl1 sh_hd))))))))))) rfl)
theorem se_X12_topicTold : Cond.selects yX12_topicTold.cls yX12_topicTold yX12_topicTold ∈ sh_tb := (sh_wp5 (w := (⟨"ShrugHillsModel", "topicTold", "(I)V"⟩, _)) (List.mem_cons_of_mem _ List.mem_cons_self))
theorem pm_X12_topicTold : (parseMethodDescriptor yX12_topicTold.desc).map (fun d => d.parameters.length) = some 1 := by decide +kernel
theorem im_X12_personTold : Cond.instanceMethod yX12_personTold ∈ sh_tb := (sh_w7 (sh_tl50 (sh_tl50 (sh_tl50 (sh_tl10 (sh_tl10 (sh_tl10 (sh_tl10 (sh_tl1 (sh_tl1 (sh_tl1 (sh_tl1 (sh_tl1 (sh_tl1 (sh_tl1 (sh_tl1 sh_hd))))))))))))))) rfl)
theorem se_X12_personTold : Cond.selects yX12_personTold.cls yX12_personTold yX12_personTold ∈ sh_tb := (sh_wp5 (w := (⟨"ShrugHillsModel", "personTold", "(I)V"⟩, _)) (List.mem_cons_of_mem _ (List.mem_cons_of_mem _ (List.mem_cons_of_mem _ (List.mem_cons_of_mem _ (List.mem_cons_of_mem _ (List.mem_cons_of_mem _ List.mem_cons_self)))))))
theorem pm_X12_personTold : (parseMethodDescriptor yX12_personTold.desc).map (fun d => d.parameters.length) = some 1 := by decide +kernel
theorem im_X12_knowsTold : Cond.instanceMethod yX12_knowsTold ∈ sh_tb := (sh_w7 (sh_tl50 (sh_tl50 (sh_tl50 (sh_tl50 (sh_tl1 (sh_tl1 sh_hd)))))) rfl)
theorem se_X12_knowsTold : Cond.selects yX12_knowsTold.cls yX12_knowsTold yX12_knowsTold ∈ sh_tb := (sh_wp5 (w := (⟨"ShrugHillsModel", "knowsTold", "()V"⟩, _)) (List.mem_cons_of_mem _ (List.mem_cons_of_mem _ (List.mem_cons_of_mem _ (List.mem_cons_of_mem _ (List.mem_cons_of_mem _ (List.mem_cons_of_mem _ (List.mem_cons_of_mem _ List.mem_cons_self))))))))
theorem pm_X12_knowsTold : (parseMethodDescriptor yX12_knowsTold.desc).map (fun d => d.parameters.length) = some 0 := by decide +kernel
theorem im_X12_listTold : Cond.instanceMethod yX12_listTold ∈ sh_tb := (sh_w7 (sh_tl50 (sh_tl50 (sh_tl50 (sh_tl50 (sh_tl10 sh_hd))))) rfl)
theorem se_X12_listTold : Cond.selects yX12_listTold.cls yX12_listTold yX12_listTold ∈ sh_tb := (sh_wp5 (w := (⟨"ShrugHillsModel", "listTold", "(I)V"⟩, _)) (List.mem_cons_of_mem _ (List.mem_cons_of_mem _ (List.mem_cons_of_mem _ (List.mem_cons_of_mem _ (List.mem_cons_of_mem _ (List.mem_cons_of_mem _ (List.mem_cons_of_mem _ (List.mem_cons_of_mem _ (List.mem_cons_of_mem _ List.mem_cons_self))))))))))
theorem pm_X12_listTold : (parseMethodDescriptor yX12_listTold.desc).map (fun d => d.parameters.length) = some 1 := by decide +kernel
theorem im_X12_codesTold : Cond.instanceMethod yX12_codesTold ∈ sh_tb := (sh_w7 (sh_tl50 (sh_tl50 (sh_tl50 (sh_tl50 (sh_tl10 (sh_tl1 (sh_tl1 (sh_tl1 (sh_tl1 sh_hd))))))))) rfl)
theorem se_X12_codesTold : Cond.selects yX12_codesTold.cls yX12_codesTold yX12_codesTold ∈ sh_tb := (sh_wp5 (w := (⟨"ShrugHillsModel", "codesTold", "(II)V"⟩, _)) (List.mem_cons_of_mem _ (List.mem_cons_of_mem _ (List.mem_cons_of_mem _ (List.mem_cons_of_mem _ (List.mem_cons_of_mem _ (List.mem_cons_of_mem _ (List.mem_cons_of_mem _ (List.mem_cons_of_mem _ (List.mem_cons_of_mem _ (List.mem_cons_of_mem _ List.mem_cons_self)))))))))))
theorem pm_X12_codesTold : (parseMethodDescriptor yX12_codesTold.desc).map (fun d => d.parameters.length) = some 2 := by decide +kernel
theorem im_X12_statementTold : Cond.instanceMethod yX12_statementTold ∈ sh_tb := (sh_w7 (sh_tl50 (sh_tl50 (sh_tl50 (sh_tl10 (sh_tl1 (sh_tl1 (sh_tl1 (sh_tl1 sh_hd)))))))) rfl)
theorem se_X12_statementTold : Cond.selects yX12_statementTold.cls yX12_statementTold yX12_statementTold ∈ sh_tb := (sh_wp4 (w := (⟨"ShrugHillsModel", "statementTold", "()V"⟩, _)) (List.mem_cons_of_mem _ (List.mem_cons_of_mem _ (List.mem_cons_of_mem _ (List.mem_cons_of_mem _ (List.mem_cons_of_mem _ (List.mem_cons_of_mem _ (List.mem_cons_of_mem _ (List.mem_cons_of_mem _ (List.mem_cons_of_mem _ (List.mem_cons_of_mem _ (List.mem_cons_of_mem _ (List.mem_cons_of_mem _ (List.mem_cons_of_mem _ (List.mem_cons_of_mem _ List.mem_cons_self)))))))))))))))
theorem pm_X12_statementTold : (parseMethodDescriptor yX12_statementTold.desc).map (fun d => d.parameters.length) = some 0 := by decide +kernel
theorem im_X12_plain : Cond.instanceMethod yX12_plain ∈ sh_tb := (sh_w7 (sh_tl50 (sh_tl50 (sh_tl10 (sh_tl1 (sh_tl1 (sh_tl1 (sh_tl1 sh_hd))))))) rfl)
theorem se_X12_plain : Cond.selects yX12_plain.cls yX12_plain yX12_plain ∈ sh_tb := (sh_w7 (sh_tl50 (sh_tl50 (sh_tl10 (sh_tl1 (sh_tl1 (sh_tl1 (sh_tl1 (sh_tl1 sh_hd)))))))) rfl)
theorem pm_X12_plain : (parseMethodDescriptor yX12_plain.desc).map (fun d => d.parameters.length) = some 0 := by decide +kernel
theorem im_X12_stands : Cond.instanceMethod yX12_stands ∈ sh_tb := (sh_w8 (sh_tl50 (sh_tl1 (sh_tl1 (sh_tl1 (sh_tl1 (sh_tl1 (sh_tl1 (sh_tl1 sh_hd)))))))) rfl)
theorem se_X12_stands : Cond.selects yX12_stands.cls yX12_stands yX12_stands ∈ sh_tb := (sh_wp6 (w := (⟨"ShrugHillsModel", "stands", "()V"⟩, _)) (List.mem_cons_of_mem _ (List.mem_cons_of_mem _ (List.mem_cons_of_mem _ (List.mem_cons_of_mem _ (List.mem_cons_of_mem _ (List.mem_cons_of_mem _ (List.mem_cons_of_mem _ (List.mem_cons_of_mem _ (List.mem_cons_of_mem _ (List.mem_cons_of_mem _ (List.mem_cons_of_mem _ (List.mem_cons_of_mem _ (List.mem_cons_of_mem _ (List.mem_cons_of_mem _ List.mem_cons_self)))))))))))))))
theorem pm_X12_stands : (parseMethodDescriptor yX12_stands.desc).map (fun d => d.parameters.length) = some 0 := by decide +kernel
theorem im_X12_fault : Cond.instanceMethod yX12_fault ∈ sh_tb := (sh_w8 (sh_tl50 (sh_tl10 sh_hd)) rfl)
theorem se_X12_fault : Cond.selects yX12_fault.cls yX12_fault yX12_fault ∈ sh_tb := (sh_w8 (sh_tl50 (sh_tl10 (sh_tl1 sh_hd))) rfl)
theorem pm_X12_fault : (parseMethodDescriptor yX12_fault.desc).map (fun d => d.parameters.length) = some 1 := by decide +kernel
theorem im_X12_topicMany : Cond.instanceMethod yX12_topicMany ∈ sh_tb := (sh_w8 (sh_tl50 (sh_tl10 (sh_tl1 (sh_tl1 (sh_tl1 (sh_tl1 (sh_tl1 (sh_tl1 (sh_tl1 (sh_tl1 (sh_tl1 sh_hd))))))))))) rfl)
theorem se_X12_topicMany : Cond.selects yX12_topicMany.cls yX12_topicMany yX12_topicMany ∈ sh_tb := (sh_wp6 (w := (⟨"ShrugHillsModel", "topicMany", "()I"⟩, _)) (List.mem_cons_of_mem _ (List.mem_cons_of_mem _ (List.mem_cons_of_mem _ (List.mem_cons_of_mem _ (List.mem_cons_of_mem _ (List.mem_cons_of_mem _ (List.mem_cons_of_mem _ (List.mem_cons_of_mem _ (List.mem_cons_of_mem _ (List.mem_cons_of_mem _ (List.mem_cons_of_mem _ (List.mem_cons_of_mem _ (List.mem_cons_of_mem _ (List.mem_cons_of_mem _ (List.mem_cons_of_mem _ List.mem_cons_self))))))))))))))))
theorem pm_X12_topicMany : (parseMethodDescriptor yX12_topicMany.desc).map (fun d => d.parameters.length) = some 0 := by decide +kernel
theorem im_X12_personMany : Cond.instanceMethod yX12_personMany ∈ sh_tb := (sh_w8 (sh_tl50 (sh_tl10 (sh_tl10 (sh_tl1 (sh_tl1 (sh_tl1 sh_hd)))))) rfl)
theorem se_X12_personMany : Cond.selects yX12_personMany.cls yX12_personMany yX12_personMany ∈ sh_tb := (sh_wp7 (w := (⟨"ShrugHillsModel", "personMany", "()I"⟩, _)) List.mem_cons_self)
theorem pm_X12_personMany : (parseMethodDescriptor yX12_personMany.desc).map (fun d => d.parameters.length) = some 0 := by decide +kernel
theorem im_X12_listMany : Cond.instanceMethod yX12_listMany ∈ sh_tb := (sh_w8 (sh_tl50 (sh_tl10 (sh_tl10 (sh_tl1 (sh_tl1 (sh_tl1 (sh_tl1 (sh_tl1 (sh_tl1 (sh_tl1 sh_hd)))))))))) rfl)
theorem se_X12_listMany : Cond.selects yX12_listMany.cls yX12_listMany yX12_listMany ∈ sh_tb := (sh_wp7 (w := (⟨"ShrugHillsModel", "listMany", "()I"⟩, _)) (List.mem_cons_of_mem _ List.mem_cons_self))
theorem pm_X12_listMany : (parseMethodDescriptor yX12_listMany.desc).map (fun d => d.parameters.length) = some 0 := by decide +kernel
theorem im_X12_isTopic : Cond.instanceMethod yX12_isTopic ∈ sh_tb := (sh_w8 (sh_tl50 (sh_tl50 (sh_tl10 (sh_tl10 (sh_tl10 (sh_tl1 (sh_tl1 (sh_tl1 (sh_tl1 (sh_tl1 (sh_tl1 (sh_tl1 (sh_tl1 sh_hd))))))))))))) rfl)
theorem se_X12_isTopic : Cond.selects yX12_isTopic.cls yX12_isTopic yX12_isTopic ∈ sh_tb := (sh_wp7 (w := (⟨"ShrugHillsModel", "isTopic", "(J)Z"⟩, _)) (List.mem_cons_of_mem _ (List.mem_cons_of_mem _ (List.mem_cons_of_mem _ (List.mem_cons_of_mem _ (List.mem_cons_of_mem _ (List.mem_cons_of_mem _ (List.mem_cons_of_mem _ (List.mem_cons_of_mem _ (List.mem_cons_of_mem _ (List.mem_cons_of_mem _ (List.mem_cons_of_mem _ List.mem_cons_self))))))))))))
theorem pm_X12_isTopic : (parseMethodDescriptor yX12_isTopic.desc).map (fun d => d.parameters.length) = some 1 := by decide +kernel
theorem im_X12_isPerson : Cond.instanceMethod yX12_isPerson ∈ sh_tb := (sh_w8 (sh_tl50 (sh_tl50 (sh_tl10 (sh_tl1 (sh_tl1 (sh_tl1 (sh_tl1 sh_hd))))))) rfl)
theorem se_X12_isPerson : Cond.selects yX12_isPerson.cls yX12_isPerson yX12_isPerson ∈ sh_tb := (sh_wp7 (w := (⟨"ShrugHillsModel", "isPerson", "(I)Z"⟩, _)) (List.mem_cons_of_mem _ (List.mem_cons_of_mem _ (List.mem_cons_of_mem _ (List.mem_cons_of_mem _ (List.mem_cons_of_mem _ (List.mem_cons_of_mem _ (List.mem_cons_of_mem _ List.mem_cons_self))))))))
theorem pm_X12_isPerson : (parseMethodDescriptor yX12_isPerson.desc).map (fun d => d.parameters.length) = some 1 := by decide +kernel
theorem im_X12_cellAt : Cond.instanceMethod yX12_cellAt ∈ sh_tb := (sh_w8 (sh_tl50 (sh_tl50 (sh_tl1 (sh_tl1 (sh_tl1 (sh_tl1 (sh_tl1 (sh_tl1 sh_hd)))))))) rfl)
theorem se_X12_cellAt : Cond.selects yX12_cellAt.cls yX12_cellAt yX12_cellAt ∈ sh_tb := (sh_wp7 (w := (⟨"ShrugHillsModel", "cellAt", "(II)I"⟩, _)) (List.mem_cons_of_mem _ (List.mem_cons_of_mem _ (List.mem_cons_of_mem _ (List.mem_cons_of_mem _ (List.mem_cons_of_mem _ (List.mem_cons_of_mem _ List.mem_cons_self)))))))
theorem pm_X12_cellAt : (parseMethodDescriptor yX12_cellAt.desc).map (fun d => d.parameters.length) = some 2 := by decide +kernel
theorem im_X12_cellNumbered : Cond.instanceMethod yX12_cellNumbered ∈ sh_tb := (sh_w9 (sh_tl1 (sh_tl1 sh_hd)) rfl)
theorem se_X12_cellNumbered : Cond.selects yX12_cellNumbered.cls yX12_cellNumbered yX12_cellNumbered ∈ sh_tb := (sh_wp8 (w := (⟨"ShrugHillsModel", "cellNumbered", "(I)I"⟩, _)) (List.mem_cons_of_mem _ (List.mem_cons_of_mem _ (List.mem_cons_of_mem _ (List.mem_cons_of_mem _ (List.mem_cons_of_mem _ (List.mem_cons_of_mem _ (List.mem_cons_of_mem _ (List.mem_cons_of_mem _ (List.mem_cons_of_mem _ (List.mem_cons_of_mem _ (List.mem_cons_of_mem _ (List.mem_cons_of_mem _ List.mem_cons_self)))))))))))))
theorem pm_X12_cellNumbered : (parseMethodDescriptor yX12_cellNumbered.desc).map (fun d => d.parameters.length) = some 1 := by decide +kernel
theorem sm_X12_numberOf : Cond.static yX12_numberOf ∈ sh_tb := (sh_w9 (sh_tl50 (sh_tl10 (sh_tl1 (sh_tl1 sh_hd)))) rfl)
theorem pm_X12_numberOf : (parseMethodDescriptor yX12_numberOf.desc).map (fun d => d.parameters.length) = some 1 := by decide +kernel
theorem im_X12_cellMany : Cond.instanceMethod yX12_cellMany ∈ sh_tb := (sh_w8 (sh_tl50 (sh_tl10 (sh_tl10 (sh_tl10 (sh_tl1 (sh_tl1 (sh_tl1 (sh_tl1 (sh_tl1 sh_hd))))))))) rfl)
theorem se_X12_cellMany : Cond.selects yX12_cellMany.cls yX12_cellMany yX12_cellMany ∈ sh_tb := (sh_wp7 (w := (⟨"ShrugHillsModel", "cellMany", "()I"⟩, _)) (List.mem_cons_of_mem _ (List.mem_cons_of_mem _ (List.mem_cons_of_mem _ List.mem_cons_self))))
theorem pm_X12_cellMany : (parseMethodDescriptor yX12_cellMany.desc).map (fun d => d.parameters.length) = some 0 := by decide +kernel
theorem im_X12_cellOrder : Cond.instanceMethod yX12_cellOrder ∈ sh_tb := (sh_w8 (sh_tl50 (sh_tl10 (sh_tl10 (sh_tl10 (sh_tl1 (sh_tl1 (sh_tl1 (sh_tl1 (sh_tl1 (sh_tl1 (sh_tl1 (sh_tl1 (sh_tl1 sh_hd))))))))))))) rfl)
theorem se_X12_cellOrder : Cond.selects yX12_cellOrder.cls yX12_cellOrder yX12_cellOrder ∈ sh_tb := (sh_wp7 (w := (⟨"ShrugHillsModel", "cellOrder", "(I)I"⟩, _)) (List.mem_cons_of_mem _ (List.mem_cons_of_mem _ (List.mem_cons_of_mem _ (List.mem_cons_of_mem _ List.mem_cons_self)))))
theorem pm_X12_cellOrder : (parseMethodDescriptor yX12_cellOrder.desc).map (fun d => d.parameters.length) = some 1 := by decide +kernel
theorem im_X12_heightOf : Cond.instanceMethod yX12_heightOf ∈ sh_tb := (sh_w8 (sh_tl50 (sh_tl10 (sh_tl10 (sh_tl10 (sh_tl10 (sh_tl1 (sh_tl1 (sh_tl1 sh_hd)))))))) rfl)
theorem se_X12_heightOf : Cond.selects yX12_heightOf.cls yX12_heightOf yX12_heightOf ∈ sh_tb := (sh_wp7 (w := (⟨"ShrugHillsModel", "heightOf", "(I)I"⟩, _)) (List.mem_cons_of_mem _ (List.mem_cons_of_mem _ (List.mem_cons_of_mem _ (List.mem_cons_of_mem _ (List.mem_cons_of_mem _ List.mem_cons_self))))))
theorem pm_X12_heightOf : (parseMethodDescriptor yX12_heightOf.desc).map (fun d => d.parameters.length) = some 1 := by decide +kernel
theorem im_X12_cellOf : Cond.instanceMethod yX12_cellOf ∈ sh_tb := (sh_w8 (sh_tl50 (sh_tl50 (sh_tl10 (sh_tl1 (sh_tl1 (sh_tl1 (sh_tl1 (sh_tl1 (sh_tl1 (sh_tl1 (sh_tl1 sh_hd))))))))))) rfl)
theorem se_X12_cellOf : Cond.selects yX12_cellOf.cls yX12_cellOf yX12_cellOf ∈ sh_tb := (sh_wp7 (w := (⟨"ShrugHillsModel", "cellOf", "(I)I"⟩, _)) (List.mem_cons_of_mem _ (List.mem_cons_of_mem _ (List.mem_cons_of_mem _ (List.mem_cons_of_mem _ (List.mem_cons_of_mem _ (List.mem_cons_of_mem _ (List.mem_cons_of_mem _ (List.mem_cons_of_mem _ List.mem_cons_self)))))))))
theorem pm_X12_cellOf : (parseMethodDescriptor yX12_cellOf.desc).map (fun d => d.parameters.length) = some 1 := by decide +kernel
theorem im_X12_tiredOf : Cond.instanceMethod yX12_tiredOf ∈ sh_tb := (sh_w8 (sh_tl50 (sh_tl50 (sh_tl10 (sh_tl10 (sh_tl1 (sh_tl1 sh_hd)))))) rfl)
theorem se_X12_tiredOf : Cond.selects yX12_tiredOf.cls yX12_tiredOf yX12_tiredOf ∈ sh_tb := (sh_wp7 (w := (⟨"ShrugHillsModel", "tiredOf", "(I)I"⟩, _)) (List.mem_cons_of_mem _ (List.mem_cons_of_mem _ (List.mem_cons_of_mem _ (List.mem_cons_of_mem _ (List.mem_cons_of_mem _ (List.mem_cons_of_mem _ (List.mem_cons_of_mem _ (List.mem_cons_of_mem _ (List.mem_cons_of_mem _ List.mem_cons_self))))))))))
theorem pm_X12_tiredOf : (parseMethodDescriptor yX12_tiredOf.desc).map (fun d => d.parameters.length) = some 1 := by decide +kernel
theorem im_X12_knowsOf : Cond.instanceMethod yX12_knowsOf ∈ sh_tb := (sh_w8 (sh_tl50 (sh_tl50 (sh_tl10 (sh_tl10 (sh_tl1 (sh_tl1 (sh_tl1 (sh_tl1 (sh_tl1 (sh_tl1 sh_hd)))))))))) rfl)
theorem se_X12_knowsOf : Cond.selects yX12_knowsOf.cls yX12_knowsOf yX12_knowsOf ∈ sh_tb := (sh_wp7 (w := (⟨"ShrugHillsModel", "knowsOf", "(I)I"⟩, _)) (List.mem_cons_of_mem _ (List.mem_cons_of_mem _ (List.mem_cons_of_mem _ (List.mem_cons_of_mem _ (List.mem_cons_of_mem _ (List.mem_cons_of_mem _ (List.mem_cons_of_mem _ (List.mem_cons_of_mem _ (List.mem_cons_of_mem _ (List.mem_cons_of_mem _ List.mem_cons_self)))))))))))
theorem pm_X12_knowsOf : (parseMethodDescriptor yX12_knowsOf.desc).map (fun d => d.parameters.length) = some 1 := by decide +kernel
theorem im_X12_isTaken : Cond.instanceMethod yX12_isTaken ∈ sh_tb := (sh_w9 (sh_tl50 (sh_tl50 (sh_tl10 (sh_tl10 (sh_tl10 (sh_tl1 (sh_tl1 (sh_tl1 (sh_tl1 (sh_tl1 (sh_tl1 (sh_tl1 (sh_tl1 (sh_tl1 sh_hd)))))))))))))) rfl)
theorem se_X12_isTaken : Cond.selects yX12_isTaken.cls yX12_isTaken yX12_isTaken ∈ sh_tb := (sh_wp10 (w := (⟨"ShrugHillsModel", "isTaken", "(I)Z"⟩, _)) (List.mem_cons_of_mem _ (List.mem_cons_of_mem _ List.mem_cons_self)))
theorem pm_X12_isTaken : (parseMethodDescriptor yX12_isTaken.desc).map (fun d => d.parameters.length) = some 1 := by decide +kernel
theorem sm_X12_bits : Cond.static yX12_bits ∈ sh_tb := (sh_w8 (sh_tl50 (sh_tl50 (sh_tl50 (sh_tl1 (sh_tl1 (sh_tl1 (sh_tl1 (sh_tl1 (sh_tl1 (sh_tl1 sh_hd)))))))))) rfl)
theorem pm_X12_bits : (parseMethodDescriptor yX12_bits.desc).map (fun d => d.parameters.length) = some 1 := by decide +kernel
theorem im_X12_codesTell : Cond.instanceMethod yX12_codesTell ∈ sh_tb := (sh_w8 (sh_tl50 (sh_tl50 (sh_tl10 (sh_tl10 (sh_tl10 (sh_tl10 (sh_tl1 (sh_tl1 (sh_tl1 (sh_tl1 (sh_tl1 (sh_tl1 sh_hd)))))))))))) rfl)
theorem se_X12_codesTell : Cond.selects yX12_codesTell.cls yX12_codesTell yX12_codesTell ∈ sh_tb := (sh_wp7 (w := (⟨"ShrugHillsModel", "codesTell", "(I)J"⟩, _)) (List.mem_cons_of_mem _ (List.mem_cons_of_mem _ (List.mem_cons_of_mem _ (List.mem_cons_of_mem _ (List.mem_cons_of_mem _ (List.mem_cons_of_mem _ (List.mem_cons_of_mem _ (List.mem_cons_of_mem _ (List.mem_cons_of_mem _ (List.mem_cons_of_mem _ (List.mem_cons_of_mem _ (List.mem_cons_of_mem _ (List.mem_cons_of_mem _ List.mem_cons_self))))))))))))))
theorem pm_X12_codesTell : (parseMethodDescriptor yX12_codesTell.desc).map (fun d => d.parameters.length) = some 1 := by decide +kernel
theorem im_X12_wouldDo : Cond.instanceMethod yX12_wouldDo ∈ sh_tb := (sh_w8 (sh_tl50 (sh_tl50 (sh_tl10 (sh_tl10 (sh_tl10 (sh_tl10 (sh_tl1 (sh_tl1 sh_hd)))))))) rfl)
theorem se_X12_wouldDo : Cond.selects yX12_wouldDo.cls yX12_wouldDo yX12_wouldDo ∈ sh_tb := (sh_wp7 (w := (⟨"ShrugHillsModel", "wouldDo", "(II)I"⟩, _)) (List.mem_cons_of_mem _ (List.mem_cons_of_mem _ (List.mem_cons_of_mem _ (List.mem_cons_of_mem _ (List.mem_cons_of_mem _ (List.mem_cons_of_mem _ (List.mem_cons_of_mem _ (List.mem_cons_of_mem _ (List.mem_cons_of_mem _ (List.mem_cons_of_mem _ (List.mem_cons_of_mem _ (List.mem_cons_of_mem _ List.mem_cons_self)))))))))))))
theorem pm_X12_wouldDo : (parseMethodDescriptor yX12_wouldDo.desc).map (fun d => d.parameters.length) = some 2 := by decide +kernel
theorem im_X12_highestBut : Cond.instanceMethod yX12_highestBut ∈ sh_tb := (sh_w8 (sh_tl50 (sh_tl50 (sh_tl50 (sh_tl50 (sh_tl10 (sh_tl1 (sh_tl1 (sh_tl1 (sh_tl1 sh_hd))))))))) rfl)
theorem se_X12_highestBut : Cond.selects yX12_highestBut.cls yX12_highestBut yX12_highestBut ∈ sh_tb := (sh_wp8 (w := (⟨"ShrugHillsModel", "highestBut", "(III)I"⟩, _)) (List.mem_cons_of_mem _ (List.mem_cons_of_mem _ (List.mem_cons_of_mem _ (List.mem_cons_of_mem _ (List.mem_cons_of_mem _ (List.mem_cons_of_mem _ (List.mem_cons_of_mem _ (List.mem_cons_of_mem _ List.mem_cons_self)))))))))
theorem pm_X12_highestBut : (parseMethodDescriptor yX12_highestBut.desc).map (fun d => d.parameters.length) = some 3 := by decide +kernel
theorem im_X12_liftedBy : Cond.instanceMethod yX12_liftedBy ∈ sh_tb := (sh_w8 (sh_tl50 (sh_tl50 (sh_tl50 (sh_tl50 (sh_tl1 (sh_tl1 (sh_tl1 (sh_tl1 (sh_tl1 (sh_tl1 sh_hd)))))))))) rfl)
theorem se_X12_liftedBy : Cond.selects yX12_liftedBy.cls yX12_liftedBy yX12_liftedBy ∈ sh_tb := (sh_wp8 (w := (⟨"ShrugHillsModel", "liftedBy", "(I)I"⟩, _)) (List.mem_cons_of_mem _ (List.mem_cons_of_mem _ (List.mem_cons_of_mem _ (List.mem_cons_of_mem _ (List.mem_cons_of_mem _ (List.mem_cons_of_mem _ (List.mem_cons_of_mem _ List.mem_cons_self))))))))
theorem pm_X12_liftedBy : (parseMethodDescriptor yX12_liftedBy.desc).map (fun d => d.parameters.length) = some 1 := by decide +kernel
theorem im_X12_lifts : Cond.instanceMethod yX12_lifts ∈ sh_tb := (sh_w8 (sh_tl50 (sh_tl50 (sh_tl50 (sh_tl50 (sh_tl1 (sh_tl1 sh_hd)))))) rfl)
theorem se_X12_lifts : Cond.selects yX12_lifts.cls yX12_lifts yX12_lifts ∈ sh_tb := (sh_wp8 (w := (⟨"ShrugHillsModel", "lifts", "(III)V"⟩, _)) (List.mem_cons_of_mem _ (List.mem_cons_of_mem _ (List.mem_cons_of_mem _ (List.mem_cons_of_mem _ (List.mem_cons_of_mem _ (List.mem_cons_of_mem _ List.mem_cons_self)))))))
theorem pm_X12_lifts : (parseMethodDescriptor yX12_lifts.desc).map (fun d => d.parameters.length) = some 3 := by decide +kernel
theorem im_X12_isKept : Cond.instanceMethod yX12_isKept ∈ sh_tb := (sh_w8 (sh_tl50 (sh_tl50 (sh_tl50 (sh_tl50 (sh_tl10 (sh_tl1 (sh_tl1 (sh_tl1 (sh_tl1 (sh_tl1 (sh_tl1 (sh_tl1 (sh_tl1 sh_hd))))))))))))) rfl)
theorem se_X12_isKept : Cond.selects yX12_isKept.cls yX12_isKept yX12_isKept ∈ sh_tb := (sh_wp8 (w := (⟨"ShrugHillsModel", "isKept", "(II)V"⟩, _)) (List.mem_cons_of_mem _ (List.mem_cons_of_mem _ (List.mem_cons_of_mem _ (List.mem_cons_of_mem _ (List.mem_cons_of_mem _ (List.mem_cons_of_mem _ (List.mem_cons_of_mem _ (List.mem_cons_of_mem _ (List.mem_cons_of_mem _ List.mem_cons_self))))))))))
theorem pm_X12_isKept : (parseMethodDescriptor yX12_isKept.desc).map (fun d => d.parameters.length) = some 2 := by decide +kernel
theorem im_X12_isAsked : Cond.instanceMethod yX12_isAsked ∈ sh_tb := (sh_w8 (sh_tl50 (sh_tl50 (sh_tl50 (sh_tl10 (sh_tl10 (sh_tl10 (sh_tl10 (sh_tl1 (sh_tl1 (sh_tl1 (sh_tl1 (sh_tl1 (sh_tl1 (sh_tl1 (sh_tl1 sh_hd))))))))))))))) rfl)
theorem se_X12_isAsked : Cond.selects yX12_isAsked.cls yX12_isAsked yX12_isAsked ∈ sh_tb := (sh_wp8 (w := (⟨"ShrugHillsModel", "isAsked", "(II)I"⟩, _)) (List.mem_cons_of_mem _ (List.mem_cons_of_mem _ (List.mem_cons_of_mem _ (List.mem_cons_of_mem _ (List.mem_cons_of_mem _ List.mem_cons_self))))))
theorem pm_X12_isAsked : (parseMethodDescriptor yX12_isAsked.desc).map (fun d => d.parameters.length) = some 2 := by decide +kernel
theorem im_X12_dayGoes : Cond.instanceMethod yX12_dayGoes ∈ sh_tb := (sh_w8 (sh_tl50 (sh_tl50 (sh_tl50 (sh_tl10 (sh_tl10 (sh_tl10 (sh_tl10 (sh_tl1 (sh_tl1 (sh_tl1 (sh_tl1 sh_hd))))))))))) rfl)
theorem se_X12_dayGoes : Cond.selects yX12_dayGoes.cls yX12_dayGoes yX12_dayGoes ∈ sh_tb := (sh_wp8 (w := (⟨"ShrugHillsModel", "dayGoes", "()V"⟩, _)) (List.mem_cons_of_mem _ (List.mem_cons_of_mem _ (List.mem_cons_of_mem _ (List.mem_cons_of_mem _ List.mem_cons_self)))))
theorem pm_X12_dayGoes : (parseMethodDescriptor yX12_dayGoes.desc).map (fun d => d.parameters.length) = some 0 := by decide +kernel
theorem im_X12_daysGo : Cond.instanceMethod yX12_daysGo ∈ sh_tb := (sh_w8 (sh_tl50 (sh_tl50 (sh_tl50 (sh_tl10 (sh_tl10 (sh_tl10 (sh_tl10 sh_hd))))))) rfl)
theorem se_X12_daysGo : Cond.selects yX12_daysGo.cls yX12_daysGo yX12_daysGo ∈ sh_tb := (sh_wp8 (w := (⟨"ShrugHillsModel", "daysGo", "(I)V"⟩, _)) (List.mem_cons_of_mem _ (List.mem_cons_of_mem _ (List.mem_cons_of_mem _ List.mem_cons_self))))
theorem pm_X12_daysGo : (parseMethodDescriptor yX12_daysGo.desc).map (fun d => d.parameters.length) = some 1 := by decide +kernel
theorem im_X12_putsAside : Cond.instanceMethod yX12_putsAside ∈ sh_tb := (sh_w8 (sh_tl50 (sh_tl50 (sh_tl50 (sh_tl10 (sh_tl10 (sh_tl10 (sh_tl1 (sh_tl1 (sh_tl1 (sh_tl1 (sh_tl1 (sh_tl1 sh_hd)))))))))))) rfl)
theorem se_X12_putsAside : Cond.selects yX12_putsAside.cls yX12_putsAside yX12_putsAside ∈ sh_tb := (sh_wp8 (w := (⟨"ShrugHillsModel", "putsAside", "()V"⟩, _)) (List.mem_cons_of_mem _ (List.mem_cons_of_mem _ List.mem_cons_self)))
theorem pm_X12_putsAside : (parseMethodDescriptor yX12_putsAside.desc).map (fun d => d.parameters.length) = some 0 := by decide +kernel
theorem im_X12_triesAnew : Cond.instanceMethod yX12_triesAnew ∈ sh_tb := (sh_w8 (sh_tl50 (sh_tl50 (sh_tl50 (sh_tl50 (sh_tl10 (sh_tl10 (sh_tl1 (sh_tl1 (sh_tl1 (sh_tl1 (sh_tl1 (sh_tl1 sh_hd)))))))))))) rfl)
theorem se_X12_triesAnew : Cond.selects yX12_triesAnew.cls yX12_triesAnew yX12_triesAnew ∈ sh_tb := (sh_wp8 (w := (⟨"ShrugHillsModel", "triesAnew", "()V"⟩, _)) (List.mem_cons_of_mem _ (List.mem_cons_of_mem _ (List.mem_cons_of_mem _ (List.mem_cons_of_mem _ (List.mem_cons_of_mem _ (List.mem_cons_of_mem _ (List.mem_cons_of_mem _ (List.mem_cons_of_mem _ (List.mem_cons_of_mem _ (List.mem_cons_of_mem _ (List.mem_cons_of_mem _ List.mem_cons_self))))))))))))
theorem pm_X12_triesAnew : (parseMethodDescriptor yX12_triesAnew.desc).map (fun d => d.parameters.length) = some 0 := by decide +kernel
theorem im_X12_takesBack : Cond.instanceMethod yX12_takesBack ∈ sh_tb := (sh_w8 (sh_tl50 (sh_tl50 (sh_tl50 (sh_tl50 (sh_tl10 (sh_tl10 (sh_tl1 (sh_tl1 sh_hd)))))))) rfl)
theorem se_X12_takesBack : Cond.selects yX12_takesBack.cls yX12_takesBack yX12_takesBack ∈ sh_tb := (sh_wp8 (w := (⟨"ShrugHillsModel", "takesBack", "()V"⟩, _)) (List.mem_cons_of_mem _ (List.mem_cons_of_mem _ (List.mem_cons_of_mem _ (List.mem_cons_of_mem _ (List.mem_cons_of_mem _ (List.mem_cons_of_mem _ (List.mem_cons_of_mem _ (List.mem_cons_of_mem _ (List.mem_cons_of_mem _ (List.mem_cons_of_mem _ List.mem_cons_self)))))))))))
theorem pm_X12_takesBack : (parseMethodDescriptor yX12_takesBack.desc).map (fun d => d.parameters.length) = some 0 := by decide +kernel
theorem im_X12_isAhead : Cond.instanceMethod yX12_isAhead ∈ sh_tb := (sh_w8 (sh_tl50 (sh_tl50 (sh_tl50 (sh_tl10 (sh_tl10 (sh_tl10 (sh_tl1 (sh_tl1 sh_hd)))))))) rfl)
theorem se_X12_isAhead : Cond.selects yX12_isAhead.cls yX12_isAhead yX12_isAhead ∈ sh_tb := (sh_wp8 (w := (⟨"ShrugHillsModel", "isAhead", "(III)Z"⟩, _)) (List.mem_cons_of_mem _ List.mem_cons_self))
theorem pm_X12_isAhead : (parseMethodDescriptor yX12_isAhead.desc).map (fun d => d.parameters.length) = some 3 := by decide +kernel
theorem im_X12_laysLifted : Cond.instanceMethod yX12_laysLifted ∈ sh_tb := (sh_w9 (sh_tl50 (sh_tl50 (sh_tl50 (sh_tl10 (sh_tl10 (sh_tl1 (sh_tl1 (sh_tl1 (sh_tl1 (sh_tl1 (sh_tl1 (sh_tl1 sh_hd)))))))))))) rfl)
theorem se_X12_laysLifted : Cond.selects yX12_laysLifted.cls yX12_laysLifted yX12_laysLifted ∈ sh_tb := (sh_wp10 (w := (⟨"ShrugHillsModel", "laysLifted", "()V"⟩, _)) (List.mem_cons_of_mem _ (List.mem_cons_of_mem _ (List.mem_cons_of_mem _ (List.mem_cons_of_mem _ (List.mem_cons_of_mem _ List.mem_cons_self))))))
theorem pm_X12_laysLifted : (parseMethodDescriptor yX12_laysLifted.desc).map (fun d => d.parameters.length) = some 0 := by decide +kernel
theorem im_X12_heightsAll : Cond.instanceMethod yX12_heightsAll ∈ sh_tb := (sh_w8 (sh_tl50 (sh_tl10 (sh_tl10 (sh_tl10 (sh_tl1 sh_hd))))) rfl)
theorem se_X12_heightsAll : Cond.selects yX12_heightsAll.cls yX12_heightsAll yX12_heightsAll ∈ sh_tb := (sh_wp7 (w := (⟨"ShrugHillsModel", "heightsAll", "()I"⟩, _)) (List.mem_cons_of_mem _ (List.mem_cons_of_mem _ List.mem_cons_self)))
theorem pm_X12_heightsAll : (parseMethodDescriptor yX12_heightsAll.desc).map (fun d => d.parameters.length) = some 0 := by decide +kernel
theorem im_X12_has : Cond.instanceMethod yX12_has ∈ sh_tb := (sh_w8 (sh_tl50 (sh_tl10 (sh_tl1 (sh_tl1 (sh_tl1 (sh_tl1 sh_hd)))))) rfl)
theorem se_X12_has : Cond.selects yX12_has.cls yX12_has yX12_has ∈ sh_tb := (sh_w8 (sh_tl50 (sh_tl10 (sh_tl1 (sh_tl1 (sh_tl1 (sh_tl1 (sh_tl1 sh_hd))))))) rfl)
theorem pm_X12_has : (parseMethodDescriptor yX12_has.desc).map (fun d => d.parameters.length) = some 1 := by decide +kernel
theorem im_X12_letter : Cond.instanceMethod yX12_letter ∈ sh_tb := (sh_w8 (sh_tl50 (sh_tl10 (sh_tl10 (sh_tl10 (sh_tl10 (sh_tl1 (sh_tl1 (sh_tl1 (sh_tl1 (sh_tl1 (sh_tl1 sh_hd))))))))))) rfl)
theorem se_X12_letter : Cond.selects yX12_letter.cls yX12_letter yX12_letter ∈ sh_tb := (sh_w8 (sh_tl50 (sh_tl10 (sh_tl10 (sh_tl10 (sh_tl10 (sh_tl1 (sh_tl1 (sh_tl1 (sh_tl1 (sh_tl1 (sh_tl1 (sh_tl1 sh_hd)))))))))))) rfl)
theorem pm_X12_letter : (parseMethodDescriptor yX12_letter.desc).map (fun d => d.parameters.length) = some 3 := by decide +kernel
theorem im_X12_height : Cond.instanceMethod yX12_height ∈ sh_tb := (sh_w8 (sh_tl50 (sh_tl50 (sh_tl1 sh_hd))) rfl)
theorem se_X12_height : Cond.selects yX12_height.cls yX12_height yX12_height ∈ sh_tb := (sh_w8 (sh_tl50 (sh_tl50 (sh_tl1 (sh_tl1 sh_hd)))) rfl)
theorem pm_X12_height : (parseMethodDescriptor yX12_height.desc).map (fun d => d.parameters.length) = some 2 := by decide +kernel
theorem im_X12_person : Cond.instanceMethod yX12_person ∈ sh_tb := (sh_w8 (sh_tl50 (sh_tl50 (sh_tl1 (sh_tl1 (sh_tl1 (sh_tl1 (sh_tl1 (sh_tl1 (sh_tl1 (sh_tl1 (sh_tl1 sh_hd))))))))))) rfl)
theorem se_X12_person : Cond.selects yX12_person.cls yX12_person yX12_person ∈ sh_tb := (sh_w8 (sh_tl50 (sh_tl50 (sh_tl10 sh_hd))) rfl)
theorem pm_X12_person : (parseMethodDescriptor yX12_person.desc).map (fun d => d.parameters.length) = some 2 := by decide +kernel
theorem im_X12_list : Cond.instanceMethod yX12_list ∈ sh_tb := (sh_w8 (sh_tl50 (sh_tl50 (sh_tl10 (sh_tl10 (sh_tl1 (sh_tl1 (sh_tl1 (sh_tl1 (sh_tl1 (sh_tl1 (sh_tl1 (sh_tl1 (sh_tl1 sh_hd))))))))))))) rfl)
theorem se_X12_list : Cond.selects yX12_list.cls yX12_list yX12_list ∈ sh_tb := (sh_w8 (sh_tl50 (sh_tl50 (sh_tl10 (sh_tl10 (sh_tl10 sh_hd))))) rfl)
theorem pm_X12_list : (parseMethodDescriptor yX12_list.desc).map (fun d => d.parameters.length) = some 2 := by decide +kernel
theorem im_X12_would : Cond.instanceMethod yX12_would ∈ sh_tb := (sh_w8 (sh_tl50 (sh_tl50 (sh_tl10 (sh_tl10 (sh_tl10 (sh_tl1 (sh_tl1 (sh_tl1 sh_hd)))))))) rfl)
theorem se_X12_would : Cond.selects yX12_would.cls yX12_would yX12_would ∈ sh_tb := (sh_w8 (sh_tl50 (sh_tl50 (sh_tl10 (sh_tl10 (sh_tl10 (sh_tl1 (sh_tl1 (sh_tl1 (sh_tl1 sh_hd))))))))) rfl)
theorem pm_X12_would : (parseMethodDescriptor yX12_would.desc).map (fun d => d.parameters.length) = some 2 := by decide +kernel
theorem im_X12_kept : Cond.instanceMethod yX12_kept ∈ sh_tb := (sh_w8 (sh_tl50 (sh_tl50 (sh_tl50 (sh_tl10 (sh_tl10 (sh_tl1 (sh_tl1 sh_hd))))))) rfl)
theorem se_X12_kept : Cond.selects yX12_kept.cls yX12_kept yX12_kept ∈ sh_tb := (sh_w8 (sh_tl50 (sh_tl50 (sh_tl50 (sh_tl10 (sh_tl10 (sh_tl1 (sh_tl1 (sh_tl1 sh_hd)))))))) rfl)
theorem pm_X12_kept : (parseMethodDescriptor yX12_kept.desc).map (fun d => d.parameters.length) = some 2 := by decide +kernel
theorem im_X12_later : Cond.instanceMethod yX12_later ∈ sh_tb := (sh_w8 (sh_tl50 (sh_tl50 (sh_tl50 (sh_tl10 (sh_tl10 (sh_tl1 (sh_tl1 (sh_tl1 (sh_tl1 (sh_tl1 (sh_tl1 (sh_tl1 sh_hd)))))))))))) rfl)
theorem se_X12_later : Cond.selects yX12_later.cls yX12_later yX12_later ∈ sh_tb := (sh_w8 (sh_tl50 (sh_tl50 (sh_tl50 (sh_tl10 (sh_tl10 (sh_tl1 (sh_tl1 (sh_tl1 (sh_tl1 (sh_tl1 (sh_tl1 (sh_tl1 (sh_tl1 sh_hd))))))))))))) rfl)
theorem pm_X12_later : (parseMethodDescriptor yX12_later.desc).map (fun d => d.parameters.length) = some 3 := by decide +kernel
theorem im_X12_tired : Cond.instanceMethod yX12_tired ∈ sh_tb := (sh_w8 (sh_tl50 (sh_tl50 (sh_tl50 (sh_tl50 (sh_tl10 (sh_tl10 (sh_tl1 (sh_tl1 (sh_tl1 (sh_tl1 (sh_tl1 (sh_tl1 (sh_tl1 (sh_tl1 (sh_tl1 sh_hd))))))))))))))) rfl)
theorem se_X12_tired : Cond.selects yX12_tired.cls yX12_tired yX12_tired ∈ sh_tb := (sh_w8 (sh_tl50 (sh_tl50 (sh_tl50 (sh_tl50 (sh_tl10 (sh_tl10 (sh_tl10 sh_hd))))))) rfl)
theorem pm_X12_tired : (parseMethodDescriptor yX12_tired.desc).map (fun d => d.parameters.length) = some 2 := by decide +kernel
theorem im_X12_rises : Cond.instanceMethod yX12_rises ∈ sh_tb := (sh_w8 (sh_tl50 (sh_tl50 (sh_tl50 (sh_tl50 (sh_tl10 (sh_tl10 (sh_tl10 (sh_tl1 (sh_tl1 (sh_tl1 sh_hd)))))))))) rfl)
theorem se_X12_rises : Cond.selects yX12_rises.cls yX12_rises yX12_rises ∈ sh_tb := (sh_w8 (sh_tl50 (sh_tl50 (sh_tl50 (sh_tl50 (sh_tl10 (sh_tl10 (sh_tl10 (sh_tl1 (sh_tl1 (sh_tl1 (sh_tl1 sh_hd))))))))))) rfl)
theorem pm_X12_rises : (parseMethodDescriptor yX12_rises.desc).map (fun d => d.parameters.length) = some 3 := by decide +kernel
theorem im_X12_isSo : Cond.instanceMethod yX12_isSo ∈ sh_tb := (sh_w9 (sh_tl10 (sh_tl1 sh_hd)) rfl)
theorem se_X12_isSo : Cond.selects yX12_isSo.cls yX12_isSo yX12_isSo ∈ sh_tb := (sh_wp8 (w := (⟨"ShrugHillsModel", "isSo", "()Z"⟩, _)) (List.mem_cons_of_mem _ (List.mem_cons_of_mem _ (List.mem_cons_of_mem _ (List.mem_cons_of_mem _ (List.mem_cons_of_mem _ (List.mem_cons_of_mem _ (List.mem_cons_of_mem _ (List.mem_cons_of_mem _ (List.mem_cons_of_mem _ (List.mem_cons_of_mem _ (List.mem_cons_of_mem _ (List.mem_cons_of_mem _ (List.mem_cons_of_mem _ (List.mem_cons_of_mem _ List.mem_cons_self)))))))))))))))
theorem pm_X12_isSo : (parseMethodDescriptor yX12_isSo.desc).map (fun d => d.parameters.length) = some 0 := by decide +kernel
theorem im_X12_doesShrug : Cond.instanceMethod yX12_doesShrug ∈ sh_tb := (sh_w9 (sh_tl10 (sh_tl10 (sh_tl1 (sh_tl1 (sh_tl1 sh_hd))))) rfl)
theorem se_X12_doesShrug : Cond.selects yX12_doesShrug.cls yX12_doesShrug yX12_doesShrug ∈ sh_tb := (sh_wp9 (w := (⟨"ShrugHillsModel", "doesShrug", "(I)Z"⟩, _)) (List.mem_cons_of_mem _ List.mem_cons_self))
theorem pm_X12_doesShrug : (parseMethodDescriptor yX12_doesShrug.desc).map (fun d => d.parameters.length) = some 1 := by decide +kernel
theorem im_X12_askingMany : Cond.instanceMethod yX12_askingMany ∈ sh_tb := (sh_w9 (sh_tl10 (sh_tl1 (sh_tl1 (sh_tl1 (sh_tl1 (sh_tl1 (sh_tl1 (sh_tl1 (sh_tl1 (sh_tl1 sh_hd)))))))))) rfl)
theorem se_X12_askingMany : Cond.selects yX12_askingMany.cls yX12_askingMany yX12_askingMany ∈ sh_tb := (sh_wp9 (w := (⟨"ShrugHillsModel", "askingMany", "()I"⟩, _)) List.mem_cons_self)
theorem pm_X12_askingMany : (parseMethodDescriptor yX12_askingMany.desc).map (fun d => d.parameters.length) = some 0 := by decide +kernel
theorem im_X12_isOne : Cond.instanceMethod yX12_isOne ∈ sh_tb := (sh_w9 (sh_tl10 (sh_tl1 (sh_tl1 (sh_tl1 (sh_tl1 (sh_tl1 sh_hd)))))) rfl)
theorem se_X12_isOne : Cond.selects yX12_isOne.cls yX12_isOne yX12_isOne ∈ sh_tb := (sh_wp8 (w := (⟨"ShrugHillsModel", "isOne", "()Z"⟩, _)) (List.mem_cons_of_mem _ (List.mem_cons_of_mem _ (List.mem_cons_of_mem _ (List.mem_cons_of_mem _ (List.mem_cons_of_mem _ (List.mem_cons_of_mem _ (List.mem_cons_of_mem _ (List.mem_cons_of_mem _ (List.mem_cons_of_mem _ (List.mem_cons_of_mem _ (List.mem_cons_of_mem _ (List.mem_cons_of_mem _ (List.mem_cons_of_mem _ (List.mem_cons_of_mem _ (List.mem_cons_of_mem _ List.mem_cons_self))))))))))))))))
theorem pm_X12_isOne : (parseMethodDescriptor yX12_isOne.desc).map (fun d => d.parameters.length) = some 0 := by decide +kernel
theorem im_X12_isTwo : Cond.instanceMethod yX12_isTwo ∈ sh_tb := (sh_w9 (sh_tl10 (sh_tl10 (sh_tl1 (sh_tl1 (sh_tl1 (sh_tl1 (sh_tl1 (sh_tl1 (sh_tl1 sh_hd))))))))) rfl)
theorem se_X12_isTwo : Cond.selects yX12_isTwo.cls yX12_isTwo yX12_isTwo ∈ sh_tb := (sh_wp9 (w := (⟨"ShrugHillsModel", "isTwo", "()Z"⟩, _)) (List.mem_cons_of_mem _ (List.mem_cons_of_mem _ List.mem_cons_self)))
theorem pm_X12_isTwo : (parseMethodDescriptor yX12_isTwo.desc).map (fun d => d.parameters.length) = some 0 := by decide +kernel
theorem im_X12_isThird : Cond.instanceMethod yX12_isThird ∈ sh_tb := (sh_w9 (sh_tl10 (sh_tl10 (sh_tl10 (sh_tl1 (sh_tl1 (sh_tl1 (sh_tl1 (sh_tl1 sh_hd)))))))) rfl)
theorem se_X12_isThird : Cond.selects yX12_isThird.cls yX12_isThird yX12_isThird ∈ sh_tb := (sh_wp9 (w := (⟨"ShrugHillsModel", "isThird", "()Z"⟩, _)) (List.mem_cons_of_mem _ (List.mem_cons_of_mem _ (List.mem_cons_of_mem _ (List.mem_cons_of_mem _ List.mem_cons_self)))))
theorem pm_X12_isThird : (parseMethodDescriptor yX12_isThird.desc).map (fun d => d.parameters.length) = some 0 := by decide +kernel
theorem im_X12_isThree : Cond.instanceMethod yX12_isThree ∈ sh_tb := (sh_w9 (sh_tl10 (sh_tl10 (sh_tl10 (sh_tl1 sh_hd)))) rfl)
theorem se_X12_isThree : Cond.selects yX12_isThree.cls yX12_isThree yX12_isThree ∈ sh_tb := (sh_wp9 (w := (⟨"ShrugHillsModel", "isThree", "()Z"⟩, _)) (List.mem_cons_of_mem _ (List.mem_cons_of_mem _ (List.mem_cons_of_mem _ List.mem_cons_self))))
theorem pm_X12_isThree : (parseMethodDescriptor yX12_isThree.desc).map (fun d => d.parameters.length) = some 0 := by decide +kernel
theorem im_X12_planMany : Cond.instanceMethod yX12_planMany ∈ sh_tb := (sh_w9 (sh_tl1 (sh_tl1 (sh_tl1 (sh_tl1 (sh_tl1 (sh_tl1 (sh_tl1 sh_hd))))))) rfl)
theorem se_X12_planMany : Cond.selects yX12_planMany.cls yX12_planMany yX12_planMany ∈ sh_tb := (sh_wp8 (w := (⟨"ShrugHillsModel", "planMany", "()I"⟩, _)) (List.mem_cons_of_mem _ (List.mem_cons_of_mem _ (List.mem_cons_of_mem _ (List.mem_cons_of_mem _ (List.mem_cons_of_mem _ (List.mem_cons_of_mem _ (List.mem_cons_of_mem _ (List.mem_cons_of_mem _ (List.mem_cons_of_mem _ (List.mem_cons_of_mem _ (List.mem_cons_of_mem _ (List.mem_cons_of_mem _ (List.mem_cons_of_mem _ List.mem_cons_self))))))))))))))
theorem pm_X12_planMany : (parseMethodDescriptor yX12_planMany.desc).map (fun d => d.parameters.length) = some 0 := by decide +kernel
theorem im_X12_plan : Cond.instanceMethod yX12_plan ∈ sh_tb := (sh_w8 (sh_tl50 (sh_tl50 (sh_tl50 (sh_tl50 (sh_tl10 (sh_tl10 (sh_tl10 (sh_tl1 (sh_tl1 (sh_tl1 (sh_tl1 (sh_tl1 (sh_tl1 (sh_tl1 sh_hd)))))))))))))) rfl)
theorem se_X12_plan : Cond.selects yX12_plan.cls yX12_plan yX12_plan ∈ sh_tb := (sh_w8 (sh_tl50 (sh_tl50 (sh_tl50 (sh_tl50 (sh_tl10 (sh_tl10 (sh_tl10 (sh_tl1 (sh_tl1 (sh_tl1 (sh_tl1 (sh_tl1 (sh_tl1 (sh_tl1 (sh_tl1 sh_hd))))))))))))))) rfl)
theorem pm_X12_plan : (parseMethodDescriptor yX12_plan.desc).map (fun d => d.parameters.length) = some 4 := by decide +kernel
theorem im_X12_beside : Cond.instanceMethod yX12_beside ∈ sh_tb := (sh_w9 (sh_tl50 (sh_tl1 sh_hd)) rfl)
theorem se_X12_beside : Cond.selects yX12_beside.cls yX12_beside yX12_beside ∈ sh_tb := (sh_wp9 (w := (⟨"ShrugHillsModel", "beside", "(II)I"⟩, _)) (List.mem_cons_of_mem _ (List.mem_cons_of_mem _ (List.mem_cons_of_mem _ (List.mem_cons_of_mem _ (List.mem_cons_of_mem _ (List.mem_cons_of_mem _ (List.mem_cons_of_mem _ List.mem_cons_self))))))))
theorem pm_X12_beside : (parseMethodDescriptor yX12_beside.desc).map (fun d => d.parameters.length) = some 2 := by decide +kernel
theorem im_X12_isCheaper : Cond.instanceMethod yX12_isCheaper ∈ sh_tb := (sh_w9 (sh_tl10 (sh_tl10 (sh_tl10 (sh_tl10 (sh_tl1 (sh_tl1 (sh_tl1 (sh_tl1 (sh_tl1 (sh_tl1 (sh_tl1 sh_hd))))))))))) rfl)
theorem se_X12_isCheaper : Cond.selects yX12_isCheaper.cls yX12_isCheaper yX12_isCheaper ∈ sh_tb := (sh_wp9 (w := (⟨"ShrugHillsModel", "isCheaper", "(I)Z"⟩, _)) (List.mem_cons_of_mem _ (List.mem_cons_of_mem _ (List.mem_cons_of_mem _ (List.mem_cons_of_mem _ (List.mem_cons_of_mem _ (List.mem_cons_of_mem _ List.mem_cons_self)))))))
theorem pm_X12_isCheaper : (parseMethodDescriptor yX12_isCheaper.desc).map (fun d => d.parameters.length) = some 1 := by decide +kernel
theorem im_X12_wayCost : Cond.instanceMethod yX12_wayCost ∈ sh_tb := (sh_w9 (sh_tl10 (sh_tl10 (sh_tl10 (sh_tl10 (sh_tl1 (sh_tl1 (sh_tl1 sh_hd))))))) rfl)
theorem se_X12_wayCost : Cond.selects yX12_wayCost.cls yX12_wayCost yX12_wayCost ∈ sh_tb := (sh_wp9 (w := (⟨"ShrugHillsModel", "wayCost", "(II)I"⟩, _)) (List.mem_cons_of_mem _ (List.mem_cons_of_mem _ (List.mem_cons_of_mem _ (List.mem_cons_of_mem _ (List.mem_cons_of_mem _ List.mem_cons_self))))))
theorem pm_X12_wayCost : (parseMethodDescriptor yX12_wayCost.desc).map (fun d => d.parameters.length) = some 2 := by decide +kernel
theorem im_X12_way : Cond.instanceMethod yX12_way ∈ sh_tb := (sh_w9 (sh_tl10 (sh_tl10 (sh_tl10 (sh_tl1 (sh_tl1 (sh_tl1 (sh_tl1 (sh_tl1 (sh_tl1 (sh_tl1 (sh_tl1 sh_hd))))))))))) rfl)
theorem se_X12_way : Cond.selects yX12_way.cls yX12_way yX12_way ∈ sh_tb := (sh_w9 (sh_tl10 (sh_tl10 (sh_tl10 (sh_tl1 (sh_tl1 (sh_tl1 (sh_tl1 (sh_tl1 (sh_tl1 (sh_tl1 (sh_tl1 (sh_tl1 sh_hd)))))))))))) rfl)
theorem pm_X12_way : (parseMethodDescriptor yX12_way.desc).map (fun d => d.parameters.length) = some 2 := by decide +kernel
theorem im_X12_lowerOf : Cond.instanceMethod yX12_lowerOf ∈ sh_tb := (sh_w9 (sh_tl50 (sh_tl1 (sh_tl1 (sh_tl1 (sh_tl1 (sh_tl1 (sh_tl1 (sh_tl1 (sh_tl1 (sh_tl1 sh_hd)))))))))) rfl)
theorem se_X12_lowerOf : Cond.selects yX12_lowerOf.cls yX12_lowerOf yX12_lowerOf ∈ sh_tb := (sh_wp9 (w := (⟨"ShrugHillsModel", "lowerOf", "(I)I"⟩, _)) (List.mem_cons_of_mem _ (List.mem_cons_of_mem _ (List.mem_cons_of_mem _ (List.mem_cons_of_mem _ (List.mem_cons_of_mem _ (List.mem_cons_of_mem _ (List.mem_cons_of_mem _ (List.mem_cons_of_mem _ List.mem_cons_self)))))))))
theorem pm_X12_lowerOf : (parseMethodDescriptor yX12_lowerOf.desc).map (fun d => d.parameters.length) = some 1 := by decide +kernel
theorem im_X12_pond : Cond.instanceMethod yX12_pond ∈ sh_tb := (sh_w9 (sh_tl50 (sh_tl1 (sh_tl1 (sh_tl1 (sh_tl1 sh_hd))))) rfl)
theorem se_X12_pond : Cond.selects yX12_pond.cls yX12_pond yX12_pond ∈ sh_tb := (sh_w9 (sh_tl50 (sh_tl1 (sh_tl1 (sh_tl1 (sh_tl1 (sh_tl1 sh_hd)))))) rfl)
theorem pm_X12_pond : (parseMethodDescriptor yX12_pond.desc).map (fun d => d.parameters.length) = some 2 := by decide +kernel
theorem im_X12_isWayKept : Cond.instanceMethod yX12_isWayKept ∈ sh_tb := (sh_w9 (sh_tl50 (sh_tl10 (sh_tl10 sh_hd))) rfl)
theorem se_X12_isWayKept : Cond.selects yX12_isWayKept.cls yX12_isWayKept yX12_isWayKept ∈ sh_tb := (sh_wp9 (w := (⟨"ShrugHillsModel", "isWayKept", "(IIIII)Z"⟩, _)) (List.mem_cons_of_mem _ (List.mem_cons_of_mem _ (List.mem_cons_of_mem _ (List.mem_cons_of_mem _ (List.mem_cons_of_mem _ (List.mem_cons_of_mem _ (List.mem_cons_of_mem _ (List.mem_cons_of_mem _ (List.mem_cons_of_mem _ List.mem_cons_self))))))))))
theorem pm_X12_isWayKept : (parseMethodDescriptor yX12_isWayKept.desc).map (fun d => d.parameters.length) = some 5 := by decide +kernel
theorem im_X12_keeps : Cond.instanceMethod yX12_keeps ∈ sh_tb := (sh_w9 (sh_tl50 (sh_tl10 (sh_tl1 (sh_tl1 (sh_tl1 (sh_tl1 (sh_tl1 sh_hd))))))) rfl)
theorem se_X12_keeps : Cond.selects yX12_keeps.cls yX12_keeps yX12_keeps ∈ sh_tb := (sh_w9 (sh_tl50 (sh_tl10 (sh_tl1 (sh_tl1 (sh_tl1 (sh_tl1 (sh_tl1 (sh_tl1 sh_hd)))))))) rfl)
theorem pm_X12_keeps : (parseMethodDescriptor yX12_keeps.desc).map (fun d => d.parameters.length) = some 3 := by decide +kernel
theorem im_X12_laysOwn : Cond.instanceMethod yX12_laysOwn ∈ sh_tb := (sh_w9 (sh_tl50 (sh_tl10 (sh_tl10 (sh_tl1 (sh_tl1 (sh_tl1 (sh_tl1 (sh_tl1 (sh_tl1 (sh_tl1 (sh_tl1 sh_hd))))))))))) rfl)
theorem se_X12_laysOwn : Cond.selects yX12_laysOwn.cls yX12_laysOwn yX12_laysOwn ∈ sh_tb := (sh_wp9 (w := (⟨"ShrugHillsModel", "laysOwn", "(I)V"⟩, _)) (List.mem_cons_of_mem _ (List.mem_cons_of_mem _ (List.mem_cons_of_mem _ (List.mem_cons_of_mem _ (List.mem_cons_of_mem _ (List.mem_cons_of_mem _ (List.mem_cons_of_mem _ (List.mem_cons_of_mem _ (List.mem_cons_of_mem _ (List.mem_cons_of_mem _ List.mem_cons_self)))))))))))
theorem pm_X12_laysOwn : (parseMethodDescriptor yX12_laysOwn.desc).map (fun d => d.parameters.length) = some 1 := by decide +kernel
theorem im_X12_isRest : Cond.instanceMethod yX12_isRest ∈ sh_tb := (sh_w9 (sh_tl50 (sh_tl10 (sh_tl10 (sh_tl10 (sh_tl1 (sh_tl1 sh_hd)))))) rfl)
theorem se_X12_isRest : Cond.selects yX12_isRest.cls yX12_isRest yX12_isRest ∈ sh_tb := (sh_wp9 (w := (⟨"ShrugHillsModel", "isRest", "(I)Z"⟩, _)) (List.mem_cons_of_mem _ (List.mem_cons_of_mem _ (List.mem_cons_of_mem _ (List.mem_cons_of_mem _ (List.mem_cons_of_mem _ (List.mem_cons_of_mem _ (List.mem_cons_of_mem _ (List.mem_cons_of_mem _ (List.mem_cons_of_mem _ (List.mem_cons_of_mem _ (List.mem_cons_of_mem _ List.mem_cons_self))))))))))))
theorem pm_X12_isRest : (parseMethodDescriptor yX12_isRest.desc).map (fun d => d.parameters.length) = some 1 := by decide +kernel
theorem im_X12_rest : Cond.instanceMethod yX12_rest ∈ sh_tb := (sh_w9 (sh_tl50 (sh_tl10 (sh_tl10 (sh_tl1 (sh_tl1 (sh_tl1 sh_hd)))))) rfl)
theorem se_X12_rest : Cond.selects yX12_rest.cls yX12_rest yX12_rest ∈ sh_tb := (sh_w9 (sh_tl50 (sh_tl10 (sh_tl10 (sh_tl1 (sh_tl1 (sh_tl1 (sh_tl1 sh_hd))))))) rfl)
theorem pm_X12_rest : (parseMethodDescriptor yX12_rest.desc).map (fun d => d.parameters.length) = some 1 := by decide +kernel
theorem im_X12_refuses : Cond.instanceMethod yX12_refuses ∈ sh_tb := (sh_w9 (sh_tl50 (sh_tl10 (sh_tl10 (sh_tl10 (sh_tl10 sh_hd))))) rfl)
theorem se_X12_refuses : Cond.selects yX12_refuses.cls yX12_refuses yX12_refuses ∈ sh_tb := (sh_wp9 (w := (⟨"ShrugHillsModel", "refuses", "(I)I"⟩, _)) (List.mem_cons_of_mem _ (List.mem_cons_of_mem _ (List.mem_cons_of_mem _ (List.mem_cons_of_mem _ (List.mem_cons_of_mem _ (List.mem_cons_of_mem _ (List.mem_cons_of_mem _ (List.mem_cons_of_mem _ (List.mem_cons_of_mem _ (List.mem_cons_of_mem _ (List.mem_cons_of_mem _ (List.mem_cons_of_mem _ List.mem_cons_self)))))))))))))
theorem pm_X12_refuses : (parseMethodDescriptor yX12_refuses.desc).map (fun d => d.parameters.length) = some 1 := by decide +kernel
theorem im_X12_see : Cond.instanceMethod yX12_see ∈ sh_tb := (sh_w9 (sh_tl50 (sh_tl10 (sh_tl10 (sh_tl10 (sh_tl1 (sh_tl1 (sh_tl1 (sh_tl1 (sh_tl1 sh_hd))))))))) rfl)
theorem se_X12_see : Cond.selects yX12_see.cls yX12_see yX12_see ∈ sh_tb := (sh_w9 (sh_tl50 (sh_tl10 (sh_tl10 (sh_tl10 (sh_tl1 (sh_tl1 (sh_tl1 (sh_tl1 (sh_tl1 (sh_tl1 sh_hd)))))))))) rfl)
theorem pm_X12_see : (parseMethodDescriptor yX12_see.desc).map (fun d => d.parameters.length) = some 0 := by decide +kernel
theorem im_X12_isAsSeen : Cond.instanceMethod yX12_isAsSeen ∈ sh_tb := (sh_w9 (sh_tl50 (sh_tl50 (sh_tl1 (sh_tl1 sh_hd)))) rfl)
theorem se_X12_isAsSeen : Cond.selects yX12_isAsSeen.cls yX12_isAsSeen yX12_isAsSeen ∈ sh_tb := (sh_wp9 (w := (⟨"ShrugHillsModel", "isAsSeen", "(I)Z"⟩, _)) (List.mem_cons_of_mem _ (List.mem_cons_of_mem _ (List.mem_cons_of_mem _ (List.mem_cons_of_mem _ (List.mem_cons_of_mem _ (List.mem_cons_of_mem _ (List.mem_cons_of_mem _ (List.mem_cons_of_mem _ (List.mem_cons_of_mem _ (List.mem_cons_of_mem _ (List.mem_cons_of_mem _ (List.mem_cons_of_mem _ (List.mem_cons_of_mem _ (List.mem_cons_of_mem _ List.mem_cons_self)))))))))))))))
theorem pm_X12_isAsSeen : (parseMethodDescriptor yX12_isAsSeen.desc).map (fun d => d.parameters.length) = some 1 := by decide +kernel
theorem im_X12_laysWho : Cond.instanceMethod yX12_laysWho ∈ sh_tb := (sh_w9 (sh_tl50 (sh_tl10 (sh_tl10 (sh_tl10 (sh_tl10 (sh_tl1 (sh_tl1 (sh_tl1 (sh_tl1 (sh_tl1 (sh_tl1 (sh_tl1 (sh_tl1 sh_hd))))))))))))) rfl)
theorem se_X12_laysWho : Cond.selects yX12_laysWho.cls yX12_laysWho yX12_laysWho ∈ sh_tb := (sh_wp9 (w := (⟨"ShrugHillsModel", "laysWho", "(I)V"⟩, _)) (List.mem_cons_of_mem _ (List.mem_cons_of_mem _ (List.mem_cons_of_mem _ (List.mem_cons_of_mem _ (List.mem_cons_of_mem _ (List.mem_cons_of_mem _ (List.mem_cons_of_mem _ (List.mem_cons_of_mem _ (List.mem_cons_of_mem _ (List.mem_cons_of_mem _ (List.mem_cons_of_mem _ (List.mem_cons_of_mem _ (List.mem_cons_of_mem _ List.mem_cons_self))))))))))))))
theorem pm_X12_laysWho : (parseMethodDescriptor yX12_laysWho.desc).map (fun d => d.parameters.length) = some 1 := by decide +kernel
theorem im_X12_who : Cond.instanceMethod yX12_who ∈ sh_tb := (sh_w9 (sh_tl50 (sh_tl10 (sh_tl10 (sh_tl10 (sh_tl10 (sh_tl1 (sh_tl1 (sh_tl1 sh_hd)))))))) rfl)
theorem se_X12_who : Cond.selects yX12_who.cls yX12_who yX12_who ∈ sh_tb := (sh_w9 (sh_tl50 (sh_tl10 (sh_tl10 (sh_tl10 (sh_tl10 (sh_tl1 (sh_tl1 (sh_tl1 (sh_tl1 sh_hd))))))))) rfl)
theorem pm_X12_who : (parseMethodDescriptor yX12_who.desc).map (fun d => d.parameters.length) = some 1 := by decide +kernel
theorem im_X12_mostAlike : Cond.instanceMethod yX12_mostAlike ∈ sh_tb := (sh_w9 (sh_tl50 (sh_tl50 (sh_tl10 (sh_tl1 sh_hd)))) rfl)
theorem se_X12_mostAlike : Cond.selects yX12_mostAlike.cls yX12_mostAlike yX12_mostAlike ∈ sh_tb := (sh_wp9 (w := (⟨"ShrugHillsModel", "mostAlike", "(I)I"⟩, _)) (List.mem_cons_of_mem _ (List.mem_cons_of_mem _ (List.mem_cons_of_mem _ (List.mem_cons_of_mem _ (List.mem_cons_of_mem _ (List.mem_cons_of_mem _ (List.mem_cons_of_mem _ (List.mem_cons_of_mem _ (List.mem_cons_of_mem _ (List.mem_cons_of_mem _ (List.mem_cons_of_mem _ (List.mem_cons_of_mem _ (List.mem_cons_of_mem _ (List.mem_cons_of_mem _ (List.mem_cons_of_mem _ List.mem_cons_self))))))))))))))))
theorem pm_X12_mostAlike : (parseMethodDescriptor yX12_mostAlike.desc).map (fun d => d.parameters.length) = some 1 := by decide +kernel
theorem im_X12_tells : Cond.instanceMethod yX12_tells ∈ sh_tb := (sh_w9 (sh_tl50 (sh_tl50 (sh_tl1 (sh_tl1 (sh_tl1 (sh_tl1 (sh_tl1 sh_hd))))))) rfl)
theorem se_X12_tells : Cond.selects yX12_tells.cls yX12_tells yX12_tells ∈ sh_tb := (sh_w9 (sh_tl50 (sh_tl50 (sh_tl1 (sh_tl1 (sh_tl1 (sh_tl1 (sh_tl1 (sh_tl1 sh_hd)))))))) rfl)
theorem pm_X12_tells : (parseMethodDescriptor yX12_tells.desc).map (fun d => d.parameters.length) = some 2 := by decide +kernel
theorem im_X12_stores : Cond.instanceMethod yX12_stores ∈ sh_tb := (sh_w9 (sh_tl50 (sh_tl50 (sh_tl10 (sh_tl10 (sh_tl1 (sh_tl1 (sh_tl1 sh_hd))))))) rfl)
theorem se_X12_stores : Cond.selects yX12_stores.cls yX12_stores yX12_stores ∈ sh_tb := (sh_wp10 (w := (⟨"ShrugHillsModel", "stores", "()V"⟩, _)) List.mem_cons_self)
theorem pm_X12_stores : (parseMethodDescriptor yX12_stores.desc).map (fun d => d.parameters.length) = some 0 := by decide +kernel
theorem im_X12_undo : Cond.instanceMethod yX12_undo ∈ sh_tb := (sh_w9 (sh_tl50 (sh_tl50 (sh_tl10 (sh_tl1 (sh_tl1 (sh_tl1 (sh_tl1 sh_hd))))))) rfl)
theorem se_X12_undo : Cond.selects yX12_undo.cls yX12_undo yX12_undo ∈ sh_tb := (sh_w9 (sh_tl50 (sh_tl50 (sh_tl10 (sh_tl1 (sh_tl1 (sh_tl1 (sh_tl1 (sh_tl1 sh_hd)))))))) rfl)
theorem pm_X12_undo : (parseMethodDescriptor yX12_undo.desc).map (fun d => d.parameters.length) = some 0 := by decide +kernel
theorem im_X12_isRefused : Cond.instanceMethod yX12_isRefused ∈ sh_tb := (sh_w9 (sh_tl50 (sh_tl50 (sh_tl10 (sh_tl10 (sh_tl10 (sh_tl1 sh_hd)))))) rfl)
theorem se_X12_isRefused : Cond.selects yX12_isRefused.cls yX12_isRefused yX12_isRefused ∈ sh_tb := (sh_wp10 (w := (⟨"ShrugHillsModel", "isRefused", "()Z"⟩, _)) (List.mem_cons_of_mem _ List.mem_cons_self))
theorem pm_X12_isRefused : (parseMethodDescriptor yX12_isRefused.desc).map (fun d => d.parameters.length) = some 0 := by decide +kernel
theorem im_X12_asks : Cond.instanceMethod yX12_asks ∈ sh_tb := (sh_w9 (sh_tl50 (sh_tl50 (sh_tl10 (sh_tl1 (sh_tl1 (sh_tl1 (sh_tl1 (sh_tl1 (sh_tl1 (sh_tl1 (sh_tl1 sh_hd))))))))))) rfl)
theorem se_X12_asks : Cond.selects yX12_asks.cls yX12_asks yX12_asks ∈ sh_tb := (sh_w9 (sh_tl50 (sh_tl50 (sh_tl10 (sh_tl1 (sh_tl1 (sh_tl1 (sh_tl1 (sh_tl1 (sh_tl1 (sh_tl1 (sh_tl1 (sh_tl1 sh_hd)))))))))))) rfl)
theorem pm_X12_asks : (parseMethodDescriptor yX12_asks.desc).map (fun d => d.parameters.length) = some 2 := by decide +kernel
theorem im_X12_teach : Cond.instanceMethod yX12_teach ∈ sh_tb := (sh_w9 (sh_tl50 (sh_tl50 (sh_tl10 (sh_tl10 (sh_tl1 (sh_tl1 (sh_tl1 (sh_tl1 (sh_tl1 (sh_tl1 sh_hd)))))))))) rfl)
theorem se_X12_teach : Cond.selects yX12_teach.cls yX12_teach yX12_teach ∈ sh_tb := (sh_w9 (sh_tl50 (sh_tl50 (sh_tl10 (sh_tl10 (sh_tl1 (sh_tl1 (sh_tl1 (sh_tl1 (sh_tl1 (sh_tl1 (sh_tl1 sh_hd))))))))))) rfl)
theorem pm_X12_teach : (parseMethodDescriptor yX12_teach.desc).map (fun d => d.parameters.length) = some 3 := by decide +kernel
theorem im_X12_go : Cond.instanceMethod yX12_go ∈ sh_tb := (sh_w9 (sh_tl50 (sh_tl50 (sh_tl10 (sh_tl10 (sh_tl10 (sh_tl1 (sh_tl1 (sh_tl1 (sh_tl1 sh_hd))))))))) rfl)
theorem se_X12_go : Cond.selects yX12_go.cls yX12_go yX12_go ∈ sh_tb := (sh_w9 (sh_tl50 (sh_tl50 (sh_tl10 (sh_tl10 (sh_tl10 (sh_tl1 (sh_tl1 (sh_tl1 (sh_tl1 (sh_tl1 sh_hd)))))))))) rfl)
theorem pm_X12_go : (parseMethodDescriptor yX12_go.desc).map (fun d => d.parameters.length) = some 3 := by decide +kernel
theorem im_X12_ease : Cond.instanceMethod yX12_ease ∈ sh_tb := (sh_w9 (sh_tl50 (sh_tl50 (sh_tl10 (sh_tl10 (sh_tl10 (sh_tl10 (sh_tl1 (sh_tl1 sh_hd)))))))) rfl)
theorem se_X12_ease : Cond.selects yX12_ease.cls yX12_ease yX12_ease ∈ sh_tb := (sh_w9 (sh_tl50 (sh_tl50 (sh_tl10 (sh_tl10 (sh_tl10 (sh_tl10 (sh_tl1 (sh_tl1 (sh_tl1 sh_hd))))))))) rfl)
theorem pm_X12_ease : (parseMethodDescriptor yX12_ease.desc).map (fun d => d.parameters.length) = some 1 := by decide +kernel
theorem im_X12_days : Cond.instanceMethod yX12_days ∈ sh_tb := (sh_w9 (sh_tl50 (sh_tl50 (sh_tl10 (sh_tl10 (sh_tl10 (sh_tl10 (sh_tl1 (sh_tl1 (sh_tl1 (sh_tl1 (sh_tl1 (sh_tl1 sh_hd)))))))))))) rfl)
theorem se_X12_days : Cond.selects yX12_days.cls yX12_days yX12_days ∈ sh_tb := (sh_w9 (sh_tl50 (sh_tl50 (sh_tl10 (sh_tl10 (sh_tl10 (sh_tl10 (sh_tl1 (sh_tl1 (sh_tl1 (sh_tl1 (sh_tl1 (sh_tl1 (sh_tl1 sh_hd))))))))))))) rfl)
theorem pm_X12_days : (parseMethodDescriptor yX12_days.desc).map (fun d => d.parameters.length) = some 1 := by decide +kernel
theorem im_X12_seed : Cond.instanceMethod yX12_seed ∈ sh_tb := (sh_w9 (sh_tl50 (sh_tl50 (sh_tl50 sh_hd))) rfl)
theorem se_X12_seed : Cond.selects yX12_seed.cls yX12_seed yX12_seed ∈ sh_tb := (sh_w9 (sh_tl50 (sh_tl50 (sh_tl50 (sh_tl1 sh_hd)))) rfl)
theorem pm_X12_seed : (parseMethodDescriptor yX12_seed.desc).map (fun d => d.parameters.length) = some 1 := by decide +kernel
theorem im_X12_drawOf : Cond.instanceMethod yX12_drawOf ∈ sh_tb := (sh_w9 (sh_tl50 (sh_tl50 (sh_tl50 (sh_tl1 (sh_tl1 (sh_tl1 (sh_tl1 (sh_tl1 (sh_tl1 (sh_tl1 (sh_tl1 (sh_tl1 sh_hd)))))))))))) rfl)
theorem se_X12_drawOf : Cond.selects yX12_drawOf.cls yX12_drawOf yX12_drawOf ∈ sh_tb := (sh_wp10 (w := (⟨"ShrugHillsModel", "drawOf", "(I)I"⟩, _)) (List.mem_cons_of_mem _ (List.mem_cons_of_mem _ (List.mem_cons_of_mem _ List.mem_cons_self))))
theorem pm_X12_drawOf : (parseMethodDescriptor yX12_drawOf.desc).map (fun d => d.parameters.length) = some 1 := by decide +kernel
theorem im_X12_chance : Cond.instanceMethod yX12_chance ∈ sh_tb := (sh_w9 (sh_tl50 (sh_tl50 (sh_tl50 (sh_tl1 (sh_tl1 (sh_tl1 (sh_tl1 sh_hd))))))) rfl)
theorem se_X12_chance : Cond.selects yX12_chance.cls yX12_chance yX12_chance ∈ sh_tb := (sh_w9 (sh_tl50 (sh_tl50 (sh_tl50 (sh_tl1 (sh_tl1 (sh_tl1 (sh_tl1 (sh_tl1 sh_hd)))))))) rfl)
theorem pm_X12_chance : (parseMethodDescriptor yX12_chance.desc).map (fun d => d.parameters.length) = some 1 := by decide +kernel
theorem im_X12_qCode : Cond.instanceMethod yX12_qCode ∈ sh_tb := (sh_w7 (sh_tl50 (sh_tl50 (sh_tl50 (sh_tl50 (sh_tl10 (sh_tl10 (sh_tl10 sh_hd))))))) rfl)
theorem se_X12_qCode : Cond.selects yX12_qCode.cls yX12_qCode yX12_qCode ∈ sh_tb := (sh_wp5 (w := (⟨"ShrugHillsModel", "qCode", "(I)V"⟩, _)) (List.mem_cons_of_mem _ (List.mem_cons_of_mem _ (List.mem_cons_of_mem _ (List.mem_cons_of_mem _ (List.mem_cons_of_mem _ (List.mem_cons_of_mem _ (List.mem_cons_of_mem _ (List.mem_cons_of_mem _ (List.mem_cons_of_mem _ (List.mem_cons_of_mem _ (List.mem_cons_of_mem _ (List.mem_cons_of_mem _ (List.mem_cons_of_mem _ (List.mem_cons_of_mem _ List.mem_cons_self)))))))))))))))
theorem pm_X12_qCode : (parseMethodDescriptor yX12_qCode.desc).map (fun d => d.parameters.length) = some 1 := by decide +kernel
theorem im_X12_qOpens : Cond.instanceMethod yX12_qOpens ∈ sh_tb := (sh_w7 (sh_tl50 (sh_tl50 (sh_tl50 (sh_tl50 (sh_tl10 (sh_tl10 (sh_tl1 (sh_tl1 sh_hd)))))))) rfl)
theorem se_X12_qOpens : Cond.selects yX12_qOpens.cls yX12_qOpens yX12_qOpens ∈ sh_tb := (sh_wp5 (w := (⟨"ShrugHillsModel", "qOpens", "(II)V"⟩, _)) (List.mem_cons_of_mem _ (List.mem_cons_of_mem _ (List.mem_cons_of_mem _ (List.mem_cons_of_mem _ (List.mem_cons_of_mem _ (List.mem_cons_of_mem _ (List.mem_cons_of_mem _ (List.mem_cons_of_mem _ (List.mem_cons_of_mem _ (List.mem_cons_of_mem _ (List.mem_cons_of_mem _ (List.mem_cons_of_mem _ List.mem_cons_self)))))))))))))
theorem pm_X12_qOpens : (parseMethodDescriptor yX12_qOpens.desc).map (fun d => d.parameters.length) = some 2 := by decide +kernel
theorem im_X12_qIsOn : Cond.instanceMethod yX12_qIsOn ∈ sh_tb := (sh_w8 (sh_tl10 (sh_tl10 (sh_tl10 (sh_tl10 (sh_tl1 sh_hd))))) rfl)
theorem se_X12_qIsOn : Cond.selects yX12_qIsOn.cls yX12_qIsOn yX12_qIsOn ∈ sh_tb := (sh_wp6 (w := (⟨"ShrugHillsModel", "qIsOn", "(I)Z"⟩, _)) (List.mem_cons_of_mem _ (List.mem_cons_of_mem _ (List.mem_cons_of_mem _ (List.mem_cons_of_mem _ (List.mem_cons_of_mem _ (List.mem_cons_of_mem _ (List.mem_cons_of_mem _ (List.mem_cons_of_mem _ (List.mem_cons_of_mem _ (List.mem_cons_of_mem _ List.mem_cons_self)))))))))))
theorem pm_X12_qIsOn : (parseMethodDescriptor yX12_qIsOn.desc).map (fun d => d.parameters.length) = some 1 := by decide +kernel
theorem im_X12_qDrops : Cond.instanceMethod yX12_qDrops ∈ sh_tb := (sh_w8 (sh_tl10 (sh_tl10 (sh_tl1 (sh_tl1 sh_hd)))) rfl)
theorem se_X12_qDrops : Cond.selects yX12_qDrops.cls yX12_qDrops yX12_qDrops ∈ sh_tb := (sh_wp6 (w := (⟨"ShrugHillsModel", "qDrops", "()V"⟩, _)) (List.mem_cons_of_mem _ (List.mem_cons_of_mem _ (List.mem_cons_of_mem _ (List.mem_cons_of_mem _ (List.mem_cons_of_mem _ (List.mem_cons_of_mem _ List.mem_cons_self)))))))
theorem pm_X12_qDrops : (parseMethodDescriptor yX12_qDrops.desc).map (fun d => d.parameters.length) = some 0 := by decide +kernel
theorem sm_X12_qIsBracket : Cond.static yX12_qIsBracket ∈ sh_tb := (sh_w8 (sh_tl10 (sh_tl10 (sh_tl10 (sh_tl1 (sh_tl1 (sh_tl1 sh_hd)))))) rfl)
theorem pm_X12_qIsBracket : (parseMethodDescriptor yX12_qIsBracket.desc).map (fun d => d.parameters.length) = some 1 := by decide +kernel
theorem im_X12_qBracket : Cond.instanceMethod yX12_qBracket ∈ sh_tb := (sh_w8 (sh_tl10 (sh_tl10 (sh_tl10 sh_hd))) rfl)
theorem se_X12_qBracket : Cond.selects yX12_qBracket.cls yX12_qBracket yX12_qBracket ∈ sh_tb := (sh_wp6 (w := (⟨"ShrugHillsModel", "qBracket", "()I"⟩, _)) (List.mem_cons_of_mem _ (List.mem_cons_of_mem _ (List.mem_cons_of_mem _ (List.mem_cons_of_mem _ (List.mem_cons_of_mem _ (List.mem_cons_of_mem _ (List.mem_cons_of_mem _ (List.mem_cons_of_mem _ List.mem_cons_self)))))))))
theorem pm_X12_qBracket : (parseMethodDescriptor yX12_qBracket.desc).map (fun d => d.parameters.length) = some 0 := by decide +kernel
theorem im_X12_qDropsToBracket : Cond.instanceMethod yX12_qDropsToBracket ∈ sh_tb := (sh_w8 (sh_tl10 (sh_tl10 (sh_tl10 (sh_tl1 (sh_tl1 (sh_tl1 (sh_tl1 (sh_tl1 (sh_tl1 (sh_tl1 sh_hd)))))))))) rfl)
theorem se_X12_qDropsToBracket : Cond.selects yX12_qDropsToBracket.cls yX12_qDropsToBracket yX12_qDropsToBracket ∈ sh_tb := (sh_wp6 (w := (⟨"ShrugHillsModel", "qDropsToBracket", "()V"⟩, _)) (List.mem_cons_of_mem _ (List.mem_cons_of_mem _ (List.mem_cons_of_mem _ (List.mem_cons_of_mem _ (List.mem_cons_of_mem _ (List.mem_cons_of_mem _ (List.mem_cons_of_mem _ (List.mem_cons_of_mem _ (List.mem_cons_of_mem _ List.mem_cons_self))))))))))
theorem pm_X12_qDropsToBracket : (parseMethodDescriptor yX12_qDropsToBracket.desc).map (fun d => d.parameters.length) = some 0 := by decide +kernel
theorem im_X12_qWordHere : Cond.instanceMethod yX12_qWordHere ∈ sh_tb := (sh_w8 (sh_tl1 (sh_tl1 (sh_tl1 (sh_tl1 (sh_tl1 (sh_tl1 sh_hd)))))) rfl)
theorem se_X12_qWordHere : Cond.selects yX12_qWordHere.cls yX12_qWordHere yX12_qWordHere ∈ sh_tb := (sh_wp6 (w := (⟨"ShrugHillsModel", "qWordHere", "()I"⟩, _)) (List.mem_cons_of_mem _ (List.mem_cons_of_mem _ List.mem_cons_self)))
theorem pm_X12_qWordHere : (parseMethodDescriptor yX12_qWordHere.desc).map (fun d => d.parameters.length) = some 0 := by decide +kernel
theorem im_X12_qWordOf : Cond.instanceMethod yX12_qWordOf ∈ sh_tb := (sh_w8 (sh_tl1 (sh_tl1 sh_hd)) rfl)
theorem se_X12_qWordOf : Cond.selects yX12_qWordOf.cls yX12_qWordOf yX12_qWordOf ∈ sh_tb := (sh_wp6 (w := (⟨"ShrugHillsModel", "qWordOf", "(II)I"⟩, _)) (List.mem_cons_of_mem _ List.mem_cons_self))
theorem pm_X12_qWordOf : (parseMethodDescriptor yX12_qWordOf.desc).map (fun d => d.parameters.length) = some 2 := by decide +kernel
theorem im_X12_qAsksWord : Cond.instanceMethod yX12_qAsksWord ∈ sh_tb := (sh_w8 (sh_tl10 (sh_tl1 (sh_tl1 (sh_tl1 (sh_tl1 sh_hd))))) rfl)
theorem se_X12_qAsksWord : Cond.selects yX12_qAsksWord.cls yX12_qAsksWord yX12_qAsksWord ∈ sh_tb := (sh_wp6 (w := (⟨"ShrugHillsModel", "qAsksWord", "(I)V"⟩, _)) (List.mem_cons_of_mem _ (List.mem_cons_of_mem _ (List.mem_cons_of_mem _ (List.mem_cons_of_mem _ List.mem_cons_self)))))
theorem pm_X12_qAsksWord : (parseMethodDescriptor yX12_qAsksWord.desc).map (fun d => d.parameters.length) = some 1 := by decide +kernel
theorem im_X12_qEndsPart : Cond.instanceMethod yX12_qEndsPart ∈ sh_tb := (sh_w8 (sh_tl10 (sh_tl1 (sh_tl1 (sh_tl1 (sh_tl1 (sh_tl1 (sh_tl1 (sh_tl1 (sh_tl1 sh_hd))))))))) rfl)
theorem se_X12_qEndsPart : Cond.selects yX12_qEndsPart.cls yX12_qEndsPart yX12_qEndsPart ∈ sh_tb := (sh_wp6 (w := (⟨"ShrugHillsModel", "qEndsPart", "()V"⟩, _)) (List.mem_cons_of_mem _ (List.mem_cons_of_mem _ (List.mem_cons_of_mem _ (List.mem_cons_of_mem _ (List.mem_cons_of_mem _ List.mem_cons_self))))))
theorem pm_X12_qEndsPart : (parseMethodDescriptor yX12_qEndsPart.desc).map (fun d => d.parameters.length) = some 0 := by decide +kernel
theorem im_X12_qPartTold : Cond.instanceMethod yX12_qPartTold ∈ sh_tb := (sh_w7 (sh_tl50 (sh_tl50 (sh_tl50 (sh_tl50 (sh_tl10 (sh_tl10 (sh_tl10 (sh_tl1 (sh_tl1 (sh_tl1 (sh_tl1 (sh_tl1 (sh_tl1 (sh_tl1 (sh_tl1 sh_hd))))))))))))))) rfl)
theorem se_X12_qPartTold : Cond.selects yX12_qPartTold.cls yX12_qPartTold yX12_qPartTold ∈ sh_tb := (sh_wp6 (w := (⟨"ShrugHillsModel", "qPartTold", "()V"⟩, _)) List.mem_cons_self)
theorem pm_X12_qPartTold : (parseMethodDescriptor yX12_qPartTold.desc).map (fun d => d.parameters.length) = some 0 := by decide +kernel
theorem im_X12_qGoesOn : Cond.instanceMethod yX12_qGoesOn ∈ sh_tb := (sh_w8 (sh_tl10 (sh_tl10 (sh_tl1 (sh_tl1 (sh_tl1 (sh_tl1 (sh_tl1 (sh_tl1 sh_hd)))))))) rfl)
theorem se_X12_qGoesOn : Cond.selects yX12_qGoesOn.cls yX12_qGoesOn yX12_qGoesOn ∈ sh_tb := (sh_wp6 (w := (⟨"ShrugHillsModel", "qGoesOn", "()Z"⟩, _)) (List.mem_cons_of_mem _ (List.mem_cons_of_mem _ (List.mem_cons_of_mem _ (List.mem_cons_of_mem _ (List.mem_cons_of_mem _ (List.mem_cons_of_mem _ (List.mem_cons_of_mem _ List.mem_cons_self))))))))
theorem pm_X12_qGoesOn : (parseMethodDescriptor yX12_qGoesOn.desc).map (fun d => d.parameters.length) = some 0 := by decide +kernel
theorem im_X12_qSums : Cond.instanceMethod yX12_qSums ∈ sh_tb := (sh_w7 (sh_tl50 (sh_tl50 (sh_tl50 (sh_tl50 (sh_tl10 (sh_tl10 (sh_tl10 (sh_tl1 (sh_tl1 (sh_tl1 (sh_tl1 sh_hd))))))))))) rfl)
theorem se_X12_qSums : Cond.selects yX12_qSums.cls yX12_qSums yX12_qSums ∈ sh_tb := (sh_wp5 (w := (⟨"ShrugHillsModel", "qSums", "()V"⟩, _)) (List.mem_cons_of_mem _ (List.mem_cons_of_mem _ (List.mem_cons_of_mem _ (List.mem_cons_of_mem _ (List.mem_cons_of_mem _ (List.mem_cons_of_mem _ (List.mem_cons_of_mem _ (List.mem_cons_of_mem _ (List.mem_cons_of_mem _ (List.mem_cons_of_mem _ (List.mem_cons_of_mem _ (List.mem_cons_of_mem _ (List.mem_cons_of_mem _ (List.mem_cons_of_mem _ (List.mem_cons_of_mem _ List.mem_cons_self))))))))))))))))
theorem pm_X12_qSums : (parseMethodDescriptor yX12_qSums.desc).map (fun d => d.parameters.length) = some 0 := by decide +kernel
theorem im_X12_qFact : Cond.instanceMethod yX12_qFact ∈ sh_tb := (sh_w7 (sh_tl50 (sh_tl50 (sh_tl50 (sh_tl50 (sh_tl10 (sh_tl10 (sh_tl1 (sh_tl1 (sh_tl1 (sh_tl1 (sh_tl1 (sh_tl1 sh_hd)))))))))))) rfl)
theorem se_X12_qFact : Cond.selects yX12_qFact.cls yX12_qFact yX12_qFact ∈ sh_tb := (sh_wp5 (w := (⟨"ShrugHillsModel", "qFact", "()V"⟩, _)) (List.mem_cons_of_mem _ (List.mem_cons_of_mem _ (List.mem_cons_of_mem _ (List.mem_cons_of_mem _ (List.mem_cons_of_mem _ (List.mem_cons_of_mem _ (List.mem_cons_of_mem _ (List.mem_cons_of_mem _ (List.mem_cons_of_mem _ (List.mem_cons_of_mem _ (List.mem_cons_of_mem _ (List.mem_cons_of_mem _ (List.mem_cons_of_mem _ List.mem_cons_self))))))))))))))
theorem pm_X12_qFact : (parseMethodDescriptor yX12_qFact.desc).map (fun d => d.parameters.length) = some 0 := by decide +kernel
theorem im_X12_qHasSquare : Cond.instanceMethod yX12_qHasSquare ∈ sh_tb := (sh_w8 (sh_tl50 (sh_tl1 (sh_tl1 (sh_tl1 sh_hd)))) rfl)
theorem se_X12_qHasSquare : Cond.selects yX12_qHasSquare.cls yX12_qHasSquare yX12_qHasSquare ∈ sh_tb := (sh_wp6 (w := (⟨"ShrugHillsModel", "qHasSquare", "()Z"⟩, _)) (List.mem_cons_of_mem _ (List.mem_cons_of_mem _ (List.mem_cons_of_mem _ (List.mem_cons_of_mem _ (List.mem_cons_of_mem _ (List.mem_cons_of_mem _ (List.mem_cons_of_mem _ (List.mem_cons_of_mem _ (List.mem_cons_of_mem _ (List.mem_cons_of_mem _ (List.mem_cons_of_mem _ (List.mem_cons_of_mem _ (List.mem_cons_of_mem _ List.mem_cons_self))))))))))))))
theorem pm_X12_qHasSquare : (parseMethodDescriptor yX12_qHasSquare.desc).map (fun d => d.parameters.length) = some 0 := by decide +kernel
theorem im_X12_qDropsNots : Cond.instanceMethod yX12_qDropsNots ∈ sh_tb := (sh_w8 (sh_tl10 (sh_tl10 (sh_tl10 (sh_tl10 (sh_tl1 (sh_tl1 (sh_tl1 (sh_tl1 (sh_tl1 sh_hd))))))))) rfl)
theorem se_X12_qDropsNots : Cond.selects yX12_qDropsNots.cls yX12_qDropsNots yX12_qDropsNots ∈ sh_tb := (sh_wp6 (w := (⟨"ShrugHillsModel", "qDropsNots", "()V"⟩, _)) (List.mem_cons_of_mem _ (List.mem_cons_of_mem _ (List.mem_cons_of_mem _ (List.mem_cons_of_mem _ (List.mem_cons_of_mem _ (List.mem_cons_of_mem _ (List.mem_cons_of_mem _ (List.mem_cons_of_mem _ (List.mem_cons_of_mem _ (List.mem_cons_of_mem _ (List.mem_cons_of_mem _ List.mem_cons_self))))))))))))
theorem pm_X12_qDropsNots : (parseMethodDescriptor yX12_qDropsNots.desc).map (fun d => d.parameters.length) = some 0 := by decide +kernel
theorem im_X12_qTest : Cond.instanceMethod yX12_qTest ∈ sh_tb := (sh_w7 (sh_tl50 (sh_tl50 (sh_tl50 (sh_tl50 (sh_tl10 (sh_tl1 (sh_tl1 (sh_tl1 (sh_tl1 (sh_tl1 (sh_tl1 (sh_tl1 (sh_tl1 sh_hd))))))))))))) rfl)
theorem se_X12_qTest : Cond.selects yX12_qTest.cls yX12_qTest yX12_qTest ∈ sh_tb := (sh_wp5 (w := (⟨"ShrugHillsModel", "qTest", "()V"⟩, _)) (List.mem_cons_of_mem _ (List.mem_cons_of_mem _ (List.mem_cons_of_mem _ (List.mem_cons_of_mem _ (List.mem_cons_of_mem _ (List.mem_cons_of_mem _ (List.mem_cons_of_mem _ (List.mem_cons_of_mem _ (List.mem_cons_of_mem _ (List.mem_cons_of_mem _ (List.mem_cons_of_mem _ List.mem_cons_self))))))))))))
theorem pm_X12_qTest : (parseMethodDescriptor yX12_qTest.desc).map (fun d => d.parameters.length) = some 0 := by decide +kernel
theorem im_X12_qGoesOnTest : Cond.instanceMethod yX12_qGoesOnTest ∈ sh_tb := (sh_w8 (sh_tl10 (sh_tl10 (sh_tl10 (sh_tl10 (sh_tl1 (sh_tl1 (sh_tl1 (sh_tl1 (sh_tl1 (sh_tl1 (sh_tl1 (sh_tl1 (sh_tl1 sh_hd))))))))))))) rfl)
theorem se_X12_qGoesOnTest : Cond.selects yX12_qGoesOnTest.cls yX12_qGoesOnTest yX12_qGoesOnTest ∈ sh_tb := (sh_wp6 (w := (⟨"ShrugHillsModel", "qGoesOnTest", "()Z"⟩, _)) (List.mem_cons_of_mem _ (List.mem_cons_of_mem _ (List.mem_cons_of_mem _ (List.mem_cons_of_mem _ (List.mem_cons_of_mem _ (List.mem_cons_of_mem _ (List.mem_cons_of_mem _ (List.mem_cons_of_mem _ (List.mem_cons_of_mem _ (List.mem_cons_of_mem _ (List.mem_cons_of_mem _ (List.mem_cons_of_mem _ List.mem_cons_self)))))))))))))
theorem pm_X12_qGoesOnTest : (parseMethodDescriptor yX12_qGoesOnTest.desc).map (fun d => d.parameters.length) = some 0 := by decide +kernel
theorem sm_X12_qClip : Cond.static yX12_qClip ∈ sh_tb := (sh_w8 (sh_tl50 (sh_tl50 (sh_tl50 (sh_tl10 (sh_tl1 (sh_tl1 (sh_tl1 (sh_tl1 sh_hd)))))))) rfl)
theorem pm_X12_qClip : (parseMethodDescriptor yX12_qClip.desc).map (fun d => d.parameters.length) = some 1 := by decide +kernel
theorem sm_X12_qFloor : Cond.static yX12_qFloor ∈ sh_tb := (sh_w8 (sh_tl50 (sh_tl50 (sh_tl50 (sh_tl10 (sh_tl1 (sh_tl1 (sh_tl1 (sh_tl1 (sh_tl1 (sh_tl1 (sh_tl1 (sh_tl1 (sh_tl1 sh_hd))))))))))))) rfl)
theorem pm_X12_qFloor : (parseMethodDescriptor yX12_qFloor.desc).map (fun d => d.parameters.length) = some 2 := by decide +kernel
theorem im_X12_qPuts : Cond.instanceMethod yX12_qPuts ∈ sh_tb := (sh_w8 (sh_tl50 (sh_tl50 (sh_tl50 sh_hd))) rfl)
theorem se_X12_qPuts : Cond.selects yX12_qPuts.cls yX12_qPuts yX12_qPuts ∈ sh_tb := (sh_wp7 (w := (⟨"ShrugHillsModel", "qPuts", "(J)V"⟩, _)) (List.mem_cons_of_mem _ (List.mem_cons_of_mem _ (List.mem_cons_of_mem _ (List.mem_cons_of_mem _ (List.mem_cons_of_mem _ (List.mem_cons_of_mem _ (List.mem_cons_of_mem _ (List.mem_cons_of_mem _ (List.mem_cons_of_mem _ (List.mem_cons_of_mem _ (List.mem_cons_of_mem _ (List.mem_cons_of_mem _ (List.mem_cons_of_mem _ (List.mem_cons_of_mem _ List.mem_cons_self)))))))))))))))
theorem pm_X12_qPuts : (parseMethodDescriptor yX12_qPuts.desc).map (fun d => d.parameters.length) = some 1 := by decide +kernel
theorem im_X12_qJoins : Cond.instanceMethod yX12_qJoins ∈ sh_tb := (sh_w8 (sh_tl50 (sh_tl50 (sh_tl50 (sh_tl10 (sh_tl1 sh_hd))))) rfl)
theorem se_X12_qJoins : Cond.selects yX12_qJoins.cls yX12_qJoins yX12_qJoins ∈ sh_tb := (sh_wp8 (w := (⟨"ShrugHillsModel", "qJoins", "(I)V"⟩, _)) List.mem_cons_self)
theorem pm_X12_qJoins : (parseMethodDescriptor yX12_qJoins.desc).map (fun d => d.parameters.length) = some 1 := by decide +kernel
theorem im_X12_qPartOf : Cond.instanceMethod yX12_qPartOf ∈ sh_tb := (sh_w8 (sh_tl50 (sh_tl50 (sh_tl50 (sh_tl1 (sh_tl1 (sh_tl1 (sh_tl1 sh_hd))))))) rfl)
theorem se_X12_qPartOf : Cond.selects yX12_qPartOf.cls yX12_qPartOf yX12_qPartOf ∈ sh_tb := (sh_wp7 (w := (⟨"ShrugHillsModel", "qPartOf", "(II)J"⟩, _)) (List.mem_cons_of_mem _ (List.mem_cons_of_mem _ (List.mem_cons_of_mem _ (List.mem_cons_of_mem _ (List.mem_cons_of_mem _ (List.mem_cons_of_mem _ (List.mem_cons_of_mem _ (List.mem_cons_of_mem _ (List.mem_cons_of_mem _ (List.mem_cons_of_mem _ (List.mem_cons_of_mem _ (List.mem_cons_of_mem _ (List.mem_cons_of_mem _ (List.mem_cons_of_mem _ (List.mem_cons_of_mem _ List.mem_cons_self))))))))))))))))
theorem pm_X12_qPartOf : (parseMethodDescriptor yX12_qPartOf.desc).map (fun d => d.parameters.length) = some 2 := by decide +kernel
theorem im_X12_qOf : Cond.instanceMethod yX12_qOf ∈ sh_tb := (sh_w9 (sh_tl50 (sh_tl50 (sh_tl50 (sh_tl10 (sh_tl10 (sh_tl10 (sh_tl1 (sh_tl1 (sh_tl1 (sh_tl1 (sh_tl1 sh_hd))))))))))) rfl)
theorem se_X12_qOf : Cond.selects yX12_qOf.cls yX12_qOf yX12_qOf ∈ sh_tb := (sh_wp10 (w := (⟨"ShrugHillsModel", "qOf", "(IJI)J"⟩, _)) (List.mem_cons_of_mem _ (List.mem_cons_of_mem _ (List.mem_cons_of_mem _ (List.mem_cons_of_mem _ (List.mem_cons_of_mem _ (List.mem_cons_of_mem _ (List.mem_cons_of_mem _ List.mem_cons_self))))))))
theorem pm_X12_qOf : (parseMethodDescriptor yX12_qOf.desc).map (fun d => d.parameters.length) = some 3 := by decide +kernel
theorem im_X12_qTold : Cond.instanceMethod yX12_qTold ∈ sh_tb := (sh_w9 (sh_tl50 (sh_tl50 (sh_tl50 (sh_tl10 (sh_tl10 (sh_tl10 (sh_tl1 sh_hd))))))) rfl)
theorem se_X12_qTold : Cond.selects yX12_qTold.cls yX12_qTold yX12_qTold ∈ sh_tb := (sh_wp10 (w := (⟨"ShrugHillsModel", "qTold", "(I)J"⟩, _)) (List.mem_cons_of_mem _ (List.mem_cons_of_mem _ (List.mem_cons_of_mem _ (List.mem_cons_of_mem _ (List.mem_cons_of_mem _ (List.mem_cons_of_mem _ List.mem_cons_self)))))))
theorem pm_X12_qTold : (parseMethodDescriptor yX12_qTold.desc).map (fun d => d.parameters.length) = some 1 := by decide +kernel
theorem im_X12_qKind : Cond.instanceMethod yX12_qKind ∈ sh_tb := (sh_w9 (sh_tl50 (sh_tl50 (sh_tl50 (sh_tl10 (sh_tl10 (sh_tl1 (sh_tl1 sh_hd))))))) rfl)
theorem se_X12_qKind : Cond.selects yX12_qKind.cls yX12_qKind yX12_qKind ∈ sh_tb := (sh_wp10 (w := (⟨"ShrugHillsModel", "qKind", "()I"⟩, _)) (List.mem_cons_of_mem _ (List.mem_cons_of_mem _ (List.mem_cons_of_mem _ (List.mem_cons_of_mem _ List.mem_cons_self)))))
theorem pm_X12_qKind : (parseMethodDescriptor yX12_qKind.desc).map (fun d => d.parameters.length) = some 0 := by decide +kernel
theorem im_X12_qTakes : Cond.instanceMethod yX12_qTakes ∈ sh_tb := (sh_w9 (sh_tl50 (sh_tl50 (sh_tl50 (sh_tl10 (sh_tl10 (sh_tl10 (sh_tl1 (sh_tl1 (sh_tl1 (sh_tl1 (sh_tl1 (sh_tl1 (sh_tl1 (sh_tl1 (sh_tl1 sh_hd))))))))))))))) rfl)
theorem se_X12_qTakes : Cond.selects yX12_qTakes.cls yX12_qTakes yX12_qTakes ∈ sh_tb := (sh_wp10 (w := (⟨"ShrugHillsModel", "qTakes", "(IJI)V"⟩, _)) (List.mem_cons_of_mem _ (List.mem_cons_of_mem _ (List.mem_cons_of_mem _ (List.mem_cons_of_mem _ (List.mem_cons_of_mem _ (List.mem_cons_of_mem _ (List.mem_cons_of_mem _ (List.mem_cons_of_mem _ List.mem_cons_self)))))))))
theorem pm_X12_qTakes : (parseMethodDescriptor yX12_qTakes.desc).map (fun d => d.parameters.length) = some 3 := by decide +kernel
theorem im_X12_ask : Cond.instanceMethod yX12_ask ∈ sh_tb := (sh_w9 (sh_tl50 (sh_tl50 (sh_tl50 (sh_tl10 (sh_tl1 (sh_tl1 (sh_tl1 (sh_tl1 (sh_tl1 (sh_tl1 sh_hd)))))))))) rfl)
theorem se_X12_ask : Cond.selects yX12_ask.cls yX12_ask yX12_ask ∈ sh_tb := (sh_w9 (sh_tl50 (sh_tl50 (sh_tl50 (sh_tl10 (sh_tl1 (sh_tl1 (sh_tl1 (sh_tl1 (sh_tl1 (sh_tl1 (sh_tl1 sh_hd))))))))))) rfl)
theorem pm_X12_ask : (parseMethodDescriptor yX12_ask.desc).map (fun d => d.parameters.length) = some 0 := by decide +kernel
theorem sm_X12_checked : Cond.static yX12_checked ∈ sh_tb := (sh_w9 (sh_tl50 (sh_tl50 (sh_tl50 (sh_tl50 sh_hd)))) rfl)
theorem pm_X12_checked : (parseMethodDescriptor yX12_checked.desc).map (fun d => d.parameters.length) = some 2 := by decide +kernel
theorem im_X12_writes : Cond.instanceMethod yX12_writes ∈ sh_tb := (sh_w9 (sh_tl50 (sh_tl50 (sh_tl50 (sh_tl10 (sh_tl10 (sh_tl10 (sh_tl10 (sh_tl1 (sh_tl1 (sh_tl1 (sh_tl1 (sh_tl1 (sh_tl1 (sh_tl1 sh_hd)))))))))))))) rfl)
theorem se_X12_writes : Cond.selects yX12_writes.cls yX12_writes yX12_writes ∈ sh_tb := (sh_wp10 (w := (⟨"ShrugHillsModel", "writes", "(I)V"⟩, _)) (List.mem_cons_of_mem _ (List.mem_cons_of_mem _ (List.mem_cons_of_mem _ (List.mem_cons_of_mem _ (List.mem_cons_of_mem _ (List.mem_cons_of_mem _ (List.mem_cons_of_mem _ (List.mem_cons_of_mem _ (List.mem_cons_of_mem _ List.mem_cons_self))))))))))
theorem pm_X12_writes : (parseMethodDescriptor yX12_writes.desc).map (fun d => d.parameters.length) = some 1 := by decide +kernel
theorem im_X12_image : Cond.instanceMethod yX12_image ∈ sh_tb := (sh_w9 (sh_tl50 (sh_tl50 (sh_tl50 (sh_tl10 (sh_tl10 (sh_tl10 (sh_tl10 (sh_tl1 (sh_tl1 sh_hd))))))))) rfl)
theorem se_X12_image : Cond.selects yX12_image.cls yX12_image yX12_image ∈ sh_tb := (sh_w9 (sh_tl50 (sh_tl50 (sh_tl50 (sh_tl10 (sh_tl10 (sh_tl10 (sh_tl10 (sh_tl1 (sh_tl1 (sh_tl1 sh_hd)))))))))) rfl)
theorem pm_X12_image : (parseMethodDescriptor yX12_image.desc).map (fun d => d.parameters.length) = some 0 := by decide +kernel
theorem im_X12_octet : Cond.instanceMethod yX12_octet ∈ sh_tb := (sh_w9 (sh_tl50 (sh_tl50 (sh_tl50 (sh_tl50 (sh_tl1 (sh_tl1 (sh_tl1 sh_hd))))))) rfl)
theorem se_X12_octet : Cond.selects yX12_octet.cls yX12_octet yX12_octet ∈ sh_tb := (sh_w9 (sh_tl50 (sh_tl50 (sh_tl50 (sh_tl50 (sh_tl1 (sh_tl1 (sh_tl1 (sh_tl1 sh_hd)))))))) rfl)
theorem pm_X12_octet : (parseMethodDescriptor yX12_octet.desc).map (fun d => d.parameters.length) = some 1 := by decide +kernel
theorem im_X12_isPersonTold : Cond.instanceMethod yX12_isPersonTold ∈ sh_tb := (sh_w9 (sh_tl50 (sh_tl50 (sh_tl50 (sh_tl50 (sh_tl10 (sh_tl1 (sh_tl1 (sh_tl1 (sh_tl1 (sh_tl1 (sh_tl1 sh_hd))))))))))) rfl)
theorem se_X12_isPersonTold : Cond.selects yX12_isPersonTold.cls yX12_isPersonTold yX12_isPersonTold ∈ sh_tb := (sh_wp10 (w := (⟨"ShrugHillsModel", "isPersonTold", "(II)Z"⟩, _)) (List.mem_cons_of_mem _ (List.mem_cons_of_mem _ (List.mem_cons_of_mem _ (List.mem_cons_of_mem _ (List.mem_cons_of_mem _ (List.mem_cons_of_mem _ (List.mem_cons_of_mem _ (List.mem_cons_of_mem _ (List.mem_cons_of_mem _ (List.mem_cons_of_mem _ (List.mem_cons_of_mem _ List.mem_cons_self))))))))))))
theorem pm_X12_isPersonTold : (parseMethodDescriptor yX12_isPersonTold.desc).map (fun d => d.parameters.length) = some 2 := by decide +kernel
theorem im_X12_isImage : Cond.instanceMethod yX12_isImage ∈ sh_tb := (sh_w9 (sh_tl50 (sh_tl50 (sh_tl50 (sh_tl50 (sh_tl10 (sh_tl1 (sh_tl1 sh_hd))))))) rfl)
theorem se_X12_isImage : Cond.selects yX12_isImage.cls yX12_isImage yX12_isImage ∈ sh_tb := (sh_wp10 (w := (⟨"ShrugHillsModel", "isImage", "(I)Z"⟩, _)) (List.mem_cons_of_mem _ (List.mem_cons_of_mem _ (List.mem_cons_of_mem _ (List.mem_cons_of_mem _ (List.mem_cons_of_mem _ (List.mem_cons_of_mem _ (List.mem_cons_of_mem _ (List.mem_cons_of_mem _ (List.mem_cons_of_mem _ (List.mem_cons_of_mem _ List.mem_cons_self)))))))))))
theorem pm_X12_isImage : (parseMethodDescriptor yX12_isImage.desc).map (fun d => d.parameters.length) = some 1 := by decide +kernel
theorem im_X12_on : Cond.instanceMethod yX12_on ∈ sh_tb := (sh_w9 (sh_tl50 (sh_tl50 (sh_tl50 (sh_tl50 (sh_tl1 (sh_tl1 (sh_tl1 (sh_tl1 (sh_tl1 (sh_tl1 (sh_tl1 sh_hd))))))))))) rfl)
theorem se_X12_on : Cond.selects yX12_on.cls yX12_on yX12_on ∈ sh_tb := (sh_w9 (sh_tl50 (sh_tl50 (sh_tl50 (sh_tl50 (sh_tl1 (sh_tl1 (sh_tl1 (sh_tl1 (sh_tl1 (sh_tl1 (sh_tl1 (sh_tl1 sh_hd)))))))))))) rfl)
theorem pm_X12_on : (parseMethodDescriptor yX12_on.desc).map (fun d => d.parameters.length) = some 0 := by decide +kernel
theorem im_X12_status : Cond.instanceMethod yX12_status ∈ sh_tb := (sh_w9 (sh_tl50 (sh_tl50 (sh_tl50 (sh_tl50 (sh_tl10 (sh_tl1 (sh_tl1 (sh_tl1 (sh_tl1 (sh_tl1 (sh_tl1 (sh_tl1 (sh_tl1 (sh_tl1 sh_hd)))))))))))))) rfl)
theorem se_X12_status : Cond.selects yX12_status.cls yX12_status yX12_status ∈ sh_tb := (sh_w9 (sh_tl50 (sh_tl50 (sh_tl50 (sh_tl50 (sh_tl10 (sh_tl10 sh_hd)))))) rfl)
theorem pm_X12_status : (parseMethodDescriptor yX12_status.desc).map (fun d => d.parameters.length) = some 1 := by decide +kernel
theorem sm_J6_bitCount_0f7a4 : Cond.static yJ6_bitCount_0f7a4 ∈ sh_tb := (sh_w4 (sh_tl50 (sh_tl50 (sh_tl10 (sh_tl10 (sh_tl10 sh_hd))))) rfl)
theorem pm_J6_bitCount_0f7a4 : (parseMethodDescriptor yJ6_bitCount_0f7a4.desc).map (fun d => d.parameters.length) = some 1 := by decide +kernel
theorem sm_J9_floorDiv_f86c9 : Cond.static yJ9_floorDiv_f86c9 ∈ sh_tb := (sh_w4 (sh_tl50 (sh_tl50 (sh_tl50 (sh_tl1 (sh_tl1 (sh_tl1 (sh_tl1 (sh_tl1 (sh_tl1 (sh_tl1 (sh_tl1 sh_hd))))))))))) rfl)
theorem pm_J9_floorDiv_f86c9 : (parseMethodDescriptor yJ9_floorDiv_f86c9.desc).map (fun d => d.parameters.length) = some 2 := by decide +kernel
theorem sm_J9_abs_0f7a4 : Cond.static yJ9_abs_0f7a4 ∈ sh_tb := (sh_w5 (sh_tl10 (sh_tl10 (sh_tl10 (sh_tl10 (sh_tl1 (sh_tl1 (sh_tl1 sh_hd))))))) rfl)
theorem pm_J9_abs_0f7a4 : (parseMethodDescriptor yJ9_abs_0f7a4.desc).map (fun d => d.parameters.length) = some 1 := by decide +kernel
theorem sm_J9_max_f86c9 : Cond.static yJ9_max_f86c9 ∈ sh_tb := (sh_w4 (sh_tl50 (sh_tl50 (sh_tl50 (sh_tl1 (sh_tl1 (sh_tl1 (sh_tl1 (sh_tl1 sh_hd)))))))) rfl)
theorem pm_J9_max_f86c9 : (parseMethodDescriptor yJ9_max_f86c9.desc).map (fun d => d.parameters.length) = some 2 := by decide +kernel
theorem sm_J9_min_7cf53 : Cond.static yJ9_min_7cf53 ∈ sh_tb := (sh_w3 (sh_tl50 (sh_tl1 (sh_tl1 (sh_tl1 (sh_tl1 (sh_tl1 (sh_tl1 (sh_tl1 (sh_tl1 (sh_tl1 sh_hd)))))))))) rfl)
theorem pm_J9_min_7cf53 : (parseMethodDescriptor yJ9_min_7cf53.desc).map (fun d => d.parameters.length) = some 2 := by decide +kernel
theorem sm_J9_min_f86c9 : Cond.static yJ9_min_f86c9 ∈ sh_tb := (sh_w4 (sh_tl50 (sh_tl50 (sh_tl50 (sh_tl1 (sh_tl1 sh_hd))))) rfl)
theorem pm_J9_min_f86c9 : (parseMethodDescriptor yJ9_min_f86c9.desc).map (fun d => d.parameters.length) = some 2 := by decide +kernel
theorem im_J0_length_8abf5 : Cond.instanceMethod yJ0_length_8abf5 ∈ sh_tb := (sh_w3 (sh_tl50 (sh_tl10 (sh_tl10 (sh_tl1 (sh_tl1 (sh_tl1 (sh_tl1 sh_hd))))))) rfl)
theorem se_J0_length_8abf5 : Cond.selects yJ0_length_8abf5.cls yJ0_length_8abf5 yJ0_length_8abf5 ∈ sh_tb := (sh_w3 (sh_tl50 (sh_tl10 (sh_tl10 (sh_tl1 (sh_tl1 (sh_tl1 (sh_tl1 (sh_tl1 sh_hd)))))))) rfl)
theorem pm_J0_length_8abf5 : (parseMethodDescriptor yJ0_length_8abf5.desc).map (fun d => d.parameters.length) = some 0 := by decide +kernel
theorem im_J0_charAt_5068e : Cond.instanceMethod yJ0_charAt_5068e ∈ sh_tb := (sh_w3 (sh_tl50 (sh_tl10 (sh_tl10 (sh_tl10 (sh_tl1 (sh_tl1 (sh_tl1 (sh_tl1 sh_hd)))))))) rfl)
theorem se_J0_charAt_5068e : Cond.selects yJ0_charAt_5068e.cls yJ0_charAt_5068e yJ0_charAt_5068e ∈ sh_tb := (sh_w3 (sh_tl50 (sh_tl10 (sh_tl10 (sh_tl10 (sh_tl1 (sh_tl1 (sh_tl1 (sh_tl1 (sh_tl1 sh_hd))))))))) rfl)
theorem pm_J0_charAt_5068e : (parseMethodDescriptor yJ0_charAt_5068e.desc).map (fun d => d.parameters.length) = some 1 := by decide +kernel
theorem im_J0_coder_7d493 : Cond.instanceMethod yJ0_coder_7d493 ∈ sh_tb := (sh_w3 (sh_tl50 (sh_tl10 (sh_tl10 (sh_tl1 (sh_tl1 (sh_tl1 (sh_tl1 (sh_tl1 (sh_tl1 (sh_tl1 (sh_tl1 sh_hd))))))))))) rfl)
theorem se_J0_coder_7d493 : Cond.selects yJ0_coder_7d493.cls yJ0_coder_7d493 yJ0_coder_7d493 ∈ sh_tb := (sh_w3 (sh_tl50 (sh_tl10 (sh_tl10 (sh_tl1 (sh_tl1 (sh_tl1 (sh_tl1 (sh_tl1 (sh_tl1 (sh_tl1 (sh_tl1 (sh_tl1 sh_hd)))))))))))) rfl)
theorem pm_J0_coder_7d493 : (parseMethodDescriptor yJ0_coder_7d493.desc).map (fun d => d.parameters.length) = some 0 := by decide +kernel
theorem im_J0_isLatin1_aae02 : Cond.instanceMethod yJ0_isLatin1_aae02 ∈ sh_tb := (sh_w3 (sh_tl50 (sh_tl10 (sh_tl10 (sh_tl10 (sh_tl1 (sh_tl1 (sh_tl1 (sh_tl1 (sh_tl1 (sh_tl1 (sh_tl1 (sh_tl1 sh_hd)))))))))))) rfl)
theorem se_J0_isLatin1_aae02 : Cond.selects yJ0_isLatin1_aae02.cls yJ0_isLatin1_aae02 yJ0_isLatin1_aae02 ∈ sh_tb := (sh_w3 (sh_tl50 (sh_tl10 (sh_tl10 (sh_tl10 (sh_tl1 (sh_tl1 (sh_tl1 (sh_tl1 (sh_tl1 (sh_tl1 (sh_tl1 (sh_tl1 (sh_tl1 sh_hd))))))))))))) rfl)
theorem pm_J0_isLatin1_aae02 : (parseMethodDescriptor yJ0_isLatin1_aae02.desc).map (fun d => d.parameters.length) = some 0 := by decide +kernel
theorem sm_J0_checkIndex_df160 : Cond.static yJ0_checkIndex_df160 ∈ sh_tb := (sh_w3 (sh_tl50 (sh_tl10 (sh_tl10 (sh_tl10 (sh_tl10 (sh_tl1 (sh_tl1 (sh_tl1 (sh_tl1 (sh_tl1 sh_hd)))))))))) rfl)
theorem pm_J0_checkIndex_df160 : (parseMethodDescriptor yJ0_checkIndex_df160.desc).map (fun d => d.parameters.length) = some 2 := by decide +kernel
theorem sm_J1_charAt_3b067 : Cond.static yJ1_charAt_3b067 ∈ sh_tb := (sh_w3 (sh_tl50 (sh_tl10 (sh_tl10 (sh_tl10 (sh_tl10 (sh_tl1 (sh_tl1 sh_hd))))))) rfl)
theorem pm_J1_charAt_3b067 : (parseMethodDescriptor yJ1_charAt_3b067.desc).map (fun d => d.parameters.length) = some 2 := by decide +kernel
theorem sm_J2_getChar_3b067 : Cond.static yJ2_getChar_3b067 ∈ sh_tb := (sh_w3 (sh_tl50 (sh_tl50 (sh_tl10 (sh_tl1 (sh_tl1 (sh_tl1 sh_hd)))))) rfl)
theorem pm_J2_getChar_3b067 : (parseMethodDescriptor yJ2_getChar_3b067.desc).map (fun d => d.parameters.length) = some 2 := by decide +kernel
theorem sm_J2_length_9d52b : Cond.static yJ2_length_9d52b ∈ sh_tb := (sh_w3 (sh_tl50 (sh_tl50 (sh_tl1 (sh_tl1 (sh_tl1 (sh_tl1 (sh_tl1 (sh_tl1 (sh_tl1 (sh_tl1 (sh_tl1 sh_hd))))))))))) rfl)
theorem pm_J2_length_9d52b : (parseMethodDescriptor yJ2_length_9d52b.desc).map (fun d => d.parameters.length) = some 1 := by decide +kernel
theorem sm_J2_charAt_3b067 : Cond.static yJ2_charAt_3b067 ∈ sh_tb := (sh_w3 (sh_tl50 (sh_tl50 (sh_tl1 (sh_tl1 (sh_tl1 sh_hd))))) rfl)
theorem pm_J2_charAt_3b067 : (parseMethodDescriptor yJ2_charAt_3b067.desc).map (fun d => d.parameters.length) = some 2 := by decide +kernel
theorem sm_J2_checkIndex_2214a : Cond.static yJ2_checkIndex_2214a ∈ sh_tb := (sh_w3 (sh_tl50 (sh_tl50 (sh_tl1 (sh_tl1 (sh_tl1 (sh_tl1 (sh_tl1 (sh_tl1 sh_hd)))))))) rfl)
theorem pm_J2_checkIndex_2214a : (parseMethodDescriptor yJ2_checkIndex_2214a.desc).map (fun d => d.parameters.length) = some 2 := by decide +kernel
theorem sm_J7_fill_53178 : Cond.static yJ7_fill_53178 ∈ sh_tb := (sh_w3 (sh_tl50 (sh_tl50 (sh_tl10 (sh_tl10 (sh_tl10 (sh_tl1 (sh_tl1 (sh_tl1 (sh_tl1 sh_hd))))))))) rfl)
theorem pm_J7_fill_53178 : (parseMethodDescriptor yJ7_fill_53178.desc).map (fun d => d.parameters.length) = some 2 := by decide +kernel
theorem sm_J3_checkIndex_8e157 : Cond.static yJ3_checkIndex_8e157 ∈ sh_tb := (sh_w3 (sh_tl50 (sh_tl50 sh_hd)) rfl)
theorem pm_J3_checkIndex_8e157 : (parseMethodDescriptor yJ3_checkIndex_8e157.desc).map (fun d => d.parameters.length) = some 3 := by decide +kernel
theorem ck_X11_1 : Cond.methodLink RX11 1 Lib.objectInit ∈ sh_tb ∧ Cond.instanceMethod Lib.objectInit ∈ sh_tb ∧ Cond.code Lib.objectInit ⟨#[0xb1]⟩ 1 none ∈ sh_tb := ⟨(sh_w1 (sh_tl10 (sh_tl10 (sh_tl1 (sh_tl1 (sh_tl1 (sh_tl1 (sh_tl1 (sh_tl1 (sh_tl1 sh_hd))))))))) rfl), (sh_w1 (sh_tl10 (sh_tl10 (sh_tl1 (sh_tl1 (sh_tl1 (sh_tl1 (sh_tl1 (sh_tl1 (sh_tl1 (sh_tl1 sh_hd)))))))))) rfl), (sh_w1 (sh_tl10 (sh_tl10 (sh_tl1 (sh_tl1 (sh_tl1 (sh_tl1 (sh_tl1 (sh_tl1 (sh_tl1 (sh_tl1 (sh_tl1 sh_hd))))))))))) rfl)⟩
theorem ck_X11_15 : sh_CI RX11 15 M_X8_init 1 := ⟨mt_X8_init, (sh_w1 (sh_tl10 (sh_tl10 (sh_tl10 (sh_tl1 (sh_tl1 sh_hd))))) rfl), im_X8_init, rfl, rfl, pm_X8_init⟩
theorem ck_X8_3 : Cond.methodLink RX8 3 Lib.objectInit ∈ sh_tb ∧ Cond.instanceMethod Lib.objectInit ∈ sh_tb ∧ Cond.code Lib.objectInit ⟨#[0xb1]⟩ 1 none ∈ sh_tb := ⟨(sh_w1 (sh_tl10 (sh_tl10 (sh_tl10 (sh_tl1 (sh_tl1 (sh_tl1 (sh_tl1 (sh_tl1 sh_hd)))))))) rfl), (sh_w1 (sh_tl10 (sh_tl10 (sh_tl1 (sh_tl1 (sh_tl1 (sh_tl1 (sh_tl1 (sh_tl1 (sh_tl1 (sh_tl1 sh_hd)))))))))) rfl), (sh_w1 (sh_tl10 (sh_tl10 (sh_tl1 (sh_tl1 (sh_tl1 (sh_tl1 (sh_tl1 (sh_tl1 (sh_tl1 (sh_tl1 (sh_tl1 sh_hd))))))))))) rfl)⟩
theorem ck_X11_24 : sh_CIN RX11 24 M_X1_init 0 := ⟨mt_X1_init, (by decide +kernel), im_X1_init, rfl, rfl, pm_X1_init⟩
theorem ck_X1_3 : Cond.methodLink RX1 3 Lib.objectInit ∈ sh_tb ∧ Cond.instanceMethod Lib.objectInit ∈ sh_tb ∧ Cond.code Lib.objectInit ⟨#[0xb1]⟩ 1 none ∈ sh_tb := ⟨(sh_w1 (sh_tl50 (sh_tl10 (sh_tl10 (sh_tl10 (sh_tl1 (sh_tl1 (sh_tl1 (sh_tl1 (sh_tl1 (sh_tl1 (sh_tl1 (sh_tl1 sh_hd)))))))))))) rfl), (sh_w1 (sh_tl10 (sh_tl10 (sh_tl1 (sh_tl1 (sh_tl1 (sh_tl1 (sh_tl1 (sh_tl1 (sh_tl1 (sh_tl1 sh_hd)))))))))) rfl), (sh_w1 (sh_tl10 (sh_tl10 (sh_tl1 (sh_tl1 (sh_tl1 (sh_tl1 (sh_tl1 (sh_tl1 (sh_tl1 (sh_tl1 (sh_tl1 sh_hd))))))))))) rfl)⟩
theorem ck_X11_31 : sh_CI RX11 31 M_X2_init 2 := ⟨mt_X2_init, (sh_w1 (sh_tl50 (sh_tl50 (sh_tl1 (sh_tl1 (sh_tl1 (sh_tl1 sh_hd)))))) rfl), im_X2_init, rfl, rfl, pm_X2_init⟩
theorem ck_X2_3 : Cond.methodLink RX2 3 Lib.objectInit ∈ sh_tb ∧ Cond.instanceMethod Lib.objectInit ∈ sh_tb ∧ Cond.code Lib.objectInit ⟨#[0xb1]⟩ 1 none ∈ sh_tb := ⟨(sh_w1 (sh_tl50 (sh_tl50 (sh_tl1 (sh_tl1 (sh_tl1 (sh_tl1 (sh_tl1 (sh_tl1 (sh_tl1 sh_hd))))))))) rfl), (sh_w1 (sh_tl10 (sh_tl10 (sh_tl1 (sh_tl1 (sh_tl1 (sh_tl1 (sh_tl1 (sh_tl1 (sh_tl1 (sh_tl1 sh_hd)))))))))) rfl), (sh_w1 (sh_tl10 (sh_tl10 (sh_tl1 (sh_tl1 (sh_tl1 (sh_tl1 (sh_tl1 (sh_tl1 (sh_tl1 (sh_tl1 (sh_tl1 sh_hd))))))))))) rfl)⟩
theorem ck_X11_40 : sh_CI RX11 40 M_X6_init 2 := ⟨mt_X6_init, (sh_w1 (sh_tl50 (sh_tl50 (sh_tl10 (sh_tl10 sh_hd)))) rfl), im_X6_init, rfl, rfl, pm_X6_init⟩
theorem ck_X6_3 : Cond.methodLink RX6 3 Lib.objectInit ∈ sh_tb ∧ Cond.instanceMethod Lib.objectInit ∈ sh_tb ∧ Cond.code Lib.objectInit ⟨#[0xb1]⟩ 1 none ∈ sh_tb := ⟨(sh_w1 (sh_tl50 (sh_tl50 (sh_tl10 (sh_tl10 (sh_tl1 (sh_tl1 (sh_tl1 sh_hd))))))) rfl), (sh_w1 (sh_tl10 (sh_tl10 (sh_tl1 (sh_tl1 (sh_tl1 (sh_tl1 (sh_tl1 (sh_tl1 (sh_tl1 (sh_tl1 sh_hd)))))))))) rfl), (sh_w1 (sh_tl10 (sh_tl10 (sh_tl1 (sh_tl1 (sh_tl1 (sh_tl1 (sh_tl1 (sh_tl1 (sh_tl1 (sh_tl1 (sh_tl1 sh_hd))))))))))) rfl)⟩
theorem ck_X6_11 : sh_CIN RX6 11 M_X5_init 0 := ⟨mt_X5_init, (by decide +kernel), im_X5_init, rfl, rfl, pm_X5_init⟩
theorem ck_X5_3 : Cond.methodLink RX5 3 Lib.objectInit ∈ sh_tb ∧ Cond.instanceMethod Lib.objectInit ∈ sh_tb ∧ Cond.code Lib.objectInit ⟨#[0xb1]⟩ 1 none ∈ sh_tb := ⟨(sh_w1 (sh_tl50 (sh_tl50 (sh_tl10 (sh_tl10 (sh_tl1 (sh_tl1 (sh_tl1 (sh_tl1 (sh_tl1 (sh_tl1 (sh_tl1 (sh_tl1 (sh_tl1 sh_hd))))))))))))) rfl), (sh_w1 (sh_tl10 (sh_tl10 (sh_tl1 (sh_tl1 (sh_tl1 (sh_tl1 (sh_tl1 (sh_tl1 (sh_tl1 (sh_tl1 sh_hd)))))))))) rfl), (sh_w1 (sh_tl10 (sh_tl10 (sh_tl1 (sh_tl1 (sh_tl1 (sh_tl1 (sh_tl1 (sh_tl1 (sh_tl1 (sh_tl1 (sh_tl1 sh_hd))))))))))) rfl)⟩
theorem ck_X5_26 : sh_CIN RX5 26 M_X1_init 0 := ⟨mt_X1_init, (by decide +kernel), im_X1_init, rfl, rfl, pm_X1_init⟩
theorem ck_X5_39 : sh_CIN RX5 39 M_X3_init 0 := ⟨mt_X3_init, (by decide +kernel), im_X3_init, rfl, rfl, pm_X3_init⟩
theorem ck_X3_3 : Cond.methodLink RX3 3 Lib.objectInit ∈ sh_tb ∧ Cond.instanceMethod Lib.objectInit ∈ sh_tb ∧ Cond.code Lib.objectInit ⟨#[0xb1]⟩ 1 none ∈ sh_tb := ⟨(sh_w1 (sh_tl50 (sh_tl50 (sh_tl10 (sh_tl10 (sh_tl10 (sh_tl1 (sh_tl1 (sh_tl1 (sh_tl1 (sh_tl1 (sh_tl1 (sh_tl1 sh_hd)))))))))))) rfl), (sh_w1 (sh_tl10 (sh_tl10 (sh_tl1 (sh_tl1 (sh_tl1 (sh_tl1 (sh_tl1 (sh_tl1 (sh_tl1 (sh_tl1 sh_hd)))))))))) rfl), (sh_w1 (sh_tl10 (sh_tl10 (sh_tl1 (sh_tl1 (sh_tl1 (sh_tl1 (sh_tl1 (sh_tl1 (sh_tl1 (sh_tl1 (sh_tl1 sh_hd))))))))))) rfl)⟩
theorem ck_X11_52 : sh_CIN RX11 52 M_X5_init 0 := ⟨mt_X5_init, (by decide +kernel), im_X5_init, rfl, rfl, pm_X5_init⟩
theorem ck_X11_59 : sh_CIN RX11 59 M_X3_init 0 := ⟨mt_X3_init, (by decide +kernel), im_X3_init, rfl, rfl, pm_X3_init⟩
theorem ck_X11_66 : sh_CI RX11 66 M_X10_init 1 := ⟨mt_X10_init, (sh_w2 (sh_tl10 (sh_tl10 (sh_tl10 (sh_tl10 (sh_tl1 (sh_tl1 (sh_tl1 (sh_tl1 (sh_tl1 (sh_tl1 (sh_tl1 (sh_tl1 (sh_tl1 sh_hd))))))))))))) rfl), im_X10_init, rfl, rfl, pm_X10_init⟩
theorem ck_X10_3 : Cond.methodLink RX10 3 Lib.objectInit ∈ sh_tb ∧ Cond.instanceMethod Lib.objectInit ∈ sh_tb ∧ Cond.code Lib.objectInit ⟨#[0xb1]⟩ 1 none ∈ sh_tb := ⟨(sh_w2 (sh_tl50 (sh_tl1 (sh_tl1 sh_hd))) rfl), (sh_w1 (sh_tl10 (sh_tl10 (sh_tl1 (sh_tl1 (sh_tl1 (sh_tl1 (sh_tl1 (sh_tl1 (sh_tl1 (sh_tl1 sh_hd)))))))))) rfl), (sh_w1 (sh_tl10 (sh_tl10 (sh_tl1 (sh_tl1 (sh_tl1 (sh_tl1 (sh_tl1 (sh_tl1 (sh_tl1 (sh_tl1 (sh_tl1 sh_hd))))))))))) rfl)⟩
theorem ck_X10_17 : sh_CIN RX10 17 M_X3_init 0 := ⟨mt_X3_init, (by decide +kernel), im_X3_init, rfl, rfl, pm_X3_init⟩
theorem ck_X11_75 : sh_CI RX11 75 M_X4_init 0 := ⟨mt_X4_init, (sh_w2 (sh_tl50 (sh_tl10 (sh_tl10 (sh_tl10 (sh_tl1 (sh_tl1 (sh_tl1 (sh_tl1 (sh_tl1 (sh_tl1 (sh_tl1 (sh_tl1 (sh_tl1 sh_hd))))))))))))) rfl), im_X4_init, rfl, rfl, pm_X4_init⟩
theorem ck_X4_3 : Cond.methodLink RX4 3 Lib.objectInit ∈ sh_tb ∧ Cond.instanceMethod Lib.objectInit ∈ sh_tb ∧ Cond.code Lib.objectInit ⟨#[0xb1]⟩ 1 none ∈ sh_tb := ⟨(sh_w2 (sh_tl50 (sh_tl10 (sh_tl10 (sh_tl10 (sh_tl10 (sh_tl1 (sh_tl1 sh_hd))))))) rfl), (sh_w1 (sh_tl10 (sh_tl10 (sh_tl1 (sh_tl1 (sh_tl1 (sh_tl1 (sh_tl1 (sh_tl1 (sh_tl1 (sh_tl1 sh_hd)))))))))) rfl), (sh_w1 (sh_tl10 (sh_tl10 (sh_tl1 (sh_tl1 (sh_tl1 (sh_tl1 (sh_tl1 (sh_tl1 (sh_tl1 (sh_tl1 (sh_tl1 sh_hd))))))))))) rfl)⟩
theorem ck_X4_29 : sh_CIN RX4 29 M_X3_init 0 := ⟨mt_X3_init, (by decide +kernel), im_X3_init, rfl, rfl, pm_X3_init⟩
theorem ck_X11_82 : sh_CI RX11 82 M_X0_init 1 := ⟨mt_X0_init, (sh_w2 (sh_tl50 (sh_tl50 (sh_tl10 (sh_tl10 (sh_tl1 (sh_tl1 (sh_tl1 (sh_tl1 (sh_tl1 sh_hd))))))))) rfl), im_X0_init, rfl, rfl, pm_X0_init⟩
theorem ck_X0_3 : Cond.methodLink RX0 3 Lib.objectInit ∈ sh_tb ∧ Cond.instanceMethod Lib.objectInit ∈ sh_tb ∧ Cond.code Lib.objectInit ⟨#[0xb1]⟩ 1 none ∈ sh_tb := ⟨(sh_w2 (sh_tl50 (sh_tl50 (sh_tl10 (sh_tl10 (sh_tl1 (sh_tl1 (sh_tl1 (sh_tl1 (sh_tl1 (sh_tl1 (sh_tl1 (sh_tl1 sh_hd)))))))))))) rfl), (sh_w1 (sh_tl10 (sh_tl10 (sh_tl1 (sh_tl1 (sh_tl1 (sh_tl1 (sh_tl1 (sh_tl1 (sh_tl1 (sh_tl1 sh_hd)))))))))) rfl), (sh_w1 (sh_tl10 (sh_tl10 (sh_tl1 (sh_tl1 (sh_tl1 (sh_tl1 (sh_tl1 (sh_tl1 (sh_tl1 (sh_tl1 (sh_tl1 sh_hd))))))))))) rfl)⟩
theorem ck_X0_11 : sh_CIN RX0 11 M_X3_init 0 := ⟨mt_X3_init, (by decide +kernel), im_X3_init, rfl, rfl, pm_X3_init⟩
theorem ck_X11_91 : sh_CI RX11 91 M_X7_init 1 := ⟨mt_X7_init, (sh_w2 (sh_tl50 (sh_tl50 (sh_tl50 (sh_tl10 (sh_tl1 (sh_tl1 (sh_tl1 (sh_tl1 (sh_tl1 (sh_tl1 sh_hd)))))))))) rfl), im_X7_init, rfl, rfl, pm_X7_init⟩
theorem ck_X7_3 : Cond.methodLink RX7 3 Lib.objectInit ∈ sh_tb ∧ Cond.instanceMethod Lib.objectInit ∈ sh_tb ∧ Cond.code Lib.objectInit ⟨#[0xb1]⟩ 1 none ∈ sh_tb := ⟨(sh_w2 (sh_tl50 (sh_tl50 (sh_tl50 (sh_tl10 (sh_tl1 (sh_tl1 (sh_tl1 (sh_tl1 (sh_tl1 (sh_tl1 (sh_tl1 (sh_tl1 (sh_tl1 sh_hd))))))))))))) rfl), (sh_w1 (sh_tl10 (sh_tl10 (sh_tl1 (sh_tl1 (sh_tl1 (sh_tl1 (sh_tl1 (sh_tl1 (sh_tl1 (sh_tl1 sh_hd)))))))))) rfl), (sh_w1 (sh_tl10 (sh_tl10 (sh_tl1 (sh_tl1 (sh_tl1 (sh_tl1 (sh_tl1 (sh_tl1 (sh_tl1 (sh_tl1 (sh_tl1 sh_hd))))))))))) rfl)⟩
theorem ck_X7_25 : sh_CIN RX7 25 M_X3_init 0 := ⟨mt_X3_init, (by decide +kernel), im_X3_init, rfl, rfl, pm_X3_init⟩
theorem ck_X11_98 : sh_CIN RX11 98 M_X9_init 0 := ⟨mt_X9_init, (by decide +kernel), im_X9_init, rfl, rfl, pm_X9_init⟩
theorem ck_X9_3 : Cond.methodLink RX9 3 Lib.objectInit ∈ sh_tb ∧ Cond.instanceMethod Lib.objectInit ∈ sh_tb ∧ Cond.code Lib.objectInit ⟨#[0xb1]⟩ 1 none ∈ sh_tb := ⟨(sh_w2 (sh_tl50 (sh_tl50 (sh_tl50 (sh_tl50 sh_hd)))) rfl), (sh_w1 (sh_tl10 (sh_tl10 (sh_tl1 (sh_tl1 (sh_tl1 (sh_tl1 (sh_tl1 (sh_tl1 (sh_tl1 (sh_tl1 sh_hd)))))))))) rfl), (sh_w1 (sh_tl10 (sh_tl10 (sh_tl1 (sh_tl1 (sh_tl1 (sh_tl1 (sh_tl1 (sh_tl1 (sh_tl1 (sh_tl1 (sh_tl1 sh_hd))))))))))) rfl)⟩
theorem ck_X11_120 : sh_CV RX11 120 M_X11_refuseNumber 1 := ⟨mt_X11_refuseNumber, (sh_w3 (sh_tl10 (sh_tl10 (sh_tl10 sh_hd))) rfl), im_X11_refuseNumber, se_X11_refuseNumber, pm_X11_refuseNumber⟩
theorem ck_X11_124 : sh_CV RX11 124 M_X11_append 1 := ⟨mt_X11_append, (sh_w3 (sh_tl10 (sh_tl10 (sh_tl10 (sh_tl1 (sh_tl1 (sh_tl1 (sh_tl1 sh_hd))))))) rfl), im_X11_append, se_X11_append, pm_X11_append⟩
theorem ck_X11_128 : sh_CV RX11 128 M_X11_refuse 1 := ⟨mt_X11_refuse, (sh_w3 (sh_tl10 (sh_tl10 (sh_tl10 (sh_tl10 (sh_tl1 (sh_tl1 sh_hd)))))) rfl), im_X11_refuse, se_X11_refuse, pm_X11_refuse⟩
theorem ck_X11_132 : sh_CV RX11 132 M_X11_takeTape 0 := ⟨mt_X11_takeTape, (sh_w3 (sh_tl50 sh_hd) rfl), im_X11_takeTape, se_X11_takeTape, pm_X11_takeTape⟩
theorem ck_X11_136 : sh_CV RX11 136 M_X8_begin 1 := ⟨mt_X8_begin, (sh_w3 (sh_tl50 (sh_tl1 (sh_tl1 (sh_tl1 (sh_tl1 sh_hd))))) rfl), im_X8_begin, se_X8_begin, pm_X8_begin⟩
theorem ck_X8_15 : sh_CS RX8 15 M_J9_min_7cf53 2 := ⟨mt_J9_min_7cf53, (sh_w3 (sh_tl50 (sh_tl1 (sh_tl1 (sh_tl1 (sh_tl1 (sh_tl1 (sh_tl1 (sh_tl1 (sh_tl1 sh_hd))))))))) rfl), sm_J9_min_7cf53, pm_J9_min_7cf53⟩
theorem ck_X8_40 : sh_CV RX8 40 M_X8_advance 0 := ⟨mt_X8_advance, (sh_w3 (sh_tl50 (sh_tl10 (sh_tl1 sh_hd))) rfl), im_X8_advance, se_X8_advance, pm_X8_advance⟩
theorem ck_X8_46 : sh_CV RX8 46 M_X8_takeLetters 0 := ⟨mt_X8_takeLetters, (sh_w3 (sh_tl50 (sh_tl10 (sh_tl1 (sh_tl1 (sh_tl1 (sh_tl1 (sh_tl1 sh_hd))))))) rfl), im_X8_takeLetters, se_X8_takeLetters, pm_X8_takeLetters⟩
theorem ck_X8_55 : sh_CS RX8 55 M_X8_wordOf 1 := ⟨mt_X8_wordOf, (sh_w3 (sh_tl50 (sh_tl10 (sh_tl1 (sh_tl1 (sh_tl1 (sh_tl1 (sh_tl1 (sh_tl1 (sh_tl1 (sh_tl1 (sh_tl1 sh_hd))))))))))) rfl), sm_X8_wordOf, pm_X8_wordOf⟩
theorem ck_X8_70 : sh_CV RX8 70 M_J0_length_8abf5 0 := ⟨mt_J0_length_8abf5, (sh_w3 (sh_tl50 (sh_tl10 (sh_tl10 (sh_tl1 (sh_tl1 (sh_tl1 sh_hd)))))) rfl), im_J0_length_8abf5, se_J0_length_8abf5, pm_J0_length_8abf5⟩
theorem ck_J0_335 : sh_CV RJ0 335 M_J0_coder_7d493 0 := ⟨mt_J0_coder_7d493, (sh_w3 (sh_tl50 (sh_tl10 (sh_tl10 (sh_tl1 (sh_tl1 (sh_tl1 (sh_tl1 (sh_tl1 (sh_tl1 (sh_tl1 sh_hd)))))))))) rfl), im_J0_coder_7d493, se_J0_coder_7d493, pm_J0_coder_7d493⟩
theorem ck_X8_75 : sh_CV RX8 75 M_J0_charAt_5068e 1 := ⟨mt_J0_charAt_5068e, (sh_w3 (sh_tl50 (sh_tl10 (sh_tl10 (sh_tl10 (sh_tl1 (sh_tl1 (sh_tl1 sh_hd))))))) rfl), im_J0_charAt_5068e, se_J0_charAt_5068e, pm_J0_charAt_5068e⟩
theorem ck_J0_492 : sh_CV RJ0 492 M_J0_isLatin1_aae02 0 := ⟨mt_J0_isLatin1_aae02, (sh_w3 (sh_tl50 (sh_tl10 (sh_tl10 (sh_tl10 (sh_tl1 (sh_tl1 (sh_tl1 (sh_tl1 (sh_tl1 (sh_tl1 (sh_tl1 sh_hd))))))))))) rfl), im_J0_isLatin1_aae02, se_J0_isLatin1_aae02, pm_J0_isLatin1_aae02⟩
theorem ck_J0_495 : sh_CS RJ0 495 M_J1_charAt_3b067 2 := ⟨mt_J1_charAt_3b067, (sh_w3 (sh_tl50 (sh_tl10 (sh_tl10 (sh_tl10 (sh_tl10 (sh_tl1 sh_hd)))))) rfl), sm_J1_charAt_3b067, pm_J1_charAt_3b067⟩
theorem ck_J1_9 : sh_CS RJ1 9 M_J0_checkIndex_df160 2 := ⟨mt_J0_checkIndex_df160, (sh_w3 (sh_tl50 (sh_tl10 (sh_tl10 (sh_tl10 (sh_tl10 (sh_tl1 (sh_tl1 (sh_tl1 (sh_tl1 sh_hd))))))))) rfl), sm_J0_checkIndex_df160, pm_J0_checkIndex_df160⟩
theorem ck_J0_1059 : sh_CS RJ0 1059 M_J3_checkIndex_8e157 3 := ⟨mt_J3_checkIndex_8e157, (sh_w3 (sh_tl50 (sh_tl10 (sh_tl10 (sh_tl10 (sh_tl10 (sh_tl1 (sh_tl1 (sh_tl1 (sh_tl1 (sh_tl1 (sh_tl1 (sh_tl1 (sh_tl1 (sh_tl1 sh_hd)))))))))))))) rfl), sm_J3_checkIndex_8e157, pm_J3_checkIndex_8e157⟩
theorem ck_J0_498 : sh_CS RJ0 498 M_J2_charAt_3b067 2 := ⟨mt_J2_charAt_3b067, (sh_w3 (sh_tl50 (sh_tl50 (sh_tl1 (sh_tl1 sh_hd)))) rfl), sm_J2_charAt_3b067, pm_J2_charAt_3b067⟩
theorem ck_J2_67 : sh_CS RJ2 67 M_J2_checkIndex_2214a 2 := ⟨mt_J2_checkIndex_2214a, (sh_w3 (sh_tl50 (sh_tl50 (sh_tl1 (sh_tl1 (sh_tl1 (sh_tl1 (sh_tl1 sh_hd))))))) rfl), sm_J2_checkIndex_2214a, pm_J2_checkIndex_2214a⟩
theorem ck_J2_48 : sh_CS RJ2 48 M_J2_length_9d52b 1 := ⟨mt_J2_length_9d52b, (sh_w3 (sh_tl50 (sh_tl50 (sh_tl1 (sh_tl1 (sh_tl1 (sh_tl1 (sh_tl1 (sh_tl1 (sh_tl1 (sh_tl1 sh_hd)))))))))) rfl), sm_J2_length_9d52b, pm_J2_length_9d52b⟩
theorem ck_J2_414 : sh_CS RJ2 414 M_J0_checkIndex_df160 2 := ⟨mt_J0_checkIndex_df160, (sh_w3 (sh_tl50 (sh_tl50 (sh_tl10 (sh_tl1 sh_hd)))) rfl), sm_J0_checkIndex_df160, pm_J0_checkIndex_df160⟩
theorem ck_J2_71 : sh_CS RJ2 71 M_J2_getChar_3b067 2 := ⟨mt_J2_getChar_3b067, (sh_w3 (sh_tl50 (sh_tl50 (sh_tl10 (sh_tl1 (sh_tl1 sh_hd))))) rfl), sm_J2_getChar_3b067, pm_J2_getChar_3b067⟩
theorem ck_X8_62 : sh_CV RX8 62 M_X8_takeDigits 0 := ⟨mt_X8_takeDigits, (sh_w3 (sh_tl50 (sh_tl50 (sh_tl10 (sh_tl10 (sh_tl1 sh_hd))))) rfl), im_X8_takeDigits, se_X8_takeDigits, pm_X8_takeDigits⟩
theorem ck_X11_139 : sh_CV RX11 139 M_X6_read 0 := ⟨mt_X6_read, (sh_w3 (sh_tl50 (sh_tl50 (sh_tl10 (sh_tl10 (sh_tl1 (sh_tl1 (sh_tl1 (sh_tl1 (sh_tl1 sh_hd))))))))) rfl), im_X6_read, se_X6_read, pm_X6_read⟩
theorem ck_X6_26 : sh_CV RX6 26 M_X5_clear 0 := ⟨mt_X5_clear, (sh_w3 (sh_tl50 (sh_tl50 (sh_tl10 (sh_tl10 (sh_tl1 (sh_tl1 (sh_tl1 (sh_tl1 (sh_tl1 (sh_tl1 (sh_tl1 (sh_tl1 (sh_tl1 sh_hd))))))))))))) rfl), im_X5_clear, se_X5_clear, pm_X5_clear⟩
theorem ck_X5_66 : sh_CS RX5 66 M_J7_fill_53178 2 := ⟨mt_J7_fill_53178, (sh_w3 (sh_tl50 (sh_tl50 (sh_tl10 (sh_tl10 (sh_tl10 (sh_tl1 (sh_tl1 (sh_tl1 sh_hd)))))))) rfl), sm_J7_fill_53178, pm_J7_fill_53178⟩
theorem ck_X5_85 : sh_CV RX5 85 M_X1_add 1 := ⟨mt_X1_add, (sh_w3 (sh_tl50 (sh_tl50 (sh_tl10 (sh_tl10 (sh_tl10 (sh_tl1 (sh_tl1 (sh_tl1 (sh_tl1 (sh_tl1 (sh_tl1 sh_hd))))))))))) rfl), im_X1_add, se_X1_add, pm_X1_add⟩
theorem ck_X5_89 : sh_CV RX5 89 M_X1_addWord 1 := ⟨mt_X1_addWord, (sh_w3 (sh_tl50 (sh_tl50 (sh_tl10 (sh_tl10 (sh_tl10 (sh_tl10 sh_hd)))))) rfl), im_X1_addWord, se_X1_addWord, pm_X1_addWord⟩
theorem ck_X1_23 : sh_CV RX1 23 M_X1_add 1 := ⟨mt_X1_add, (sh_w3 (sh_tl50 (sh_tl50 (sh_tl10 (sh_tl10 (sh_tl10 (sh_tl10 (sh_tl1 (sh_tl1 (sh_tl1 (sh_tl1 sh_hd)))))))))) rfl), im_X1_add, se_X1_add, pm_X1_add⟩
theorem ck_X5_92 : sh_CV RX5 92 M_X1_addMark 1 := ⟨mt_X1_addMark, (sh_w3 (sh_tl50 (sh_tl50 (sh_tl10 (sh_tl10 (sh_tl10 (sh_tl10 (sh_tl1 (sh_tl1 (sh_tl1 (sh_tl1 (sh_tl1 sh_hd))))))))))) rfl), im_X1_addMark, se_X1_addMark, pm_X1_addMark⟩
theorem ck_X6_29 : sh_CV RX6 29 M_X6_readPlain 0 := ⟨mt_X6_readPlain, (sh_w3 (sh_tl50 (sh_tl50 (sh_tl10 (sh_tl10 (sh_tl10 (sh_tl10 (sh_tl1 (sh_tl1 (sh_tl1 (sh_tl1 (sh_tl1 (sh_tl1 (sh_tl1 (sh_tl1 (sh_tl1 sh_hd))))))))))))))) rfl), im_X6_readPlain, se_X6_readPlain, pm_X6_readPlain⟩
theorem ck_X6_53 : sh_CV RX6 53 M_X8_takesWord 1 := ⟨mt_X8_takesWord, (sh_w3 (sh_tl50 (sh_tl50 (sh_tl50 (sh_tl1 (sh_tl1 (sh_tl1 sh_hd)))))) rfl), im_X8_takesWord, se_X8_takesWord, pm_X8_takesWord⟩
theorem ck_X8_79 : sh_CV RX8 79 M_X8_isWord 1 := ⟨mt_X8_isWord, (sh_w3 (sh_tl50 (sh_tl50 (sh_tl50 (sh_tl1 (sh_tl1 (sh_tl1 (sh_tl1 (sh_tl1 (sh_tl1 (sh_tl1 sh_hd)))))))))) rfl), im_X8_isWord, se_X8_isWord, pm_X8_isWord⟩
theorem ck_X8_83 : sh_CV RX8 83 M_X8_fails 2 := ⟨mt_X8_fails, (sh_w3 (sh_tl50 (sh_tl50 (sh_tl50 (sh_tl10 (sh_tl1 sh_hd))))) rfl), im_X8_fails, se_X8_fails, pm_X8_fails⟩
theorem ck_X6_56 : sh_CV RX6 56 M_X8_takeNumber 2 := ⟨mt_X8_takeNumber, (sh_w3 (sh_tl50 (sh_tl50 (sh_tl50 (sh_tl10 (sh_tl1 (sh_tl1 (sh_tl1 (sh_tl1 (sh_tl1 sh_hd))))))))) rfl), im_X8_takeNumber, se_X8_takeNumber, pm_X8_takeNumber⟩
theorem ck_X6_42 : sh_CV RX6 42 M_X8_takesMark 1 := ⟨mt_X8_takesMark, (sh_w3 (sh_tl50 (sh_tl50 (sh_tl50 (sh_tl10 (sh_tl1 (sh_tl1 (sh_tl1 (sh_tl1 (sh_tl1 (sh_tl1 (sh_tl1 (sh_tl1 (sh_tl1 sh_hd))))))))))))) rfl), im_X8_takesMark, se_X8_takesMark, pm_X8_takesMark⟩
theorem ck_X6_39 : sh_CV RX6 39 M_X6_readStatement 0 := ⟨mt_X6_readStatement, (sh_w3 (sh_tl50 (sh_tl50 (sh_tl50 (sh_tl10 (sh_tl10 (sh_tl1 (sh_tl1 (sh_tl1 sh_hd)))))))) rfl), im_X6_readStatement, se_X6_readStatement, pm_X6_readStatement⟩
theorem ck_X6_69 : sh_CV RX6 69 M_X6_isOneTooMany 1 := ⟨mt_X6_isOneTooMany, (sh_w3 (sh_tl50 (sh_tl50 (sh_tl50 (sh_tl10 (sh_tl10 (sh_tl1 (sh_tl1 (sh_tl1 (sh_tl1 (sh_tl1 (sh_tl1 (sh_tl1 sh_hd)))))))))))) rfl), im_X6_isOneTooMany, se_X6_isOneTooMany, pm_X6_isOneTooMany⟩
theorem ck_X6_49 : sh_CV RX6 49 M_X8_fails 2 := ⟨mt_X8_fails, (sh_w3 (sh_tl50 (sh_tl50 (sh_tl50 (sh_tl10 (sh_tl10 (sh_tl10 (sh_tl1 sh_hd))))))) rfl), im_X8_fails, se_X8_fails, pm_X8_fails⟩
theorem ck_X6_72 : sh_CV RX6 72 M_X6_readHigh 0 := ⟨mt_X6_readHigh, (sh_w3 (sh_tl50 (sh_tl50 (sh_tl50 (sh_tl10 (sh_tl10 (sh_tl10 (sh_tl1 (sh_tl1 sh_hd)))))))) rfl), im_X6_readHigh, se_X6_readHigh, pm_X6_readHigh⟩
theorem ck_X6_131 : sh_CV RX6 131 M_X8_advance 0 := ⟨mt_X8_advance, (sh_w3 (sh_tl50 (sh_tl50 (sh_tl50 (sh_tl10 (sh_tl10 (sh_tl10 (sh_tl1 (sh_tl1 (sh_tl1 (sh_tl1 (sh_tl1 (sh_tl1 sh_hd)))))))))))) rfl), im_X8_advance, se_X8_advance, pm_X8_advance⟩
theorem ck_X6_134 : sh_CV RX6 134 M_X5_cellAt 2 := ⟨mt_X5_cellAt, (sh_w3 (sh_tl50 (sh_tl50 (sh_tl50 (sh_tl10 (sh_tl10 (sh_tl10 (sh_tl1 (sh_tl1 (sh_tl1 (sh_tl1 (sh_tl1 (sh_tl1 (sh_tl1 sh_hd))))))))))))) rfl), im_X5_cellAt, se_X5_cellAt, pm_X5_cellAt⟩
theorem ck_X6_75 : sh_CV RX6 75 M_X6_readTopic 0 := ⟨mt_X6_readTopic, (sh_w3 (sh_tl50 (sh_tl50 (sh_tl50 (sh_tl10 (sh_tl10 (sh_tl10 (sh_tl10 (sh_tl1 sh_hd)))))))) rfl), im_X6_readTopic, se_X6_readTopic, pm_X6_readTopic⟩
theorem ck_X6_156 : sh_CV RX6 156 M_X8_takeName 0 := ⟨mt_X8_takeName, (sh_w3 (sh_tl50 (sh_tl50 (sh_tl50 (sh_tl10 (sh_tl10 (sh_tl10 (sh_tl10 (sh_tl1 (sh_tl1 (sh_tl1 (sh_tl1 (sh_tl1 sh_hd)))))))))))) rfl), im_X8_takeName, se_X8_takeName, pm_X8_takeName⟩
theorem ck_X6_160 : sh_CV RX6 160 M_X6_isNew 1 := ⟨mt_X6_isNew, (sh_w3 (sh_tl50 (sh_tl50 (sh_tl50 (sh_tl10 (sh_tl10 (sh_tl10 (sh_tl10 (sh_tl1 (sh_tl1 (sh_tl1 (sh_tl1 (sh_tl1 (sh_tl1 (sh_tl1 (sh_tl1 (sh_tl1 sh_hd)))))))))))))))) rfl), im_X6_isNew, se_X6_isNew, pm_X6_isNew⟩
theorem ck_X6_146 : sh_CV RX6 146 M_X5_topicOf 1 := ⟨mt_X5_topicOf, (sh_w3 (sh_tl50 (sh_tl50 (sh_tl50 (sh_tl50 (sh_tl1 (sh_tl1 (sh_tl1 sh_hd))))))) rfl), im_X5_topicOf, se_X5_topicOf, pm_X5_topicOf⟩
theorem ck_X5_103 : sh_CS RX5 103 M_X5_placeOf 3 := ⟨mt_X5_placeOf, (sh_w3 (sh_tl50 (sh_tl50 (sh_tl50 (sh_tl50 (sh_tl1 (sh_tl1 (sh_tl1 (sh_tl1 (sh_tl1 (sh_tl1 (sh_tl1 sh_hd))))))))))) rfl), sm_X5_placeOf, pm_X5_placeOf⟩
theorem ck_X6_150 : sh_CV RX6 150 M_X5_personOf 1 := ⟨mt_X5_personOf, (sh_w3 (sh_tl50 (sh_tl50 (sh_tl50 (sh_tl50 (sh_tl10 sh_hd))))) rfl), im_X5_personOf, se_X5_personOf, pm_X5_personOf⟩
theorem ck_X6_78 : sh_CV RX6 78 M_X6_readPerson 0 := ⟨mt_X6_readPerson, (sh_w3 (sh_tl50 (sh_tl50 (sh_tl50 (sh_tl50 (sh_tl10 (sh_tl1 (sh_tl1 (sh_tl1 (sh_tl1 sh_hd))))))))) rfl), im_X6_readPerson, se_X6_readPerson, pm_X6_readPerson⟩
theorem ck_X6_166 : sh_CV RX6 166 M_X3_isSomeoneAt 3 := ⟨mt_X3_isSomeoneAt, (sh_w3 (sh_tl50 (sh_tl50 (sh_tl50 (sh_tl50 (sh_tl10 (sh_tl1 (sh_tl1 (sh_tl1 (sh_tl1 (sh_tl1 (sh_tl1 (sh_tl1 (sh_tl1 sh_hd))))))))))))) rfl), im_X3_isSomeoneAt, se_X3_isSomeoneAt, pm_X3_isSomeoneAt⟩
theorem ck_X6_81 : sh_CV RX6 81 M_X6_readKnows 0 := ⟨mt_X6_readKnows, (sh_w3 (sh_tl50 (sh_tl50 (sh_tl50 (sh_tl50 (sh_tl10 (sh_tl10 (sh_tl1 (sh_tl1 sh_hd)))))))) rfl), im_X6_readKnows, se_X6_readKnows, pm_X6_readKnows⟩
theorem ck_X6_185 : sh_CV RX6 185 M_X6_asPerson 1 := ⟨mt_X6_asPerson, (sh_w3 (sh_tl50 (sh_tl50 (sh_tl50 (sh_tl50 (sh_tl10 (sh_tl10 (sh_tl1 (sh_tl1 (sh_tl1 (sh_tl1 (sh_tl1 (sh_tl1 sh_hd)))))))))))) rfl), im_X6_asPerson, se_X6_asPerson, pm_X6_asPerson⟩
theorem ck_X6_188 : sh_CV RX6 188 M_X6_asTopic 1 := ⟨mt_X6_asTopic, (sh_w3 (sh_tl50 (sh_tl50 (sh_tl50 (sh_tl50 (sh_tl10 (sh_tl10 (sh_tl10 sh_hd))))))) rfl), im_X6_asTopic, se_X6_asTopic, pm_X6_asTopic⟩
theorem ck_X6_84 : sh_CV RX6 84 M_X6_readAsks 0 := ⟨mt_X6_readAsks, (sh_w3 (sh_tl50 (sh_tl50 (sh_tl50 (sh_tl50 (sh_tl10 (sh_tl10 (sh_tl10 (sh_tl1 (sh_tl1 (sh_tl1 (sh_tl1 sh_hd))))))))))) rfl), im_X6_readAsks, se_X6_readAsks, pm_X6_readAsks⟩
theorem ck_X6_97 : sh_CV RX6 97 M_X6_beginRule 2 := ⟨mt_X6_beginRule, (sh_w3 (sh_tl50 (sh_tl50 (sh_tl50 (sh_tl50 (sh_tl10 (sh_tl10 (sh_tl10 (sh_tl1 (sh_tl1 (sh_tl1 (sh_tl1 (sh_tl1 (sh_tl1 (sh_tl1 (sh_tl1 sh_hd))))))))))))))) rfl), im_X6_beginRule, se_X6_beginRule, pm_X6_beginRule⟩
theorem ck_X6_197 : sh_CV RX6 197 M_X2_begin 2 := ⟨mt_X2_begin, (sh_w4 (sh_tl1 (sh_tl1 sh_hd)) rfl), im_X2_begin, se_X2_begin, pm_X2_begin⟩
theorem ck_X6_101 : sh_CVN RX6 101 M_X2_sum 1 := ⟨mt_X2_sum, (by decide +kernel), im_X2_sum, se_X2_sum, pm_X2_sum⟩
theorem ck_X2_82 : sh_CV RX2 82 M_X2_product 1 := ⟨mt_X2_product, (sh_w4 (sh_tl10 sh_hd) rfl), im_X2_product, se_X2_product, pm_X2_product⟩
theorem ck_X2_85 : sh_CV RX2 85 M_X2_part 1 := ⟨mt_X2_part, (sh_w4 (sh_tl10 (sh_tl1 (sh_tl1 (sh_tl1 (sh_tl1 sh_hd))))) rfl), im_X2_part, se_X2_part, pm_X2_part⟩
theorem ck_X2_73 : sh_CV RX2 73 M_X2_opens 1 := ⟨mt_X2_opens, (sh_w4 (sh_tl10 (sh_tl1 (sh_tl1 (sh_tl1 (sh_tl1 (sh_tl1 (sh_tl1 (sh_tl1 (sh_tl1 sh_hd))))))))) rfl), im_X2_opens, se_X2_opens, pm_X2_opens⟩
theorem ck_X2_39 : sh_CV RX2 39 M_X8_fails 2 := ⟨mt_X8_fails, (sh_w4 (sh_tl10 (sh_tl10 (sh_tl1 (sh_tl1 sh_hd)))) rfl), im_X8_fails, se_X8_fails, pm_X8_fails⟩
theorem ck_X2_43 : sh_CV RX2 43 M_X8_advance 0 := ⟨mt_X8_advance, (sh_w4 (sh_tl10 (sh_tl10 (sh_tl1 (sh_tl1 (sh_tl1 sh_hd))))) rfl), im_X8_advance, se_X8_advance, pm_X8_advance⟩
theorem ck_X2_54 : sh_CV RX2 54 M_X2_sum 1 := ⟨mt_X2_sum, (sh_w4 (sh_tl10 (sh_tl10 (sh_tl1 (sh_tl1 (sh_tl1 (sh_tl1 sh_hd)))))) rfl), im_X2_sum, se_X2_sum, pm_X2_sum⟩
theorem ck_X2_57 : sh_CV RX2 57 M_X8_takesMark 1 := ⟨mt_X8_takesMark, (sh_w4 (sh_tl10 (sh_tl10 (sh_tl1 (sh_tl1 (sh_tl1 (sh_tl1 (sh_tl1 sh_hd))))))) rfl), im_X8_takesMark, se_X8_takesMark, pm_X8_takesMark⟩
theorem ck_X2_88 : sh_CV RX2 88 M_X8_takeNumber 2 := ⟨mt_X8_takeNumber, (sh_w4 (sh_tl10 (sh_tl10 (sh_tl1 (sh_tl1 (sh_tl1 (sh_tl1 (sh_tl1 (sh_tl1 sh_hd)))))))) rfl), im_X8_takeNumber, se_X8_takeNumber, pm_X8_takeNumber⟩
theorem ck_X2_76 : sh_CV RX2 76 M_X1_add 1 := ⟨mt_X1_add, (sh_w4 (sh_tl10 (sh_tl10 (sh_tl1 (sh_tl1 (sh_tl1 (sh_tl1 (sh_tl1 (sh_tl1 (sh_tl1 sh_hd))))))))) rfl), im_X1_add, se_X1_add, pm_X1_add⟩
theorem ck_X2_92 : sh_CV RX2 92 M_X2_ofTwoSums 2 := ⟨mt_X2_ofTwoSums, (sh_w4 (sh_tl10 (sh_tl10 (sh_tl1 (sh_tl1 (sh_tl1 (sh_tl1 (sh_tl1 (sh_tl1 (sh_tl1 (sh_tl1 sh_hd)))))))))) rfl), im_X2_ofTwoSums, se_X2_ofTwoSums, pm_X2_ofTwoSums⟩
theorem ck_X2_66 : sh_CV RX2 66 M_X1_addWord 1 := ⟨mt_X1_addWord, (sh_w4 (sh_tl10 (sh_tl10 (sh_tl10 (sh_tl1 (sh_tl1 sh_hd))))) rfl), im_X1_addWord, se_X1_addWord, pm_X1_addWord⟩
theorem ck_X2_95 : sh_CV RX2 95 M_X2_isFactHere 1 := ⟨mt_X2_isFactHere, (sh_w4 (sh_tl10 (sh_tl10 (sh_tl10 (sh_tl1 (sh_tl1 (sh_tl1 sh_hd)))))) rfl), im_X2_isFactHere, se_X2_isFactHere, pm_X2_isFactHere⟩
theorem ck_X2_79 : sh_CV RX2 79 M_X1_addMark 1 := ⟨mt_X1_addMark, (sh_w4 (sh_tl10 (sh_tl10 (sh_tl10 (sh_tl1 (sh_tl1 (sh_tl1 (sh_tl1 (sh_tl1 (sh_tl1 (sh_tl1 sh_hd)))))))))) rfl), im_X1_addMark, se_X1_addMark, pm_X1_addMark⟩
theorem ck_X6_116 : sh_CVN RX6 116 M_X2_test 1 := ⟨mt_X2_test, (by decide +kernel), im_X2_test, se_X2_test, pm_X2_test⟩
theorem ck_X2_60 : sh_CV RX2 60 M_X2_both 1 := ⟨mt_X2_both, (sh_w4 (sh_tl10 (sh_tl10 (sh_tl10 (sh_tl10 (sh_tl1 (sh_tl1 sh_hd)))))) rfl), im_X2_both, se_X2_both, pm_X2_both⟩
theorem ck_X2_70 : sh_CV RX2 70 M_X2_fact 1 := ⟨mt_X2_fact, (sh_w4 (sh_tl10 (sh_tl10 (sh_tl10 (sh_tl10 (sh_tl1 (sh_tl1 (sh_tl1 (sh_tl1 (sh_tl1 (sh_tl1 sh_hd)))))))))) rfl), im_X2_fact, se_X2_fact, pm_X2_fact⟩
theorem ck_X2_63 : sh_CV RX2 63 M_X8_isWord 1 := ⟨mt_X8_isWord, (sh_w4 (sh_tl50 sh_hd) rfl), im_X8_isWord, se_X8_isWord, pm_X8_isWord⟩
theorem ck_X2_50 : sh_CV RX2 50 M_X2_test 1 := ⟨mt_X2_test, (sh_w4 (sh_tl50 (sh_tl1 sh_hd)) rfl), im_X2_test, se_X2_test, pm_X2_test⟩
theorem ck_X6_119 : sh_CV RX6 119 M_X6_readCrowd 0 := ⟨mt_X6_readCrowd, (sh_w4 (sh_tl50 (sh_tl1 (sh_tl1 sh_hd))) rfl), im_X6_readCrowd, se_X6_readCrowd, pm_X6_readCrowd⟩
theorem ck_X11_142 : sh_CV RX11 142 M_X11_noteFault 0 := ⟨mt_X11_noteFault, (sh_w4 (sh_tl50 (sh_tl1 (sh_tl1 (sh_tl1 (sh_tl1 (sh_tl1 (sh_tl1 sh_hd))))))) rfl), im_X11_noteFault, se_X11_noteFault, pm_X11_noteFault⟩
theorem ck_X11_155 : sh_CV RX11 155 M_X3_copyFrom 1 := ⟨mt_X3_copyFrom, (sh_w4 (sh_tl50 (sh_tl10 sh_hd)) rfl), im_X3_copyFrom, se_X3_copyFrom, pm_X3_copyFrom⟩
theorem ck_X3_31 : sh_CP RX3 31 := ⟨(sh_w4 (sh_tl50 (sh_tl10 (sh_tl1 (sh_tl1 (sh_tl1 (sh_tl1 sh_hd)))))) rfl), (sh_w4 (sh_tl50 (sh_tl10 (sh_tl1 (sh_tl1 (sh_tl1 (sh_tl1 (sh_tl1 (sh_tl1 sh_hd)))))))) rfl), (sh_w4 (sh_tl50 (sh_tl10 (sh_tl1 (sh_tl1 (sh_tl1 (sh_tl1 (sh_tl1 sh_hd))))))) rfl), (sh_w1 (sh_tl10 (sh_tl10 sh_hd)) rfl)⟩
theorem ck_X11_159 : sh_CV RX11 159 M_X4_forget 0 := ⟨mt_X4_forget, (sh_w4 (sh_tl50 (sh_tl10 (sh_tl1 (sh_tl1 (sh_tl1 (sh_tl1 (sh_tl1 (sh_tl1 (sh_tl1 sh_hd))))))))) rfl), im_X4_forget, se_X4_forget, pm_X4_forget⟩
theorem ck_X11_189 : sh_CV RX11 189 M_X5_cells 0 := ⟨mt_X5_cells, (sh_w4 (sh_tl50 (sh_tl10 (sh_tl10 (sh_tl10 sh_hd)))) rfl), im_X5_cells, se_X5_cells, pm_X5_cells⟩
theorem ck_X11_192 : sh_CV RX11 192 M_X3_together 1 := ⟨mt_X3_together, (sh_w4 (sh_tl50 (sh_tl10 (sh_tl10 (sh_tl10 (sh_tl1 (sh_tl1 (sh_tl1 (sh_tl1 sh_hd)))))))) rfl), im_X3_together, se_X3_together, pm_X3_together⟩
theorem ck_X11_201 : sh_CV RX11 201 M_X11_isTopic 1 := ⟨mt_X11_isTopic, (sh_w4 (sh_tl50 (sh_tl10 (sh_tl10 (sh_tl10 (sh_tl10 (sh_tl1 (sh_tl1 sh_hd))))))) rfl), im_X11_isTopic, se_X11_isTopic, pm_X11_isTopic⟩
theorem ck_X11_207 : sh_CS RX11 207 M_X11_letterOf 2 := ⟨mt_X11_letterOf, (sh_w4 (sh_tl50 (sh_tl10 (sh_tl10 (sh_tl10 (sh_tl10 (sh_tl1 (sh_tl1 (sh_tl1 (sh_tl1 (sh_tl1 (sh_tl1 sh_hd))))))))))) rfl), sm_X11_letterOf, pm_X11_letterOf⟩
theorem ck_X11_211 : sh_CV RX11 211 M_X11_isPerson 1 := ⟨mt_X11_isPerson, (sh_w4 (sh_tl50 (sh_tl10 (sh_tl10 (sh_tl10 (sh_tl10 (sh_tl1 (sh_tl1 (sh_tl1 (sh_tl1 (sh_tl1 (sh_tl1 (sh_tl1 (sh_tl1 (sh_tl1 sh_hd)))))))))))))) rfl), im_X11_isPerson, se_X11_isPerson, pm_X11_isPerson⟩
theorem ck_X11_217 : sh_CV RX11 217 M_X5_cellAt 2 := ⟨mt_X5_cellAt, (sh_w4 (sh_tl50 (sh_tl50 (sh_tl1 (sh_tl1 (sh_tl1 (sh_tl1 (sh_tl1 (sh_tl1 (sh_tl1 sh_hd))))))))) rfl), im_X5_cellAt, se_X5_cellAt, pm_X5_cellAt⟩
theorem ck_X11_241 : sh_CV RX11 241 M_X10_deed 3 := ⟨mt_X10_deed, (sh_w4 (sh_tl50 (sh_tl50 (sh_tl10 (sh_tl10 sh_hd)))) rfl), im_X10_deed, se_X10_deed, pm_X10_deed⟩
theorem ck_X10_57 : sh_CV RX10 57 M_X10_gather 3 := ⟨mt_X10_gather, (sh_w4 (sh_tl50 (sh_tl50 (sh_tl10 (sh_tl10 (sh_tl1 (sh_tl1 (sh_tl1 (sh_tl1 sh_hd)))))))) rfl), im_X10_gather, se_X10_gather, pm_X10_gather⟩
theorem ck_X10_32 : sh_CV RX10 32 M_X5_cellAt 2 := ⟨mt_X5_cellAt, (sh_w4 (sh_tl50 (sh_tl50 (sh_tl10 (sh_tl10 (sh_tl1 (sh_tl1 (sh_tl1 (sh_tl1 (sh_tl1 (sh_tl1 (sh_tl1 (sh_tl1 sh_hd)))))))))))) rfl), im_X5_cellAt, se_X5_cellAt, pm_X5_cellAt⟩
theorem ck_X10_47 : sh_CS RX10 47 M_J6_bitCount_0f7a4 1 := ⟨mt_J6_bitCount_0f7a4, (sh_w4 (sh_tl50 (sh_tl50 (sh_tl10 (sh_tl10 (sh_tl1 (sh_tl1 (sh_tl1 (sh_tl1 (sh_tl1 (sh_tl1 (sh_tl1 (sh_tl1 (sh_tl1 sh_hd))))))))))))) rfl), sm_J6_bitCount_0f7a4, pm_J6_bitCount_0f7a4⟩
theorem ck_X10_79 : sh_CV RX10 79 M_X1_value 1 := ⟨mt_X1_value, (sh_w4 (sh_tl50 (sh_tl50 (sh_tl10 (sh_tl10 (sh_tl10 (sh_tl1 (sh_tl1 (sh_tl1 (sh_tl1 (sh_tl1 sh_hd)))))))))) rfl), im_X1_value, se_X1_value, pm_X1_value⟩
theorem ck_X1_27 : sh_CS RX1 27 M_X1_isFact 1 := ⟨mt_X1_isFact, (sh_w4 (sh_tl50 (sh_tl50 (sh_tl10 (sh_tl10 (sh_tl10 (sh_tl1 (sh_tl1 (sh_tl1 (sh_tl1 (sh_tl1 (sh_tl1 (sh_tl1 (sh_tl1 (sh_tl1 sh_hd)))))))))))))) rfl), sm_X1_isFact, pm_X1_isFact⟩
theorem ck_X1_31 : sh_CS RX1 31 M_X1_ofOne 3 := ⟨mt_X1_ofOne, (sh_w4 (sh_tl50 (sh_tl50 (sh_tl10 (sh_tl10 (sh_tl10 (sh_tl10 (sh_tl1 (sh_tl1 sh_hd)))))))) rfl), sm_X1_ofOne, pm_X1_ofOne⟩
theorem ck_X1_35 : sh_CS RX1 35 M_X1_ofTwo 3 := ⟨mt_X1_ofTwo, (sh_w4 (sh_tl50 (sh_tl50 (sh_tl10 (sh_tl10 (sh_tl10 (sh_tl10 (sh_tl1 (sh_tl1 (sh_tl1 (sh_tl1 (sh_tl1 (sh_tl1 sh_hd)))))))))))) rfl), sm_X1_ofTwo, pm_X1_ofTwo⟩
theorem ck_X1_45 : sh_CS RX1 45 M_J9_min_f86c9 2 := ⟨mt_J9_min_f86c9, (sh_w4 (sh_tl50 (sh_tl50 (sh_tl50 (sh_tl1 sh_hd)))) rfl), sm_J9_min_f86c9, pm_J9_min_f86c9⟩
theorem ck_X1_51 : sh_CS RX1 51 M_J9_max_f86c9 2 := ⟨mt_J9_max_f86c9, (sh_w4 (sh_tl50 (sh_tl50 (sh_tl50 (sh_tl1 (sh_tl1 (sh_tl1 (sh_tl1 sh_hd))))))) rfl), sm_J9_max_f86c9, pm_J9_max_f86c9⟩
theorem ck_X1_54 : sh_CS RX1 54 M_J9_floorDiv_f86c9 2 := ⟨mt_J9_floorDiv_f86c9, (sh_w4 (sh_tl50 (sh_tl50 (sh_tl50 (sh_tl1 (sh_tl1 (sh_tl1 (sh_tl1 (sh_tl1 (sh_tl1 (sh_tl1 sh_hd)))))))))) rfl), sm_J9_floorDiv_f86c9, pm_J9_floorDiv_f86c9⟩
theorem ck_X11_252 : sh_CV RX11 252 M_X11_isAhead 3 := ⟨mt_X11_isAhead, (sh_w4 (sh_tl50 (sh_tl50 (sh_tl50 (sh_tl10 (sh_tl1 (sh_tl1 (sh_tl1 (sh_tl1 (sh_tl1 (sh_tl1 (sh_tl1 (sh_tl1 sh_hd)))))))))))) rfl), im_X11_isAhead, se_X11_isAhead, pm_X11_isAhead⟩
theorem ck_X11_248 : sh_CV RX11 248 M_X11_isPlain 0 := ⟨mt_X11_isPlain, (sh_w4 (sh_tl50 (sh_tl50 (sh_tl50 (sh_tl10 (sh_tl10 (sh_tl1 (sh_tl1 sh_hd))))))) rfl), im_X11_isPlain, se_X11_isPlain, pm_X11_isPlain⟩
theorem ck_X11_256 : sh_CV RX11 256 M_X0_behind 3 := ⟨mt_X0_behind, (sh_w4 (sh_tl50 (sh_tl50 (sh_tl50 (sh_tl10 (sh_tl10 (sh_tl1 (sh_tl1 (sh_tl1 (sh_tl1 (sh_tl1 (sh_tl1 sh_hd))))))))))) rfl), im_X0_behind, se_X0_behind, pm_X0_behind⟩
theorem ck_X0_33 : sh_CV RX0 33 M_X3_copyFrom 1 := ⟨mt_X3_copyFrom, (sh_w4 (sh_tl50 (sh_tl50 (sh_tl50 (sh_tl10 (sh_tl10 (sh_tl10 sh_hd)))))) rfl), im_X3_copyFrom, se_X3_copyFrom, pm_X3_copyFrom⟩
theorem ck_X0_37 : sh_CV RX0 37 M_X10_passDay 2 := ⟨mt_X10_passDay, (sh_w4 (sh_tl50 (sh_tl50 (sh_tl50 (sh_tl10 (sh_tl10 (sh_tl10 (sh_tl1 sh_hd))))))) rfl), im_X10_passDay, se_X10_passDay, pm_X10_passDay⟩
theorem ck_X10_132 : sh_CV RX10 132 M_X5_rowOf 1 := ⟨mt_X5_rowOf, (sh_w4 (sh_tl50 (sh_tl50 (sh_tl50 (sh_tl10 (sh_tl10 (sh_tl10 (sh_tl1 (sh_tl1 (sh_tl1 (sh_tl1 (sh_tl1 sh_hd))))))))))) rfl), im_X5_rowOf, se_X5_rowOf, pm_X5_rowOf⟩
theorem ck_X10_68 : sh_CV RX10 68 M_X10_asked 3 := ⟨mt_X10_asked, (sh_w4 (sh_tl50 (sh_tl50 (sh_tl50 (sh_tl10 (sh_tl10 (sh_tl10 (sh_tl1 (sh_tl1 (sh_tl1 (sh_tl1 (sh_tl1 (sh_tl1 (sh_tl1 (sh_tl1 (sh_tl1 sh_hd))))))))))))))) rfl), im_X10_asked, se_X10_asked, pm_X10_asked⟩
theorem ck_X10_85 : sh_CV RX10 85 M_X10_deed 3 := ⟨mt_X10_deed, (sh_w4 (sh_tl50 (sh_tl50 (sh_tl50 (sh_tl10 (sh_tl10 (sh_tl10 (sh_tl10 (sh_tl1 (sh_tl1 (sh_tl1 sh_hd)))))))))) rfl), im_X10_deed, se_X10_deed, pm_X10_deed⟩
theorem ck_X10_88 : sh_CV RX10 88 M_X10_lookAround 2 := ⟨mt_X10_lookAround, (sh_w4 (sh_tl50 (sh_tl50 (sh_tl50 (sh_tl10 (sh_tl10 (sh_tl10 (sh_tl10 (sh_tl1 (sh_tl1 (sh_tl1 (sh_tl1 sh_hd))))))))))) rfl), im_X10_lookAround, se_X10_lookAround, pm_X10_lookAround⟩
theorem ck_X10_117 : sh_CV RX10 117 M_X5_cells 0 := ⟨mt_X5_cells, (sh_w4 (sh_tl50 (sh_tl50 (sh_tl50 (sh_tl10 (sh_tl10 (sh_tl10 (sh_tl10 (sh_tl1 (sh_tl1 (sh_tl1 (sh_tl1 (sh_tl1 (sh_tl1 (sh_tl1 (sh_tl1 sh_hd))))))))))))))) rfl), im_X5_cells, se_X5_cells, pm_X5_cells⟩
theorem ck_X10_121 : sh_CV RX10 121 M_X10_isElsewhere 1 := ⟨mt_X10_isElsewhere, (sh_w4 (sh_tl50 (sh_tl50 (sh_tl50 (sh_tl10 (sh_tl10 (sh_tl10 (sh_tl10 (sh_tl1 (sh_tl1 (sh_tl1 (sh_tl1 (sh_tl1 (sh_tl1 (sh_tl1 (sh_tl1 (sh_tl1 sh_hd)))))))))))))))) rfl), im_X10_isElsewhere, se_X10_isElsewhere, pm_X10_isElsewhere⟩
theorem ck_X10_95 : sh_CV RX10 95 M_X10_lift 2 := ⟨mt_X10_lift, (sh_w4 (sh_tl50 (sh_tl50 (sh_tl50 (sh_tl50 (sh_tl1 (sh_tl1 (sh_tl1 sh_hd))))))) rfl), im_X10_lift, se_X10_lift, pm_X10_lift⟩
theorem ck_X10_104 : sh_CS RX10 104 M_X10_within 2 := ⟨mt_X10_within, (sh_w4 (sh_tl50 (sh_tl50 (sh_tl50 (sh_tl50 (sh_tl1 (sh_tl1 (sh_tl1 (sh_tl1 (sh_tl1 (sh_tl1 (sh_tl1 sh_hd))))))))))) rfl), sm_X10_within, pm_X10_within⟩
theorem ck_X10_128 : sh_CV RX10 128 M_X10_findHighest 1 := ⟨mt_X10_findHighest, (sh_w4 (sh_tl50 (sh_tl50 (sh_tl50 (sh_tl50 (sh_tl10 sh_hd))))) rfl), im_X10_findHighest, se_X10_findHighest, pm_X10_findHighest⟩
theorem ck_X11_260 : sh_CV RX11 260 M_X0_daysToRise 3 := ⟨mt_X0_daysToRise, (sh_w4 (sh_tl50 (sh_tl50 (sh_tl50 (sh_tl50 (sh_tl10 (sh_tl10 (sh_tl1 (sh_tl1 sh_hd)))))))) rfl), im_X0_daysToRise, se_X0_daysToRise, pm_X0_daysToRise⟩
theorem ck_X11_263 : sh_CV RX11 263 M_X5_cellOf 1 := ⟨mt_X5_cellOf, (sh_w4 (sh_tl50 (sh_tl50 (sh_tl50 (sh_tl50 (sh_tl10 (sh_tl10 (sh_tl10 sh_hd))))))) rfl), im_X5_cellOf, se_X5_cellOf, pm_X5_cellOf⟩
theorem ck_X5_95 : sh_CV RX5 95 M_X5_cellAt 2 := ⟨mt_X5_cellAt, (sh_w4 (sh_tl50 (sh_tl50 (sh_tl50 (sh_tl50 (sh_tl10 (sh_tl10 (sh_tl10 (sh_tl1 (sh_tl1 (sh_tl1 (sh_tl1 sh_hd))))))))))) rfl), im_X5_cellAt, se_X5_cellAt, pm_X5_cellAt⟩
theorem ck_X11_266 : sh_CV RX11 266 M_X7_find 4 := ⟨mt_X7_find, (sh_w4 (sh_tl50 (sh_tl50 (sh_tl50 (sh_tl50 (sh_tl10 (sh_tl10 (sh_tl10 (sh_tl1 (sh_tl1 (sh_tl1 (sh_tl1 (sh_tl1 sh_hd)))))))))))) rfl), im_X7_find, se_X7_find, pm_X7_find⟩
theorem ck_X7_26 : sh_CV RX7 26 M_X3_copyFrom 1 := ⟨mt_X3_copyFrom, (sh_w4 (sh_tl50 (sh_tl50 (sh_tl50 (sh_tl50 (sh_tl10 (sh_tl10 (sh_tl10 (sh_tl1 (sh_tl1 (sh_tl1 (sh_tl1 (sh_tl1 (sh_tl1 (sh_tl1 (sh_tl1 (sh_tl1 sh_hd)))))))))))))))) rfl), im_X3_copyFrom, se_X3_copyFrom, pm_X3_copyFrom⟩
theorem ck_X7_46 : sh_CV RX7 46 M_X5_topicCounts 0 := ⟨mt_X5_topicCounts, (sh_w5 sh_hd rfl), im_X5_topicCounts, se_X5_topicCounts, pm_X5_topicCounts⟩
theorem ck_X5_107 : sh_CV RX5 107 M_X1_names 1 := ⟨mt_X1_names, (sh_w5 (sh_tl1 (sh_tl1 (sh_tl1 (sh_tl1 sh_hd)))) rfl), im_X1_names, se_X1_names, pm_X1_names⟩
theorem ck_X7_55 : sh_CV RX7 55 M_X7_goesOn 2 := ⟨mt_X7_goesOn, (sh_w5 (sh_tl1 (sh_tl1 (sh_tl1 (sh_tl1 (sh_tl1 (sh_tl1 (sh_tl1 (sh_tl1 sh_hd)))))))) rfl), im_X7_goesOn, se_X7_goesOn, pm_X7_goesOn⟩
theorem ck_X7_65 : sh_CV RX7 65 M_X7_mayRise 5 := ⟨mt_X7_mayRise, (sh_w5 (sh_tl10 (sh_tl1 (sh_tl1 sh_hd))) rfl), im_X7_mayRise, se_X7_mayRise, pm_X7_mayRise⟩
theorem ck_X7_79 : sh_CV RX7 79 M_X5_cellAt 2 := ⟨mt_X5_cellAt, (sh_w5 (sh_tl10 (sh_tl1 (sh_tl1 (sh_tl1 (sh_tl1 (sh_tl1 (sh_tl1 sh_hd))))))) rfl), im_X5_cellAt, se_X5_cellAt, pm_X5_cellAt⟩
theorem ck_X7_69 : sh_CV RX7 69 M_X7_goesOnBy 3 := ⟨mt_X7_goesOnBy, (sh_w5 (sh_tl10 (sh_tl1 (sh_tl1 (sh_tl1 (sh_tl1 (sh_tl1 (sh_tl1 (sh_tl1 sh_hd)))))))) rfl), im_X7_goesOnBy, se_X7_goesOnBy, pm_X7_goesOnBy⟩
theorem ck_X7_86 : sh_CV RX7 86 M_X10_asked 3 := ⟨mt_X10_asked, (sh_w5 (sh_tl10 (sh_tl10 (sh_tl1 sh_hd))) rfl), im_X10_asked, se_X10_asked, pm_X10_asked⟩
theorem ck_X11_273 : sh_CV RX11 273 M_X9_cost 4 := ⟨mt_X9_cost, (sh_w5 (sh_tl10 (sh_tl10 (sh_tl1 (sh_tl1 (sh_tl1 (sh_tl1 (sh_tl1 (sh_tl1 sh_hd)))))))) rfl), im_X9_cost, se_X9_cost, pm_X9_cost⟩
theorem ck_X9_16 : sh_CS RX9 16 M_J7_fill_53178 2 := ⟨mt_J7_fill_53178, (sh_w5 (sh_tl10 (sh_tl10 (sh_tl10 (sh_tl1 sh_hd)))) rfl), sm_J7_fill_53178, pm_J7_fill_53178⟩
theorem ck_X9_22 : sh_CV RX9 22 M_X5_cells 0 := ⟨mt_X5_cells, (sh_w5 (sh_tl10 (sh_tl10 (sh_tl10 (sh_tl1 (sh_tl1 sh_hd))))) rfl), im_X5_cells, se_X5_cells, pm_X5_cells⟩
theorem ck_X9_28 : sh_CV RX9 28 M_X9_improves 3 := ⟨mt_X9_improves, (sh_w5 (sh_tl10 (sh_tl10 (sh_tl10 (sh_tl1 (sh_tl1 (sh_tl1 sh_hd)))))) rfl), im_X9_improves, se_X9_improves, pm_X9_improves⟩
theorem ck_X9_32 : sh_CV RX9 32 M_X5_nextTo 2 := ⟨mt_X5_nextTo, (sh_w5 (sh_tl10 (sh_tl10 (sh_tl10 (sh_tl1 (sh_tl1 (sh_tl1 (sh_tl1 (sh_tl1 (sh_tl1 (sh_tl1 sh_hd)))))))))) rfl), im_X5_nextTo, se_X5_nextTo, pm_X5_nextTo⟩
theorem ck_X5_99 : sh_CV RX5 99 M_X5_cells 0 := ⟨mt_X5_cells, (sh_w5 (sh_tl10 (sh_tl10 (sh_tl10 (sh_tl10 (sh_tl1 sh_hd))))) rfl), im_X5_cells, se_X5_cells, pm_X5_cells⟩
theorem ck_X9_41 : sh_CS RX9 41 M_J9_abs_0f7a4 1 := ⟨mt_J9_abs_0f7a4, (sh_w5 (sh_tl10 (sh_tl10 (sh_tl10 (sh_tl10 (sh_tl1 (sh_tl1 sh_hd)))))) rfl), sm_J9_abs_0f7a4, pm_J9_abs_0f7a4⟩
theorem ck_X11_277 : sh_CV RX11 277 M_X9_lowestFrom 3 := ⟨mt_X9_lowestFrom, (sh_w5 (sh_tl10 (sh_tl10 (sh_tl10 (sh_tl10 (sh_tl1 (sh_tl1 (sh_tl1 (sh_tl1 (sh_tl1 (sh_tl1 (sh_tl1 (sh_tl1 (sh_tl1 sh_hd))))))))))))) rfl), im_X9_lowestFrom, se_X9_lowestFrom, pm_X9_lowestFrom⟩
theorem ck_X11_281 : sh_CV RX11 281 M_X5_numberOf 1 := ⟨mt_X5_numberOf, (sh_w5 (sh_tl50 (sh_tl1 (sh_tl1 (sh_tl1 sh_hd)))) rfl), im_X5_numberOf, se_X5_numberOf, pm_X5_numberOf⟩
theorem ck_X11_284 : sh_CS RX11 284 M_J6_bitCount_0f7a4 1 := ⟨mt_J6_bitCount_0f7a4, (sh_w5 (sh_tl50 (sh_tl10 (sh_tl1 sh_hd))) rfl), sm_J6_bitCount_0f7a4, pm_J6_bitCount_0f7a4⟩
theorem ck_X11_289 : sh_CV RX11 289 M_X0_learnOwnHeights 2 := ⟨mt_X0_learnOwnHeights, (sh_w5 (sh_tl50 (sh_tl10 (sh_tl1 (sh_tl1 (sh_tl1 (sh_tl1 (sh_tl1 (sh_tl1 sh_hd)))))))) rfl), im_X0_learnOwnHeights, se_X0_learnOwnHeights, pm_X0_learnOwnHeights⟩
theorem ck_X0_65 : sh_CV RX0 65 M_X5_cellAt 2 := ⟨mt_X5_cellAt, (sh_w5 (sh_tl50 (sh_tl10 (sh_tl10 sh_hd))) rfl), im_X5_cellAt, se_X5_cellAt, pm_X5_cellAt⟩
theorem ck_X11_293 : sh_CV RX11 293 M_X0_isAtRest 1 := ⟨mt_X0_isAtRest, (sh_w5 (sh_tl50 (sh_tl10 (sh_tl10 (sh_tl1 sh_hd)))) rfl), im_X0_isAtRest, se_X0_isAtRest, pm_X0_isAtRest⟩
theorem ck_X11_296 : sh_CV RX11 296 M_X11_isSeen 1 := ⟨mt_X11_isSeen, (sh_w5 (sh_tl50 (sh_tl10 (sh_tl10 (sh_tl1 (sh_tl1 (sh_tl1 (sh_tl1 (sh_tl1 (sh_tl1 (sh_tl1 (sh_tl1 (sh_tl1 sh_hd)))))))))))) rfl), im_X11_isSeen, se_X11_isSeen, pm_X11_isSeen⟩
theorem ck_X11_302 : sh_CP RX11 302 := ⟨(sh_w5 (sh_tl50 (sh_tl10 (sh_tl10 (sh_tl10 (sh_tl1 (sh_tl1 (sh_tl1 sh_hd))))))) rfl), (sh_w4 (sh_tl50 (sh_tl10 (sh_tl1 (sh_tl1 (sh_tl1 (sh_tl1 (sh_tl1 (sh_tl1 sh_hd)))))))) rfl), (sh_w4 (sh_tl50 (sh_tl10 (sh_tl1 (sh_tl1 (sh_tl1 (sh_tl1 (sh_tl1 sh_hd))))))) rfl), (sh_w1 (sh_tl10 (sh_tl10 sh_hd)) rfl)⟩
theorem ck_X11_308 : sh_CV RX11 308 M_X0_whoFits 2 := ⟨mt_X0_whoFits, (sh_w5 (sh_tl50 (sh_tl10 (sh_tl10 (sh_tl10 (sh_tl1 (sh_tl1 (sh_tl1 (sh_tl1 (sh_tl1 (sh_tl1 (sh_tl1 (sh_tl1 sh_hd)))))))))))) rfl), im_X0_whoFits, se_X0_whoFits, pm_X0_whoFits⟩
theorem ck_X0_76 : sh_CV RX0 76 M_X0_askEach 2 := ⟨mt_X0_askEach, (sh_w5 (sh_tl50 (sh_tl10 (sh_tl10 (sh_tl10 (sh_tl10 (sh_tl1 (sh_tl1 sh_hd))))))) rfl), im_X0_askEach, se_X0_askEach, pm_X0_askEach⟩
theorem ck_X0_69 : sh_CV RX0 69 M_X10_asked 3 := ⟨mt_X10_asked, (sh_w5 (sh_tl50 (sh_tl10 (sh_tl10 (sh_tl10 (sh_tl10 (sh_tl1 (sh_tl1 (sh_tl1 (sh_tl1 (sh_tl1 (sh_tl1 sh_hd))))))))))) rfl), im_X10_asked, se_X10_asked, pm_X10_asked⟩
theorem ck_X0_79 : sh_CV RX0 79 M_X0_isAsSeen 2 := ⟨mt_X0_isAsSeen, (sh_w5 (sh_tl50 (sh_tl10 (sh_tl10 (sh_tl10 (sh_tl10 (sh_tl1 (sh_tl1 (sh_tl1 (sh_tl1 (sh_tl1 (sh_tl1 (sh_tl1 sh_hd)))))))))))) rfl), im_X0_isAsSeen, se_X0_isAsSeen, pm_X0_isAsSeen⟩
theorem ck_X11_312 : sh_CV RX11 312 M_X0_findTelling 3 := ⟨mt_X0_findTelling, (sh_w5 (sh_tl50 (sh_tl50 (sh_tl1 (sh_tl1 (sh_tl1 (sh_tl1 (sh_tl1 sh_hd))))))) rfl), im_X0_findTelling, se_X0_findTelling, pm_X0_findTelling⟩
theorem ck_X0_92 : sh_CV RX0 92 M_X5_cells 0 := ⟨mt_X5_cells, (sh_w5 (sh_tl50 (sh_tl50 (sh_tl1 (sh_tl1 (sh_tl1 (sh_tl1 (sh_tl1 (sh_tl1 (sh_tl1 (sh_tl1 (sh_tl1 sh_hd))))))))))) rfl), im_X5_cells, se_X5_cells, pm_X5_cells⟩
theorem ck_X0_96 : sh_CV RX0 96 M_X0_mostLeft 2 := ⟨mt_X0_mostLeft, (sh_w5 (sh_tl50 (sh_tl50 (sh_tl10 sh_hd))) rfl), im_X0_mostLeft, se_X0_mostLeft, pm_X0_mostLeft⟩
theorem ck_X11_325 : sh_CV RX11 325 M_X4_remember 1 := ⟨mt_X4_remember, (sh_w5 (sh_tl50 (sh_tl50 (sh_tl10 (sh_tl1 (sh_tl1 (sh_tl1 (sh_tl1 (sh_tl1 (sh_tl1 (sh_tl1 (sh_tl1 sh_hd))))))))))) rfl), im_X4_remember, se_X4_remember, pm_X4_remember⟩
theorem ck_X4_46 : sh_CV RX4 46 M_X3_copyFrom 1 := ⟨mt_X3_copyFrom, (sh_w5 (sh_tl50 (sh_tl50 (sh_tl10 (sh_tl10 (sh_tl1 (sh_tl1 sh_hd)))))) rfl), im_X3_copyFrom, se_X3_copyFrom, pm_X3_copyFrom⟩
theorem ck_X4_37 : sh_CP RX4 37 := ⟨(sh_w5 (sh_tl50 (sh_tl50 (sh_tl10 (sh_tl10 (sh_tl1 (sh_tl1 (sh_tl1 sh_hd))))))) rfl), (sh_w4 (sh_tl50 (sh_tl10 (sh_tl1 (sh_tl1 (sh_tl1 (sh_tl1 (sh_tl1 (sh_tl1 sh_hd)))))))) rfl), (sh_w4 (sh_tl50 (sh_tl10 (sh_tl1 (sh_tl1 (sh_tl1 (sh_tl1 (sh_tl1 sh_hd))))))) rfl), (sh_w1 (sh_tl10 (sh_tl10 sh_hd)) rfl)⟩
theorem ck_X11_328 : sh_CV RX11 328 M_X11_askNow 2 := ⟨mt_X11_askNow, (sh_w5 (sh_tl50 (sh_tl50 (sh_tl10 (sh_tl10 (sh_tl1 (sh_tl1 (sh_tl1 (sh_tl1 sh_hd)))))))) rfl), im_X11_askNow, se_X11_askNow, pm_X11_askNow⟩
theorem ck_X11_331 : sh_CV RX11 331 M_X10_asked 3 := ⟨mt_X10_asked, (sh_w5 (sh_tl50 (sh_tl50 (sh_tl10 (sh_tl10 (sh_tl1 (sh_tl1 (sh_tl1 (sh_tl1 (sh_tl1 (sh_tl1 (sh_tl1 (sh_tl1 sh_hd)))))))))))) rfl), im_X10_asked, se_X10_asked, pm_X10_asked⟩
theorem ck_X11_337 : sh_CV RX11 337 M_X4_keep 4 := ⟨mt_X4_keep, (sh_w5 (sh_tl50 (sh_tl50 (sh_tl10 (sh_tl10 (sh_tl1 (sh_tl1 (sh_tl1 (sh_tl1 (sh_tl1 (sh_tl1 (sh_tl1 (sh_tl1 (sh_tl1 sh_hd))))))))))))) rfl), im_X4_keep, se_X4_keep, pm_X4_keep⟩
theorem ck_X11_341 : sh_CV RX11 341 M_X3_isSomeoneAt 3 := ⟨mt_X3_isSomeoneAt, (sh_w5 (sh_tl50 (sh_tl50 (sh_tl10 (sh_tl10 (sh_tl10 (sh_tl10 (sh_tl1 sh_hd))))))) rfl), im_X3_isSomeoneAt, se_X3_isSomeoneAt, pm_X3_isSomeoneAt⟩
theorem ck_X11_344 : sh_CV RX11 344 M_X11_dayNow 0 := ⟨mt_X11_dayNow, (sh_w5 (sh_tl50 (sh_tl50 (sh_tl50 sh_hd))) rfl), im_X11_dayNow, se_X11_dayNow, pm_X11_dayNow⟩
theorem ck_X11_347 : sh_CV RX11 347 M_X5_rowOf 1 := ⟨mt_X5_rowOf, (sh_w5 (sh_tl50 (sh_tl50 (sh_tl50 (sh_tl1 (sh_tl1 (sh_tl1 (sh_tl1 sh_hd))))))) rfl), im_X5_rowOf, se_X5_rowOf, pm_X5_rowOf⟩
theorem ck_X11_350 : sh_CV RX11 350 M_X11_crowdNow 0 := ⟨mt_X11_crowdNow, (sh_w5 (sh_tl50 (sh_tl50 (sh_tl50 (sh_tl1 (sh_tl1 (sh_tl1 (sh_tl1 (sh_tl1 (sh_tl1 (sh_tl1 (sh_tl1 (sh_tl1 sh_hd)))))))))))) rfl), im_X11_crowdNow, se_X11_crowdNow, pm_X11_crowdNow⟩
theorem ck_X11_353 : sh_CV RX11 353 M_X11_draw 1 := ⟨mt_X11_draw, (sh_w5 (sh_tl50 (sh_tl50 (sh_tl50 (sh_tl10 (sh_tl1 (sh_tl1 (sh_tl1 sh_hd))))))) rfl), im_X11_draw, se_X11_draw, pm_X11_draw⟩
theorem ck_X11_367 : sh_CV RX11 367 M_X4_goBack 1 := ⟨mt_X4_goBack, (sh_w5 (sh_tl50 (sh_tl50 (sh_tl50 (sh_tl10 (sh_tl10 (sh_tl1 (sh_tl1 (sh_tl1 (sh_tl1 (sh_tl1 sh_hd)))))))))) rfl), im_X4_goBack, se_X4_goBack, pm_X4_goBack⟩
theorem ck_X11_373 : sh_CV RX11 373 M_X2_readQuestion 1 := ⟨mt_X2_readQuestion, (sh_w5 (sh_tl50 (sh_tl50 (sh_tl50 (sh_tl10 (sh_tl10 (sh_tl10 (sh_tl1 (sh_tl1 (sh_tl1 (sh_tl1 (sh_tl1 (sh_tl1 (sh_tl1 (sh_tl1 sh_hd)))))))))))))) rfl), im_X2_readQuestion, se_X2_readQuestion, pm_X2_readQuestion⟩
theorem ck_X2_46 : sh_CV RX2 46 M_X2_begin 2 := ⟨mt_X2_begin, (sh_w5 (sh_tl50 (sh_tl50 (sh_tl50 (sh_tl10 (sh_tl10 (sh_tl10 (sh_tl10 (sh_tl1 (sh_tl1 sh_hd))))))))) rfl), im_X2_begin, se_X2_begin, pm_X2_begin⟩
theorem ck_X11_377 : sh_CV RX11 377 M_X11_answer 1 := ⟨mt_X11_answer, (sh_w5 (sh_tl50 (sh_tl50 (sh_tl50 (sh_tl10 (sh_tl10 (sh_tl10 (sh_tl10 (sh_tl1 (sh_tl1 (sh_tl1 sh_hd)))))))))) rfl), im_X11_answer, se_X11_answer, pm_X11_answer⟩
theorem ck_X11_381 : sh_CV RX11 381 M_X1_names 1 := ⟨mt_X1_names, (sh_w5 (sh_tl50 (sh_tl50 (sh_tl50 (sh_tl10 (sh_tl10 (sh_tl10 (sh_tl10 (sh_tl1 (sh_tl1 (sh_tl1 (sh_tl1 (sh_tl1 (sh_tl1 (sh_tl1 sh_hd)))))))))))))) rfl), im_X1_names, se_X1_names, pm_X1_names⟩
theorem ck_X11_386 : sh_CV RX11 386 M_X10_describe 4 := ⟨mt_X10_describe, (sh_w5 (sh_tl50 (sh_tl50 (sh_tl50 (sh_tl10 (sh_tl10 (sh_tl10 (sh_tl10 (sh_tl1 (sh_tl1 (sh_tl1 (sh_tl1 (sh_tl1 (sh_tl1 (sh_tl1 (sh_tl1 (sh_tl1 sh_hd)))))))))))))))) rfl), im_X10_describe, se_X10_describe, pm_X10_describe⟩
theorem ck_X10_64 : sh_CV RX10 64 M_X3_copyFrom 1 := ⟨mt_X3_copyFrom, (sh_w5 (sh_tl50 (sh_tl50 (sh_tl50 (sh_tl50 (sh_tl1 (sh_tl1 (sh_tl1 sh_hd))))))) rfl), im_X3_copyFrom, se_X3_copyFrom, pm_X3_copyFrom⟩
theorem ck_X11_390 : sh_CV RX11 390 M_X1_value 1 := ⟨mt_X1_value, (sh_w5 (sh_tl50 (sh_tl50 (sh_tl50 (sh_tl50 (sh_tl1 (sh_tl1 (sh_tl1 (sh_tl1 sh_hd)))))))) rfl), im_X1_value, se_X1_value, pm_X1_value⟩
theorem ck_X11_394 : sh_CS RX11 394 M_X11_joined 4 := ⟨mt_X11_joined, (sh_w5 (sh_tl50 (sh_tl50 (sh_tl50 (sh_tl50 (sh_tl1 (sh_tl1 (sh_tl1 (sh_tl1 (sh_tl1 sh_hd))))))))) rfl), sm_X11_joined, pm_X11_joined⟩
theorem ck_X11_398 : sh_CS RX11 398 M_X11_checkOf 2 := ⟨mt_X11_checkOf, (sh_w5 (sh_tl50 (sh_tl50 (sh_tl50 (sh_tl50 (sh_tl10 (sh_tl1 (sh_tl1 sh_hd))))))) rfl), sm_X11_checkOf, pm_X11_checkOf⟩
theorem ck_X11_405 : sh_CV RX11 405 M_X11_isImage 1 := ⟨mt_X11_isImage, (sh_w5 (sh_tl50 (sh_tl50 (sh_tl50 (sh_tl50 (sh_tl10 (sh_tl10 (sh_tl1 (sh_tl1 (sh_tl1 sh_hd))))))))) rfl), im_X11_isImage, se_X11_isImage, pm_X11_isImage⟩
theorem ck_X11_408 : sh_CV RX11 408 M_X11_isPersonTold 2 := ⟨mt_X11_isPersonTold, (sh_w5 (sh_tl50 (sh_tl50 (sh_tl50 (sh_tl50 (sh_tl10 (sh_tl10 (sh_tl1 (sh_tl1 (sh_tl1 (sh_tl1 (sh_tl1 (sh_tl1 (sh_tl1 sh_hd))))))))))))) rfl), im_X11_isPersonTold, se_X11_isPersonTold, pm_X11_isPersonTold⟩
theorem ck_X12_1 : Cond.methodLink RX12 1 Lib.objectInit ∈ sh_tb ∧ Cond.instanceMethod Lib.objectInit ∈ sh_tb ∧ Cond.code Lib.objectInit ⟨#[0xb1]⟩ 1 none ∈ sh_tb := ⟨(sh_w6 sh_hd rfl), (sh_w1 (sh_tl10 (sh_tl10 (sh_tl1 (sh_tl1 (sh_tl1 (sh_tl1 (sh_tl1 (sh_tl1 (sh_tl1 (sh_tl1 sh_hd)))))))))) rfl), (sh_w1 (sh_tl10 (sh_tl10 (sh_tl1 (sh_tl1 (sh_tl1 (sh_tl1 (sh_tl1 (sh_tl1 (sh_tl1 (sh_tl1 (sh_tl1 sh_hd))))))))))) rfl)⟩
theorem ck_X12_386 : sh_CV RX12 386 M_X12_plainTold 0 := ⟨mt_X12_plainTold, (sh_w7 (sh_tl50 (sh_tl50 (sh_tl10 (sh_tl1 (sh_tl1 (sh_tl1 (sh_tl1 (sh_tl1 (sh_tl1 (sh_tl1 sh_hd)))))))))) rfl), im_X12_plainTold, se_X12_plainTold, pm_X12_plainTold⟩
theorem ck_X12_318 : sh_CV RX12 318 M_X12_needs 1 := ⟨mt_X12_needs, (sh_w7 (sh_tl50 (sh_tl50 (sh_tl10 (sh_tl10 (sh_tl1 sh_hd))))) rfl), im_X12_needs, se_X12_needs, pm_X12_needs⟩
theorem ck_X12_280 : sh_CV RX12 280 M_X12_takes 1 := ⟨mt_X12_takes, (sh_w7 (sh_tl50 (sh_tl50 (sh_tl10 (sh_tl10 (sh_tl1 (sh_tl1 (sh_tl1 (sh_tl1 (sh_tl1 sh_hd))))))))) rfl), im_X12_takes, se_X12_takes, pm_X12_takes⟩
theorem ck_X12_276 : sh_CV RX12 276 M_X12_isHere 1 := ⟨mt_X12_isHere, (sh_w7 (sh_tl50 (sh_tl50 (sh_tl10 (sh_tl10 (sh_tl1 (sh_tl1 (sh_tl1 (sh_tl1 (sh_tl1 (sh_tl1 (sh_tl1 (sh_tl1 (sh_tl1 sh_hd))))))))))))) rfl), im_X12_isHere, se_X12_isHere, pm_X12_isHere⟩
theorem ck_X12_265 : sh_CV RX12 265 M_X12_look 0 := ⟨mt_X12_look, (sh_w7 (sh_tl50 (sh_tl50 (sh_tl10 (sh_tl10 (sh_tl10 (sh_tl1 (sh_tl1 (sh_tl1 sh_hd)))))))) rfl), im_X12_look, se_X12_look, pm_X12_look⟩
theorem ck_X12_269 : sh_CS RX12 269 M_X12_isLetter 1 := ⟨mt_X12_isLetter, (sh_w7 (sh_tl50 (sh_tl50 (sh_tl10 (sh_tl10 (sh_tl10 (sh_tl1 (sh_tl1 (sh_tl1 (sh_tl1 (sh_tl1 (sh_tl1 (sh_tl1 sh_hd)))))))))))) rfl), sm_X12_isLetter, pm_X12_isLetter⟩
theorem ck_X12_283 : sh_CV RX12 283 M_X12_fail 2 := ⟨mt_X12_fail, (sh_w7 (sh_tl50 (sh_tl50 (sh_tl10 (sh_tl10 (sh_tl10 (sh_tl10 sh_hd)))))) rfl), im_X12_fail, se_X12_fail, pm_X12_fail⟩
theorem ck_X12_322 : sh_CV RX12 322 M_X12_number 2 := ⟨mt_X12_number, (sh_w7 (sh_tl50 (sh_tl50 (sh_tl10 (sh_tl10 (sh_tl10 (sh_tl10 (sh_tl1 (sh_tl1 (sh_tl1 (sh_tl1 sh_hd)))))))))) rfl), im_X12_number, se_X12_number, pm_X12_number⟩
theorem ck_X12_290 : sh_CS RX12 290 M_X12_isDigit 1 := ⟨mt_X12_isDigit, (sh_w7 (sh_tl50 (sh_tl50 (sh_tl10 (sh_tl10 (sh_tl10 (sh_tl10 (sh_tl1 (sh_tl1 (sh_tl1 (sh_tl1 (sh_tl1 (sh_tl1 (sh_tl1 (sh_tl1 sh_hd)))))))))))))) rfl), sm_X12_isDigit, pm_X12_isDigit⟩
theorem ck_X12_296 : sh_CS RX12 296 M_X12_isIn 3 := ⟨mt_X12_isIn, (sh_w7 (sh_tl50 (sh_tl50 (sh_tl50 (sh_tl1 sh_hd)))) rfl), sm_X12_isIn, pm_X12_isIn⟩
theorem ck_X12_326 : sh_CV RX12 326 M_X12_asksSign 1 := ⟨mt_X12_asksSign, (sh_w7 (sh_tl50 (sh_tl50 (sh_tl50 (sh_tl1 (sh_tl1 (sh_tl1 (sh_tl1 sh_hd))))))) rfl), im_X12_asksSign, se_X12_asksSign, pm_X12_asksSign⟩
theorem ck_X12_287 : sh_CV RX12 287 M_X12_takesSign 1 := ⟨mt_X12_takesSign, (sh_w7 (sh_tl50 (sh_tl50 (sh_tl50 (sh_tl1 (sh_tl1 (sh_tl1 (sh_tl1 (sh_tl1 (sh_tl1 (sh_tl1 (sh_tl1 sh_hd))))))))))) rfl), im_X12_takesSign, se_X12_takesSign, pm_X12_takesSign⟩
theorem ck_X12_389 : sh_CV RX12 389 M_X12_statementTold 0 := ⟨mt_X12_statementTold, (sh_w7 (sh_tl50 (sh_tl50 (sh_tl50 (sh_tl10 (sh_tl1 (sh_tl1 sh_hd)))))) rfl), im_X12_statementTold, se_X12_statementTold, pm_X12_statementTold⟩
theorem ck_X12_368 : sh_CV RX12 368 M_X12_highTold 0 := ⟨mt_X12_highTold, (sh_w7 (sh_tl50 (sh_tl50 (sh_tl50 (sh_tl10 (sh_tl1 (sh_tl1 (sh_tl1 (sh_tl1 (sh_tl1 (sh_tl1 sh_hd)))))))))) rfl), im_X12_highTold, se_X12_highTold, pm_X12_highTold⟩
theorem ck_X12_330 : sh_CV RX12 330 M_X12_cellTold 0 := ⟨mt_X12_cellTold, (sh_w7 (sh_tl50 (sh_tl50 (sh_tl50 (sh_tl10 (sh_tl10 sh_hd))))) rfl), im_X12_cellTold, se_X12_cellTold, pm_X12_cellTold⟩
theorem ck_X12_371 : sh_CV RX12 371 M_X12_topicTold 1 := ⟨mt_X12_topicTold, (sh_w7 (sh_tl50 (sh_tl50 (sh_tl50 (sh_tl10 (sh_tl10 (sh_tl1 (sh_tl1 (sh_tl1 (sh_tl1 sh_hd))))))))) rfl), im_X12_topicTold, se_X12_topicTold, pm_X12_topicTold⟩
theorem ck_X12_333 : sh_CV RX12 333 M_X12_isFull 3 := ⟨mt_X12_isFull, (sh_w7 (sh_tl50 (sh_tl50 (sh_tl50 (sh_tl10 (sh_tl10 (sh_tl1 (sh_tl1 (sh_tl1 (sh_tl1 (sh_tl1 (sh_tl1 (sh_tl1 (sh_tl1 sh_hd))))))))))))) rfl), im_X12_isFull, se_X12_isFull, pm_X12_isFull⟩
theorem ck_X12_337 : sh_CV RX12 337 M_X12_newName 0 := ⟨mt_X12_newName, (sh_w7 (sh_tl50 (sh_tl50 (sh_tl50 (sh_tl10 (sh_tl10 (sh_tl10 (sh_tl1 (sh_tl1 sh_hd)))))))) rfl), im_X12_newName, se_X12_newName, pm_X12_newName⟩
theorem ck_X12_314 : sh_CV RX12 314 M_X12_name 0 := ⟨mt_X12_name, (sh_w7 (sh_tl50 (sh_tl50 (sh_tl50 (sh_tl10 (sh_tl10 (sh_tl10 (sh_tl1 (sh_tl1 (sh_tl1 (sh_tl1 (sh_tl1 (sh_tl1 sh_hd)))))))))))) rfl), im_X12_name, se_X12_name, pm_X12_name⟩
theorem ck_X12_300 : sh_CV RX12 300 M_X12_isOwnHere 0 := ⟨mt_X12_isOwnHere, (sh_w7 (sh_tl50 (sh_tl50 (sh_tl50 (sh_tl10 (sh_tl10 (sh_tl10 (sh_tl10 sh_hd))))))) rfl), im_X12_isOwnHere, se_X12_isOwnHere, pm_X12_isOwnHere⟩
theorem ck_X12_374 : sh_CV RX12 374 M_X12_personTold 1 := ⟨mt_X12_personTold, (sh_w7 (sh_tl50 (sh_tl50 (sh_tl50 (sh_tl10 (sh_tl10 (sh_tl10 (sh_tl10 (sh_tl1 (sh_tl1 (sh_tl1 (sh_tl1 (sh_tl1 (sh_tl1 sh_hd))))))))))))) rfl), im_X12_personTold, se_X12_personTold, pm_X12_personTold⟩
theorem ck_X12_377 : sh_CV RX12 377 M_X12_knowsTold 0 := ⟨mt_X12_knowsTold, (sh_w7 (sh_tl50 (sh_tl50 (sh_tl50 (sh_tl50 sh_hd)))) rfl), im_X12_knowsTold, se_X12_knowsTold, pm_X12_knowsTold⟩
theorem ck_X12_340 : sh_CV RX12 340 M_X12_named 1 := ⟨mt_X12_named, (sh_w7 (sh_tl50 (sh_tl50 (sh_tl50 (sh_tl50 (sh_tl1 (sh_tl1 (sh_tl1 (sh_tl1 sh_hd)))))))) rfl), im_X12_named, se_X12_named, pm_X12_named⟩
theorem ck_X12_380 : sh_CV RX12 380 M_X12_listTold 1 := ⟨mt_X12_listTold, (sh_w7 (sh_tl50 (sh_tl50 (sh_tl50 (sh_tl50 (sh_tl1 (sh_tl1 (sh_tl1 (sh_tl1 (sh_tl1 (sh_tl1 (sh_tl1 (sh_tl1 sh_hd)))))))))))) rfl), im_X12_listTold, se_X12_listTold, pm_X12_listTold⟩
theorem ck_X12_383 : sh_CV RX12 383 M_X12_codesTold 2 := ⟨mt_X12_codesTold, (sh_w7 (sh_tl50 (sh_tl50 (sh_tl50 (sh_tl50 (sh_tl10 (sh_tl1 (sh_tl1 sh_hd))))))) rfl), im_X12_codesTold, se_X12_codesTold, pm_X12_codesTold⟩
theorem ck_X12_356 : sh_CV RX12 356 M_X12_qTest 0 := ⟨mt_X12_qTest, (sh_w7 (sh_tl50 (sh_tl50 (sh_tl50 (sh_tl50 (sh_tl10 (sh_tl1 (sh_tl1 (sh_tl1 (sh_tl1 (sh_tl1 (sh_tl1 sh_hd))))))))))) rfl), im_X12_qTest, se_X12_qTest, pm_X12_qTest⟩
theorem ck_X12_660 : sh_CV RX12 660 M_X12_qOpens 2 := ⟨mt_X12_qOpens, (sh_w7 (sh_tl50 (sh_tl50 (sh_tl50 (sh_tl50 (sh_tl10 (sh_tl10 sh_hd)))))) rfl), im_X12_qOpens, se_X12_qOpens, pm_X12_qOpens⟩
theorem ck_X12_684 : sh_CV RX12 684 M_X12_qFact 0 := ⟨mt_X12_qFact, (sh_w7 (sh_tl50 (sh_tl50 (sh_tl50 (sh_tl50 (sh_tl10 (sh_tl10 (sh_tl1 (sh_tl1 (sh_tl1 (sh_tl1 sh_hd)))))))))) rfl), im_X12_qFact, se_X12_qFact, pm_X12_qFact⟩
theorem ck_X12_642 : sh_CV RX12 642 M_X12_qCode 1 := ⟨mt_X12_qCode, (sh_w7 (sh_tl50 (sh_tl50 (sh_tl50 (sh_tl50 (sh_tl10 (sh_tl10 (sh_tl1 (sh_tl1 (sh_tl1 (sh_tl1 (sh_tl1 (sh_tl1 (sh_tl1 (sh_tl1 sh_hd)))))))))))))) rfl), im_X12_qCode, se_X12_qCode, pm_X12_qCode⟩
theorem ck_X12_359 : sh_CV RX12 359 M_X12_qSums 0 := ⟨mt_X12_qSums, (sh_w7 (sh_tl50 (sh_tl50 (sh_tl50 (sh_tl50 (sh_tl10 (sh_tl10 (sh_tl10 (sh_tl1 (sh_tl1 sh_hd))))))))) rfl), im_X12_qSums, se_X12_qSums, pm_X12_qSums⟩
theorem ck_X12_678 : sh_CV RX12 678 M_X12_qPartTold 0 := ⟨mt_X12_qPartTold, (sh_w7 (sh_tl50 (sh_tl50 (sh_tl50 (sh_tl50 (sh_tl10 (sh_tl10 (sh_tl10 (sh_tl1 (sh_tl1 (sh_tl1 (sh_tl1 (sh_tl1 (sh_tl1 sh_hd))))))))))))) rfl), im_X12_qPartTold, se_X12_qPartTold, pm_X12_qPartTold⟩
theorem ck_X12_657 : sh_CV RX12 657 M_X12_qWordOf 2 := ⟨mt_X12_qWordOf, (sh_w8 sh_hd rfl), im_X12_qWordOf, se_X12_qWordOf, pm_X12_qWordOf⟩
theorem ck_X12_651 : sh_CV RX12 651 M_X12_qWordHere 0 := ⟨mt_X12_qWordHere, (sh_w8 (sh_tl1 (sh_tl1 (sh_tl1 (sh_tl1 sh_hd)))) rfl), im_X12_qWordHere, se_X12_qWordHere, pm_X12_qWordHere⟩
theorem ck_X12_654 : sh_CV RX12 654 M_X12_isAllowed 1 := ⟨mt_X12_isAllowed, (sh_w8 (sh_tl1 (sh_tl1 (sh_tl1 (sh_tl1 (sh_tl1 (sh_tl1 (sh_tl1 (sh_tl1 sh_hd)))))))) rfl), im_X12_isAllowed, se_X12_isAllowed, pm_X12_isAllowed⟩
theorem ck_X12_663 : sh_CV RX12 663 M_X12_qAsksWord 1 := ⟨mt_X12_qAsksWord, (sh_w8 (sh_tl10 (sh_tl1 (sh_tl1 sh_hd))) rfl), im_X12_qAsksWord, se_X12_qAsksWord, pm_X12_qAsksWord⟩
theorem ck_X12_666 : sh_CV RX12 666 M_X12_qEndsPart 0 := ⟨mt_X12_qEndsPart, (sh_w8 (sh_tl10 (sh_tl1 (sh_tl1 (sh_tl1 (sh_tl1 (sh_tl1 (sh_tl1 sh_hd))))))) rfl), im_X12_qEndsPart, se_X12_qEndsPart, pm_X12_qEndsPart⟩
theorem ck_X12_648 : sh_CV RX12 648 M_X12_qDrops 0 := ⟨mt_X12_qDrops, (sh_w8 (sh_tl10 (sh_tl10 sh_hd)) rfl), im_X12_qDrops, se_X12_qDrops, pm_X12_qDrops⟩
theorem ck_X12_681 : sh_CV RX12 681 M_X12_qGoesOn 0 := ⟨mt_X12_qGoesOn, (sh_w8 (sh_tl10 (sh_tl10 (sh_tl1 (sh_tl1 (sh_tl1 (sh_tl1 sh_hd)))))) rfl), im_X12_qGoesOn, se_X12_qGoesOn, pm_X12_qGoesOn⟩
theorem ck_X12_669 : sh_CV RX12 669 M_X12_qBracket 0 := ⟨mt_X12_qBracket, (sh_w8 (sh_tl10 (sh_tl10 (sh_tl1 (sh_tl1 (sh_tl1 (sh_tl1 (sh_tl1 (sh_tl1 (sh_tl1 (sh_tl1 sh_hd)))))))))) rfl), im_X12_qBracket, se_X12_qBracket, pm_X12_qBracket⟩
theorem ck_X12_645 : sh_CS RX12 645 M_X12_qIsBracket 1 := ⟨mt_X12_qIsBracket, (sh_w8 (sh_tl10 (sh_tl10 (sh_tl10 (sh_tl1 (sh_tl1 sh_hd))))) rfl), sm_X12_qIsBracket, pm_X12_qIsBracket⟩
theorem ck_X12_672 : sh_CV RX12 672 M_X12_qDropsToBracket 0 := ⟨mt_X12_qDropsToBracket, (sh_w8 (sh_tl10 (sh_tl10 (sh_tl10 (sh_tl1 (sh_tl1 (sh_tl1 (sh_tl1 (sh_tl1 sh_hd)))))))) rfl), im_X12_qDropsToBracket, se_X12_qDropsToBracket, pm_X12_qDropsToBracket⟩
theorem ck_X12_675 : sh_CV RX12 675 M_X12_qIsOn 1 := ⟨mt_X12_qIsOn, (sh_w8 (sh_tl10 (sh_tl10 (sh_tl10 (sh_tl1 (sh_tl1 (sh_tl1 (sh_tl1 (sh_tl1 (sh_tl1 (sh_tl1 (sh_tl1 (sh_tl1 sh_hd)))))))))))) rfl), im_X12_qIsOn, se_X12_qIsOn, pm_X12_qIsOn⟩
theorem ck_X12_687 : sh_CV RX12 687 M_X12_qDropsNots 0 := ⟨mt_X12_qDropsNots, (sh_w8 (sh_tl10 (sh_tl10 (sh_tl10 (sh_tl10 (sh_tl1 (sh_tl1 (sh_tl1 sh_hd))))))) rfl), im_X12_qDropsNots, se_X12_qDropsNots, pm_X12_qDropsNots⟩
theorem ck_X12_690 : sh_CV RX12 690 M_X12_qGoesOnTest 0 := ⟨mt_X12_qGoesOnTest, (sh_w8 (sh_tl10 (sh_tl10 (sh_tl10 (sh_tl10 (sh_tl1 (sh_tl1 (sh_tl1 (sh_tl1 (sh_tl1 (sh_tl1 (sh_tl1 sh_hd))))))))))) rfl), im_X12_qGoesOnTest, se_X12_qGoesOnTest, pm_X12_qGoesOnTest⟩
theorem ck_X12_693 : sh_CV RX12 693 M_X12_qHasSquare 0 := ⟨mt_X12_qHasSquare, (sh_w8 (sh_tl50 (sh_tl1 sh_hd)) rfl), im_X12_qHasSquare, se_X12_qHasSquare, pm_X12_qHasSquare⟩
theorem ck_X12_395 : sh_CV RX12 395 M_X12_stands 0 := ⟨mt_X12_stands, (sh_w8 (sh_tl50 (sh_tl1 (sh_tl1 (sh_tl1 (sh_tl1 (sh_tl1 sh_hd)))))) rfl), im_X12_stands, se_X12_stands, pm_X12_stands⟩
theorem ck_X12_408 : sh_CV RX12 408 M_X12_topicMany 0 := ⟨mt_X12_topicMany, (sh_w8 (sh_tl50 (sh_tl10 (sh_tl1 (sh_tl1 (sh_tl1 (sh_tl1 (sh_tl1 (sh_tl1 (sh_tl1 sh_hd))))))))) rfl), im_X12_topicMany, se_X12_topicMany, pm_X12_topicMany⟩
theorem ck_X12_411 : sh_CV RX12 411 M_X12_personMany 0 := ⟨mt_X12_personMany, (sh_w8 (sh_tl50 (sh_tl10 (sh_tl10 (sh_tl1 sh_hd)))) rfl), im_X12_personMany, se_X12_personMany, pm_X12_personMany⟩
theorem ck_X12_495 : sh_CV RX12 495 M_X12_listMany 0 := ⟨mt_X12_listMany, (sh_w8 (sh_tl50 (sh_tl10 (sh_tl10 (sh_tl1 (sh_tl1 (sh_tl1 (sh_tl1 (sh_tl1 sh_hd)))))))) rfl), im_X12_listMany, se_X12_listMany, pm_X12_listMany⟩
theorem ck_X12_513 : sh_CV RX12 513 M_X12_heightsAll 0 := ⟨mt_X12_heightsAll, (sh_w8 (sh_tl50 (sh_tl10 (sh_tl10 (sh_tl1 (sh_tl1 (sh_tl1 (sh_tl1 (sh_tl1 (sh_tl1 (sh_tl1 (sh_tl1 (sh_tl1 sh_hd)))))))))))) rfl), im_X12_heightsAll, se_X12_heightsAll, pm_X12_heightsAll⟩
theorem ck_X12_447 : sh_CV RX12 447 M_X12_cellMany 0 := ⟨mt_X12_cellMany, (sh_w8 (sh_tl50 (sh_tl10 (sh_tl10 (sh_tl10 (sh_tl1 (sh_tl1 (sh_tl1 sh_hd))))))) rfl), im_X12_cellMany, se_X12_cellMany, pm_X12_cellMany⟩
theorem ck_X12_450 : sh_CV RX12 450 M_X12_cellOrder 1 := ⟨mt_X12_cellOrder, (sh_w8 (sh_tl50 (sh_tl10 (sh_tl10 (sh_tl10 (sh_tl1 (sh_tl1 (sh_tl1 (sh_tl1 (sh_tl1 (sh_tl1 (sh_tl1 sh_hd))))))))))) rfl), im_X12_cellOrder, se_X12_cellOrder, pm_X12_cellOrder⟩
theorem ck_X12_453 : sh_CV RX12 453 M_X12_heightOf 1 := ⟨mt_X12_heightOf, (sh_w8 (sh_tl50 (sh_tl10 (sh_tl10 (sh_tl10 (sh_tl10 (sh_tl1 sh_hd)))))) rfl), im_X12_heightOf, se_X12_heightOf, pm_X12_heightOf⟩
theorem ck_X12_414 : sh_CV RX12 414 M_X12_cellAt 2 := ⟨mt_X12_cellAt, (sh_w8 (sh_tl50 (sh_tl50 (sh_tl1 (sh_tl1 (sh_tl1 (sh_tl1 sh_hd)))))) rfl), im_X12_cellAt, se_X12_cellAt, pm_X12_cellAt⟩
theorem ck_X12_518 : sh_CV RX12 518 M_X12_isPerson 1 := ⟨mt_X12_isPerson, (sh_w8 (sh_tl50 (sh_tl50 (sh_tl10 (sh_tl1 (sh_tl1 sh_hd))))) rfl), im_X12_isPerson, se_X12_isPerson, pm_X12_isPerson⟩
theorem ck_X12_417 : sh_CV RX12 417 M_X12_cellOf 1 := ⟨mt_X12_cellOf, (sh_w8 (sh_tl50 (sh_tl50 (sh_tl10 (sh_tl1 (sh_tl1 (sh_tl1 (sh_tl1 (sh_tl1 (sh_tl1 sh_hd))))))))) rfl), im_X12_cellOf, se_X12_cellOf, pm_X12_cellOf⟩
theorem ck_X12_486 : sh_CV RX12 486 M_X12_tiredOf 1 := ⟨mt_X12_tiredOf, (sh_w8 (sh_tl50 (sh_tl50 (sh_tl10 (sh_tl10 sh_hd)))) rfl), im_X12_tiredOf, se_X12_tiredOf, pm_X12_tiredOf⟩
theorem ck_X12_437 : sh_CV RX12 437 M_X12_knowsOf 1 := ⟨mt_X12_knowsOf, (sh_w8 (sh_tl50 (sh_tl50 (sh_tl10 (sh_tl10 (sh_tl1 (sh_tl1 (sh_tl1 (sh_tl1 sh_hd)))))))) rfl), im_X12_knowsOf, se_X12_knowsOf, pm_X12_knowsOf⟩
theorem ck_X12_521 : sh_CV RX12 521 M_X12_isTopic 1 := ⟨mt_X12_isTopic, (sh_w8 (sh_tl50 (sh_tl50 (sh_tl10 (sh_tl10 (sh_tl10 (sh_tl1 (sh_tl1 (sh_tl1 (sh_tl1 (sh_tl1 (sh_tl1 sh_hd))))))))))) rfl), im_X12_isTopic, se_X12_isTopic, pm_X12_isTopic⟩
theorem ck_X12_479 : sh_CV RX12 479 M_X12_wouldDo 2 := ⟨mt_X12_wouldDo, (sh_w8 (sh_tl50 (sh_tl50 (sh_tl10 (sh_tl10 (sh_tl10 (sh_tl10 sh_hd)))))) rfl), im_X12_wouldDo, se_X12_wouldDo, pm_X12_wouldDo⟩
theorem ck_X12_443 : sh_CV RX12 443 M_X12_codesTell 1 := ⟨mt_X12_codesTell, (sh_w8 (sh_tl50 (sh_tl50 (sh_tl10 (sh_tl10 (sh_tl10 (sh_tl10 (sh_tl1 (sh_tl1 (sh_tl1 (sh_tl1 sh_hd)))))))))) rfl), im_X12_codesTell, se_X12_codesTell, pm_X12_codesTell⟩
theorem ck_X12_423 : sh_CV RX12 423 M_X12_qPuts 1 := ⟨mt_X12_qPuts, (sh_w8 (sh_tl50 (sh_tl50 (sh_tl10 (sh_tl10 (sh_tl10 (sh_tl10 (sh_tl1 (sh_tl1 (sh_tl1 (sh_tl1 (sh_tl1 (sh_tl1 (sh_tl1 (sh_tl1 sh_hd)))))))))))))) rfl), im_X12_qPuts, se_X12_qPuts, pm_X12_qPuts⟩
theorem ck_X12_430 : sh_CV RX12 430 M_X12_qPartOf 2 := ⟨mt_X12_qPartOf, (sh_w8 (sh_tl50 (sh_tl50 (sh_tl50 (sh_tl1 (sh_tl1 sh_hd))))) rfl), im_X12_qPartOf, se_X12_qPartOf, pm_X12_qPartOf⟩
theorem ck_X12_589 : sh_CS RX12 589 M_X12_bits 1 := ⟨mt_X12_bits, (sh_w8 (sh_tl50 (sh_tl50 (sh_tl50 (sh_tl1 (sh_tl1 (sh_tl1 (sh_tl1 (sh_tl1 (sh_tl1 sh_hd))))))))) rfl), sm_X12_bits, pm_X12_bits⟩
theorem ck_X12_434 : sh_CV RX12 434 M_X12_qJoins 1 := ⟨mt_X12_qJoins, (sh_w8 (sh_tl50 (sh_tl50 (sh_tl50 (sh_tl1 (sh_tl1 (sh_tl1 (sh_tl1 (sh_tl1 (sh_tl1 (sh_tl1 (sh_tl1 (sh_tl1 sh_hd)))))))))))) rfl), im_X12_qJoins, se_X12_qJoins, pm_X12_qJoins⟩
theorem ck_X12_700 : sh_CS RX12 700 M_X12_qClip 1 := ⟨mt_X12_qClip, (sh_w8 (sh_tl50 (sh_tl50 (sh_tl50 (sh_tl10 (sh_tl1 (sh_tl1 (sh_tl1 sh_hd))))))) rfl), sm_X12_qClip, pm_X12_qClip⟩
theorem ck_X12_704 : sh_CS RX12 704 M_X12_qFloor 2 := ⟨mt_X12_qFloor, (sh_w8 (sh_tl50 (sh_tl50 (sh_tl50 (sh_tl10 (sh_tl1 (sh_tl1 (sh_tl1 (sh_tl1 (sh_tl1 (sh_tl1 (sh_tl1 (sh_tl1 sh_hd)))))))))))) rfl), sm_X12_qFloor, pm_X12_qFloor⟩
theorem ck_X12_527 : sh_CV RX12 527 M_X12_isAhead 3 := ⟨mt_X12_isAhead, (sh_w8 (sh_tl50 (sh_tl50 (sh_tl50 (sh_tl10 (sh_tl10 (sh_tl10 sh_hd)))))) rfl), im_X12_isAhead, se_X12_isAhead, pm_X12_isAhead⟩
theorem ck_X12_507 : sh_CV RX12 507 M_X12_putsAside 0 := ⟨mt_X12_putsAside, (sh_w8 (sh_tl50 (sh_tl50 (sh_tl50 (sh_tl10 (sh_tl10 (sh_tl10 (sh_tl1 (sh_tl1 (sh_tl1 (sh_tl1 sh_hd)))))))))) rfl), im_X12_putsAside, se_X12_putsAside, pm_X12_putsAside⟩
theorem ck_X12_530 : sh_CV RX12 530 M_X12_daysGo 1 := ⟨mt_X12_daysGo, (sh_w8 (sh_tl50 (sh_tl50 (sh_tl50 (sh_tl10 (sh_tl10 (sh_tl10 (sh_tl1 (sh_tl1 (sh_tl1 (sh_tl1 (sh_tl1 (sh_tl1 (sh_tl1 (sh_tl1 sh_hd)))))))))))))) rfl), im_X12_daysGo, se_X12_daysGo, pm_X12_daysGo⟩
theorem ck_X12_501 : sh_CV RX12 501 M_X12_dayGoes 0 := ⟨mt_X12_dayGoes, (sh_w8 (sh_tl50 (sh_tl50 (sh_tl50 (sh_tl10 (sh_tl10 (sh_tl10 (sh_tl10 (sh_tl1 (sh_tl1 sh_hd))))))))) rfl), im_X12_dayGoes, se_X12_dayGoes, pm_X12_dayGoes⟩
theorem ck_X12_498 : sh_CV RX12 498 M_X12_isAsked 2 := ⟨mt_X12_isAsked, (sh_w8 (sh_tl50 (sh_tl50 (sh_tl50 (sh_tl10 (sh_tl10 (sh_tl10 (sh_tl10 (sh_tl1 (sh_tl1 (sh_tl1 (sh_tl1 (sh_tl1 (sh_tl1 sh_hd))))))))))))) rfl), im_X12_isAsked, se_X12_isAsked, pm_X12_isAsked⟩
theorem ck_X12_482 : sh_CV RX12 482 M_X12_lifts 3 := ⟨mt_X12_lifts, (sh_w8 (sh_tl50 (sh_tl50 (sh_tl50 (sh_tl50 sh_hd)))) rfl), im_X12_lifts, se_X12_lifts, pm_X12_lifts⟩
theorem ck_X12_463 : sh_CV RX12 463 M_X12_liftedBy 1 := ⟨mt_X12_liftedBy, (sh_w8 (sh_tl50 (sh_tl50 (sh_tl50 (sh_tl50 (sh_tl1 (sh_tl1 (sh_tl1 (sh_tl1 sh_hd)))))))) rfl), im_X12_liftedBy, se_X12_liftedBy, pm_X12_liftedBy⟩
theorem ck_X12_459 : sh_CS RX12 459 M_X12_cut 1 := ⟨mt_X12_cut, (sh_w8 (sh_tl50 (sh_tl50 (sh_tl50 (sh_tl50 (sh_tl1 (sh_tl1 (sh_tl1 (sh_tl1 (sh_tl1 (sh_tl1 (sh_tl1 (sh_tl1 sh_hd)))))))))))) rfl), sm_X12_cut, pm_X12_cut⟩
theorem ck_X12_466 : sh_CV RX12 466 M_X12_highestBut 3 := ⟨mt_X12_highestBut, (sh_w8 (sh_tl50 (sh_tl50 (sh_tl50 (sh_tl50 (sh_tl10 (sh_tl1 (sh_tl1 sh_hd))))))) rfl), im_X12_highestBut, se_X12_highestBut, pm_X12_highestBut⟩
theorem ck_X12_492 : sh_CV RX12 492 M_X12_isKept 2 := ⟨mt_X12_isKept, (sh_w8 (sh_tl50 (sh_tl50 (sh_tl50 (sh_tl50 (sh_tl10 (sh_tl1 (sh_tl1 (sh_tl1 (sh_tl1 (sh_tl1 (sh_tl1 sh_hd))))))))))) rfl), im_X12_isKept, se_X12_isKept, pm_X12_isKept⟩
theorem ck_X12_510 : sh_CV RX12 510 M_X12_takesBack 0 := ⟨mt_X12_takesBack, (sh_w8 (sh_tl50 (sh_tl50 (sh_tl50 (sh_tl50 (sh_tl10 (sh_tl10 sh_hd)))))) rfl), im_X12_takesBack, se_X12_takesBack, pm_X12_takesBack⟩
theorem ck_X12_504 : sh_CV RX12 504 M_X12_triesAnew 0 := ⟨mt_X12_triesAnew, (sh_w8 (sh_tl50 (sh_tl50 (sh_tl50 (sh_tl50 (sh_tl10 (sh_tl10 (sh_tl1 (sh_tl1 (sh_tl1 (sh_tl1 sh_hd)))))))))) rfl), im_X12_triesAnew, se_X12_triesAnew, pm_X12_triesAnew⟩
theorem ck_X12_566 : sh_CV RX12 566 M_X12_cellNumbered 1 := ⟨mt_X12_cellNumbered, (sh_w9 sh_hd rfl), im_X12_cellNumbered, se_X12_cellNumbered, pm_X12_cellNumbered⟩
theorem ck_X12_571 : sh_CV RX12 571 M_X12_planMany 0 := ⟨mt_X12_planMany, (sh_w9 (sh_tl1 (sh_tl1 (sh_tl1 (sh_tl1 (sh_tl1 sh_hd))))) rfl), im_X12_planMany, se_X12_planMany, pm_X12_planMany⟩
theorem ck_X12_551 : sh_CV RX12 551 M_X12_isSo 0 := ⟨mt_X12_isSo, (sh_w9 (sh_tl1 (sh_tl1 (sh_tl1 (sh_tl1 (sh_tl1 (sh_tl1 (sh_tl1 (sh_tl1 (sh_tl1 sh_hd))))))))) rfl), im_X12_isSo, se_X12_isSo, pm_X12_isSo⟩
theorem ck_X12_557 : sh_CV RX12 557 M_X12_isOne 0 := ⟨mt_X12_isOne, (sh_w9 (sh_tl10 (sh_tl1 (sh_tl1 (sh_tl1 sh_hd)))) rfl), im_X12_isOne, se_X12_isOne, pm_X12_isOne⟩
theorem ck_X12_545 : sh_CV RX12 545 M_X12_askingMany 0 := ⟨mt_X12_askingMany, (sh_w9 (sh_tl10 (sh_tl1 (sh_tl1 (sh_tl1 (sh_tl1 (sh_tl1 (sh_tl1 (sh_tl1 sh_hd)))))))) rfl), im_X12_askingMany, se_X12_askingMany, pm_X12_askingMany⟩
theorem ck_X12_548 : sh_CV RX12 548 M_X12_doesShrug 1 := ⟨mt_X12_doesShrug, (sh_w9 (sh_tl10 (sh_tl10 (sh_tl1 sh_hd))) rfl), im_X12_doesShrug, se_X12_doesShrug, pm_X12_doesShrug⟩
theorem ck_X12_560 : sh_CV RX12 560 M_X12_isTwo 0 := ⟨mt_X12_isTwo, (sh_w9 (sh_tl10 (sh_tl10 (sh_tl1 (sh_tl1 (sh_tl1 (sh_tl1 (sh_tl1 sh_hd))))))) rfl), im_X12_isTwo, se_X12_isTwo, pm_X12_isTwo⟩
theorem ck_X12_563 : sh_CV RX12 563 M_X12_isThree 0 := ⟨mt_X12_isThree, (sh_w9 (sh_tl10 (sh_tl10 (sh_tl1 (sh_tl1 (sh_tl1 (sh_tl1 (sh_tl1 (sh_tl1 (sh_tl1 (sh_tl1 (sh_tl1 sh_hd))))))))))) rfl), im_X12_isThree, se_X12_isThree, pm_X12_isThree⟩
theorem ck_X12_554 : sh_CV RX12 554 M_X12_isThird 0 := ⟨mt_X12_isThird, (sh_w9 (sh_tl10 (sh_tl10 (sh_tl10 (sh_tl1 (sh_tl1 (sh_tl1 sh_hd)))))) rfl), im_X12_isThird, se_X12_isThird, pm_X12_isThird⟩
theorem ck_X12_580 : sh_CV RX12 580 M_X12_wayCost 2 := ⟨mt_X12_wayCost, (sh_w9 (sh_tl10 (sh_tl10 (sh_tl10 (sh_tl10 (sh_tl1 sh_hd))))) rfl), im_X12_wayCost, se_X12_wayCost, pm_X12_wayCost⟩
theorem ck_X12_577 : sh_CV RX12 577 M_X12_isCheaper 1 := ⟨mt_X12_isCheaper, (sh_w9 (sh_tl10 (sh_tl10 (sh_tl10 (sh_tl10 (sh_tl1 (sh_tl1 (sh_tl1 (sh_tl1 (sh_tl1 sh_hd))))))))) rfl), im_X12_isCheaper, se_X12_isCheaper, pm_X12_isCheaper⟩
theorem ck_X12_574 : sh_CV RX12 574 M_X12_beside 2 := ⟨mt_X12_beside, (sh_w9 (sh_tl10 (sh_tl10 (sh_tl10 (sh_tl10 (sh_tl1 (sh_tl1 (sh_tl1 (sh_tl1 (sh_tl1 (sh_tl1 (sh_tl1 (sh_tl1 (sh_tl1 sh_hd))))))))))))) rfl), im_X12_beside, se_X12_beside, pm_X12_beside⟩
theorem ck_X12_583 : sh_CV RX12 583 M_X12_lowerOf 1 := ⟨mt_X12_lowerOf, (sh_w9 (sh_tl50 (sh_tl1 (sh_tl1 (sh_tl1 (sh_tl1 (sh_tl1 (sh_tl1 (sh_tl1 sh_hd)))))))) rfl), im_X12_lowerOf, se_X12_lowerOf, pm_X12_lowerOf⟩
theorem ck_X12_586 : sh_CS RX12 586 M_X12_numberOf 1 := ⟨mt_X12_numberOf, (sh_w9 (sh_tl50 (sh_tl10 (sh_tl1 sh_hd))) rfl), sm_X12_numberOf, pm_X12_numberOf⟩
theorem ck_X12_592 : sh_CV RX12 592 M_X12_isWayKept 5 := ⟨mt_X12_isWayKept, (sh_w9 (sh_tl50 (sh_tl10 (sh_tl1 (sh_tl1 (sh_tl1 (sh_tl1 (sh_tl1 (sh_tl1 (sh_tl1 (sh_tl1 sh_hd)))))))))) rfl), im_X12_isWayKept, se_X12_isWayKept, pm_X12_isWayKept⟩
theorem ck_X12_596 : sh_CV RX12 596 M_X12_laysOwn 1 := ⟨mt_X12_laysOwn, (sh_w9 (sh_tl50 (sh_tl10 (sh_tl10 (sh_tl1 (sh_tl1 (sh_tl1 (sh_tl1 (sh_tl1 (sh_tl1 sh_hd))))))))) rfl), im_X12_laysOwn, se_X12_laysOwn, pm_X12_laysOwn⟩
theorem ck_X12_599 : sh_CV RX12 599 M_X12_isRest 1 := ⟨mt_X12_isRest, (sh_w9 (sh_tl50 (sh_tl10 (sh_tl10 (sh_tl10 sh_hd)))) rfl), im_X12_isRest, se_X12_isRest, pm_X12_isRest⟩
theorem ck_X12_602 : sh_CV RX12 602 M_X12_refuses 1 := ⟨mt_X12_refuses, (sh_w9 (sh_tl50 (sh_tl10 (sh_tl10 (sh_tl10 (sh_tl1 (sh_tl1 (sh_tl1 (sh_tl1 (sh_tl1 (sh_tl1 (sh_tl1 (sh_tl1 sh_hd)))))))))))) rfl), im_X12_refuses, se_X12_refuses, pm_X12_refuses⟩
theorem ck_X12_611 : sh_CV RX12 611 M_X12_laysWho 1 := ⟨mt_X12_laysWho, (sh_w9 (sh_tl50 (sh_tl10 (sh_tl10 (sh_tl10 (sh_tl10 (sh_tl1 (sh_tl1 (sh_tl1 (sh_tl1 (sh_tl1 (sh_tl1 sh_hd))))))))))) rfl), im_X12_laysWho, se_X12_laysWho, pm_X12_laysWho⟩
theorem ck_X12_608 : sh_CV RX12 608 M_X12_isAsSeen 1 := ⟨mt_X12_isAsSeen, (sh_w9 (sh_tl50 (sh_tl50 sh_hd)) rfl), im_X12_isAsSeen, se_X12_isAsSeen, pm_X12_isAsSeen⟩
theorem ck_X12_616 : sh_CV RX12 616 M_X12_mostAlike 1 := ⟨mt_X12_mostAlike, (sh_w9 (sh_tl50 (sh_tl50 (sh_tl1 (sh_tl1 (sh_tl1 (sh_tl1 (sh_tl1 (sh_tl1 (sh_tl1 (sh_tl1 (sh_tl1 sh_hd))))))))))) rfl), im_X12_mostAlike, se_X12_mostAlike, pm_X12_mostAlike⟩
theorem ck_X12_622 : sh_CV RX12 622 M_X12_stores 0 := ⟨mt_X12_stores, (sh_w9 (sh_tl50 (sh_tl50 (sh_tl10 (sh_tl10 (sh_tl1 sh_hd))))) rfl), im_X12_stores, se_X12_stores, pm_X12_stores⟩
theorem ck_X12_625 : sh_CV RX12 625 M_X12_isRefused 0 := ⟨mt_X12_isRefused, (sh_w9 (sh_tl50 (sh_tl50 (sh_tl10 (sh_tl10 (sh_tl1 (sh_tl1 (sh_tl1 (sh_tl1 (sh_tl1 (sh_tl1 (sh_tl1 (sh_tl1 (sh_tl1 sh_hd))))))))))))) rfl), im_X12_isRefused, se_X12_isRefused, pm_X12_isRefused⟩
theorem ck_X12_628 : sh_CV RX12 628 M_X12_isTaken 1 := ⟨mt_X12_isTaken, (sh_w9 (sh_tl50 (sh_tl50 (sh_tl10 (sh_tl10 (sh_tl10 (sh_tl1 (sh_tl1 (sh_tl1 (sh_tl1 (sh_tl1 (sh_tl1 (sh_tl1 sh_hd)))))))))))) rfl), im_X12_isTaken, se_X12_isTaken, pm_X12_isTaken⟩
theorem ck_X12_639 : sh_CV RX12 639 M_X12_drawOf 1 := ⟨mt_X12_drawOf, (sh_w9 (sh_tl50 (sh_tl50 (sh_tl50 (sh_tl1 (sh_tl1 (sh_tl1 (sh_tl1 (sh_tl1 (sh_tl1 (sh_tl1 sh_hd)))))))))) rfl), im_X12_drawOf, se_X12_drawOf, pm_X12_drawOf⟩
theorem ck_X12_722 : sh_CV RX12 722 M_X12_qKind 0 := ⟨mt_X12_qKind, (sh_w9 (sh_tl50 (sh_tl50 (sh_tl50 (sh_tl10 (sh_tl10 sh_hd))))) rfl), im_X12_qKind, se_X12_qKind, pm_X12_qKind⟩
theorem ck_X12_725 : sh_CV RX12 725 M_X12_laysLifted 0 := ⟨mt_X12_laysLifted, (sh_w9 (sh_tl50 (sh_tl50 (sh_tl50 (sh_tl10 (sh_tl10 (sh_tl1 (sh_tl1 (sh_tl1 (sh_tl1 (sh_tl1 sh_hd)))))))))) rfl), im_X12_laysLifted, se_X12_laysLifted, pm_X12_laysLifted⟩
theorem ck_X12_728 : sh_CV RX12 728 M_X12_qTold 1 := ⟨mt_X12_qTold, (sh_w9 (sh_tl50 (sh_tl50 (sh_tl50 (sh_tl10 (sh_tl10 (sh_tl1 (sh_tl1 (sh_tl1 (sh_tl1 (sh_tl1 (sh_tl1 (sh_tl1 (sh_tl1 (sh_tl1 sh_hd)))))))))))))) rfl), im_X12_qTold, se_X12_qTold, pm_X12_qTold⟩
theorem ck_X12_708 : sh_CV RX12 708 M_X12_qOf 3 := ⟨mt_X12_qOf, (sh_w9 (sh_tl50 (sh_tl50 (sh_tl50 (sh_tl10 (sh_tl10 (sh_tl10 (sh_tl1 (sh_tl1 (sh_tl1 sh_hd))))))))) rfl), im_X12_qOf, se_X12_qOf, pm_X12_qOf⟩
theorem ck_X12_731 : sh_CV RX12 731 M_X12_qTakes 3 := ⟨mt_X12_qTakes, (sh_w9 (sh_tl50 (sh_tl50 (sh_tl50 (sh_tl10 (sh_tl10 (sh_tl10 (sh_tl1 (sh_tl1 (sh_tl1 (sh_tl1 (sh_tl1 (sh_tl1 (sh_tl1 sh_hd))))))))))))) rfl), im_X12_qTakes, se_X12_qTakes, pm_X12_qTakes⟩
theorem ck_X12_738 : sh_CV RX12 738 M_X12_writes 1 := ⟨mt_X12_writes, (sh_w9 (sh_tl50 (sh_tl50 (sh_tl50 (sh_tl10 (sh_tl10 (sh_tl10 (sh_tl10 (sh_tl1 (sh_tl1 (sh_tl1 (sh_tl1 (sh_tl1 sh_hd)))))))))))) rfl), im_X12_writes, se_X12_writes, pm_X12_writes⟩
theorem ck_X12_741 : sh_CS RX12 741 M_X12_checked 2 := ⟨mt_X12_checked, (sh_w9 (sh_tl50 (sh_tl50 (sh_tl50 (sh_tl10 (sh_tl10 (sh_tl10 (sh_tl10 (sh_tl1 (sh_tl1 (sh_tl1 (sh_tl1 (sh_tl1 (sh_tl1 (sh_tl1 (sh_tl1 (sh_tl1 sh_hd)))))))))))))))) rfl), sm_X12_checked, pm_X12_checked⟩
theorem ck_X12_749 : sh_CV RX12 749 M_X12_isImage 1 := ⟨mt_X12_isImage, (sh_w9 (sh_tl50 (sh_tl50 (sh_tl50 (sh_tl50 (sh_tl10 sh_hd))))) rfl), im_X12_isImage, se_X12_isImage, pm_X12_isImage⟩
theorem ck_X12_745 : sh_CV RX12 745 M_X12_isPersonTold 2 := ⟨mt_X12_isPersonTold, (sh_w9 (sh_tl50 (sh_tl50 (sh_tl50 (sh_tl50 (sh_tl10 (sh_tl1 (sh_tl1 (sh_tl1 (sh_tl1 sh_hd))))))))) rfl), im_X12_isPersonTold, se_X12_isPersonTold, pm_X12_isPersonTold⟩
