theorem ckL_9 : sh_CI "ShrugHillsLaw" 9 M_X11_init 0 := ⟨mt_X11_init, (sh_w1 (sh_tl10 (sh_tl10 (sh_tl1 (sh_tl1 (sh_tl1 (sh_tl1 sh_hd)))))) rfl), im_X11_init, rfl, rfl, pm_X11_init⟩
theorem ckL_13 : sh_CV "ShrugHillsLaw" 13 M_X11_feed 5 := ⟨mt_X11_feed, (sh_w3 (sh_tl10 (sh_tl10 (sh_tl1 (sh_tl1 (sh_tl1 (sh_tl1 (sh_tl1 (sh_tl1 sh_hd)))))))) rfl), im_X11_feed, se_X11_feed, pm_X11_feed⟩
theorem ckL_18 : sh_CV "ShrugHillsLaw" 18 M_X11_end 1 := ⟨mt_X11_end, (sh_w3 (sh_tl10 (sh_tl10 (sh_tl10 (sh_tl1 (sh_tl1 (sh_tl1 (sh_tl1 (sh_tl1 (sh_tl1 (sh_tl1 (sh_tl1 sh_hd))))))))))) rfl), im_X11_end, se_X11_end, pm_X11_end⟩
theorem ckL_23 : sh_CV "ShrugHillsLaw" 23 M_X11_plain 0 := ⟨mt_X11_plain, (sh_w3 (sh_tl10 (sh_tl10 (sh_tl10 (sh_tl10 (sh_tl1 (sh_tl1 (sh_tl1 (sh_tl1 (sh_tl1 (sh_tl1 sh_hd)))))))))) rfl), im_X11_plain, se_X11_plain, pm_X11_plain⟩
theorem ckL_28 : sh_CV "ShrugHillsLaw" 28 M_X11_fault 1 := ⟨mt_X11_fault, (sh_w4 (sh_tl50 (sh_tl10 (sh_tl10 (sh_tl1 (sh_tl1 sh_hd))))) rfl), im_X11_fault, se_X11_fault, pm_X11_fault⟩
theorem ckL_33 : sh_CV "ShrugHillsLaw" 33 M_X11_has 1 := ⟨mt_X11_has, (sh_w4 (sh_tl50 (sh_tl10 (sh_tl10 (sh_tl1 (sh_tl1 (sh_tl1 (sh_tl1 (sh_tl1 (sh_tl1 sh_hd))))))))) rfl), im_X11_has, se_X11_has, pm_X11_has⟩
theorem ckL_37 : sh_CV "ShrugHillsLaw" 37 M_X11_letter 3 := ⟨mt_X11_letter, (sh_w4 (sh_tl50 (sh_tl10 (sh_tl10 (sh_tl10 (sh_tl1 (sh_tl1 (sh_tl1 (sh_tl1 (sh_tl1 (sh_tl1 (sh_tl1 (sh_tl1 sh_hd)))))))))))) rfl), im_X11_letter, se_X11_letter, pm_X11_letter⟩
theorem ckL_42 : sh_CV "ShrugHillsLaw" 42 M_X11_height 2 := ⟨mt_X11_height, (sh_w4 (sh_tl50 (sh_tl50 (sh_tl1 (sh_tl1 (sh_tl1 sh_hd))))) rfl), im_X11_height, se_X11_height, pm_X11_height⟩
theorem ckL_47 : sh_CV "ShrugHillsLaw" 47 M_X11_person 2 := ⟨mt_X11_person, (sh_w4 (sh_tl50 (sh_tl50 (sh_tl1 (sh_tl1 (sh_tl1 (sh_tl1 (sh_tl1 (sh_tl1 (sh_tl1 (sh_tl1 sh_hd)))))))))) rfl), im_X11_person, se_X11_person, pm_X11_person⟩
theorem ckL_51 : sh_CV "ShrugHillsLaw" 51 M_X11_list 2 := ⟨mt_X11_list, (sh_w4 (sh_tl50 (sh_tl50 (sh_tl10 (sh_tl1 (sh_tl1 sh_hd))))) rfl), im_X11_list, se_X11_list, pm_X11_list⟩
theorem ckL_55 : sh_CV "ShrugHillsLaw" 55 M_X11_would 2 := ⟨mt_X11_would, (sh_w4 (sh_tl50 (sh_tl50 (sh_tl10 (sh_tl1 (sh_tl1 (sh_tl1 (sh_tl1 (sh_tl1 (sh_tl1 sh_hd))))))))) rfl), im_X11_would, se_X11_would, pm_X11_would⟩
theorem ckL_59 : sh_CV "ShrugHillsLaw" 59 M_X11_kept 2 := ⟨mt_X11_kept, (sh_w4 (sh_tl50 (sh_tl50 (sh_tl50 (sh_tl10 sh_hd)))) rfl), im_X11_kept, se_X11_kept, pm_X11_kept⟩
theorem ckL_63 : sh_CV "ShrugHillsLaw" 63 M_X11_later 3 := ⟨mt_X11_later, (sh_w4 (sh_tl50 (sh_tl50 (sh_tl50 (sh_tl10 (sh_tl1 (sh_tl1 (sh_tl1 (sh_tl1 sh_hd)))))))) rfl), im_X11_later, se_X11_later, pm_X11_later⟩
theorem ckL_67 : sh_CV "ShrugHillsLaw" 67 M_X11_tired 2 := ⟨mt_X11_tired, (sh_w4 (sh_tl50 (sh_tl50 (sh_tl50 (sh_tl50 (sh_tl10 (sh_tl1 (sh_tl1 (sh_tl1 (sh_tl1 sh_hd))))))))) rfl), im_X11_tired, se_X11_tired, pm_X11_tired⟩
theorem ckL_71 : sh_CV "ShrugHillsLaw" 71 M_X11_rises 3 := ⟨mt_X11_rises, (sh_w4 (sh_tl50 (sh_tl50 (sh_tl50 (sh_tl50 (sh_tl10 (sh_tl1 (sh_tl1 (sh_tl1 (sh_tl1 (sh_tl1 (sh_tl1 (sh_tl1 (sh_tl1 sh_hd))))))))))))) rfl), im_X11_rises, se_X11_rises, pm_X11_rises⟩
theorem ckL_75 : sh_CV "ShrugHillsLaw" 75 M_X11_plan 4 := ⟨mt_X11_plan, (sh_w4 (sh_tl50 (sh_tl50 (sh_tl50 (sh_tl50 (sh_tl10 (sh_tl10 (sh_tl1 (sh_tl1 (sh_tl1 (sh_tl1 (sh_tl1 (sh_tl1 sh_hd)))))))))))) rfl), im_X11_plan, se_X11_plan, pm_X11_plan⟩
theorem ckL_80 : sh_CV "ShrugHillsLaw" 80 M_X11_way 2 := ⟨mt_X11_way, (sh_w5 (sh_tl10 (sh_tl10 (sh_tl1 (sh_tl1 sh_hd)))) rfl), im_X11_way, se_X11_way, pm_X11_way⟩
theorem ckL_84 : sh_CV "ShrugHillsLaw" 84 M_X11_pond 2 := ⟨mt_X11_pond, (sh_w5 (sh_tl10 (sh_tl10 (sh_tl10 (sh_tl10 (sh_tl1 (sh_tl1 (sh_tl1 (sh_tl1 (sh_tl1 sh_hd))))))))) rfl), im_X11_pond, se_X11_pond, pm_X11_pond⟩
theorem ckL_88 : sh_CV "ShrugHillsLaw" 88 M_X11_keeps 3 := ⟨mt_X11_keeps, (sh_w5 (sh_tl50 (sh_tl1 (sh_tl1 (sh_tl1 (sh_tl1 (sh_tl1 (sh_tl1 (sh_tl1 sh_hd)))))))) rfl), im_X11_keeps, se_X11_keeps, pm_X11_keeps⟩
theorem ckL_92 : sh_CV "ShrugHillsLaw" 92 M_X11_rest 1 := ⟨mt_X11_rest, (sh_w5 (sh_tl50 (sh_tl10 (sh_tl1 (sh_tl1 sh_hd)))) rfl), im_X11_rest, se_X11_rest, pm_X11_rest⟩
theorem ckL_96 : sh_CV "ShrugHillsLaw" 96 M_X11_see 0 := ⟨mt_X11_see, (sh_w5 (sh_tl50 (sh_tl10 (sh_tl10 (sh_tl1 (sh_tl1 (sh_tl1 (sh_tl1 (sh_tl1 sh_hd)))))))) rfl), im_X11_see, se_X11_see, pm_X11_see⟩
theorem ckL_100 : sh_CV "ShrugHillsLaw" 100 M_X11_who 1 := ⟨mt_X11_who, (sh_w5 (sh_tl50 (sh_tl10 (sh_tl10 (sh_tl10 (sh_tl1 (sh_tl1 (sh_tl1 (sh_tl1 sh_hd)))))))) rfl), im_X11_who, se_X11_who, pm_X11_who⟩
theorem ckL_104 : sh_CV "ShrugHillsLaw" 104 M_X11_tells 2 := ⟨mt_X11_tells, (sh_w5 (sh_tl50 (sh_tl50 (sh_tl1 sh_hd))) rfl), im_X11_tells, se_X11_tells, pm_X11_tells⟩
theorem ckL_108 : sh_CV "ShrugHillsLaw" 108 M_X11_asks 2 := ⟨mt_X11_asks, (sh_w5 (sh_tl50 (sh_tl50 (sh_tl10 (sh_tl1 (sh_tl1 (sh_tl1 (sh_tl1 sh_hd))))))) rfl), im_X11_asks, se_X11_asks, pm_X11_asks⟩
theorem ckL_112 : sh_CV "ShrugHillsLaw" 112 M_X11_teach 3 := ⟨mt_X11_teach, (sh_w5 (sh_tl50 (sh_tl50 (sh_tl10 (sh_tl10 (sh_tl10 (sh_tl1 (sh_tl1 (sh_tl1 sh_hd)))))))) rfl), im_X11_teach, se_X11_teach, pm_X11_teach⟩
theorem ckL_117 : sh_CV "ShrugHillsLaw" 117 M_X11_go 3 := ⟨mt_X11_go, (sh_w5 (sh_tl50 (sh_tl50 (sh_tl10 (sh_tl10 (sh_tl10 (sh_tl1 (sh_tl1 (sh_tl1 (sh_tl1 (sh_tl1 (sh_tl1 (sh_tl1 sh_hd)))))))))))) rfl), im_X11_go, se_X11_go, pm_X11_go⟩
theorem ckL_121 : sh_CV "ShrugHillsLaw" 121 M_X11_ease 1 := ⟨mt_X11_ease, (sh_w5 (sh_tl50 (sh_tl50 (sh_tl10 (sh_tl10 (sh_tl10 (sh_tl10 (sh_tl1 (sh_tl1 sh_hd)))))))) rfl), im_X11_ease, se_X11_ease, pm_X11_ease⟩
theorem ckL_125 : sh_CV "ShrugHillsLaw" 125 M_X11_days 1 := ⟨mt_X11_days, (sh_w5 (sh_tl50 (sh_tl50 (sh_tl10 (sh_tl10 (sh_tl10 (sh_tl10 (sh_tl1 (sh_tl1 (sh_tl1 (sh_tl1 (sh_tl1 (sh_tl1 sh_hd)))))))))))) rfl), im_X11_days, se_X11_days, pm_X11_days⟩
theorem ckL_129 : sh_CV "ShrugHillsLaw" 129 M_X11_chance 1 := ⟨mt_X11_chance, (sh_w5 (sh_tl50 (sh_tl50 (sh_tl50 (sh_tl1 (sh_tl1 (sh_tl1 (sh_tl1 (sh_tl1 sh_hd)))))))) rfl), im_X11_chance, se_X11_chance, pm_X11_chance⟩
theorem ckL_133 : sh_CV "ShrugHillsLaw" 133 M_X11_undo 0 := ⟨mt_X11_undo, (sh_w5 (sh_tl50 (sh_tl50 (sh_tl50 (sh_tl10 (sh_tl10 (sh_tl1 sh_hd)))))) rfl), im_X11_undo, se_X11_undo, pm_X11_undo⟩
theorem ckL_138 : sh_CV "ShrugHillsLaw" 138 M_X11_seed 1 := ⟨mt_X11_seed, (sh_w5 (sh_tl50 (sh_tl50 (sh_tl50 (sh_tl10 (sh_tl10 (sh_tl1 (sh_tl1 (sh_tl1 (sh_tl1 (sh_tl1 (sh_tl1 (sh_tl1 (sh_tl1 (sh_tl1 sh_hd)))))))))))))) rfl), im_X11_seed, se_X11_seed, pm_X11_seed⟩
theorem ckL_142 : sh_CV "ShrugHillsLaw" 142 M_X11_ask 0 := ⟨mt_X11_ask, (sh_w5 (sh_tl50 (sh_tl50 (sh_tl50 (sh_tl10 (sh_tl10 (sh_tl10 (sh_tl1 (sh_tl1 (sh_tl1 sh_hd))))))))) rfl), im_X11_ask, se_X11_ask, pm_X11_ask⟩
theorem ckL_147 : sh_CV "ShrugHillsLaw" 147 M_X11_image 0 := ⟨mt_X11_image, (sh_w5 (sh_tl50 (sh_tl50 (sh_tl50 (sh_tl50 (sh_tl1 (sh_tl1 (sh_tl1 (sh_tl1 (sh_tl1 (sh_tl1 (sh_tl1 (sh_tl1 sh_hd)))))))))))) rfl), im_X11_image, se_X11_image, pm_X11_image⟩
theorem ckL_151 : sh_CV "ShrugHillsLaw" 151 M_X11_octet 1 := ⟨mt_X11_octet, (sh_w5 (sh_tl50 (sh_tl50 (sh_tl50 (sh_tl50 (sh_tl10 (sh_tl1 (sh_tl1 (sh_tl1 (sh_tl1 (sh_tl1 sh_hd)))))))))) rfl), im_X11_octet, se_X11_octet, pm_X11_octet⟩
theorem ckL_155 : sh_CV "ShrugHillsLaw" 155 M_X11_on 0 := ⟨mt_X11_on, (sh_w5 (sh_tl50 (sh_tl50 (sh_tl50 (sh_tl50 (sh_tl10 (sh_tl1 (sh_tl1 (sh_tl1 (sh_tl1 (sh_tl1 (sh_tl1 (sh_tl1 (sh_tl1 (sh_tl1 sh_hd)))))))))))))) rfl), im_X11_on, se_X11_on, pm_X11_on⟩
theorem ckL_159 : sh_CV "ShrugHillsLaw" 159 M_X11_status 1 := ⟨mt_X11_status, (sh_w5 (sh_tl50 (sh_tl50 (sh_tl50 (sh_tl50 (sh_tl10 (sh_tl10 (sh_tl10 (sh_tl1 sh_hd)))))))) rfl), im_X11_status, se_X11_status, pm_X11_status⟩
theorem ckL_12 : sh_CI "ShrugHillsLaw" 12 M_X12_init 0 := ⟨mt_X12_init, (sh_w5 (sh_tl50 (sh_tl50 (sh_tl50 (sh_tl50 (sh_tl10 (sh_tl10 (sh_tl10 (sh_tl1 (sh_tl1 (sh_tl1 (sh_tl1 (sh_tl1 (sh_tl1 (sh_tl1 sh_hd)))))))))))))) rfl), im_X12_init, rfl, rfl, pm_X12_init⟩
theorem ckL_17 : sh_CV "ShrugHillsLaw" 17 M_X12_feed 5 := ⟨mt_X12_feed, (sh_w7 (sh_tl50 (sh_tl50 (sh_tl1 (sh_tl1 (sh_tl1 (sh_tl1 (sh_tl1 sh_hd))))))) rfl), im_X12_feed, se_X12_feed, pm_X12_feed⟩
theorem ckL_22 : sh_CV "ShrugHillsLaw" 22 M_X12_end 1 := ⟨mt_X12_end, (sh_w7 (sh_tl50 (sh_tl50 (sh_tl1 (sh_tl1 (sh_tl1 (sh_tl1 (sh_tl1 (sh_tl1 (sh_tl1 (sh_tl1 (sh_tl1 sh_hd))))))))))) rfl), im_X12_end, se_X12_end, pm_X12_end⟩
theorem ckL_27 : sh_CV "ShrugHillsLaw" 27 M_X12_plain 0 := ⟨mt_X12_plain, (sh_w7 (sh_tl50 (sh_tl50 (sh_tl10 (sh_tl1 (sh_tl1 (sh_tl1 sh_hd)))))) rfl), im_X12_plain, se_X12_plain, pm_X12_plain⟩
theorem ckL_32 : sh_CV "ShrugHillsLaw" 32 M_X12_fault 1 := ⟨mt_X12_fault, (sh_w8 (sh_tl50 (sh_tl1 (sh_tl1 (sh_tl1 (sh_tl1 (sh_tl1 (sh_tl1 (sh_tl1 (sh_tl1 (sh_tl1 sh_hd)))))))))) rfl), im_X12_fault, se_X12_fault, pm_X12_fault⟩
theorem ckL_36 : sh_CV "ShrugHillsLaw" 36 M_X12_has 1 := ⟨mt_X12_has, (sh_w8 (sh_tl50 (sh_tl10 (sh_tl1 (sh_tl1 (sh_tl1 sh_hd))))) rfl), im_X12_has, se_X12_has, pm_X12_has⟩
theorem ckL_41 : sh_CV "ShrugHillsLaw" 41 M_X12_letter 3 := ⟨mt_X12_letter, (sh_w8 (sh_tl50 (sh_tl10 (sh_tl10 (sh_tl10 (sh_tl10 (sh_tl1 (sh_tl1 (sh_tl1 (sh_tl1 (sh_tl1 sh_hd)))))))))) rfl), im_X12_letter, se_X12_letter, pm_X12_letter⟩
theorem ckL_46 : sh_CV "ShrugHillsLaw" 46 M_X12_height 2 := ⟨mt_X12_height, (sh_w8 (sh_tl50 (sh_tl50 sh_hd)) rfl), im_X12_height, se_X12_height, pm_X12_height⟩
theorem ckL_50 : sh_CV "ShrugHillsLaw" 50 M_X12_person 2 := ⟨mt_X12_person, (sh_w8 (sh_tl50 (sh_tl50 (sh_tl1 (sh_tl1 (sh_tl1 (sh_tl1 (sh_tl1 (sh_tl1 (sh_tl1 (sh_tl1 sh_hd)))))))))) rfl), im_X12_person, se_X12_person, pm_X12_person⟩
theorem ckL_54 : sh_CV "ShrugHillsLaw" 54 M_X12_list 2 := ⟨mt_X12_list, (sh_w8 (sh_tl50 (sh_tl50 (sh_tl10 (sh_tl10 (sh_tl1 (sh_tl1 (sh_tl1 (sh_tl1 (sh_tl1 (sh_tl1 (sh_tl1 (sh_tl1 sh_hd)))))))))))) rfl), im_X12_list, se_X12_list, pm_X12_list⟩
theorem ckL_58 : sh_CV "ShrugHillsLaw" 58 M_X12_would 2 := ⟨mt_X12_would, (sh_w8 (sh_tl50 (sh_tl50 (sh_tl10 (sh_tl10 (sh_tl10 (sh_tl1 (sh_tl1 sh_hd))))))) rfl), im_X12_would, se_X12_would, pm_X12_would⟩
theorem ckL_62 : sh_CV "ShrugHillsLaw" 62 M_X12_kept 2 := ⟨mt_X12_kept, (sh_w8 (sh_tl50 (sh_tl50 (sh_tl50 (sh_tl10 (sh_tl10 (sh_tl1 sh_hd)))))) rfl), im_X12_kept, se_X12_kept, pm_X12_kept⟩
theorem ckL_66 : sh_CV "ShrugHillsLaw" 66 M_X12_later 3 := ⟨mt_X12_later, (sh_w8 (sh_tl50 (sh_tl50 (sh_tl50 (sh_tl10 (sh_tl10 (sh_tl1 (sh_tl1 (sh_tl1 (sh_tl1 (sh_tl1 (sh_tl1 sh_hd))))))))))) rfl), im_X12_later, se_X12_later, pm_X12_later⟩
theorem ckL_70 : sh_CV "ShrugHillsLaw" 70 M_X12_tired 2 := ⟨mt_X12_tired, (sh_w8 (sh_tl50 (sh_tl50 (sh_tl50 (sh_tl50 (sh_tl10 (sh_tl10 (sh_tl1 (sh_tl1 (sh_tl1 (sh_tl1 (sh_tl1 (sh_tl1 (sh_tl1 (sh_tl1 sh_hd)))))))))))))) rfl), im_X12_tired, se_X12_tired, pm_X12_tired⟩
theorem ckL_74 : sh_CV "ShrugHillsLaw" 74 M_X12_rises 3 := ⟨mt_X12_rises, (sh_w8 (sh_tl50 (sh_tl50 (sh_tl50 (sh_tl50 (sh_tl10 (sh_tl10 (sh_tl10 (sh_tl1 (sh_tl1 sh_hd))))))))) rfl), im_X12_rises, se_X12_rises, pm_X12_rises⟩
theorem ckL_79 : sh_CV "ShrugHillsLaw" 79 M_X12_plan 4 := ⟨mt_X12_plan, (sh_w8 (sh_tl50 (sh_tl50 (sh_tl50 (sh_tl50 (sh_tl10 (sh_tl10 (sh_tl10 (sh_tl1 (sh_tl1 (sh_tl1 (sh_tl1 (sh_tl1 (sh_tl1 sh_hd))))))))))))) rfl), im_X12_plan, se_X12_plan, pm_X12_plan⟩
theorem ckL_83 : sh_CV "ShrugHillsLaw" 83 M_X12_way 2 := ⟨mt_X12_way, (sh_w9 (sh_tl10 (sh_tl10 (sh_tl10 (sh_tl1 (sh_tl1 (sh_tl1 (sh_tl1 (sh_tl1 (sh_tl1 (sh_tl1 sh_hd)))))))))) rfl), im_X12_way, se_X12_way, pm_X12_way⟩
theorem ckL_87 : sh_CV "ShrugHillsLaw" 87 M_X12_pond 2 := ⟨mt_X12_pond, (sh_w9 (sh_tl50 (sh_tl1 (sh_tl1 (sh_tl1 sh_hd)))) rfl), im_X12_pond, se_X12_pond, pm_X12_pond⟩
theorem ckL_91 : sh_CV "ShrugHillsLaw" 91 M_X12_keeps 3 := ⟨mt_X12_keeps, (sh_w9 (sh_tl50 (sh_tl10 (sh_tl1 (sh_tl1 (sh_tl1 (sh_tl1 sh_hd)))))) rfl), im_X12_keeps, se_X12_keeps, pm_X12_keeps⟩
theorem ckL_95 : sh_CV "ShrugHillsLaw" 95 M_X12_rest 1 := ⟨mt_X12_rest, (sh_w9 (sh_tl50 (sh_tl10 (sh_tl10 (sh_tl1 (sh_tl1 sh_hd))))) rfl), im_X12_rest, se_X12_rest, pm_X12_rest⟩
theorem ckL_99 : sh_CV "ShrugHillsLaw" 99 M_X12_see 0 := ⟨mt_X12_see, (sh_w9 (sh_tl50 (sh_tl10 (sh_tl10 (sh_tl10 (sh_tl1 (sh_tl1 (sh_tl1 (sh_tl1 sh_hd)))))))) rfl), im_X12_see, se_X12_see, pm_X12_see⟩
theorem ckL_103 : sh_CV "ShrugHillsLaw" 103 M_X12_who 1 := ⟨mt_X12_who, (sh_w9 (sh_tl50 (sh_tl10 (sh_tl10 (sh_tl10 (sh_tl10 (sh_tl1 (sh_tl1 sh_hd))))))) rfl), im_X12_who, se_X12_who, pm_X12_who⟩
theorem ckL_107 : sh_CV "ShrugHillsLaw" 107 M_X12_tells 2 := ⟨mt_X12_tells, (sh_w9 (sh_tl50 (sh_tl50 (sh_tl1 (sh_tl1 (sh_tl1 (sh_tl1 sh_hd)))))) rfl), im_X12_tells, se_X12_tells, pm_X12_tells⟩
theorem ckL_137 : sh_CV "ShrugHillsLaw" 137 M_X12_undo 0 := ⟨mt_X12_undo, (sh_w9 (sh_tl50 (sh_tl50 (sh_tl10 (sh_tl1 (sh_tl1 (sh_tl1 sh_hd)))))) rfl), im_X12_undo, se_X12_undo, pm_X12_undo⟩
theorem ckL_111 : sh_CV "ShrugHillsLaw" 111 M_X12_asks 2 := ⟨mt_X12_asks, (sh_w9 (sh_tl50 (sh_tl50 (sh_tl10 (sh_tl1 (sh_tl1 (sh_tl1 (sh_tl1 (sh_tl1 (sh_tl1 (sh_tl1 sh_hd)))))))))) rfl), im_X12_asks, se_X12_asks, pm_X12_asks⟩
theorem ckL_116 : sh_CV "ShrugHillsLaw" 116 M_X12_teach 3 := ⟨mt_X12_teach, (sh_w9 (sh_tl50 (sh_tl50 (sh_tl10 (sh_tl10 (sh_tl1 (sh_tl1 (sh_tl1 (sh_tl1 (sh_tl1 sh_hd))))))))) rfl), im_X12_teach, se_X12_teach, pm_X12_teach⟩
theorem ckL_120 : sh_CV "ShrugHillsLaw" 120 M_X12_go 3 := ⟨mt_X12_go, (sh_w9 (sh_tl50 (sh_tl50 (sh_tl10 (sh_tl10 (sh_tl10 (sh_tl1 (sh_tl1 (sh_tl1 sh_hd)))))))) rfl), im_X12_go, se_X12_go, pm_X12_go⟩
theorem ckL_124 : sh_CV "ShrugHillsLaw" 124 M_X12_ease 1 := ⟨mt_X12_ease, (sh_w9 (sh_tl50 (sh_tl50 (sh_tl10 (sh_tl10 (sh_tl10 (sh_tl10 (sh_tl1 sh_hd))))))) rfl), im_X12_ease, se_X12_ease, pm_X12_ease⟩
theorem ckL_128 : sh_CV "ShrugHillsLaw" 128 M_X12_days 1 := ⟨mt_X12_days, (sh_w9 (sh_tl50 (sh_tl50 (sh_tl10 (sh_tl10 (sh_tl10 (sh_tl10 (sh_tl1 (sh_tl1 (sh_tl1 (sh_tl1 (sh_tl1 sh_hd))))))))))) rfl), im_X12_days, se_X12_days, pm_X12_days⟩
theorem ckL_141 : sh_CV "ShrugHillsLaw" 141 M_X12_seed 1 := ⟨mt_X12_seed, (sh_w9 (sh_tl50 (sh_tl50 (sh_tl10 (sh_tl10 (sh_tl10 (sh_tl10 (sh_tl1 (sh_tl1 (sh_tl1 (sh_tl1 (sh_tl1 (sh_tl1 (sh_tl1 (sh_tl1 (sh_tl1 sh_hd))))))))))))))) rfl), im_X12_seed, se_X12_seed, pm_X12_seed⟩
theorem ckL_132 : sh_CV "ShrugHillsLaw" 132 M_X12_chance 1 := ⟨mt_X12_chance, (sh_w9 (sh_tl50 (sh_tl50 (sh_tl50 (sh_tl1 (sh_tl1 (sh_tl1 sh_hd)))))) rfl), im_X12_chance, se_X12_chance, pm_X12_chance⟩
theorem ckL_146 : sh_CV "ShrugHillsLaw" 146 M_X12_ask 0 := ⟨mt_X12_ask, (sh_w9 (sh_tl50 (sh_tl50 (sh_tl50 (sh_tl10 (sh_tl1 (sh_tl1 (sh_tl1 (sh_tl1 (sh_tl1 sh_hd))))))))) rfl), im_X12_ask, se_X12_ask, pm_X12_ask⟩
theorem ckL_150 : sh_CV "ShrugHillsLaw" 150 M_X12_image 0 := ⟨mt_X12_image, (sh_w9 (sh_tl50 (sh_tl50 (sh_tl50 (sh_tl10 (sh_tl10 (sh_tl10 (sh_tl10 (sh_tl1 sh_hd)))))))) rfl), im_X12_image, se_X12_image, pm_X12_image⟩
theorem ckL_154 : sh_CV "ShrugHillsLaw" 154 M_X12_octet 1 := ⟨mt_X12_octet, (sh_w9 (sh_tl50 (sh_tl50 (sh_tl50 (sh_tl50 (sh_tl1 (sh_tl1 sh_hd)))))) rfl), im_X12_octet, se_X12_octet, pm_X12_octet⟩
theorem ckL_158 : sh_CV "ShrugHillsLaw" 158 M_X12_on 0 := ⟨mt_X12_on, (sh_w9 (sh_tl50 (sh_tl50 (sh_tl50 (sh_tl50 (sh_tl1 (sh_tl1 (sh_tl1 (sh_tl1 (sh_tl1 (sh_tl1 sh_hd)))))))))) rfl), im_X12_on, se_X12_on, pm_X12_on⟩
theorem ckL_162 : sh_CV "ShrugHillsLaw" 162 M_X12_status 1 := ⟨mt_X12_status, (sh_w9 (sh_tl50 (sh_tl50 (sh_tl50 (sh_tl50 (sh_tl10 (sh_tl1 (sh_tl1 (sh_tl1 (sh_tl1 (sh_tl1 (sh_tl1 (sh_tl1 (sh_tl1 sh_hd))))))))))))) rfl), im_X12_status, se_X12_status, pm_X12_status⟩
theorem nwL_7 : sh_NW "ShrugHillsLaw" 7 11 := ⟨by decide, (sh_w1 (sh_tl10 (sh_tl10 (sh_tl1 (sh_tl1 sh_hd)))) rfl), (sh_w1 (sh_tl10 (sh_tl10 (sh_tl1 (sh_tl1 (sh_tl1 sh_hd))))) rfl), (sh_w1 (sh_tl1 sh_hd) rfl)⟩
theorem nwL_10 : sh_NW "ShrugHillsLaw" 10 12 := ⟨by decide, (sh_w5 (sh_tl50 (sh_tl50 (sh_tl50 (sh_tl50 (sh_tl10 (sh_tl10 (sh_tl10 (sh_tl1 (sh_tl1 (sh_tl1 (sh_tl1 (sh_tl1 sh_hd)))))))))))) rfl), (sh_w5 (sh_tl50 (sh_tl50 (sh_tl50 (sh_tl50 (sh_tl10 (sh_tl10 (sh_tl10 (sh_tl1 (sh_tl1 (sh_tl1 (sh_tl1 (sh_tl1 (sh_tl1 sh_hd))))))))))))) rfl), (sh_w1 (sh_tl10 (sh_tl1 (sh_tl1 (sh_tl1 sh_hd)))) rfl)⟩
/-! the law's loop: its locals are the script, x (cell 0), m (cell 291), i -/
def sh_LC (B : Nat) (D : va_G) (ca : Nat → ClassId) (b L : Nat) (xs : Nat → Int32) (p : Program) (s : State) (m : MethodId) (meth : Method) (c : Code) : Prop := lw_At p s m meth c b L xs ∧ B = s.heap.size ∧ va_K D sh_cl (sh_tys ca) s ∧ sh_Env B s
def sh_Ul (B b : Nat) (i : Int32) : List (Nat × Value) := [(3, .int i), (2, .ref (B + 291)), (1, .ref (B + 0)), (0, .ref b)]
def sh_U (l : Launch) (B : Nat) (D : va_G) (ca : Nat → ClassId) (b L : Nat) (xs : Nat → Int32) (pc i : Nat) (st : List Value) (μ : sh_Mem) : Prop :=
  ∀ (p : Program) (e : Env) (s : State) (m : MethodId) (below : List Frame) (meth : Method) (c : Code) (H : Heap) (locs : List Loc) (ls : Array Slot),
    sh_LC B D ca b L xs p s m meth c → sh_Rep B D ca μ H → va_S (fun q => B ≤ q) s.heap H locs → lv_has ls 4 (sh_Ul B b (nI i)) →
    W p l e room_1 s m #[Value.ref b] below meth c H locs 368 48270 (lw_Z below #[Value.ref b] s) (F0 m pc ls (st.map (sh_cv B)))
section VLaw
variable {l : Launch} {B : Nat} {D : va_G} {ca : Nat → ClassId} {b L : Nat} {xs : Nat → Int32} {i : Nat} {st : List Value} {μ μ1 : sh_Mem} {d' : Nat} {M' : sh_M} {v1 : Option Value}
theorem sh_LC.bA {p : Program} {s : State} {m : MethodId} {meth : Method} {c : Code} (h : sh_LC B D ca b L xs p s m meth c) : ¬ B ≤ b := by
  obtain ⟨⟨-, -, -, -, -, -, -, hbl, -, -⟩, rfl, -, -⟩ := h
  omega
theorem lu_x (pc : Nat) (hd : decode code pc = .ok (.aload_n 1, 1)) (K : sh_U l B D ca b L xs (pc + 1) i (.ref 0 :: st) μ) : sh_U l B D ca b L xs pc i st μ := by
  intro p e s m below meth c H locs ls C hR hS hl
  exact lv_aload_n C.1.1 C.1.2.1 hd rfl (lv_at hl 2 rfl) (K p e s m below meth c H locs ls C hR hS hl)
theorem lu_m (pc : Nat) (hd : decode code pc = .ok (.aload_n 2, 1)) (K : sh_U l B D ca b L xs (pc + 1) i (.ref 291 :: st) μ) : sh_U l B D ca b L xs pc i st μ := by
  intro p e s m below meth c H locs ls C hR hS hl
  exact lv_aload_n C.1.1 C.1.2.1 hd rfl (lv_at hl 1 rfl) (K p e s m below meth c H locs ls C hR hS hl)
theorem lu_arg {n : Int} (k pc : Nat) (h0 : decode code pc = .ok (.aload_n 0, 1)) (h1 : decode code (pc + 1) = .ok (.iload_n 3, 1)) (h2 : decode code (pc + 2) = .ok (.iconst n, 1)) (hv : Int32.ofInt n = nI k) (h3 : decode code (pc + 3) = .ok (.iadd, 1)) (h4 : decode code (pc + 4) = .ok (.iaload, 1)) (hk : i + k < L) (hL : L ≤ 3072) (K : sh_U l B D ca b L xs (pc + 5) i (.int (xs (i + k)) :: st) μ) : sh_U l B D ca b L xs pc i st μ := by
  intro p e s m below meth c H locs ls C hR hS hl
  obtain ⟨hx, hb, -, -, -, -, hX, hbl, -, -⟩ := C.1
  refine lv_aload_n hx hb h0 rfl (lv_at hl 3 rfl) ?_
  refine lv_iload_n hx hb h1 rfl (lv_at hl 0 rfl) ?_
  refine lv_iconst hx hb h2 hv ?_
  refine lv_iadd hx hb h3 ?_
  rw [nI_add]
  refine va_sld hx hb hX hbl C.bA hS (vp_in_nI hk (by omega)) h4 ?_
  rw [nI_clamp (by omega)]
  exact K p e s m below meth c H locs ls C hR hS hl
theorem lu_call {idx n ci nn r : Nat} (as : List Value) (pc : Nat) (hd : decode code pc = .ok (.invokevirtual idx, 3)) (hc : sh_CV "ShrugHillsLaw" idx M' n) (hl : (sh_lay μ)[r]? = some (ci, nn)) (hci : ci < 13 ∧ sh_R ci = M'.1.cls) (hcon : sh_C0 l B D ca d' M' (.ref r :: as) μ (fun v μ' => v = v1 ∧ μ' = μ1)) (hdd : d' ≤ 800) (hL : (lg_sl (.ref r :: as)).length ≤ M'.2.2.1 ∧ M'.2.2.1 ≤ 81) (hn : as.length = n) (hst : (st.map fun v => v.category).sum ≤ 8)
    (K : sh_U l B D ca b L xs (pc + 3) i (sh_psh v1 st) μ1) : sh_U l B D ca b L xs pc i (as.reverse ++ .ref r :: st) μ := by
  intro p e s m below meth c H locs ls C hR hS hls
  obtain ⟨⟨hx, hb, -, hml, hown, hts0, hX, hbl, hlocks, hgv⟩, hBs, hK, hE⟩ := id C
  have hts : ∀ w ∈ sh_tb, w.before #[Value.ref b] s = true := fun w hw => hts0 w (List.mem_filter.mp hw).1
  obtain ⟨hM, h1, h2, h3, h4⟩ := hc
  have hmet := sh_met hM hL.1 hcon
  have ha := sh_ws_at (B := B) (ca := ca) hl
  rw [sh_ent_obj hci.1] at ha
  have hrecv := va_recv hK hR.2 (sh_cl_at hci.1) ha
  rw [show (sh_R ci, sh_T ci, sh_n ci).1 = M'.1.cls from hci.2] at hrecv
  have hG : GoodIn sh_tb (wsV "ShrugHillsLaw" idx M'.1.cls M'.1 (sh_tw M')) := by
    intro w hw
    rcases List.mem_append.mp hw with h | h
    · simp only [List.mem_cons, List.not_mem_nil, or_false] at h
      rcases h with rfl | rfl | rfl | rfl
      · exact sh_good _ h1
      · exact sh_good _ h2
      · exact sh_good _ h3
      · exact sh_good _ hM.2.1
    · exact sh_goodM hM w h
  have hpre : FrameBlind (va_Pc ((Value.ref r :: as).map (sh_cv B)) (fun U => B ≤ U.heap.size ∧ sh_Rep B D ca μ U.heap ∧ va_K D sh_cl (sh_tys ca) U ∧ sh_Env B U)) ∧ ∀ U : State, U.heap = H → s.WarmedH U.vm → va_Pc ((Value.ref r :: as).map (sh_cv B)) (fun U => B ≤ U.heap.size ∧ sh_Rep B D ca μ U.heap ∧ va_K D sh_cl (sh_tys ca) U ∧ sh_Env B U) ((Value.ref r :: as).map (sh_cv B)).toArray U := by
    refine ⟨fun a U g mk q => ?_, fun U hU hW => ?_⟩
    · obtain ⟨h0, h1, h2, h3, h4⟩ := q
      exact ⟨h0, h1, h2, va_K.moved (u := U) (U := U.calling g mk a) (Vm.Alike.refl U.vm) h3, h4.call⟩
    · exact ⟨rfl, by rw [hU, hBs]; exact hS.1, by rw [hU]; exact hR, va_K.moved hW.alike hK, hE.moved hW (fun q h1 h2 => by rw [hU]; exact hS.2.1 q h1 h2)⟩
  have hrun := va_runV (g := F0 m pc ls ((as.reverse ++ .ref r :: st).map (sh_cv B))) (As := as.map (sh_cv B)) (b := B + r) (rest := st.map (sh_cv B)) (C := M'.1.cls) (cells := 368) (slots := 48270) (locs := locs) (e := e) (below := below) (meth := meth) (R := room_1) (Ts := sh_tb) (own := "ShrugHillsLaw") ⟨hx, hb, hml, hown, hts⟩ hmet
    (cwV n hts hG rfl rfl rfl ⟨rfl, hM.2.2.2.1, hM.2.2.2.2, h4⟩ ⟨by show d' + 1 ≤ 2048; omega, by show 8 + (M'.2.2.1 + 11) + 100 * d' ≤ 84000; have := hL.2; omega⟩) ⟨hpre.1, hrecv, hpre.2⟩ rfl (by rw [List.length_map]; exact hn) hls.1 (by simp [sh_cv]) (lv_room (by rw [sh_cat]; exact hst)) hd ⟨Nat.le_of_ble_eq_true rfl, Nat.le_of_ble_eq_true rfl⟩
  refine sh_after hrun hS fun v μ' H' locs' hq hR' hS' => ?_
  have := K p e s m below meth c H' locs' ls C (by rw [← hq.2]; exact hR') hS' hls
  rw [← hq.1, sh_psh_cv] at this
  exact this
theorem lu_eqi {x y : Int32} {off : Int} (pc : Nat) (hd : decode code pc = .ok (.if_icmp .eq off, 3)) (ht : (pc : Int) + off = ((1224 : Nat) : Int)) (h : x = y) (K : sh_U l B D ca b L xs 1224 i st μ) : sh_U l B D ca b L xs pc i (.int y :: .int x :: st) μ := by
  intro p e s m below meth c H locs ls C hR hS hl
  exact lv_icmp_eq (tgt := 1224) C.1.1 C.1.2.1 hd ht (fun _ => K p e s m below meth c H locs ls C hR hS hl) (fun hc => absurd h hc)
theorem lu_eql {x y : Int64} {off : Int} (pc : Nat) (h0 : decode code pc = .ok (.lcmp, 1)) (hd : decode code (pc + 1) = .ok (.ifCond .eq off, 3)) (ht : ((pc + 1 : Nat) : Int) + off = ((1224 : Nat) : Int)) (h : x = y) (K : sh_U l B D ca b L xs 1224 i st μ) : sh_U l B D ca b L xs pc i (.long y :: .long x :: st) μ := by
  intro p e s m below meth c H locs ls C hR hS hl
  refine W.lcmp C.1.1 C.1.2.1 h0 ?_
  refine lv_if_eq (tgt := 1224) C.1.1 C.1.2.1 hd ht (fun _ => K p e s m below meth c H locs ls C hR hS hl) (fun hc => absurd ?_ hc)
  subst h
  unfold lg_cmp
  rw [if_neg (by exact fun q => absurd q (Int64.lt_irrefl)), if_pos rfl]
theorem lu_next (K : sh_U l B D ca b L xs 18 (i + 6) [] μ) : sh_U l B D ca b L xs 1224 i [] μ := by
  intro p e s m below meth c H locs ls C hR hS hl
  refine lv_iinc (v := nI (i + 6)) (lv' := sh_Ul B b (nI (i + 6))) C.1.1 C.1.2.1 dL_1224 hl (k := 0) rfl (by rw [show Int32.ofInt 6 = nI 6 by decide, nI_add]) (by decide) rfl (fun ls hl => ?_)
  refine lv_goto (tgt := 18) C.1.1 C.1.2.1 dL_1227 (by decide) ?_
  exact K p e s m below meth c H locs ls C hR hS hl
/-- the law's end -/
theorem lu_end : sh_U l B D ca b L xs 1230 i [] μ := by
  intro p e s m below meth c H locs ls C hR hS hl
  obtain ⟨⟨hx, hb, hr, hml, hown, hts0, hX, hbl, hlocks, hgv⟩, hBs, hK, hE⟩ := id C
  refine lv_iconst (v := 1) hx hb dL_1230 (by decide) ?_
  refine va_forget (fun q hq => by have := hS.2.2 q hq; rw [hBs] at this; exact this) ?_
  refine W.widen (k := 600000) (n := 7302249) (Nat.le_of_ble_eq_true rfl) (Nat.le_of_ble_eq_true rfl) ?_
  exact lw_ret hx hb hr hlocks dL_1231
/-- the loop's head: over, or a call more -/
theorem lu_head (hL : L ≤ 3072) (hi : i ≤ L) (K : i + 6 ≤ L → sh_U l B D ca b L xs 27 i [] μ) : sh_U l B D ca b L xs 18 i [] μ := by
  intro p e s m below meth c H locs ls C hR hS hl
  obtain ⟨hx, hb, hr, hml, hown, hts0, hX, hbl, hlocks, hgv⟩ := C.1
  refine lv_iload_n hx hb dL_18 rfl (lv_at hl 0 rfl) ?_
  refine lv_aload_n hx hb dL_19 rfl (lv_at hl 3 rfl) ?_
  refine va_slen hx hb hX hbl C.bA hS dL_20 ?_
  refine lv_bipush (v := 6) hx hb dL_21 (by decide) ?_
  refine lv_isub hx hb dL_23 ?_
  refine lv_icmp_gt (tgt := 1230) hx hb dL_24 (by decide) (fun _ => lu_end p e s m below meth c H locs ls C hR hS hl) (fun hc => ?_)
  refine K ?_ p e s m below meth c H locs ls C hR hS hl
  rcases Nat.lt_or_ge L (i + 6) with h | h
  · exfalso
    apply hc
    rw [Int32.lt_iff_toInt_lt]
    have e1 : (Int32.ofNat L - 6).toInt = (L : Int) - 6 := by
      rw [show Int32.ofNat L = nI L from rfl, show (6 : Int32) = nI 6 from rfl, Int32.toInt_sub, nI_toInt (by omega), nI_toInt (by omega)]
      exact Int.bmod_eq_of_le (by omega) (by omega)
    rw [e1, nI_toInt (by omega)]
    omega
  · exact h
theorem lu_sw {k : Nat} {off : Int} (tgt : Nat) (hL : L ≤ 3072) (hi : i + 6 ≤ L) (hk : k ≤ 34) (hx : xs i &&& 63 = nI k) (ho : (#[155, 218, 241, 254, 277, 300, 343, 376, 409, 442, 475, 508, 551, 584, 627, 680, 713, 746, 789, 812, 825, 848, 881, 914, 957, 1000, 1023, 1046, 1069, 1082, 1105, 1119, 1132, 1155, 1168] : Array Int)[k]? = some off) (ht : (33 : Int) + off = (tgt : Int)) (K : sh_U l B D ca b L xs tgt i [] μ) : sh_U l B D ca b L xs 27 i [] μ := by
  intro p e s m below meth c H locs ls C hR hS hl
  obtain ⟨hx0, hb, hr, hml, hown, hts0, hX, hbl, hlocks, hgv⟩ := C.1
  refine lv_aload_n hx0 hb dL_27 rfl (lv_at hl 3 rfl) ?_
  refine lv_iload_n hx0 hb dL_28 rfl (lv_at hl 0 rfl) ?_
  refine va_sld hx0 hb hX hbl C.bA hS (vp_in_nI (by omega) (by omega)) dL_29 ?_
  rw [nI_clamp (by omega)]
  refine lv_bipush (v := 63) hx0 hb dL_30 (by decide) ?_
  refine lv_iand hx0 hb dL_32 ?_
  rw [hx]
  have hk2 : (nI k).toInt = (k : Int) := nI_toInt (by omega)
  refine lv_tableIn (tgt := tgt) hx0 hb dL_33 (by rw [hk2]; omega) (by rw [hk2]; omega) (off := off) (by rw [hk2]; simpa using ho) ht ?_
  exact K p e s m below meth c H locs ls C hR hS hl
theorem lu_swd (hL : L ≤ 3072) (hi : i + 6 ≤ L) {k : Nat} (hk : 34 < k) (hk2 : k < 64) (hx : xs i &&& 63 = nI k) (K : sh_U l B D ca b L xs 1224 i [] μ) : sh_U l B D ca b L xs 27 i [] μ := by
  intro p e s m below meth c H locs ls C hR hS hl
  obtain ⟨hx0, hb, hr, hml, hown, hts0, hX, hbl, hlocks, hgv⟩ := C.1
  refine lv_aload_n hx0 hb dL_27 rfl (lv_at hl 3 rfl) ?_
  refine lv_iload_n hx0 hb dL_28 rfl (lv_at hl 0 rfl) ?_
  refine va_sld hx0 hb hX hbl C.bA hS (vp_in_nI (by omega) (by omega)) dL_29 ?_
  rw [nI_clamp (by omega)]
  refine lv_bipush (v := 63) hx0 hb dL_30 (by decide) ?_
  refine lv_iand hx0 hb dL_32 ?_
  rw [hx]
  refine lv_tableOut (tgt := 1224) hx0 hb dL_33 (Or.inr (by rw [nI_toInt (by omega)]; omega)) (by decide) ?_
  exact K p e s m below meth c H locs ls C hR hS hl
end VLaw
