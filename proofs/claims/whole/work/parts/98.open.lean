theorem pr_0 : ∀ (μ : sh_Mem) (b1 b2 b3 b4 b5 : Int32), Sim μ → ∃ (v : Int32) (μ1 μ2 : sh_Mem), f_X11_feed b1 b2 b3 b4 b5 μ = some (v, μ1) ∧ f_X12_feed b1 b2 b3 b4 b5 μ1 = some (v, μ2) ∧ Sim μ2 := sorry
theorem pr_2 : ∀ (μ : sh_Mem), Sim μ → ∃ (v : Int32) (μ1 μ2 : sh_Mem), f_X11_plain μ = some (v, μ1) ∧ f_X12_plain μ1 = some (v, μ2) ∧ Sim μ2 := sorry
theorem pr_5 : ∀ (μ : sh_Mem) (b1 b2 b3 : Int32), Sim μ → ∃ (v : Int32) (μ1 μ2 : sh_Mem), f_X11_letter b1 b2 b3 μ = some (v, μ1) ∧ f_X12_letter b1 b2 b3 μ1 = some (v, μ2) ∧ Sim μ2 := sorry
theorem pr_9 : ∀ (μ : sh_Mem) (b1 b2 : Int32), Sim μ → ∃ (v : Int32) (μ1 μ2 : sh_Mem), f_X11_would b1 b2 μ = some (v, μ1) ∧ f_X12_would b1 b2 μ1 = some (v, μ2) ∧ Sim μ2 := sorry
theorem pr_11 : ∀ (μ : sh_Mem) (b1 b2 b3 : Int32), Sim μ → ∃ (v : Int32) (μ1 μ2 : sh_Mem), f_X11_later b1 b2 b3 μ = some (v, μ1) ∧ f_X12_later b1 b2 b3 μ1 = some (v, μ2) ∧ Sim μ2 := sorry
theorem pr_12 : ∀ (μ : sh_Mem) (b1 b2 : Int32), Sim μ → ∃ (v : Int32) (μ1 μ2 : sh_Mem), f_X11_tired b1 b2 μ = some (v, μ1) ∧ f_X12_tired b1 b2 μ1 = some (v, μ2) ∧ Sim μ2 := sorry
theorem pr_13 : ∀ (μ : sh_Mem) (b1 b2 b3 : Int32), Sim μ → ∃ (v : Int32) (μ1 μ2 : sh_Mem), f_X11_rises b1 b2 b3 μ = some (v, μ1) ∧ f_X12_rises b1 b2 b3 μ1 = some (v, μ2) ∧ Sim μ2 := sorry
theorem pr_14 : ∀ (μ : sh_Mem) (b1 b2 b3 b4 : Int32), Sim μ → ∃ (v : Int32) (μ1 μ2 : sh_Mem), f_X11_plan b1 b2 b3 b4 μ = some (v, μ1) ∧ f_X12_plan b1 b2 b3 b4 μ1 = some (v, μ2) ∧ Sim μ2 := sorry
theorem pr_15 : ∀ (μ : sh_Mem) (b1 b2 : Int32), Sim μ → ∃ (v : Int32) (μ1 μ2 : sh_Mem), f_X11_way b1 b2 μ = some (v, μ1) ∧ f_X12_way b1 b2 μ1 = some (v, μ2) ∧ Sim μ2 := sorry
theorem pr_16 : ∀ (μ : sh_Mem) (b1 b2 : Int32), Sim μ → ∃ (v : Int32) (μ1 μ2 : sh_Mem), f_X11_pond b1 b2 μ = some (v, μ1) ∧ f_X12_pond b1 b2 μ1 = some (v, μ2) ∧ Sim μ2 := sorry
theorem pr_17 : ∀ (μ : sh_Mem) (b1 b2 b3 : Int32), Sim μ → ∃ (v : Int32) (μ1 μ2 : sh_Mem), f_X11_keeps b1 b2 b3 μ = some (v, μ1) ∧ f_X12_keeps b1 b2 b3 μ1 = some (v, μ2) ∧ Sim μ2 := sorry
theorem pr_18 : ∀ (μ : sh_Mem) (b1 : Int32), Sim μ → ∃ (v : Int32) (μ1 μ2 : sh_Mem), f_X11_rest b1 μ = some (v, μ1) ∧ f_X12_rest b1 μ1 = some (v, μ2) ∧ Sim μ2 := sorry
theorem pr_19 : ∀ (μ : sh_Mem), Sim μ → ∃ (v : Int32) (μ1 μ2 : sh_Mem), f_X11_see μ = some (v, μ1) ∧ f_X12_see μ1 = some (v, μ2) ∧ Sim μ2 := sorry
theorem pr_20 : ∀ (μ : sh_Mem) (b1 : Int32), Sim μ → ∃ (v : Int32) (μ1 μ2 : sh_Mem), f_X11_who b1 μ = some (v, μ1) ∧ f_X12_who b1 μ1 = some (v, μ2) ∧ Sim μ2 := sorry
theorem pr_21 : ∀ (μ : sh_Mem) (b1 b2 : Int32), Sim μ → ∃ (v : Int32) (μ1 μ2 : sh_Mem), f_X11_tells b1 b2 μ = some (v, μ1) ∧ f_X12_tells b1 b2 μ1 = some (v, μ2) ∧ Sim μ2 := sorry
theorem pr_22 : ∀ (μ : sh_Mem) (b1 b2 : Int32), Sim μ → ∃ (v : Int32) (μ1 μ2 : sh_Mem), f_X11_asks b1 b2 μ = some (v, μ1) ∧ f_X12_asks b1 b2 μ1 = some (v, μ2) ∧ Sim μ2 := sorry
theorem pr_23 : ∀ (μ : sh_Mem) (b1 b2 b3 : Int32), Sim μ → ∃ (v : Int32) (μ1 μ2 : sh_Mem), f_X11_teach b1 b2 b3 μ = some (v, μ1) ∧ f_X12_teach b1 b2 b3 μ1 = some (v, μ2) ∧ Sim μ2 := sorry
theorem pr_24 : ∀ (μ : sh_Mem) (b1 b2 b3 : Int32), Sim μ → ∃ (v : Int32) (μ1 μ2 : sh_Mem), f_X11_go b1 b2 b3 μ = some (v, μ1) ∧ f_X12_go b1 b2 b3 μ1 = some (v, μ2) ∧ Sim μ2 := sorry
theorem pr_25 : ∀ (μ : sh_Mem) (b1 : Int32), Sim μ → ∃ (v : Int32) (μ1 μ2 : sh_Mem), f_X11_ease b1 μ = some (v, μ1) ∧ f_X12_ease b1 μ1 = some (v, μ2) ∧ Sim μ2 := sorry
theorem pr_26 : ∀ (μ : sh_Mem) (b1 : Int32), Sim μ → ∃ (v : Int32) (μ1 μ2 : sh_Mem), f_X11_days b1 μ = some (v, μ1) ∧ f_X12_days b1 μ1 = some (v, μ2) ∧ Sim μ2 := sorry
theorem pr_27 : ∀ (μ : sh_Mem) (b1 : Int32), Sim μ → ∃ (v : Int32) (μ1 μ2 : sh_Mem), f_X11_chance b1 μ = some (v, μ1) ∧ f_X12_chance b1 μ1 = some (v, μ2) ∧ Sim μ2 := sorry
theorem pr_28 : ∀ (μ : sh_Mem), Sim μ → ∃ (v : Int32) (μ1 μ2 : sh_Mem), f_X11_undo μ = some (v, μ1) ∧ f_X12_undo μ1 = some (v, μ2) ∧ Sim μ2 := sorry
theorem pr_30 : ∀ (μ : sh_Mem), Sim μ → ∃ (v : Int64) (μ1 μ2 : sh_Mem), f_X11_ask μ = some (v, μ1) ∧ f_X12_ask μ1 = some (v, μ2) ∧ Sim μ2 := sorry
theorem pr_31 : ∀ (μ : sh_Mem), Sim μ → ∃ (v : Int32) (μ1 μ2 : sh_Mem), f_X11_image μ = some (v, μ1) ∧ f_X12_image μ1 = some (v, μ2) ∧ Sim μ2 := sorry
theorem pr_33 : ∀ (μ : sh_Mem), Sim μ → ∃ (v : Int32) (μ1 μ2 : sh_Mem), f_X11_on μ = some (v, μ1) ∧ f_X12_on μ1 = some (v, μ2) ∧ Sim μ2 := sorry
theorem sim_0 : Sim km_920 := sorry
