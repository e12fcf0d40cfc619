def Inv (μ : Mem) : Prop := sorry
theorem Inv_mu0 : Inv mu0 := sorry
theorem st_quarry {μ : Mem} (hv : Inv μ) (a1 : Int32) (a2 : Int32) : ∃ r μ1 μ2, f_X8_quarry a1 a2 μ = some (r, μ1) ∧ f_X9_quarry a1 a2 μ1 = some (r, μ2) ∧ Inv μ2 := sorry
theorem st_work {μ : Mem} (hv : Inv μ) (a1 : Int32) (a2 : Int32) : ∃ r μ1 μ2, f_X8_work a1 a2 μ = some (r, μ1) ∧ f_X9_work a1 a2 μ1 = some (r, μ2) ∧ Inv μ2 := sorry
theorem st_renew {μ : Mem} (hv : Inv μ) (a1 : Int32) (a2 : Int32) (a3 : Int32) (a4 : Int32) : ∃ r μ1 μ2, f_X8_renew a1 a2 a3 a4 μ = some (r, μ1) ∧ f_X9_renew a1 a2 a3 a4 μ1 = some (r, μ2) ∧ Inv μ2 := sorry
theorem st_road {μ : Mem} (hv : Inv μ) (a1 : Int32) (a2 : Int32) (a3 : Int32) (a4 : Int32) : ∃ r μ1 μ2, f_X8_road a1 a2 a3 a4 μ = some (r, μ1) ∧ f_X9_road a1 a2 a3 a4 μ1 = some (r, μ2) ∧ Inv μ2 := sorry
theorem st_of {μ : Mem} (hv : Inv μ) (a1 : Int32) (a2 : Int32) (a3 : Int32) : ∃ r, f_X8_of a1 a2 a3 μ = some r ∧ f_X9_of a1 a2 a3 μ = some r := sorry
theorem st_roadOf {μ : Mem} (hv : Inv μ) (a1 : Int32) (a2 : Int32) (a3 : Int32) : ∃ r, f_X8_roadOf a1 a2 a3 μ = some r ∧ f_X9_roadOf a1 a2 a3 μ = some r := sorry
theorem st_feed {μ : Mem} (hv : Inv μ) (a1 : Int32) : ∃ r μ1 μ2, f_X8_feed a1 μ = some (r, μ1) ∧ f_X9_feed a1 μ1 = some (r, μ2) ∧ Inv μ2 := sorry
theorem st_read {μ : Mem} (hv : Inv μ) : ∃ r μ1 μ2, f_X8_read  μ = some (r, μ1) ∧ f_X9_read  μ1 = some (r, μ2) ∧ Inv μ2 := sorry
theorem st_start {μ : Mem} (hv : Inv μ) (a1 : Int32) : ∃ r μ1 μ2, f_X8_start a1 μ = some (r, μ1) ∧ f_X9_start a1 μ1 = some (r, μ2) ∧ Inv μ2 := sorry
theorem st_step {μ : Mem} (hv : Inv μ) (a1 : Int32) (a2 : Int32) : ∃ r μ1 μ2, f_X8_step a1 a2 μ = some (r, μ1) ∧ f_X9_step a1 a2 μ1 = some (r, μ2) ∧ Inv μ2 := sorry
theorem st_load {μ : Mem} (hv : Inv μ) (a1 : Int32) (a2 : Int32) : ∃ r, f_X8_load a1 a2 μ = some r ∧ f_X9_load a1 a2 μ = some r := sorry
theorem st_basic {μ : Mem} (hv : Inv μ) (a1 : Int32) (a2 : Int32) : ∃ r, f_X8_basic a1 a2 μ = some r ∧ f_X9_basic a1 a2 μ = some r := sorry
theorem st_worth {μ : Mem} (hv : Inv μ) (a1 : Int32) (a2 : Int32) : ∃ r μ2, f_X8_worth a1 a2 μ = some r ∧ f_X9_worth a1 a2 μ = some (r, μ2) ∧ Inv μ2 := sorry
theorem st_surplus {μ : Mem} (hv : Inv μ) (a1 : Int32) (a2 : Int32) : ∃ r μ2, f_X8_surplus a1 a2 μ = some r ∧ f_X9_surplus a1 a2 μ = some (r, μ2) ∧ Inv μ2 := sorry
theorem st_loop {μ : Mem} (hv : Inv μ) (a1 : Int32) (a2 : Int32) (a3 : Int32) : ∃ r μ1 μ2, f_X8_loop a1 a2 a3 μ = some (r, μ1) ∧ f_X9_loop a1 a2 a3 μ1 = some (r, μ2) ∧ Inv μ2 := sorry
theorem st_enters {μ : Mem} (hv : Inv μ) (a1 : Int32) : ∃ r μ1 μ2, f_X8_enters a1 μ = some (r, μ1) ∧ f_X9_enters a1 μ1 = some (r, μ2) ∧ Inv μ2 := sorry
theorem st_told {μ : Mem} (hv : Inv μ) (a1 : Int32) : ∃ r μ1 μ2, f_X8_told a1 μ = some (r, μ1) ∧ f_X9_told a1 μ1 = some (r, μ2) ∧ Inv μ2 := sorry
theorem st_trace {μ : Mem} (hv : Inv μ) (a1 : Int32) (a2 : Int32) : ∃ r, f_X8_trace a1 a2 μ = some r ∧ f_X9_trace a1 a2 μ = some r := sorry
theorem st_best {μ : Mem} (hv : Inv μ) (a1 : Int32) (a2 : Int32) (a3 : Int32) : ∃ r μ1 μ2, f_X8_best a1 a2 a3 μ = some (r, μ1) ∧ f_X9_best a1 a2 a3 μ1 = some (r, μ2) ∧ Inv μ2 := sorry
theorem st_cheapest {μ : Mem} (hv : Inv μ) (a1 : Int32) : ∃ r μ1 μ2, f_X8_cheapest a1 μ = some (r, μ1) ∧ f_X9_cheapest a1 μ1 = some (r, μ2) ∧ Inv μ2 := sorry
theorem st_more {μ : Mem} (hv : Inv μ) (a1 : Int32) (a2 : Int32) : ∃ r μ1 μ2, f_X8_more a1 a2 μ = some (r, μ1) ∧ f_X9_more a1 a2 μ1 = some (r, μ2) ∧ Inv μ2 := sorry
theorem st_rise {μ : Mem} (hv : Inv μ) (a1 : Int32) (a2 : Int32) : ∃ r μ1 μ2, f_X8_rise a1 a2 μ = some (r, μ1) ∧ f_X9_rise a1 a2 μ1 = some (r, μ2) ∧ Inv μ2 := sorry
theorem st_missed {μ : Mem} (hv : Inv μ) (a1 : Int32) : ∃ r μ1 μ2, f_X8_missed a1 μ = some (r, μ1) ∧ f_X9_missed a1 μ1 = some (r, μ2) ∧ Inv μ2 := sorry
theorem st_see {μ : Mem} (hv : Inv μ) (a1 : Int32) (a2 : Int32) (a3 : Int32) : ∃ r μ1 μ2, f_X8_see a1 a2 a3 μ = some (r, μ1) ∧ f_X9_see a1 a2 a3 μ1 = some (r, μ2) ∧ Inv μ2 := sorry
theorem st_fits {μ : Mem} (hv : Inv μ) (a1 : Int32) (a2 : Int32) (a3 : Int32) : ∃ r μ1 μ2, f_X8_fits a1 a2 a3 μ = some (r, μ1) ∧ f_X9_fits a1 a2 a3 μ1 = some (r, μ2) ∧ Inv μ2 := sorry
theorem st_odds {μ : Mem} (hv : Inv μ) (a1 : Int32) (a2 : Int32) (a3 : Int32) : ∃ r μ1 μ2, f_X8_odds a1 a2 a3 μ = some (r, μ1) ∧ f_X9_odds a1 a2 a3 μ1 = some (r, μ2) ∧ Inv μ2 := sorry
theorem st_mean {μ : Mem} (hv : Inv μ) (a1 : Int32) : ∃ r, f_X8_mean a1 μ = some r ∧ f_X9_mean a1 μ = some r := sorry
theorem st_order {μ : Mem} (hv : Inv μ) (a1 : Int32) (a2 : Int32) : ∃ r μ1 μ2, f_X8_order a1 a2 μ = some (r, μ1) ∧ f_X9_order a1 a2 μ1 = some (r, μ2) ∧ Inv μ2 := sorry
theorem st_ends {μ : Mem} (hv : Inv μ) (a1 : Int32) : ∃ r μ1 μ2, f_X8_ends a1 μ = some (r, μ1) ∧ f_X9_ends a1 μ1 = some (r, μ2) ∧ Inv μ2 := sorry
theorem st_book {μ : Mem} (hv : Inv μ) (a1 : Int32) (a2 : Int32) (a3 : Int32) : ∃ r μ1 μ2, f_X8_book a1 a2 a3 μ = some (r, μ1) ∧ f_X9_book a1 a2 a3 μ1 = some (r, μ2) ∧ Inv μ2 := sorry
theorem st_looked {μ : Mem} (hv : Inv μ) : ∃ r, f_X8_looked  μ = some r ∧ f_X9_looked  μ = some r := sorry
theorem st_judge {μ : Mem} (hv : Inv μ) (a1 : Int32) (a2 : Int32) : ∃ r, f_X8_judge a1 a2 μ = some r ∧ f_X9_judge a1 a2 μ = some r := sorry
theorem st_image {μ : Mem} (hv : Inv μ) : ∃ r μ1 μ2, f_X8_image  μ = some (r, μ1) ∧ f_X9_image  μ1 = some (r, μ2) ∧ Inv μ2 := sorry
theorem st_undo {μ : Mem} (hv : Inv μ) : ∃ r μ1 μ2, f_X8_undo  μ = some (r, μ1) ∧ f_X9_undo  μ1 = some (r, μ2) ∧ Inv μ2 := sorry
theorem st_count {μ : Mem} (hv : Inv μ) (a1 : Int32) : ∃ r, f_X8_count a1 μ = some r ∧ f_X9_count a1 μ = some r := sorry
theorem st_tape {μ : Mem} (hv : Inv μ) (a1 : Int32) (a2 : Int32) (a3 : Int32) : ∃ r μ1 μ2, f_X8_tape a1 a2 a3 μ = some (r, μ1) ∧ f_X9_tape a1 a2 a3 μ1 = some (r, μ2) ∧ Inv μ2 := sorry
theorem st_item {μ : Mem} (hv : Inv μ) (a1 : Int32) (a2 : Int32) (a3 : Int64) : ∃ r μ1 μ2, f_X8_item a1 a2 a3 μ = some (r, μ1) ∧ f_X9_item a1 a2 a3 μ1 = some (r, μ2) ∧ Inv μ2 := sorry
theorem st_peek {μ : Mem} (hv : Inv μ) (a1 : Int32) (a2 : Int32) : ∃ r, f_X8_peek a1 a2 μ = some r ∧ f_X9_peek a1 a2 μ = some r := sorry
theorem st_shift {μ : Mem} (hv : Inv μ) (a1 : Int32) (a2 : Int32) (a3 : Int32) (a4 : Int32) (a5 : Int32) : ∃ r μ1 μ2, f_X8_shift a1 a2 a3 a4 a5 μ = some (r, μ1) ∧ f_X9_shift a1 a2 a3 a4 a5 μ1 = some (r, μ2) ∧ Inv μ2 := sorry
