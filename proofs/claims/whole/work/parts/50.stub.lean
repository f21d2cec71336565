def Rel (σ τ : Mem) : Prop := σ = σC0 ∧ τ = σM0
theorem Rel_0 : Rel σC0 σM0 := ⟨rfl, rfl⟩
theorem op_type {σ τ : Mem} (h : Rel σ τ) (x1 : Int32) : ∃ (r : Int32) (σ' : Mem) (τ' : Mem), fX5_type σ 0 x1 = some (r, σ') ∧ fX6_type τ 0 x1 = some (r, τ') ∧ Rel σ' τ' := sorry
theorem op_clear {σ τ : Mem} (h : Rel σ τ)  : ∃ (r : Int32) (σ' : Mem) (τ' : Mem), fX5_clear σ 0  = some (r, σ') ∧ fX6_clear τ 0  = some (r, τ') ∧ Rel σ' τ' := sorry
theorem op_island {σ τ : Mem} (h : Rel σ τ)  : ∃ (r : Int32) (σ' : Mem) (τ' : Mem), fX5_island σ 0  = some (r, σ') ∧ fX6_island τ 0  = some (r, τ') ∧ Rel σ' τ' := sorry
theorem op_traveller {σ τ : Mem} (h : Rel σ τ) (x1 : Int32) (x2 : Int32) : ∃ (r : Int32), fX5_traveller σ 0 x1 x2 = some r ∧ fX6_traveller τ 0 x1 x2 = some r := sorry
theorem op_clerk {σ τ : Mem} (h : Rel σ τ) (x1 : Int32) (x2 : Int32) : ∃ (r : Int32), fX5_clerk σ 0 x1 x2 = some r ∧ fX6_clerk τ 0 x1 x2 = some r := sorry
theorem op_now {σ τ : Mem} (h : Rel σ τ) (x1 : Int32) : ∃ (r : Int32), fX5_now σ 0 x1 = some r ∧ fX6_now τ 0 x1 = some r := sorry
theorem op_puts {σ τ : Mem} (h : Rel σ τ) (x1 : Int32) (x2 : Int32) : ∃ (r : Int32) (σ' : Mem) (τ' : Mem), fX5_puts σ 0 x1 x2 = some (r, σ') ∧ fX6_puts τ 0 x1 x2 = some (r, τ') ∧ Rel σ' τ' := sorry
theorem op_day {σ τ : Mem} (h : Rel σ τ)  : ∃ (r : Int32) (σ' : Mem) (τ' : Mem), fX5_day σ 0  = some (r, σ') ∧ fX6_day τ 0  = some (r, τ') ∧ Rel σ' τ' := sorry
theorem op_sails {σ τ : Mem} (h : Rel σ τ) (x1 : Int32) : ∃ (r : Int32) (σ' : Mem) (τ' : Mem), fX5_sails σ 0 x1 = some (r, σ') ∧ fX6_sails τ 0 x1 = some (r, τ') ∧ Rel σ' τ' := sorry
theorem op_undo {σ τ : Mem} (h : Rel σ τ)  : ∃ (r : Int32) (σ' : Mem) (τ' : Mem), fX5_undo σ 0  = some (r, σ') ∧ fX6_undo τ 0  = some (r, τ') ∧ Rel σ' τ' := sorry
theorem op_most {σ τ : Mem} (h : Rel σ τ) (x1 : Int32) (x2 : Int32) : ∃ (r : Int32) (σ' : Mem) (τ' : Mem), fX5_most σ 0 x1 x2 = some (r, σ') ∧ fX6_most τ 0 x1 x2 = some (r, τ') ∧ Rel σ' τ' := sorry
theorem op_soonest {σ τ : Mem} (h : Rel σ τ) (x1 : Int32) : ∃ (r : Int32) (σ' : Mem) (τ' : Mem), fX5_soonest σ 0 x1 = some (r, σ') ∧ fX6_soonest τ 0 x1 = some (r, τ') ∧ Rel σ' τ' := sorry
theorem op_plan {σ τ : Mem} (h : Rel σ τ) (x1 : Int32) (x2 : Int32) : ∃ (r : Int32) (σ' : Mem) (τ' : Mem), fX5_plan σ 0 x1 x2 = some (r, σ') ∧ fX6_plan τ 0 x1 x2 = some (r, τ') ∧ Rel σ' τ' := sorry
theorem op_waits {σ τ : Mem} (h : Rel σ τ) (x1 : Int32) : ∃ (r : Int32), fX5_waits σ 0 x1 = some r ∧ fX6_waits τ 0 x1 = some r := sorry
theorem op_boat {σ τ : Mem} (h : Rel σ τ) (x1 : Int32) (x2 : Int32) : ∃ (r : Int32), fX5_boat σ 0 x1 x2 = some r ∧ fX6_boat τ 0 x1 x2 = some r := sorry
theorem op_clean {σ τ : Mem} (h : Rel σ τ) (x1 : Int32) (x2 : Int32) : ∃ (r : Int64), fX5_clean σ 0 x1 x2 = some r ∧ fX6_clean τ 0 x1 x2 = some r := sorry
theorem op_well {σ τ : Mem} (h : Rel σ τ) (x1 : Int32) (x2 : Int32) (x3 : Int32) : ∃ (r : Int64) (σ' : Mem) (τ' : Mem), fX5_well σ 0 x1 x2 x3 = some (r, σ') ∧ fX6_well τ 0 x1 x2 x3 = some (r, τ') ∧ Rel σ' τ' := sorry
theorem op_writes {σ τ : Mem} (h : Rel σ τ) (x1 : Int32) : ∃ (r : Int32) (σ' : Mem) (τ' : Mem), fX5_writes σ 0 x1 = some (r, σ') ∧ fX6_writes τ 0 x1 = some (r, τ') ∧ Rel σ' τ' := sorry
theorem op_tears {σ τ : Mem} (h : Rel σ τ)  : ∃ (r : Int32) (σ' : Mem) (τ' : Mem), fX5_tears σ 0  = some (r, σ') ∧ fX6_tears τ 0  = some (r, τ') ∧ Rel σ' τ' := sorry
theorem op_smokes {σ τ : Mem} (h : Rel σ τ) (x1 : Int32) : ∃ (r : Int32) (σ' : Mem) (τ' : Mem), fX5_smokes σ 0 x1 = some (r, σ') ∧ fX6_smokes τ 0 x1 = some (r, τ') ∧ Rel σ' τ' := sorry
theorem op_word {σ τ : Mem} (h : Rel σ τ) (x1 : Int32) : ∃ (r : Int32), fX5_word σ 0 x1 = some r ∧ fX6_word τ 0 x1 = some r := sorry
theorem op_brown {σ τ : Mem} (h : Rel σ τ) (x1 : Int32) : ∃ (r : Int32) (σ' : Mem) (τ' : Mem), fX5_brown σ 0 x1 = some (r, σ') ∧ fX6_brown τ 0 x1 = some (r, τ') ∧ Rel σ' τ' := sorry
theorem op_burn {σ τ : Mem} (h : Rel σ τ)  : ∃ (r : Int32) (σ' : Mem) (τ' : Mem), fX5_burn σ 0  = some (r, σ') ∧ fX6_burn τ 0  = some (r, τ') ∧ Rel σ' τ' := sorry
theorem op_stood {σ τ : Mem} (h : Rel σ τ) (x1 : Int32) : ∃ (r : Int32), fX5_stood σ 0 x1 = some r ∧ fX6_stood τ 0 x1 = some r := sorry
theorem op_letters {σ τ : Mem} (h : Rel σ τ) (x1 : Int32) : ∃ (r : Int32), fX5_letters σ 0 x1 = some r ∧ fX6_letters τ 0 x1 = some r := sorry
theorem op_whose {σ τ : Mem} (h : Rel σ τ) (x1 : Int32) : ∃ (r : Int32) (τ' : Mem), fX5_whose σ 0 x1 = some r ∧ fX6_whose τ 0 x1 = some (r, τ') ∧ Rel σ τ' := sorry
theorem op_chain {σ τ : Mem} (h : Rel σ τ) (x1 : Int32) (x2 : Int32) : ∃ (r : Int32) (σ' : Mem) (τ' : Mem), fX5_chain σ 0 x1 x2 = some (r, σ') ∧ fX6_chain τ 0 x1 x2 = some (r, τ') ∧ Rel σ' τ' := sorry
theorem op_rate {σ τ : Mem} (h : Rel σ τ) (x1 : Int32) (x2 : Int32) : ∃ (r : Int32) (σ' : Mem) (τ' : Mem), fX5_rate σ 0 x1 x2 = some (r, σ') ∧ fX6_rate τ 0 x1 x2 = some (r, τ') ∧ Rel σ' τ' := sorry
theorem op_keep {σ τ : Mem} (h : Rel σ τ) (x1 : Int32) : ∃ (r : Int32) (σ' : Mem) (τ' : Mem), fX5_keep σ 0 x1 = some (r, σ') ∧ fX6_keep τ 0 x1 = some (r, τ') ∧ Rel σ' τ' := sorry
theorem op_back {σ τ : Mem} (h : Rel σ τ) (x1 : Int32) : ∃ (r : Int32) (σ' : Mem) (τ' : Mem), fX5_back σ 0 x1 = some (r, σ') ∧ fX6_back τ 0 x1 = some (r, τ') ∧ Rel σ' τ' := sorry
theorem op_count {σ τ : Mem} (h : Rel σ τ) (x1 : Int32) : ∃ (r : Int32), fX5_count σ 0 x1 = some r ∧ fX6_count τ 0 x1 = some r := sorry
theorem op_trace {σ τ : Mem} (h : Rel σ τ)  : ∃ (r : Int64), fX5_trace σ 0  = some r ∧ fX6_trace τ 0  = some r := sorry
