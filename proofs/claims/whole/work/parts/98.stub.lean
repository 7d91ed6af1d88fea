theorem H_flow : ∀ (σ : xS) (μ : mS), Rel σ μ → ∃ (r : Int32) (σ1 : xS) (μ1 : mS), f_X6_flow σ = some (r, σ1) ∧ f_X7_flow μ = some (r, μ1) ∧ Rel σ1 μ1 := sorry
