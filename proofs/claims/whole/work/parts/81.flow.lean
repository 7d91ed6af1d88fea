/-! THE PURE PART: flow -/
section FLOW
theorem FrX_eq {σ' σ : xS} (h : FrX σ' σ) : σ' = xi (xi (xi (xi (xi (xi (xi σ 40 (σ'.1 40)) 41 (σ'.1 41)) 42 (σ'.1 42)) 43 (σ'.1 43)) 44 (σ'.1 44)) 45 (σ'.1 45)) 46 (σ'.1 46) := by
  refine Prod.ext (funext fun c => ?_) h.1
  by_cases q6 : c = 46
  · subst q6; exact (xi_self _ _ _).symm
  rw [xi_ne q6]
  by_cases q5 : c = 45
  · subst q5; exact (xi_self _ _ _).symm
  rw [xi_ne q5]
  by_cases q4 : c = 44
  · subst q4; exact (xi_self _ _ _).symm
  rw [xi_ne q4]
  by_cases q3 : c = 43
  · subst q3; exact (xi_self _ _ _).symm
  rw [xi_ne q3]
  by_cases q2 : c = 42
  · subst q2; exact (xi_self _ _ _).symm
  rw [xi_ne q2]
  by_cases q1 : c = 41
  · subst q1; exact (xi_self _ _ _).symm
  rw [xi_ne q1]
  by_cases q0 : c = 40
  · subst q0; exact (xi_self _ _ _).symm
  rw [xi_ne q0]
  exact h.2 c (by omega)
theorem FrM_eq {μ' μ : mS} (h : FrM μ' μ) : μ' = seti (seti (seti (seti (seti μ 44 (μ'.1 44)) 45 (μ'.1 45)) 46 (μ'.1 46)) 47 (μ'.1 47)) 48 (μ'.1 48) := by
  refine Prod.ext (funext fun c => ?_) h.1
  by_cases q6 : c = 48
  · subst q6; exact (mi_self _ _ _).symm
  rw [mi_ne q6]
  by_cases q5 : c = 47
  · subst q5; exact (mi_self _ _ _).symm
  rw [mi_ne q5]
  by_cases q4 : c = 46
  · subst q4; exact (mi_self _ _ _).symm
  rw [mi_ne q4]
  by_cases q3 : c = 45
  · subst q3; exact (mi_self _ _ _).symm
  rw [mi_ne q3]
  by_cases q2 : c = 44
  · subst q2; exact (mi_self _ _ _).symm
  rw [mi_ne q2]
  exact h.2 c (by omega)
theorem Rel_xi {σ : xS} {μ : mS} (hR : Rel σ μ) (c : Nat) (f : Nat → Int32) (hc : c = 40 ∨ c = 41 ∨ c = 42 ∨ c = 43 ∨ c = 44 ∨ c = 45 ∨ c = 46) : Rel (xi σ c f) μ := by
  obtain ⟨hC, hD, hS, hL, hT, hO, hP, hK, hRr, hG, hM⟩ := hR
  rcases hc with rfl | rfl | rfl | rfl | rfl | rfl | rfl <;> exact ⟨hC, hD, hS, hL, hT, RO_xi (by decide) hO, hP, hK, hRr, hG, hM⟩
theorem Rel_mi {σ : xS} {μ : mS} (hR : Rel σ μ) (c : Nat) (f : Nat → Int32) (hc : c = 44 ∨ c = 45 ∨ c = 46 ∨ c = 47 ∨ c = 48) : Rel σ (seti μ c f) := by
  obtain ⟨hC, hD, hS, hL, hT, hO, hP, hK, hRr, hG, hM⟩ := hR
  rcases hc with rfl | rfl | rfl | rfl | rfl <;> exact ⟨hC, hD, hS, hL, hT, hO, hP, hK, hRr, hG, hM⟩
theorem H_flow : ∀ (σ : xS) (μ : mS), Rel σ μ → ∃ (r : Int32) (σ1 : xS) (μ1 : mS), f_X6_flow σ = some (r, σ1) ∧ f_X7_flow μ = some (r, μ1) ∧ Rel σ1 μ1 := by
  intro σ μ hR
  obtain ⟨hC, hD, hS, hL, hT, hO, hP, hK, hRr, hG, hM⟩ := id hR
  have z0 : (0 : Int32).toInt = 0 := by decide
  have z1 : (1 : Int32).toInt = 1 := by decide
  have z30 : (30 : Int32).toInt = 30 := by decide
  have zk : (1000 : Int32).toInt = 1000 := by decide
  have hd : ∀ i, i < 18 → 1 ≤ cI (μ.1 32) i ∧ cI (μ.1 32) i ≤ 30 := fun i hi => by
    have a := bd_int (hRr i hi).2
    rw [z1, z30] at a
    exact a
  have hg : ∀ m, m < 3 → 0 ≤ cI (μ.1 42) m ∧ cI (μ.1 42) m ≤ 1000 := fun i hi => by
    have a := bd_int (hG.1 i hi).2
    rw [z0, zk] at a
    exact a
  have hn : ∀ t, t < 6 → 0 ≤ cI (μ.1 43) t ∧ cI (μ.1 43) t ≤ 1000 := fun i hi => by
    have a := bd_int (hG.2 i hi).2
    rw [z0, zk] at a
    exact a
  obtain ⟨r, σ1, a1, a2, x, L, W, p, D, a3, a4⟩ := flow_x hd hg hn (σ := σ) (fun i hi => by rw [(hRr i hi).1]; rfl) (fun i hi => by rw [(hG.1 i hi).1]; rfl) (fun i hi => by rw [(hG.2 i hi).1]; rfl)
  obtain ⟨r', μ1, b1, b2, y, V, Z, q, D', b3, b4⟩ := flow_m hd hg hn (μ := μ) (fun i hi => rfl) (fun i hi => rfl) (fun i hi => rfl)
  have e : r = r' := eq_int.mpr (flow_same a3 b3 a4 b4)
  subst e
  refine ⟨r, σ1, μ1, a1, b1, ?_⟩
  rw [FrX_eq a2, FrM_eq b2]
  refine Rel_mi (Rel_mi (Rel_mi (Rel_mi (Rel_mi ?_ 44 _ (by decide)) 45 _ (by decide)) 46 _ (by decide)) 47 _ (by decide)) 48 _ (by decide)
  exact Rel_xi (Rel_xi (Rel_xi (Rel_xi (Rel_xi (Rel_xi (Rel_xi hR 40 _ (by decide)) 41 _ (by decide)) 42 _ (by decide)) 43 _ (by decide)) 44 _ (by decide)) 45 _ (by decide)) 46 _ (by decide)
end FLOW
