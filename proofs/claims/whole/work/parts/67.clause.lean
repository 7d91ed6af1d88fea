/-! THE PURE PART: a clause -/
section CLAUSE
def RQ (σ : xS) (μ : mS) (o : Nat) : Prop := ∀ k, k < 8 → ROs (σ.1 22 k) (σ.1 23 k) (μ.1 22 (8 * o + k)) (μ.1 23 (8 * o + k)) (μ.1 24 (8 * o + k)) ∧ (σ.1 22 k = -1 → σ.1 23 k = 0)
theorem RQ_up {σ σ' : xS} {μ μ' : mS} {o k : Nat} (hq : RQ σ μ o) (h22 : ∀ j, j ≠ k → σ'.1 22 j = σ.1 22 j) (h23 : ∀ j, j ≠ k → σ'.1 23 j = σ.1 23 j) (m22 : ∀ j, j ≠ 8 * o + k → μ'.1 22 j = μ.1 22 j) (m23 : ∀ j, j ≠ 8 * o + k → μ'.1 23 j = μ.1 23 j) (m24 : ∀ j, j ≠ 8 * o + k → μ'.1 24 j = μ.1 24 j) (hk : ROs (σ'.1 22 k) (σ'.1 23 k) (μ'.1 22 (8 * o + k)) (μ'.1 23 (8 * o + k)) (μ'.1 24 (8 * o + k)) ∧ (σ'.1 22 k = -1 → σ'.1 23 k = 0)) : RQ σ' μ' o := by
  intro j hj
  by_cases q : j = k
  · subst q; exact hk
  · rw [h22 j q, h23 j q, m22 _ (by omega), m23 _ (by omega), m24 _ (by omega)]
    exact hq j hj
theorem n10p {β : Type} (s : β) : ¬ ((1 : Int32), s).1 = 0 := by
  show ¬ (1 : Int32) = 0
  decide
/-- what both find in a clause -/
def CL (o : Nat) (σ : xS) (μ : mS) (b b' : Int32) (σ' : xS) (μ' : mS) : Prop := PA σ' μ' ∧ FX σ σ' ∧ FM o μ μ' ∧ ((b = 0 ∧ b' = 0) ∨ (b = 1 ∧ b' = 1 ∧ RQ σ' μ' o) ∨ (b = 1 ∧ b' = 0 ∧ ¬ μ'.1 20 0 ≤ μ'.1 26 0 ∧ ¬ μ'.1 19 (μ'.1 26 0).toNatClampNeg = 59))
theorem clause_eq {σ : xS} {μ : mS} {o : Nat} (ho : o < 10) (h : PA σ μ) (hq : RQ σ μ o) : ∃ b b' σ' μ', f_X5_readClause σ = some (b, σ') ∧ f_X7_clause μ (Int32.ofNat o) = some (b', μ') ∧ CL o σ μ b b' σ' μ' := by
  unfold f_X5_readClause f_X7_clause
  rcases digit_eq h with ⟨d1, d2, d3, d4⟩ | ⟨e, d1, d2, d3, d4, d5, d6⟩
  · refine ⟨0, 0, σ, μ, ?_, ?_, h, FX_r _, FM_r _ _, Or.inl ⟨rfl, rfl⟩⟩
    · rw [d1, Option.bind_some, w_eq]; simp
    · by_cases c : μ.1 26 0 = μ.1 20 0
      · rw [if_pos c]
      · have c' : ¬ μ.1 20 0 ≤ μ.1 26 0 := fun z => c (Int32.le_antisymm h.2.1.2.1 z)
        obtain ⟨v1, v2, v3, v4, v5⟩ := pa_ix h c'
        have d4' := d4 c'
        have q : ¬ (48 ≤ μ.1 19 (μ.1 26 0).toNatClampNeg ∧ μ.1 19 (μ.1 26 0).toNatClampNeg ≤ 55) := fun z => d4' ⟨z.1, Int32.le_trans z.2 (by decide)⟩
        rw [if_neg c, v1, i_eq, if_neg q]
        rfl
  · obtain ⟨v1, v2, v3, v4, v5⟩ := pa_ix h d5
    have e0 : (0 : Int) ≤ e.toInt := i_le d2.1
    have e9 : e.toInt ≤ 9 := i_le d2.2
    have e48 : (e + 48).toInt = e.toInt + 48 := add_int (x := e) (y := 48) (by show _ ≤ _ + (48 : Int); omega) (by show _ + (48 : Int) < _; omega)
    by_cases c7 : e ≤ 7
    · have e7 : e.toInt ≤ 7 := i_le c7
      have hb : 48 ≤ e + 48 ∧ e + 48 ≤ 55 := ⟨le_int.mpr (by rw [e48]; show (48 : Int) ≤ _; omega), le_int.mpr (by rw [e48]; show _ ≤ (55 : Int); omega)⟩
      have e8 : e.toNatClampNeg < 8 := by
        have := ix_le (n := 7) d2.1 c7 (by decide)
        omega
      obtain ⟨n1, n2⟩ := eight_ix (k := o) (s := e) ho d2.1 e8
      have hy : 8 * Int32.ofNat o + (e + 48) - 48 = 8 * Int32.ofNat o + e := by
        rw [← Int32.add_assoc, Int32.add_sub_cancel]
      have hv8 := vin_of d2.1 e8
      simp only [d1, Option.bind_some, w_eq, i_eq, d2.1, c7, and_self, if_true, i10, if_false, hv8, cond_true, if_neg v3, v1, d6, hb, letm, hy, n1, n2]
      generalize hk : e.toNatClampNeg = k at *
      obtain ⟨q1, q2⟩ := hq k e8
      by_cases s0 : μ.1 22 (8 * o + k) = 0
      · have s1 : σ.1 22 k = -1 := by
          rcases q1 with y | y | y | y
          · exact y.2
          · exact absurd (s0.symm.trans y.1) (by decide)
          · exact absurd (s0.symm.trans y.1) (by decide)
          · exact absurd (s0.symm.trans y.1) (by decide)
        have g0 := q2 s1
        rw [if_pos s0, if_pos s1, h.1.2]
        obtain ⟨b1, σ1, μ1, w1, w2, w3, w4, w5, w6⟩ := word_eq [32, 105, 115, 32] _ _ (pa_step h d5)
        have w1' : rdw (h_byt.getD 1 []) (xi σ 21 (fun _ => μ.1 26 0 + 1)) = some (b1, σ1) := w1
        have w2' : f_X7_takesIs (seti μ 26 (fun _ => μ.1 26 0 + 1)) = some (b1, μ1) := w2
        have fx1 : FX1 σ σ1 := FX1_t (FX1_at _ _) w5
        have fm1 : FM1 μ μ1 := FM1_t (FM1_at _ _) w6
        rw [w1', w2', Option.bind_some, Option.bind_some]
        rcases w3 with rfl | rfl
        · exact ⟨0, 0, σ1, μ1, by rw [if_pos rfl], by rw [if_pos rfl], w4, FX_1 fx1, FM_1 o fm1, Or.inl ⟨rfl, rfl⟩⟩
        · rw [if_neg (n10p σ1), if_neg (n10p μ1)]
          have a22 : σ1.1 22 = σ.1 22 := fx1.2 22 (by decide)
          have a23 : σ1.1 23 = σ.1 23 := fx1.2 23 (by decide)
          have b22 : μ1.1 22 = μ.1 22 := fm1.2 22 (by decide) (by decide)
          have b23 : μ1.1 23 = μ.1 23 := fm1.2 23 (by decide) (by decide)
          have b24 : μ1.1 24 = μ.1 24 := fm1.2 24 (by decide) (by decide)
          rcases here_eq w4 111 with ⟨t1, t2⟩ | ⟨t1, t2, t3, t4⟩
          · simp only [t1, t2, Option.bind_some, if_true]
            rcases num_eq w4 3 (by decide) (by decide) 0 (Or.inl rfl) with ⟨u1, u2⟩ | ⟨v, σ2, μ2, u1, u2, u3, u4, u5, u6, u7, u8⟩
            · have u1' : f_X5_readNumber σ1 0 3 = some (-1, σ1) := u1
              have u2' : f_X7_takesNumber μ1 3 48 = some (0, μ1) := u2
              refine ⟨0, 0, xi σ1 22 (va_up (σ1.1 22) k (-1)), μ1, ?_, ?_, w4, FX_t (FX_1 fx1) (FX_up _ _ _ (Or.inl rfl)), FM_1 o fm1, Or.inl ⟨rfl, rfl⟩⟩
              · simp only [u1', Option.bind_some, xi_self, va_up_self, if_true]
              · simp only [u2', Option.bind_some, if_true]
            · have u1' : f_X5_readNumber σ1 0 3 = some (v, σ2) := u1
              have u2' : f_X7_takesNumber μ1 3 48 = some (1, μ2) := u2
              have vm1 : ¬ v = -1 := fun z => absurd (z ▸ u5) (by decide)
              have v999 : v ≤ 999 := le_int.mpr (by
                have : p10 3 = 1000 := by decide
                show v.toInt ≤ (999 : Int)
                omega)
              have fx2 : FX1 σ σ2 := FX1_t fx1 u7
              have fm2 : FM1 μ μ2 := FM1_t fm1 u8
              have c22 : σ2.1 22 = σ.1 22 := fx2.2 22 (by decide)
              have c23 : σ2.1 23 = σ.1 23 := fx2.2 23 (by decide)
              have d22 : μ2.1 22 = μ.1 22 := fm2.2 22 (by decide) (by decide)
              have d23 : μ2.1 23 = μ.1 23 := fm2.2 23 (by decide) (by decide)
              have d24 : μ2.1 24 = μ.1 24 := fm2.2 24 (by decide) (by decide)
              simp only [u1', u2', Option.bind_some, xi_self, va_up_self, if_neg vm1, i10, if_false, mi_ne (show 27 ≠ 22 by decide), u4]
              generalize hσ : xi σ2 22 (va_up (σ2.1 22) k v) = σ3
              generalize hμ : seti (seti μ2 22 (va_up (μ2.1 22) (8 * o + k) 1)) 23 (va_up ((seti μ2 22 (va_up (μ2.1 22) (8 * o + k) 1)).1 23) (8 * o + k) v) = μ3
              have p3 : PA σ3 μ3 := by
                rw [← hσ, ← hμ]
                exact u3
              have fx3 : FX σ σ3 := by
                rw [← hσ]
                exact FX_t (FX_1 fx2) (FX_up _ _ _ (Or.inl rfl))
              have fm3 : FM o μ μ3 := by
                rw [← hμ]
                exact FM_t (FM_1 o fm2) (FM_t (FM_up _ o _ k _ e8 (Or.inl rfl)) (FM_up _ o _ k _ e8 (Or.inr (Or.inl rfl))))
              have x22 : ∀ j, j ≠ k → σ3.1 22 j = σ.1 22 j := fun j q => by
                rw [← hσ, xi_self, va_up_ne _ _ q, c22]
              have x22k : σ3.1 22 k = v := by
                rw [← hσ, xi_self, va_up_self]
              have x23 : σ3.1 23 = σ.1 23 := by
                rw [← hσ, xi_ne (by decide), c23]
              have y22 : ∀ j, j ≠ 8 * o + k → μ3.1 22 j = μ.1 22 j := fun j q => by
                rw [← hμ, mi_ne (by decide), mi_self, va_up_ne _ _ q, d22]
              have y22k : μ3.1 22 (8 * o + k) = 1 := by
                rw [← hμ, mi_ne (by decide), mi_self, va_up_self]
              have y23 : ∀ j, j ≠ 8 * o + k → μ3.1 23 j = μ.1 23 j := fun j q => by
                rw [← hμ, mi_self, va_up_ne _ _ q, mi_ne (by decide), d23]
              have y23k : μ3.1 23 (8 * o + k) = v := by
                rw [← hμ, mi_self, va_up_self]
              have y24 : μ3.1 24 = μ.1 24 := by
                rw [← hμ, mi_ne (by decide), mi_ne (by decide), d24]
              have rq3 : RQ σ3 μ3 o := by
                refine RQ_up (k := k) hq x22 (fun j _ => by rw [x23]) y22 y23 (fun j _ => by rw [y24]) ⟨Or.inr (Or.inr (Or.inl ⟨y22k, ?_, ?_, ?_, ?_⟩)), ?_⟩
                · rw [x22k, y23k]
                · rw [x23, g0]
                · rw [y23k]; exact u5
                · rw [y23k]; exact v999
                · intro _; rw [x23, g0]
              clear hσ hμ
              rcases here_eq p3 32 with ⟨t1', t2'⟩ | ⟨t1', t2', t3', t4'⟩
              · rw [t1', Option.bind_some, if_pos rfl]
                by_cases c : μ3.1 26 0 = μ3.1 20 0
                · rw [if_pos c]
                  exact ⟨1, 1, σ3, μ3, rfl, rfl, p3, fx3, fm3, Or.inr (Or.inl ⟨rfl, rfl, rq3⟩)⟩
                · have c' : ¬ μ3.1 20 0 ≤ μ3.1 26 0 := fun z => c (Int32.le_antisymm p3.2.1.2.1 z)
                  rw [if_neg c, (pa_ix p3 c').1, cond_true]
                  by_cases c59 : μ3.1 19 (μ3.1 26 0).toNatClampNeg = 59
                  · rw [if_pos c59]
                    exact ⟨1, 1, σ3, μ3, rfl, rfl, p3, fx3, fm3, Or.inr (Or.inl ⟨rfl, rfl, rq3⟩)⟩
                  · rw [if_neg c59]
                    refine ⟨1, 0, σ3, μ3, rfl, ?_, p3, fx3, fm3, Or.inr (Or.inr ⟨rfl, rfl, c', c59⟩)⟩
                    unfold f_X7_takesWeight
                    rw [t2']
                    simp
              · have c : ¬ μ3.1 26 0 = μ3.1 20 0 := (pa_ix p3 t3').2.2.1
                have c59 : ¬ μ3.1 19 (μ3.1 26 0).toNatClampNeg = 59 := fun z => absurd (t4'.symm.trans z) (by decide)
                rw [t1', Option.bind_some, if_neg (by decide), if_neg c, (pa_ix p3 t3').1, cond_true, if_neg c59]
                unfold f_X5_readWeight
                obtain ⟨b4, σ4, μ4, z1, z2, z3, z4, z5, z6⟩ := word_eq [32, 98, 121, 32, 119, 101, 105, 103, 104, 116, 32] _ _ p3
                have z1' : rdw (h_byt.getD 3 []) σ3 = some (b4, σ4) := z1
                have z2' : f_X7_takesWeight μ3 = some (b4, μ4) := z2
                rw [z1', z2', Option.bind_some, Option.bind_some]
                rcases z3 with rfl | rfl
                · exact ⟨0, 0, σ4, μ4, by simp, by simp, z4, FX_t fx3 (FX_1 z5), FM_t fm3 (FM_1 o z6), Or.inl ⟨rfl, rfl⟩⟩
                · rw [if_neg (n10p σ4), if_neg (n10p μ4)]
                  rcases num_eq z4 4 (by decide) (by decide) 1 (Or.inr rfl) with ⟨k1, k2⟩ | ⟨w, σ5, μ5, k1, k2, k3, k4, k5, k6, k7, k8⟩
                  · have k1' : f_X5_readNumber σ4 1 4 = some (-1, σ4) := k1
                    have k2' : f_X7_takesNumber μ4 4 49 = some (0, μ4) := k2
                    refine ⟨0, 0, xi σ4 23 (va_up (σ4.1 23) k (-1)), μ4, ?_, ?_, z4, FX_t (FX_t fx3 (FX_1 z5)) (FX_up _ _ _ (Or.inr rfl)), FM_t fm3 (FM_1 o z6), Or.inl ⟨rfl, rfl⟩⟩
                    · simp only [k1', Option.bind_some, hv8, hk, cond_true, letm, xi_self, va_up_self, if_true]
                    · simp only [k2', Option.bind_some, if_true]
                  · have k1' : f_X5_readNumber σ4 1 4 = some (w, σ5) := k1
                    have k2' : f_X7_takesNumber μ4 4 49 = some (1, μ5) := k2
                    have wm1 : ¬ w = -1 := fun z => absurd (z ▸ k5) (by decide)
                    have w9999 : w ≤ 9999 := le_int.mpr (by
                      have : p10 4 = 10000 := by decide
                      show w.toInt ≤ (9999 : Int)
                      omega)
                    have fx5 : FX1 σ3 σ5 := FX1_t z5 k7
                    have fm5 : FM1 μ3 μ5 := FM1_t z6 k8
                    have m22 : μ5.1 22 = μ3.1 22 := fm5.2 22 (by decide) (by decide)
                    have m23 : μ5.1 23 = μ3.1 23 := fm5.2 23 (by decide) (by decide)
                    have m24 : μ5.1 24 = μ3.1 24 := fm5.2 24 (by decide) (by decide)
                    have s22 : σ5.1 22 = σ3.1 22 := fx5.2 22 (by decide)
                    have s23 : σ5.1 23 = σ3.1 23 := fx5.2 23 (by decide)
                    refine ⟨1, 1, xi σ5 23 (va_up (σ5.1 23) k w), seti (seti μ5 22 (va_up (μ5.1 22) (8 * o + k) 2)) 24 (va_up ((seti μ5 22 (va_up (μ5.1 22) (8 * o + k) 2)).1 24) (8 * o + k) w), ?_, ?_, k3, FX_t (FX_t fx3 (FX_1 fx5)) (FX_up _ _ _ (Or.inr rfl)), FM_t (FM_t fm3 (FM_1 o fm5)) (FM_t (FM_up _ o _ k _ e8 (Or.inl rfl)) (FM_up _ o _ k _ e8 (Or.inr (Or.inr rfl)))), Or.inr (Or.inl ⟨rfl, rfl, ?_⟩)⟩
                    · simp only [k1', Option.bind_some, hv8, hk, cond_true, letm, xi_self, va_up_self, if_neg wm1, i10, if_false]
                    · simp only [k2', Option.bind_some, i10, if_false, mi_ne (show 27 ≠ 22 by decide), k4]
                    · refine RQ_up (k := k) rq3 (fun j q => ?_) (fun j q => ?_) (fun j q => ?_) (fun j q => ?_) (fun j q => ?_) ⟨Or.inr (Or.inr (Or.inr ⟨?_, ?_, ?_, ?_, ?_, ?_, ?_⟩)), ?_⟩
                      · rw [xi_ne (by decide), s22]
                      · rw [xi_self, va_up_ne _ _ q, s23]
                      · rw [mi_ne (by decide), mi_self, va_up_ne _ _ q, m22]
                      · rw [mi_ne (by decide), mi_ne (by decide), m23]
                      · rw [mi_self, va_up_ne _ _ q, mi_ne (by decide), m24]
                      · rw [mi_ne (by decide), mi_self, va_up_self]
                      · rw [xi_ne (by decide), s22, x22k, mi_ne (by decide), mi_ne (by decide), m23, y23k]
                      · rw [xi_self, va_up_self, mi_self, va_up_self]
                      · rw [mi_ne (by decide), mi_ne (by decide), m23, y23k]; exact u5
                      · rw [mi_ne (by decide), mi_ne (by decide), m23, y23k]; exact v999
                      · rw [mi_self, va_up_self]; exact k5
                      · rw [mi_self, va_up_self]; exact w9999
                      · intro z
                        rw [xi_ne (by decide), s22, x22k] at z
                        exact absurd z vm1
          · simp only [t1, t2, Option.bind_some, i10, if_false]
            have hp : PA (xi (xi σ1 22 (va_up (σ1.1 22) k 0)) 21 (fun _ => μ1.1 26 0 + 1)) (seti (seti μ1 26 (fun _ => μ1.1 26 0 + 1)) 22 (va_up ((seti μ1 26 (fun _ => μ1.1 26 0 + 1)).1 22) (8 * o + k) 3)) := pa_step w4 t3
            obtain ⟨b4, σ4, μ4, z1, z2, z3, z4, z5, z6⟩ := word_eq [117, 116] _ _ hp
            have z1' : rdw (h_byt.getD 2 []) (xi σ1 22 (va_up (σ1.1 22) k 0)) = some (b4, σ4) := by
              show rdw (111 :: [117, 116]) _ = _
              have t1' : f_X5_isHere (xi σ1 22 (va_up (σ1.1 22) k 0)) 111 = some 1 := t1
              rw [rdw, t1', Option.bind_some, if_neg (by decide)]
              rw [show (xi σ1 22 (va_up (σ1.1 22) k 0)).1 21 0 = μ1.1 26 0 from w4.1.2]
              exact z1
            have fx4 : FX σ σ4 := FX_t (FX_1 fx1) (FX_t (FX_up σ1 22 (va_up (σ1.1 22) k 0) (Or.inl rfl)) (FX_1 (FX1_t (FX1_at _ _) z5)))
            have fm4 : FM o μ μ4 := FM_t (FM_1 o (FM1_t fm1 (FM1_at μ1 (fun _ => μ1.1 26 0 + 1)))) (FM_t (FM_up _ o 22 k 3 e8 (Or.inl rfl)) (FM_1 o z6))
            have hz : zb b4 = true := by
              rcases z3 with rfl | rfl <;> rfl
            refine ⟨b4, b4, σ4, μ4, ?_, ?_, z4, fx4, fm4, ?_⟩
            · rw [z1', Option.bind_some]
              show (bif zb b4 then _ else none) = _
              rw [hz]; rfl
            · have z2' := z2
              rw [tks] at z2'
              rcases hh : f_X7_takes (seti (seti μ1 26 (fun _ => μ1.1 26 0 + 1)) 22 (va_up ((seti μ1 26 (fun _ => μ1.1 26 0 + 1)).1 22) (8 * o + k) 3)) 117 with _ | ⟨r, τ⟩
              · rw [hh] at z2'; exact absurd z2' (by simp)
              · rw [hh] at z2'
                exact z2'
            · rcases z3 with rfl | rfl
              · exact Or.inl ⟨rfl, rfl⟩
              · refine Or.inr (Or.inl ⟨rfl, rfl, ?_⟩)
                have s22 : σ4.1 22 = va_up (σ1.1 22) k 0 := (z5.2 22 (by decide)).trans ((xi_ne (by decide)).trans (xi_self _ _ _))
                have s23 : σ4.1 23 = σ1.1 23 := (z5.2 23 (by decide)).trans ((xi_ne (by decide)).trans (xi_ne (by decide)))
                have m22 : μ4.1 22 = va_up (μ1.1 22) (8 * o + k) 3 := (z6.2 22 (by decide) (by decide)).trans (mi_self _ _ _)
                have m23 : μ4.1 23 = μ1.1 23 := (z6.2 23 (by decide) (by decide)).trans rfl
                have m24 : μ4.1 24 = μ1.1 24 := (z6.2 24 (by decide) (by decide)).trans rfl
                refine RQ_up (k := k) hq (fun j q => ?_) (fun j q => ?_) (fun j q => ?_) (fun j q => ?_) (fun j q => ?_) ⟨Or.inr (Or.inl ⟨?_, ?_, ?_⟩), ?_⟩
                · rw [s22, va_up_ne _ _ q, a22]
                · rw [s23, a23]
                · rw [m22, va_up_ne _ _ q, b22]
                · rw [m23, b23]
                · rw [m24, b24]
                · rw [m22, va_up_self]
                · rw [s22, va_up_self]
                · rw [s23, a23, g0]
                · intro _; rw [s23, a23, g0]
      · have s1 : ¬ σ.1 22 k = -1 := by
          rcases q1 with y | y | y | y
          · exact absurd y.1 s0
          · rw [y.2.1]; decide
          · intro z
            rw [y.2.1] at z
            exact absurd (z ▸ y.2.2.2.1) (by decide)
          · intro z
            rw [y.2.1] at z
            exact absurd (z ▸ y.2.2.2.1) (by decide)
        rw [if_neg s0, if_neg s1]
        exact ⟨0, 0, σ, μ, rfl, rfl, h, FX_r _, FM_r _ _, Or.inl ⟨rfl, rfl⟩⟩
    · have e7 : ¬ e.toInt ≤ 7 := fun z => c7 (le_int.mpr z)
      have hb : ¬ (48 ≤ e + 48 ∧ e + 48 ≤ 55) := fun z => by
        have : (e + 48).toInt ≤ 55 := i_le z.2
        omega
      refine ⟨0, 0, σ, μ, ?_, ?_, h, FX_r _, FM_r _ _, Or.inl ⟨rfl, rfl⟩⟩
      · rw [d1, Option.bind_some, w_eq, if_neg (fun z => c7 z.2)]; rfl
      · rw [if_neg v3, v1, d6, i_eq, if_neg hb]; rfl
end CLAUSE
