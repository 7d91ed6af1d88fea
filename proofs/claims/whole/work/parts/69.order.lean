/-! THE PURE PART: order, to its end -/
section ORDER
theorem bif_t {β : Type} {b : Bool} {x y : Option β} (h : b = true) : (bif b then x else y) = x := by
  rw [h]
  rfl
/-- the new order in the class -/
theorem init2_eq {σ : xS} {n : Nat} (hn : n < 10) (c2 : σ.2.2.2 2 = n) (c6 : σ.2.2.2 6 = n) (c7 : σ.2.2.2 7 = n) (c8 : σ.2.2.2 8 = n) : ∃ τ, f_X2_init__12_13 (neword σ) (3000 + n) = some τ ∧ (∀ c, c ≠ 1000 + n → c ≠ 2000 + n → c ≠ 3000 + n → τ.1 c = σ.1 c) ∧ (∀ t, t < 6 → τ.1 (1000 + n) t = -1) ∧ τ.1 (2000 + n) = σ.1 22 ∧ τ.1 (3000 + n) = σ.1 23 ∧ τ.2.1 = σ.2.1 ∧ (∀ c j, (c ≠ 130 ∧ c ≠ 131 ∧ c ≠ 132) ∨ j ≠ n → τ.2.2.1 c j = σ.2.2.1 c j) ∧ τ.2.2.1 130 n = some (3400 + n) ∧ τ.2.2.1 131 n = some (3600 + n) ∧ τ.2.2.1 132 n = some (3200 + n) ∧ (∀ c, c ≠ 2 → c ≠ 6 → c ≠ 7 → c ≠ 8 → τ.2.2.2 c = σ.2.2.2 c) ∧ τ.2.2.2 2 = n + 1 ∧ τ.2.2.2 6 = n + 1 ∧ τ.2.2.2 7 = n + 1 ∧ τ.2.2.2 8 = n + 1 := by
  subst c2
  generalize hs : σ.2.2.2 2 = n at *
  have d6 : (neword σ).2.2.2 6 = n := c6
  let A : xS := newoa 1000 6 (fun _ => 0) (neword σ)
  let B : xS := xr A 132 (va_up (A.2.2.1 132) n (some (3200 + n)))
  let C : xS := newoa 2000 7 (B.1 22) B
  let D : xS := xr C 130 (va_up (C.2.2.1 130) n (some (3400 + n)))
  let E : xS := newoa 3000 8 (D.1 23) D
  let F : xS := xr E 131 (va_up (E.2.2.1 131) n (some (3600 + n)))
  let G : xS := xi F (1000 + n) (fillf 6 (-1) (F.1 (1000 + n)))
  have n2 : ∀ τ : xS, τ.2.2.2 2 = n + 1 → isO τ (3000 + n) = true := fun τ h => decide_eq_true ⟨by omega, by omega, by rw [h]; omega⟩
  have kA : A.2.2.2 2 = n + 1 := by
    show σ.2.2.2 2 + 1 = n + 1
    rw [hs]
  have k6' : A.2.2.2 6 = n + 1 := by
    show σ.2.2.2 6 + 1 = n + 1
    rw [c6]
  have k7' : C.2.2.2 7 = n + 1 := by
    show σ.2.2.2 7 + 1 = n + 1
    rw [c7]
  have k8' : E.2.2.2 8 = n + 1 := by
    show σ.2.2.2 8 + 1 = n + 1
    rw [c8]
  have A1 : A.1 = va_up σ.1 (1000 + n) (fun _ => 0) := by
    show va_up σ.1 (1000 + (neword σ).2.2.2 6) (fun _ => 0) = _
    rw [d6]
  have C1 : C.1 = va_up A.1 (2000 + n) (A.1 22) := by
    show va_up A.1 (2000 + σ.2.2.2 7) (A.1 22) = _
    rw [c7]
  have E1 : E.1 = va_up C.1 (3000 + n) (C.1 23) := by
    show va_up C.1 (3000 + σ.2.2.2 8) (C.1 23) = _
    rw [c8]
  have A22 : A.1 22 = σ.1 22 := by
    rw [A1]
    exact va_up_ne _ _ (by omega)
  have C23 : C.1 23 = σ.1 23 := by
    rw [C1, va_up_ne _ _ (by omega), A1]
    exact va_up_ne _ _ (by omega)
  have F132 : F.2.2.1 132 n = some (3200 + n) := va_up_self _ _ _
  refine ⟨G, ?_, ?_, ?_, ?_, ?_, ?_, ?_, ?_, ?_, ?_, ?_, ?_, ?_, ?_, ?_⟩
  · unfold f_X2_init__12_13
    rw [d6]
    refine (bif_t (decide_eq_true (by omega))).trans ?_
    show (bif isO A (3000 + n) then _ else none) = _
    refine (bif_t (n2 A kA)).trans ?_
    rw [Nat.add_sub_cancel_left]
    show (bif decide (B.2.2.2 7 < 200) then _ else none) = _
    have d7 : B.2.2.2 7 = n := c7
    rw [d7]
    refine (bif_t (decide_eq_true (by omega))).trans ?_
    show (bif isO C (3000 + n) then _ else none) = _
    refine (bif_t (n2 C kA)).trans ?_
    show (bif decide (D.2.2.2 8 < 200) then _ else none) = _
    have d8 : D.2.2.2 8 = n := c8
    rw [d8]
    refine (bif_t (decide_eq_true (by omega))).trans ?_
    show (bif isO E (3000 + n) then _ else none) = _
    refine (bif_t (n2 E kA)).trans ?_
    show (bif isO F (3000 + n) then _ else none) = _
    refine (bif_t (n2 F kA)).trans ?_
    show (F.2.2.1 132 n).bind _ = _
    rw [F132, Option.bind_some]
    have hT : isT F (3200 + n) = true := decide_eq_true ⟨by omega, by omega, by
      show 3200 + n - 3200 < A.2.2.2 6
      rw [k6']
      omega⟩
    refine (bif_t hT).trans ?_
    rw [Nat.add_sub_cancel_left]
    rfl
  · intro c h1 h2 h3
    show va_up E.1 (1000 + n) _ c = _
    rw [va_up_ne _ _ h1, E1, va_up_ne _ _ h3, C1, va_up_ne _ _ h2, A1, va_up_ne _ _ h1]
  · intro t ht
    show va_up E.1 (1000 + n) (fillf 6 (-1) (F.1 (1000 + n))) (1000 + n) t = _
    rw [va_up_self]
    unfold fillf
    rw [if_pos ht]
  · show va_up E.1 (1000 + n) _ (2000 + n) = _
    rw [va_up_ne _ _ (by omega), E1, va_up_ne _ _ (by omega), C1, va_up_self, A22]
  · show va_up E.1 (1000 + n) _ (3000 + n) = _
    rw [va_up_ne _ _ (by omega), E1, va_up_self, C23]
  · rfl
  · intro c j h
    have e0 : (neword σ).2.2.1 c j = σ.2.2.1 c j := by
      show (if (130 ≤ c ∧ c < 133) ∧ j = σ.2.2.2 2 then none else σ.2.2.1 c j) = _
      rw [if_neg (by rw [hs]; omega)]
    have e1 : A.2.2.1 c j = σ.2.2.1 c j := e0
    have e2 : B.2.2.1 c j = σ.2.2.1 c j := by
      show va_up A.2.2.1 132 _ c j = _
      by_cases q : c = 132
      · subst q
        rw [va_up_self, va_up_ne _ _ (by omega), e1]
      · rw [va_up_ne _ _ q, e1]
    have e3 : D.2.2.1 c j = σ.2.2.1 c j := by
      show va_up B.2.2.1 130 _ c j = _
      by_cases q : c = 130
      · subst q
        rw [va_up_self, va_up_ne _ _ (by omega)]
        exact e2
      · rw [va_up_ne _ _ q, e2]
    show va_up D.2.2.1 131 _ c j = _
    by_cases q : c = 131
    · subst q
      rw [va_up_self, va_up_ne _ _ (by omega)]
      exact e3
    · rw [va_up_ne _ _ q, e3]
  · exact va_up_self _ _ _
  · exact va_up_self _ _ _
  · exact F132
  · intro c h2 h6 h7 h8
    show va_up (va_up (va_up (va_up σ.2.2.2 2 _) 6 _) 7 _) 8 _ c = _
    rw [va_up_ne _ _ h8, va_up_ne _ _ h7, va_up_ne _ _ h6, va_up_ne _ _ h2]
  · exact kA
  · exact k6'
  · exact k7'
  · exact k8'
set_option maxHeartbeats 4000000 in
theorem H_order : ∀ (σ : xS) (μ : mS), Rel σ μ → ∃ (r : Int32) (σ1 : xS) (μ1 : mS), f_X6_order σ = some (r, σ1) ∧ f_X7_order μ = some (r, μ1) ∧ Rel σ1 μ1 := by
  intro σ μ hR
  obtain ⟨hC, hD, hS, hL, hT, hO, hP, hK, hRr, hG, hM⟩ := id hR
  have h10 := hC.1.2.2
  unfold f_X6_order f_X7_order
  rw [hC.2.2.2.1.1, hC.2.2.2.1.2]
  by_cases hn : nO σ < 10
  · have l1 : Int32.ofNat (nO σ) < 10 := (ofn_lt (m := 10) (by omega) (by decide)).mpr hn
    have l2 : ¬ Int32.ofNat (nO σ) = 10 := fun z => absurd ((ofn_eq (m := 10) (by omega) (by decide)).mp z) (by omega)
    rw [if_pos l1, if_neg l2]
    obtain ⟨W, w1, w2, w3⟩ := L19_eq hn 8 0 4000 μ (by decide) (by decide)
    have w1' : f_X7_order_L19 4000 μ (Int32.ofNat (nO σ)) 0 = some (seti μ 22 W) := w1
    rw [w1', Option.bind_some]
    let σa : xS := xi (xi (xi σ 21 (fun _ => 0)) 22 (fillf 8 (-1) (σ.1 22))) 23 (fillf 8 0 (σ.1 23))
    let μa : mS := seti (seti μ 22 W) 26 (fun _ => 0)
    have fxa : FX σ σa := FX_t (FX_1 (FX1_at σ _)) (FX_t (FX_up _ 22 _ (Or.inl rfl)) (FX_up _ 23 _ (Or.inr rfl)))
    have fma : FM (nO σ) μ μa := by
      refine ⟨rfl, fun c a1 a2 a3 a4 a5 => (mi_ne a4).trans (mi_ne a1), fun c j hj q => ?_⟩
      show (seti (seti μ 22 W) 26 (fun _ => 0)).1 c j = _
      rw [mi_ne (by omega)]
      by_cases e : c = 22
      · subst e
        rw [mi_self, w3 j (by omega)]
      · rw [mi_ne e]
    have pa : PA σa μa := ⟨⟨hT.1.1, rfl⟩, ⟨(by decide : (0 : Int32) ≤ 0), hT.1.2.1, hT.1.2.2⟩, hT.2.1⟩
    have qa : RQ σa μa (nO σ) := by
      intro k hk
      have e1 : σa.1 22 k = -1 := by
        show fillf 8 (-1) (σ.1 22) k = -1
        unfold fillf
        rw [if_pos hk]
      have e2 : σa.1 23 k = 0 := by
        show fillf 8 0 (σ.1 23) k = 0
        unfold fillf
        rw [if_pos hk]
      have e3 : μa.1 22 (8 * nO σ + k) = 0 := w2 _ (by omega) (by omega)
      rw [e1, e2, e3]
      exact ⟨Or.inl ⟨rfl, rfl⟩, fun _ => rfl⟩
    obtain ⟨b, b', σ1, μ1, c1, c2, c3⟩ := clause_eq hn pa qa
    obtain ⟨b2, c, σ2, μ2, e1, e2, e3, e4, e5, e6⟩ := aft (show 1 ≤ 1 by omega) (show 1 ≤ 6 by omega) (show 0 < 3999 by omega) (show 0 < 4000 by omega) (ord_L hn 5 1 3999 4000 (by omega) (by omega) (by omega) (by omega)) c3
    have fx2 : FX σ σ2 := FX_t fxa e4
    have fm2 : FM (nO σ) μ μ2 := FM_t fma e5
    have hcl : f_X5_readClauses_L2 4000 σa 0 = some (c, σ2) := by
      rw [f_X5_readClauses_L2, if_neg (by decide), if_pos (by decide), c1, Option.bind_some]
      exact e1
    have hrR : Rel (xi σ2 20 (fun _ => 0)) (seti μ2 20 (fun _ => 0)) := by
      refine R_ord hR fx2.1 (fun d h1 h2 h3 h4 => (xi_ne h1).trans (fx2.2 d h2 h3 h4)) rfl fm2.1 (fun d h1 h2 h3 h4 h5 h6 => (mi_ne h1).trans (fm2.2.1 d h2 h3 h4 h5 h6)) (fun d j hj q => ?_) rfl
      rw [mi_ne (by omega)]
      exact fm2.2.2 d j (by omega) q
    have hm : ∀ f : Int32 × mS → Option (Int32 × mS), ((f_X7_clause (seti (seti μ 22 W) 26 (fun _ => 0)) (Int32.ofNat (nO σ))).bind fun r52 => (f_X7_order_L56 4000 r52.2 (Int32.ofNat (nO σ)) 1 r52.1).bind f) = f (b2, μ2) := by
      intro f
      have c2' : f_X7_clause (seti (seti μ 22 W) 26 (fun _ => 0)) (Int32.ofNat (nO σ)) = some (b', μ1) := c2
      have e2' : f_X7_order_L56 4000 μ1 (Int32.ofNat (nO σ)) 1 b' = some (b2, μ2) := e2
      rw [c2', Option.bind_some, e2', Option.bind_some]
    have hm' := hm (fun r56 => letm (seti r56.2 20 (fun _ => 0)) fun μ108 => if r56.1 = 0 then some (((-10) - (μ108.1 26 0)), μ108) else (f_X7_order_L126 4000 μ108 (Int32.ofNat (nO σ)) 0).bind fun r126 => letm (seti r126 21 (fun _ => ((r126.1 21 0) + 1))) fun μ159 => some (Int32.ofNat (nO σ), μ159))
    rcases e6 with ⟨rfl, hc3⟩ | ⟨rfl, rfl, rq⟩
    · -- a fault
      have hf : f_X5_findFault σ = some (σ2.1 21 0, σ2) := by
        have hrc : f_X5_readClauses σa = some (0, σ2) := by
          unfold f_X5_readClauses
          rw [hcl, Option.bind_some]
          have : c = 0 ∨ c = 1 ∨ c = 2 := by omega
          rcases this with rfl | rfl | rfl <;> rfl
        unfold f_X5_findFault
        show (f_X5_readClauses σa).bind _ = _
        rw [hrc, Option.bind_some, if_pos rfl]
      refine ⟨-10 - μ2.1 26 0, xi σ2 20 (fun _ => 0), seti μ2 20 (fun _ => 0), ?_, ?_, hrR⟩
      · have em1 : ¬ σ2.1 21 0 = -1 := by
          rw [e3.1.2]
          intro z
          exact absurd (z ▸ e3.2.1.1) (by decide)
        rw [hf, Option.bind_some]
        show (if σ2.1 21 0 = -1 then _ else some (-10 - σ2.1 21 0, xi σ2 20 (fun _ => 0))) = _
        rw [if_neg em1, e3.1.2]
      · refine hm'.trans ?_
        unfold letm
        exact if_pos rfl
    · -- a new order
      have hf : f_X5_findFault σ = some (-1, σ2) := by
        have hrc : f_X5_readClauses σa = some (1, σ2) := by
          unfold f_X5_readClauses
          rw [hcl, Option.bind_some]
          rfl
        unfold f_X5_findFault
        show (f_X5_readClauses σa).bind _ = _
        rw [hrc, Option.bind_some, if_neg (n10p _)]
      obtain ⟨V, v1, v2, v3⟩ := L126_eq hn 6 0 4000 (seti μ2 20 (fun _ => 0)) (by decide) (by decide)
      have v1' : f_X7_order_L126 4000 (seti μ2 20 (fun _ => 0)) (Int32.ofNat (nO σ)) 0 = some (seti (seti μ2 20 (fun _ => 0)) 25 V) := v1
      have q2 : σ2.2 = σ.2 := fx2.1
      have cn2 : (xi σ2 20 (fun _ => 0)).2.2.2 2 = nO σ := by
        show σ2.2.2.2 2 = _
        rw [q2]
      obtain ⟨τ, t1, t2, t3, t4, t5, t6, t7, t8, t9, t10, t11, t12, t13, t14, t15⟩ := init2_eq (σ := xi σ2 20 (fun _ => 0)) hn cn2 (by show σ2.2.2.2 6 = _; rw [q2]; exact hC.2.2.2.2.1.1) (by show σ2.2.2.2 7 = _; rw [q2]; exact hC.2.2.2.2.1.2.1) (by show σ2.2.2.2 8 = _; rw [q2]; exact hC.2.2.2.2.1.2.2)
      have s5 : (xi σ2 20 (fun _ => 0)).1 5 0 = Int32.ofNat (nO σ) := by
        rw [xi_ne (by decide), fx2.2 5 (by decide) (by decide) (by decide)]
        exact hC.2.2.2.1.1
      have t5c : τ.1 5 0 = Int32.ofNat (nO σ) := by
        rw [t2 5 (by omega) (by omega) (by omega)]
        exact s5
      let σZ : xS := xi (xr τ 4 (va_up (τ.2.2.1 4) (nO σ) (some (3000 + nO σ)))) 5 (fun _ => Int32.ofNat (nO σ) + 1)
      let μZ : mS := seti (seti (seti μ2 20 (fun _ => 0)) 25 V) 21 (fun _ => Int32.ofNat (nO σ) + 1)
      refine ⟨Int32.ofNat (nO σ), σZ, μZ, ?_, ?_, ?_⟩
      · rw [hf, Option.bind_some]
        show (bif decide ((xi σ2 20 (fun _ => 0)).2.2.2 2 < 200) then letm (3000 + (xi σ2 20 (fun _ => 0)).2.2.2 2) fun k46 => letm (neword (xi σ2 20 (fun _ => 0))) fun σ46 => (f_X2_init__12_13 σ46 k46).bind fun r64 => bif isO r64 k46 then bif vin ((xi σ2 20 (fun _ => 0)).1 5 0) 10 then letm (xr r64 4 (va_up (r64.2.2.1 4) ((xi σ2 20 (fun _ => 0)).1 5 0).toNatClampNeg (some k46))) fun σ67 => letm (xi σ67 5 (fun _ => ((σ67.1 5 0) + 1))) fun σ76 => some ((σ67.1 5 0), σ76) else none else none else none) = _
        rw [cn2, s5, ofn_vin hn (by decide), ofn_nat (by omega), bif_t (decide_eq_true (show nO σ < 200 by omega))]
        show (f_X2_init__12_13 (neword (xi σ2 20 (fun _ => 0))) (3000 + nO σ)).bind _ = _
        rw [t1, Option.bind_some]
        have hiO : isO τ (3000 + nO σ) = true := decide_eq_true ⟨by omega, by omega, by rw [t12]; omega⟩
        refine (bif_t hiO).trans ?_
        show some (τ.1 5 0, xi (xr τ 4 (va_up (τ.2.2.1 4) (nO σ) (some (3000 + nO σ)))) 5 (fun _ => τ.1 5 0 + 1)) = _
        rw [t5c]
      · refine hm'.trans ?_
        unfold letm
        refine (if_neg (n10p μ2)).trans ?_
        show (f_X7_order_L126 4000 (seti μ2 20 (fun _ => 0)) (Int32.ofNat (nO σ)) 0).bind _ = _
        rw [v1', Option.bind_some]
        have s21 : (seti (seti μ2 20 (fun _ => 0)) 25 V).1 21 0 = Int32.ofNat (nO σ) := by
          rw [mi_ne (by decide), mi_ne (by decide), fm2.2.1 21 (by decide) (by decide) (by decide) (by decide) (by decide)]
          exact hC.2.2.2.1.2
        show some (Int32.ofNat (nO σ), seti (seti (seti μ2 20 (fun _ => 0)) 25 V) 21 (fun _ => (seti (seti μ2 20 (fun _ => 0)) 25 V).1 21 0 + 1)) = _
        rw [s21]
      · -- the relation
        obtain ⟨gC, gD, gS, gL, gT, gO, gP, gK, gRr, gG, gM⟩ := hrR
        have lo : ∀ d, d < 1000 → d ≠ 5 → σZ.1 d = (xi σ2 20 (fun _ => 0)).1 d := fun d h1 h2 => (xi_ne h2).trans (t2 d (by omega) (by omega) (by omega))
        have ml : ∀ d, d ≠ 21 → d ≠ 25 → μZ.1 d = (seti μ2 20 (fun _ => 0)).1 d := fun d h1 h2 => (mi_ne h1).trans (mi_ne h2)
        have r0 : ∀ d j, d ≠ 4 → (d ≠ 130 ∧ d ≠ 131 ∧ d ≠ 132) → σZ.2.2.1 d j = (xi σ2 20 (fun _ => 0)).2.2.1 d j := fun d j h1 h2 => by
          show va_up τ.2.2.1 4 _ d j = _
          rw [va_up_ne _ _ h1]
          exact t7 d j (Or.inl h2)
        have r0' : ∀ d, d ≠ 4 → (d ≠ 130 ∧ d ≠ 131 ∧ d ≠ 132) → σZ.2.2.1 d = (xi σ2 20 (fun _ => 0)).2.2.1 d := fun d h1 h2 => funext (fun j => r0 d j h1 h2)
        have cn : ∀ d, d ≠ 2 → d ≠ 6 → d ≠ 7 → d ≠ 8 → σZ.2.2.2 d = (xi σ2 20 (fun _ => 0)).2.2.2 d := fun d h1 h2 h3 h4 => t11 d h1 h2 h3 h4
        have z2 : σZ.2.2.2 2 = nO σ + 1 := t12
        have z21 : σZ.2.1 = (xi σ2 20 (fun _ => 0)).2.1 := t6
        have z4 : σZ.2.2.1 4 = va_up (τ.2.2.1 4) (nO σ) (some (3000 + nO σ)) := va_up_self τ.2.2.1 4 (va_up (τ.2.2.1 4) (nO σ) (some (3000 + nO σ)))
        have gn : nO (xi σ2 20 (fun _ => 0)) = nO σ := cn2
        refine ⟨⟨?_, ?_, ?_, ?_, ?_, ?_, ?_, fun j hj => ?_, ?_⟩, ?_, ?_, fun i hi => ?_, ⟨?_, ?_, ?_⟩, fun o ho => ⟨fun k hk => ?_, fun t ht => ?_⟩, ?_, ?_, ?_, ?_, ?_⟩
        · unfold nS nLo nO
          rw [cn 0 (by decide) (by decide) (by decide) (by decide), cn 1 (by decide) (by decide) (by decide) (by decide), z2]
          exact ⟨gC.1.1, gC.1.2.1, by omega⟩
        · unfold nS
          rw [cn 0 (by decide) (by decide) (by decide) (by decide), lo 1 (by decide) (by decide), ml 1 (by decide) (by decide)]
          exact gC.2.1
        · unfold nLo
          rw [cn 1 (by decide) (by decide) (by decide) (by decide), lo 3 (by decide) (by decide), ml 7 (by decide) (by decide)]
          exact gC.2.2.1
        · unfold nO
          rw [z2]
          exact ⟨ofn_succ _, ofn_succ _⟩
        · unfold nO
          rw [z2]
          exact ⟨t13, t14, t15⟩
        · unfold nS
          rw [cn 0 (by decide) (by decide) (by decide) (by decide), r0' 0 (by decide) (by decide)]
          exact gC.2.2.2.2.2.1
        · unfold nLo
          rw [cn 1 (by decide) (by decide) (by decide) (by decide), r0' 2 (by decide) (by decide)]
          exact gC.2.2.2.2.2.2.1
        · have hj' : j < nO σ + 1 := by
            unfold nO at hj
            rw [z2] at hj
            exact hj
          by_cases q : j = nO σ
          · subst q
            exact ⟨by rw [z4, va_up_self], t8, t9, t10⟩
          · have := gC.2.2.2.2.2.2.2.1 j (by rw [gn]; omega)
            refine ⟨?_, ?_, ?_, ?_⟩
            · rw [z4, va_up_ne _ _ q]
              exact (t7 4 j (Or.inr q)).trans this.1
            · exact (t7 130 j (Or.inr q)).trans this.2.1
            · exact (t7 131 j (Or.inr q)).trans this.2.2.1
            · exact (t7 132 j (Or.inr q)).trans this.2.2.2
        · rw [r0' 7 (by decide) (by decide)]
          exact gC.2.2.2.2.2.2.2.2
        · unfold RD; rw [lo 16 (by omega) (by omega), ml 6 (by omega) (by omega)]; exact gD
        · unfold RS nS; rw [cn 0 (by decide) (by decide) (by decide) (by decide), lo 120 (by omega) (by omega), lo 121 (by omega) (by omega), lo 122 (by omega) (by omega), lo 123 (by omega) (by omega), ml 2 (by omega) (by omega), ml 3 (by omega) (by omega), ml 4 (by omega) (by omega), ml 5 (by omega) (by omega)]; exact gS
        · have hi' : i < nLo (xi σ2 20 (fun _ => 0)) := by
            unfold nLo at hi
            rw [cn 1 (by decide) (by decide) (by decide) (by decide)] at hi
            exact hi
          unfold RLot nS; rw [cn 0 (by decide) (by decide) (by decide) (by decide), r0' 101 (by decide) (by decide), lo 100 (by omega) (by omega), lo 102 (by omega) (by omega), lo 103 (by omega) (by omega), lo 104 (by omega) (by omega), lo 105 (by omega) (by omega), lo 106 (by omega) (by omega), lo 107 (by omega) (by omega), lo 108 (by omega) (by omega), lo 109 (by omega) (by omega), lo 110 (by omega) (by omega), lo 111 (by omega) (by omega), ml 9 (by omega) (by omega), ml 10 (by omega) (by omega), ml 8 (by omega) (by omega), ml 11 (by omega) (by omega), ml 16 (by omega) (by omega), ml 17 (by omega) (by omega), ml 18 (by omega) (by omega), ml 12 (by omega) (by omega), ml 4 (by omega) (by omega), ml 13 (by omega) (by omega), ml 14 (by omega) (by omega), ml 15 (by omega) (by omega), ml 6 (by omega) (by omega)]; exact gL i hi'
        · rw [lo 20 (by omega) (by omega), ml 20 (by omega) (by omega)]; exact gT.1
        · rw [lo 24 (by omega) (by omega), ml 19 (by omega) (by omega)]; exact gT.2.1
        · unfold nLo; rw [cn 1 (by decide) (by decide) (by decide) (by decide), ml 16 (by omega) (by omega), ml 17 (by omega) (by omega), ml 18 (by omega) (by omega)]; exact gT.2.2
        · have ho' : o < nO σ + 1 := by
            unfold nO at ho
            rw [z2] at ho
            exact ho
          rw [ml 22 (by omega) (by omega), ml 23 (by omega) (by omega), ml 24 (by omega) (by omega)]
          by_cases q : o = nO σ
          · subst q
            have a1 : σZ.1 (2000 + nO σ) = σ2.1 22 := (xi_ne (by omega)).trans (t4.trans (xi_ne (by decide)))
            have a2 : σZ.1 (3000 + nO σ) = σ2.1 23 := (xi_ne (by omega)).trans (t5.trans (xi_ne (by decide)))
            rw [a1, a2]
            exact rq k hk
          · have a1 : σZ.1 (2000 + o) = (xi σ2 20 (fun _ => 0)).1 (2000 + o) := (xi_ne (by omega)).trans (t2 _ (by omega) (by omega) (by omega))
            have a2 : σZ.1 (3000 + o) = (xi σ2 20 (fun _ => 0)).1 (3000 + o) := (xi_ne (by omega)).trans (t2 _ (by omega) (by omega) (by omega))
            rw [a1, a2]
            exact (gO o (by rw [gn]; omega)).1 k hk
        · have ho' : o < nO σ + 1 := by
            unfold nO at ho
            rw [z2] at ho
            exact ho
          have a25 : μZ.1 25 = V := (mi_ne (by decide)).trans (mi_self _ _ _)
          rw [a25]
          by_cases q : o = nO σ
          · subst q
            have a1 : σZ.1 (1000 + nO σ) t = -1 := by
              rw [show σZ.1 (1000 + nO σ) = τ.1 (1000 + nO σ) from xi_ne (by omega)]
              exact t3 t ht
            rw [a1, v2 _ (by omega) (by omega)]
            decide
          · have a1 : σZ.1 (1000 + o) = (xi σ2 20 (fun _ => 0)).1 (1000 + o) := (xi_ne (by omega)).trans (t2 _ (by omega) (by omega) (by omega))
            rw [a1, v3 _ (by omega)]
            exact (gO o (by rw [gn]; omega)).2 t ht
        · unfold RP; rw [lo 11 (by omega) (by omega), lo 10 (by omega) (by omega), ml 29 (by omega) (by omega), ml 30 (by omega) (by omega)]; exact gP
        · unfold RK; rw [z21]; exact gK
        · unfold RR; rw [lo 8 (by omega) (by omega), ml 32 (by omega) (by omega)]; exact gRr
        · unfold RG; rw [lo 13 (by omega) (by omega), lo 14 (by omega) (by omega), ml 42 (by omega) (by omega), ml 43 (by omega) (by omega)]; exact gG
        · unfold RM; rw [z21, lo 142 (by omega) (by omega), lo 146 (by omega) (by omega), lo 147 (by omega) (by omega), lo 148 (by omega) (by omega), ml 35 (by omega) (by omega), ml 38 (by omega) (by omega), ml 39 (by omega) (by omega), ml 40 (by omega) (by omega), ml 16 (by omega) (by omega)]; exact gM
  · have e : nO σ = 10 := by omega
    have l1 : ¬ Int32.ofNat (nO σ) < 10 := by rw [e]; decide
    have l2 : Int32.ofNat (nO σ) = 10 := by rw [e]; rfl
    exact ⟨-4, σ, μ, by rw [if_neg l1], by rw [if_pos l2], hR⟩
end ORDER
