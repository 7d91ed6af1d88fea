section START2
theorem nth_cons {β : Type} (a : Option β) (l : List (Option β)) (n : Nat) : nth (a :: l) (n + 1) = nth l n := rfl
theorem st_h0 : hup roN 0 (.inr (6, dfX6)) = gp 0 26 roN cx_104 := by
  funext k
  by_cases q : k = 0
  · subst q; rfl
  · rw [hup_ne q]
    unfold gp
    by_cases h : k < 26
    · rw [if_pos (by omega), Nat.sub_zero]
      have : ∀ i : Nat, i < 26 → i ≠ 0 → nth cx_104 i = none := by
        intro i h1 h2
        have : i = 1 ∨ i = 2 ∨ i = 3 ∨ i = 4 ∨ i = 5 ∨ i = 6 ∨ i = 7 ∨ i = 8 ∨ i = 9 ∨ i = 10 ∨ i = 11 ∨ i = 12 ∨ i = 13 ∨ i = 14 ∨ i = 15 ∨ i = 16 ∨ i = 17 ∨ i = 18 ∨ i = 19 ∨ i = 20 ∨ i = 21 ∨ i = 22 ∨ i = 23 ∨ i = 24 ∨ i = 25 := by omega
        rcases this with rfl | rfl | rfl | rfl | rfl | rfl | rfl | rfl | rfl | rfl | rfl | rfl | rfl | rfl | rfl | rfl | rfl | rfl | rfl | rfl | rfl | rfl | rfl | rfl | rfl <;> rfl
      exact (this k h q).symm
    · rw [if_neg (by omega)]
theorem st_h1 {g : hH} (hg : ∀ k, 5000 ≤ k → k < 5050 → g k = none) : hup g 5000 (.inr (7, dfX7)) = gp 5000 50 g cm_1 := by
  funext k
  by_cases q : k = 5000
  · subst q
    rw [hup_self]
    exact Eq.symm (gp_k (b := 5000) (n := 50) (j := 0) (key := 5000) (g := g) (L := cm_1) (e := some (.inr (7, dfX7))) rfl (by decide) rfl)
  · rw [hup_ne q]
    unfold gp
    by_cases h : 5000 ≤ k ∧ k < 5050
    · rw [if_pos (by omega), hg k h.1 h.2]
      have : ∀ (n i : Nat), nth (List.replicate n (none : Option hE)) i = none := by
        intro n
        induction n with
        | zero => intro i; rfl
        | succ n ih =>
          intro i
          cases i with
          | zero => rfl
          | succ i => exact ih i
      have e : k - 5000 = (k - 5001) + 1 := by omega
      rw [e, show cm_1 = some (.inr (7, dfX7)) :: List.replicate 49 none from rfl, nth_cons]
      exact (this 49 (k - 5001)).symm
    · rw [if_neg (by omega)]
set_option maxHeartbeats 4000000 in
set_option maxRecDepth 100000 in
theorem law_start {p : Program} {l : Launch} {e : Env} {s : State} {m : MethodId} {below : List Frame} {meth : Method} {c : Code} {b L : Nat} {xs : Nat → Int32} {D : hG} {αc : Nat → Nat} (hL : L ≤ 3584) (C : h_LC p s m meth c b L xs D) {Rel : xS → mS → Prop} (R0 : Rel σ0 μ0)
    (H0 : ∀ (σ : xS) (μ : mS), Rel σ μ → ∀ (a0 : Int32) (a1 : Int32) (a2 : Int32) (a3 : Int32), ∃ (r : Int32) (σ1 : xS) (μ1 : mS), f_X6_sort σ a0 a1 a2 a3 = some (r, σ1) ∧ f_X7_sort μ a0 a1 a2 a3 = some (r, μ1) ∧ Rel σ1 μ1)
    (H1 : ∀ (σ : xS) (μ : mS), Rel σ μ → ∀ (a0 : Int32) (a1 : Int32) (a2 : Int32) (a3 : Int32) (a4 : Int32) (a5 : Int32), ∃ (r : Int32) (σ1 : xS) (μ1 : mS), f_X6_lot σ a0 a1 a2 a3 a4 a5 = some (r, σ1) ∧ f_X7_lot μ a0 a1 a2 a3 a4 a5 = some (r, μ1) ∧ Rel σ1 μ1)
    (H2 : ∀ (σ : xS) (μ : mS), Rel σ μ → ∀ (a0 : Int32) (a1 : Int32), ∃ (r : Int32) (σ1 : xS) (μ1 : mS), f_X6_open σ a0 a1 = some (r, σ1) ∧ f_X7_open μ a0 a1 = some (r, μ1) ∧ Rel σ1 μ1)
    (H3 : ∀ (σ : xS) (μ : mS), Rel σ μ → ∀ (a0 : Int32) (a1 : Int32), ∃ (r : Int32), f_X6_about σ a0 a1 = some r ∧ f_X7_about μ a0 a1 = some r ∧ Rel σ μ)
    (H4 : ∀ (σ : xS) (μ : mS), Rel σ μ → ∀ (a0 : Int32), ∃ (r : Int64), f_X6_silver σ a0 = some r ∧ f_X7_silver μ a0 = some r ∧ Rel σ μ)
    (H5 : ∀ (σ : xS) (μ : mS), Rel σ μ → ∀ (a0 : Int32), ∃ (r : Int32) (σ1 : xS) (μ1 : mS), f_X6_today σ a0 = some (r, σ1) ∧ f_X7_today μ a0 = some (r, μ1) ∧ Rel σ1 μ1)
    (H6 : ∀ (σ : xS) (μ : mS), Rel σ μ → ∀ (a0 : Int64) (a1 : Int32), ∃ (r : Int32) (σ1 : xS) (μ1 : mS), f_X6_feed σ a0 a1 = some (r, σ1) ∧ f_X7_feed μ a0 a1 = some (r, μ1) ∧ Rel σ1 μ1)
    (H7 : ∀ (σ : xS) (μ : mS), Rel σ μ → ∃ (r : Int32) (σ1 : xS) (μ1 : mS), f_X6_order σ = some (r, σ1) ∧ f_X7_order μ = some (r, μ1) ∧ Rel σ1 μ1)
    (H8 : ∀ (σ : xS) (μ : mS), Rel σ μ → ∀ (a0 : Int32) (a1 : Int32), ∃ (r : Int32) (σ1 : xS) (μ1 : mS), f_X6_tell σ a0 a1 = some (r, σ1) ∧ f_X7_tell μ a0 a1 = some (r, μ1) ∧ Rel σ1 μ1)
    (H9 : ∀ (σ : xS) (μ : mS), Rel σ μ → ∀ (a0 : Int32) (a1 : Int32), ∃ (r : Int32), f_X6_force σ a0 a1 = some r ∧ f_X7_force μ a0 a1 = some r ∧ Rel σ μ)
    (H10 : ∀ (σ : xS) (μ : mS), Rel σ μ → ∀ (a0 : Int32) (a1 : Int32) (a2 : Int32), ∃ (r : Int32), f_X6_pass σ a0 a1 a2 = some r ∧ f_X7_pass μ a0 a1 a2 = some r ∧ Rel σ μ)
    (H11 : ∀ (σ : xS) (μ : mS), Rel σ μ → ∀ (a0 : Int32) (a1 : Int32) (a2 : Int32) (a3 : Int32), ∃ (r : Int32), f_X6_light σ a0 a1 a2 a3 = some r ∧ f_X7_light μ a0 a1 a2 a3 = some r ∧ Rel σ μ)
    (H12 : ∀ (σ : xS) (μ : mS), Rel σ μ → ∀ (a0 : Int32) (a1 : Int32), ∃ (r : Int32) (σ1 : xS) (μ1 : mS), f_X6_pay σ a0 a1 = some (r, σ1) ∧ f_X7_pay μ a0 a1 = some (r, μ1) ∧ Rel σ1 μ1)
    (H13 : ∀ (σ : xS) (μ : mS), Rel σ μ → ∀ (a0 : Int32), ∃ (r : Int32), f_X6_paid σ a0 = some r ∧ f_X7_paid μ a0 = some r ∧ Rel σ μ)
    (H14 : ∀ (σ : xS) (μ : mS), Rel σ μ → ∀ (a0 : Int32), ∃ (r : Int64), f_X6_credit σ a0 = some r ∧ f_X7_credit μ a0 = some r ∧ Rel σ μ)
    (H15 : ∀ (σ : xS) (μ : mS), Rel σ μ → ∀ (a0 : Int32), ∃ (r : Int32) (σ1 : xS) (μ1 : mS), f_X6_give σ a0 = some (r, σ1) ∧ f_X7_give μ a0 = some (r, μ1) ∧ Rel σ1 μ1)
    (H16 : ∀ (σ : xS) (μ : mS), Rel σ μ → ∀ (a0 : Int32) (a1 : Int32), ∃ (r : Int32) (σ1 : xS), f_X6_lack σ a0 a1 = some (r, σ1) ∧ f_X7_lack μ a0 a1 = some r ∧ Rel σ1 μ)
    (H17 : ∀ (σ : xS) (μ : mS), Rel σ μ → ∀ (a0 : Int32) (a1 : Int32) (a2 : Int32), ∃ (r : Int32) (σ1 : xS) (μ1 : mS), f_X6_road σ a0 a1 a2 = some (r, σ1) ∧ f_X7_road μ a0 a1 a2 = some (r, μ1) ∧ Rel σ1 μ1)
    (H18 : ∀ (σ : xS) (μ : mS), Rel σ μ → ∀ (a0 : Int32) (a1 : Int32), ∃ (r : Int32) (σ1 : xS) (μ1 : mS), f_X6_send σ a0 a1 = some (r, σ1) ∧ f_X7_send μ a0 a1 = some (r, μ1) ∧ Rel σ1 μ1)
    (H19 : ∀ (σ : xS) (μ : mS), Rel σ μ → ∀ (a0 : Int32) (a1 : Int32), ∃ (r : Int32) (σ1 : xS) (μ1 : mS), f_X6_bring σ a0 a1 = some (r, σ1) ∧ f_X7_bring μ a0 a1 = some (r, μ1) ∧ Rel σ1 μ1)
    (H20 : ∀ (σ : xS) (μ : mS), Rel σ μ → ∀ (a0 : Int32), ∃ (r : Int32) (σ1 : xS) (μ1 : mS), f_X6_melt σ a0 = some (r, σ1) ∧ f_X7_melt μ a0 = some (r, μ1) ∧ Rel σ1 μ1)
    (H21 : ∀ (σ : xS) (μ : mS), Rel σ μ → ∀ (a0 : Int32) (a1 : Int32), ∃ (r : Int32) (σ1 : xS) (μ1 : mS), f_X6_furnace σ a0 a1 = some (r, σ1) ∧ f_X7_furnace μ a0 a1 = some (r, μ1) ∧ Rel σ1 μ1)
    (H22 : ∀ (σ : xS) (μ : mS), Rel σ μ → ∀ (a0 : Int32), ∃ (r : Int32) (σ1 : xS) (μ1 : mS), f_X6_refine σ a0 = some (r, σ1) ∧ f_X7_refine μ a0 = some (r, μ1) ∧ Rel σ1 μ1)
    (H23 : ∀ (σ : xS) (μ : mS), Rel σ μ → ∀ (a0 : Int32) (a1 : Int32) (a2 : Int32), ∃ (r : Int32) (σ1 : xS) (μ1 : mS), f_X6_strike σ a0 a1 a2 = some (r, σ1) ∧ f_X7_strike μ a0 a1 a2 = some (r, μ1) ∧ Rel σ1 μ1)
    (H24 : ∀ (σ : xS) (μ : mS), Rel σ μ → ∀ (a0 : Int32) (a1 : Int32), ∃ (r : Int64), f_X6_mint σ a0 a1 = some r ∧ f_X7_mint μ a0 a1 = some r ∧ Rel σ μ)
    (H25 : ∀ (σ : xS) (μ : mS), Rel σ μ → ∃ (r : Int64), f_X6_all σ = some r ∧ f_X7_all μ = some r ∧ Rel σ μ)
    (H26 : ∀ (σ : xS) (μ : mS), Rel σ μ → ∀ (a0 : Int32) (a1 : Int32) (a2 : Int32) (a3 : Int32), ∃ (r : Int32), f_X6_drawn σ a0 a1 a2 a3 = some r ∧ f_X7_drawn μ a0 a1 a2 a3 = some r ∧ Rel σ μ)
    (H27 : ∀ (σ : xS) (μ : mS), Rel σ μ → ∀ (a0 : Int32) (a1 : Int32) (a2 : Int32), ∃ (r : Int32) (σ1 : xS) (μ1 : mS), f_X6_wish σ a0 a1 a2 = some (r, σ1) ∧ f_X7_wish μ a0 a1 a2 = some (r, μ1) ∧ Rel σ1 μ1)
    (H28 : ∀ (σ : xS) (μ : mS), Rel σ μ → ∃ (r : Int32) (σ1 : xS) (μ1 : mS), f_X6_flow σ = some (r, σ1) ∧ f_X7_flow μ = some (r, μ1) ∧ Rel σ1 μ1)
    (H29 : ∀ (σ : xS) (μ : mS), Rel σ μ → ∃ (r : Int32), f_X6_sent σ = some r ∧ f_X7_sent μ = some r ∧ Rel σ μ)
    (H30 : ∀ (σ : xS) (μ : mS), Rel σ μ → ∀ (a0 : Int32), ∃ (r : Int32), f_X6_count σ a0 = some r ∧ f_X7_count μ a0 = some r ∧ Rel σ μ) : JL p l e s m below meth c b D αc 0 0 roN 0 [(0, .ref (9001 + 30))] [] := by
  refine l_new (pc' := 3) (key := 0) (ci := 6) (fs := dfX6) C tokL_H rfl rfl klL_7 rfl dfX6_ok (by decide) rfl (by decide) (Nat.le_of_ble_eq_true rfl) (Nat.le_of_ble_eq_true rfl) ?_
  refine l_heap st_h0 ?_
  refine l_dup (pc' := 4) C tokL_H rfl rfl rfl ?_
  refine l_i0 (pc' := 7) C tokL_H rfl rfl miX6_init rfl lnL_9 (s_class_init (fun _ _ _ => rfl)) (h_rm_of rfl) (Nat.le_of_ble_eq_true rfl) ?_
  refine l_astore_n (pc' := 8) (ls' := [(1, _), (0, _)]) C tokL_H rfl rfl (by decide) rfl ?_
  refine l_new (pc' := 11) (key := 5000) (ci := 7) (fs := dfX7) C tokL_H rfl rfl klL_10 rfl dfX7_ok (by decide) (gx_g (Nat.le_of_ble_eq_true rfl)) (by decide) (Nat.le_of_ble_eq_true rfl) (Nat.le_of_ble_eq_true rfl) ?_
  refine l_heap (st_h1 (fun k h1 _ => gx_g (by omega))) ?_
  refine l_dup (pc' := 12) C tokL_H rfl rfl rfl ?_
  refine l_i0 (pc' := 15) C tokL_H rfl rfl miX7_init rfl lnL_12 (s_model_init _) (h_rm_of rfl) (Nat.le_of_ble_eq_true rfl) ?_
  refine l_heap (gxgm roN σ0 μ0).symm ?_
  refine l_astore_n (pc' := 16) (ls' := [(2, _), (1, _), (0, _)]) C tokL_H rfl rfl (by decide) rfl ?_
  refine l_iconst (v := 0) (pc' := 17) C tokL_H rfl rfl (by decide) ?_
  refine l_istore_n (pc' := 18) (ls' := [(3, _), (2, _), (1, _), (0, _)]) C tokL_H rfl rfl (by decide) rfl ?_
  refine l_widen (a := 70) (d := 2000) (Nat.le_of_ble_eq_true rfl) (Nat.le_of_ble_eq_true rfl) ?_
  exact law_loop hL C H0 H1 H2 H3 H4 H5 H6 H7 H8 H9 H10 H11 H12 H13 H14 H15 H16 H17 H18 H19 H20 H21 H22 H23 H24 H25 H26 H27 H28 H29 H30 L 0 σ0 μ0 (by omega) (by omega) R0
set_option maxHeartbeats 4000000 in
set_option maxRecDepth 100000 in
theorem whole_open {p : Program} {e : Env} {s : State} {m : MethodId} {below : List Frame} {meth : Method} {c : Code} (l : Launch) {b L : Nat} {xs : Nat → Int32} (hL : L ≤ 3584) (C0 : lw_At p s m meth c b L xs) {Rel : xS → mS → Prop} (R0 : Rel σ0 μ0)
    (H0 : ∀ (σ : xS) (μ : mS), Rel σ μ → ∀ (a0 : Int32) (a1 : Int32) (a2 : Int32) (a3 : Int32), ∃ (r : Int32) (σ1 : xS) (μ1 : mS), f_X6_sort σ a0 a1 a2 a3 = some (r, σ1) ∧ f_X7_sort μ a0 a1 a2 a3 = some (r, μ1) ∧ Rel σ1 μ1)
    (H1 : ∀ (σ : xS) (μ : mS), Rel σ μ → ∀ (a0 : Int32) (a1 : Int32) (a2 : Int32) (a3 : Int32) (a4 : Int32) (a5 : Int32), ∃ (r : Int32) (σ1 : xS) (μ1 : mS), f_X6_lot σ a0 a1 a2 a3 a4 a5 = some (r, σ1) ∧ f_X7_lot μ a0 a1 a2 a3 a4 a5 = some (r, μ1) ∧ Rel σ1 μ1)
    (H2 : ∀ (σ : xS) (μ : mS), Rel σ μ → ∀ (a0 : Int32) (a1 : Int32), ∃ (r : Int32) (σ1 : xS) (μ1 : mS), f_X6_open σ a0 a1 = some (r, σ1) ∧ f_X7_open μ a0 a1 = some (r, μ1) ∧ Rel σ1 μ1)
    (H3 : ∀ (σ : xS) (μ : mS), Rel σ μ → ∀ (a0 : Int32) (a1 : Int32), ∃ (r : Int32), f_X6_about σ a0 a1 = some r ∧ f_X7_about μ a0 a1 = some r ∧ Rel σ μ)
    (H4 : ∀ (σ : xS) (μ : mS), Rel σ μ → ∀ (a0 : Int32), ∃ (r : Int64), f_X6_silver σ a0 = some r ∧ f_X7_silver μ a0 = some r ∧ Rel σ μ)
    (H5 : ∀ (σ : xS) (μ : mS), Rel σ μ → ∀ (a0 : Int32), ∃ (r : Int32) (σ1 : xS) (μ1 : mS), f_X6_today σ a0 = some (r, σ1) ∧ f_X7_today μ a0 = some (r, μ1) ∧ Rel σ1 μ1)
    (H6 : ∀ (σ : xS) (μ : mS), Rel σ μ → ∀ (a0 : Int64) (a1 : Int32), ∃ (r : Int32) (σ1 : xS) (μ1 : mS), f_X6_feed σ a0 a1 = some (r, σ1) ∧ f_X7_feed μ a0 a1 = some (r, μ1) ∧ Rel σ1 μ1)
    (H7 : ∀ (σ : xS) (μ : mS), Rel σ μ → ∃ (r : Int32) (σ1 : xS) (μ1 : mS), f_X6_order σ = some (r, σ1) ∧ f_X7_order μ = some (r, μ1) ∧ Rel σ1 μ1)
    (H8 : ∀ (σ : xS) (μ : mS), Rel σ μ → ∀ (a0 : Int32) (a1 : Int32), ∃ (r : Int32) (σ1 : xS) (μ1 : mS), f_X6_tell σ a0 a1 = some (r, σ1) ∧ f_X7_tell μ a0 a1 = some (r, μ1) ∧ Rel σ1 μ1)
    (H9 : ∀ (σ : xS) (μ : mS), Rel σ μ → ∀ (a0 : Int32) (a1 : Int32), ∃ (r : Int32), f_X6_force σ a0 a1 = some r ∧ f_X7_force μ a0 a1 = some r ∧ Rel σ μ)
    (H10 : ∀ (σ : xS) (μ : mS), Rel σ μ → ∀ (a0 : Int32) (a1 : Int32) (a2 : Int32), ∃ (r : Int32), f_X6_pass σ a0 a1 a2 = some r ∧ f_X7_pass μ a0 a1 a2 = some r ∧ Rel σ μ)
    (H11 : ∀ (σ : xS) (μ : mS), Rel σ μ → ∀ (a0 : Int32) (a1 : Int32) (a2 : Int32) (a3 : Int32), ∃ (r : Int32), f_X6_light σ a0 a1 a2 a3 = some r ∧ f_X7_light μ a0 a1 a2 a3 = some r ∧ Rel σ μ)
    (H12 : ∀ (σ : xS) (μ : mS), Rel σ μ → ∀ (a0 : Int32) (a1 : Int32), ∃ (r : Int32) (σ1 : xS) (μ1 : mS), f_X6_pay σ a0 a1 = some (r, σ1) ∧ f_X7_pay μ a0 a1 = some (r, μ1) ∧ Rel σ1 μ1)
    (H13 : ∀ (σ : xS) (μ : mS), Rel σ μ → ∀ (a0 : Int32), ∃ (r : Int32), f_X6_paid σ a0 = some r ∧ f_X7_paid μ a0 = some r ∧ Rel σ μ)
    (H14 : ∀ (σ : xS) (μ : mS), Rel σ μ → ∀ (a0 : Int32), ∃ (r : Int64), f_X6_credit σ a0 = some r ∧ f_X7_credit μ a0 = some r ∧ Rel σ μ)
    (H15 : ∀ (σ : xS) (μ : mS), Rel σ μ → ∀ (a0 : Int32), ∃ (r : Int32) (σ1 : xS) (μ1 : mS), f_X6_give σ a0 = some (r, σ1) ∧ f_X7_give μ a0 = some (r, μ1) ∧ Rel σ1 μ1)
    (H16 : ∀ (σ : xS) (μ : mS), Rel σ μ → ∀ (a0 : Int32) (a1 : Int32), ∃ (r : Int32) (σ1 : xS), f_X6_lack σ a0 a1 = some (r, σ1) ∧ f_X7_lack μ a0 a1 = some r ∧ Rel σ1 μ)
    (H17 : ∀ (σ : xS) (μ : mS), Rel σ μ → ∀ (a0 : Int32) (a1 : Int32) (a2 : Int32), ∃ (r : Int32) (σ1 : xS) (μ1 : mS), f_X6_road σ a0 a1 a2 = some (r, σ1) ∧ f_X7_road μ a0 a1 a2 = some (r, μ1) ∧ Rel σ1 μ1)
    (H18 : ∀ (σ : xS) (μ : mS), Rel σ μ → ∀ (a0 : Int32) (a1 : Int32), ∃ (r : Int32) (σ1 : xS) (μ1 : mS), f_X6_send σ a0 a1 = some (r, σ1) ∧ f_X7_send μ a0 a1 = some (r, μ1) ∧ Rel σ1 μ1)
    (H19 : ∀ (σ : xS) (μ : mS), Rel σ μ → ∀ (a0 : Int32) (a1 : Int32), ∃ (r : Int32) (σ1 : xS) (μ1 : mS), f_X6_bring σ a0 a1 = some (r, σ1) ∧ f_X7_bring μ a0 a1 = some (r, μ1) ∧ Rel σ1 μ1)
    (H20 : ∀ (σ : xS) (μ : mS), Rel σ μ → ∀ (a0 : Int32), ∃ (r : Int32) (σ1 : xS) (μ1 : mS), f_X6_melt σ a0 = some (r, σ1) ∧ f_X7_melt μ a0 = some (r, μ1) ∧ Rel σ1 μ1)
    (H21 : ∀ (σ : xS) (μ : mS), Rel σ μ → ∀ (a0 : Int32) (a1 : Int32), ∃ (r : Int32) (σ1 : xS) (μ1 : mS), f_X6_furnace σ a0 a1 = some (r, σ1) ∧ f_X7_furnace μ a0 a1 = some (r, μ1) ∧ Rel σ1 μ1)
    (H22 : ∀ (σ : xS) (μ : mS), Rel σ μ → ∀ (a0 : Int32), ∃ (r : Int32) (σ1 : xS) (μ1 : mS), f_X6_refine σ a0 = some (r, σ1) ∧ f_X7_refine μ a0 = some (r, μ1) ∧ Rel σ1 μ1)
    (H23 : ∀ (σ : xS) (μ : mS), Rel σ μ → ∀ (a0 : Int32) (a1 : Int32) (a2 : Int32), ∃ (r : Int32) (σ1 : xS) (μ1 : mS), f_X6_strike σ a0 a1 a2 = some (r, σ1) ∧ f_X7_strike μ a0 a1 a2 = some (r, μ1) ∧ Rel σ1 μ1)
    (H24 : ∀ (σ : xS) (μ : mS), Rel σ μ → ∀ (a0 : Int32) (a1 : Int32), ∃ (r : Int64), f_X6_mint σ a0 a1 = some r ∧ f_X7_mint μ a0 a1 = some r ∧ Rel σ μ)
    (H25 : ∀ (σ : xS) (μ : mS), Rel σ μ → ∃ (r : Int64), f_X6_all σ = some r ∧ f_X7_all μ = some r ∧ Rel σ μ)
    (H26 : ∀ (σ : xS) (μ : mS), Rel σ μ → ∀ (a0 : Int32) (a1 : Int32) (a2 : Int32) (a3 : Int32), ∃ (r : Int32), f_X6_drawn σ a0 a1 a2 a3 = some r ∧ f_X7_drawn μ a0 a1 a2 a3 = some r ∧ Rel σ μ)
    (H27 : ∀ (σ : xS) (μ : mS), Rel σ μ → ∀ (a0 : Int32) (a1 : Int32) (a2 : Int32), ∃ (r : Int32) (σ1 : xS) (μ1 : mS), f_X6_wish σ a0 a1 a2 = some (r, σ1) ∧ f_X7_wish μ a0 a1 a2 = some (r, μ1) ∧ Rel σ1 μ1)
    (H28 : ∀ (σ : xS) (μ : mS), Rel σ μ → ∃ (r : Int32) (σ1 : xS) (μ1 : mS), f_X6_flow σ = some (r, σ1) ∧ f_X7_flow μ = some (r, μ1) ∧ Rel σ1 μ1)
    (H29 : ∀ (σ : xS) (μ : mS), Rel σ μ → ∃ (r : Int32), f_X6_sent σ = some r ∧ f_X7_sent μ = some r ∧ Rel σ μ)
    (H30 : ∀ (σ : xS) (μ : mS), Rel σ μ → ∀ (a0 : Int32), ∃ (r : Int32), f_X6_count σ a0 = some r ∧ f_X7_count μ a0 = some r ∧ Rel σ μ) : W p l e room_1 s m #[Value.ref b] below meth c s.heap [] 0 0 (lw_Z below #[Value.ref b] s) (entryFrame m ([Value.ref b] : List Value).toArray 4) := by
  obtain ⟨D, C, hB⟩ := st_ctx C0
  have K := law_start (p := p) (l := l) (e := e) (below := below) (αc := fun k => h_cn D (k - 9001)) hL C R0 H0 H1 H2 H3 H4 H5 H6 H7 H8 H9 H10 H11 H12 H13 H14 H15 H16 H17 H18 H19 H20 H21 H22 H23 H24 H25 H26 H27 H28 H29 H30
  have hWd : h_Wd D (fun k => h_cn D (k - 9001)) roN (fun k => h_cn D (k - 9001)) (fun _ => none) s s.heap [] := by
    refine ⟨fun k x h => (by cases h), ⟨fun i j h => absurd rfl h, fun k _ h => absurd rfl h⟩, va_S.rf, fun k h => ⟨h, rfl⟩, fun k x h => (by cases h), ⟨fun k _ h => absurd rfl h, fun i => ?_⟩, by rw [hB]; exact Nat.le_refl _⟩
    show h_cn D (9001 + i - 9001) = h_cn D i
    rw [Nat.add_sub_cancel_left]
  have hl := lv_entry ([Value.ref b]) (n := 4) (Nat.le_of_ble_eq_true rfl)
  rw [lg_entry_eq]
  have e1 : h_rv (fun k => h_cn D (k - 9001)) (.ref (9001 + 30)) = .ref b := congrArg Value.ref C.2.2
  refine K s.heap [] _ _ hWd (fun q hq => ?_) (fun q hq => by cases hq) ?_
  · rcases List.mem_cons.mp hq with z | z
    · rw [z]; exact h_c9 30
    · cases z
  · show lv_has _ 4 [(0, h_rv _ (.ref (9001 + 30)))]
    rw [e1]
    exact hl
end START2
