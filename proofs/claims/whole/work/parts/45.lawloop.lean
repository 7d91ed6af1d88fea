section LAWLOOP2
theorem l_cmp {L k : Nat} (hL : L ≤ 3584) (hk : 7 * k ≤ L + 7) : (Int32.ofNat L - 7 < Int32.ofNat (7 * k)) ↔ L < 7 * k + 7 := by
  rw [Int32.lt_iff_toInt_lt, Int32.toInt_sub, Int32.toInt_ofNat_of_lt (by omega), Int32.toInt_ofNat_of_lt (by omega)]
  rw [show (7 : Int32).toInt = 7 from rfl, Int.bmod_eq_of_le (by omega) (by omega)]
  omega
set_option maxHeartbeats 4000000 in
set_option maxRecDepth 100000 in
theorem law_loop {p : Program} {l : Launch} {e : Env} {s : State} {m : MethodId} {below : List Frame} {meth : Method} {c : Code} {b L : Nat} {xs : Nat → Int32} {D : hG} {αc : Nat → Nat} (hL : L ≤ 3584) (C : h_LC p s m meth c b L xs D) {Rel : xS → mS → Prop}
    (H0 : ∀ (σ : xS) (μ : mS), Rel σ μ → ∀ (a0 : Int32) (a1 : Int32) (a2 : Int32) (a3 : Int32), ∃ (r : Int32) (σ1 : xS) (μ1 : mS), f_X6_sort σ a0 a1 a2 a3 = some (r, σ1) ∧ f_X7_sort μ a0 a1 a2 a3 = some (r, μ1) ∧ Rel σ1 μ1)
    (H1 : ∀ (σ : xS) (μ : mS), Rel σ μ → ∀ (a0 : Int32) (a1 : Int32) (a2 : Int32) (a3 : Int32) (a4 : Int32) (a5 : Int32), ∃ (r : Int32) (σ1 : xS) (μ1 : mS), f_X6_lot σ a0 a1 a2 a3 a4 a5 = some (r, σ1) ∧ f_X7_lot μ a0 a1 a2 a3 a4 a5 = some (r, μ1) ∧ Rel σ1 μ1)
    (H2 : ∀ (σ : xS) (μ : mS), Rel σ μ → ∀ (a0 : Int32) (a1 : Int32), ∃ (r : Int32) (σ1 : xS) (μ1 : mS), f_X6_open σ a0 a1 = some (r, σ1) ∧ f_X7_open μ a0 a1 = some (r, μ1) ∧ Rel σ1 μ1)
    (H3 : ∀ (σ : xS) (μ : mS), Rel σ μ → ∀ (a0 : Int32) (a1 : Int32), ∃ (r : Int32), f_X6_about σ a0 a1 = some r ∧ f_X7_about μ a0 a1 = some r ∧ Rel σ μ)
    (H4 : ∀ (σ : xS) (μ : mS), Rel σ μ → ∀ (a0 : Int32), ∃ (r : Int64), f_X6_silver σ a0 = some r ∧ f_X7_silver μ a0 = some r ∧ Rel σ μ)
    (H5 : ∀ (σ : xS) (μ : mS), Rel σ μ → ∀ (a0 : Int32), ∃ (r : Int32) (σ1 : xS) (μ1 : mS), f_X6_today σ a0 = some (r, σ1) ∧ f_X7_today μ a0 = some (r, μ1) ∧ Rel σ1 μ1)
    (H6 : ∀ (σ : xS) (μ : mS), Rel σ μ → ∀ (a0 : Int64) (a1 : Int32), ∃ (r : Int32) (σ1 : xS) (μ1 : mS), f_X6_feed σ a0 a1 = some (r, σ1) ∧ f_X7_feed μ a0 a1 = some (r, μ1) ∧ Rel σ1 μ1)
    (H7 : ∀ (σ : xS) (μ : mS), Rel σ μ → ∃ (r : Int32) (σ1 : xS) (μ1 : mS), f_X6_order σ = some (r, σ1) ∧ f_X7_order μ = some (r, μ1) ∧ Rel σ1 μ1)
    (H8 : ∀ (σ : xS) (μ : mS), Rel σ μ → ∀ (a0 : Int32) (a1 : Int32), ∃ (r : Int32) (σ1 : xS) (μ1 : mS), f_X6_tell σ a0 a1 = some (r, σ1) ∧ f_X7_tell μ a0 a1 = some (r, μ1) ∧ Rel σ1 μ1)
    (H9 : ∀ (σ : xS) (μ : mS), Rel σ μ → ∀ (a0 : Int32) (a1 : Int32), ∃ (r : Int32), f_X6_force σ a0 a1 = some r ∧ f_X7_force μ a0 a1 = some r ∧ Rel σ μ)
    (H10 : ∀ (σ : xS) (μ : mS), Rel σ μ → ∀ (a0 : Int32) (a1 : Int32) (a2 : Int32), ∃ (r : Int32), f_X6_pass σ a0 a1 a2 = some r ∧ f_X7_pass μ a0 a1 a2 = some r ∧ Rel σ μ)
    (H11 : ∀ (σ : xS) (μ : mS), Rel σ μ → ∀ (a0 : Int32) (a1 : Int32) (a2 : Int32) (a3 : Int32), ∃ (r : Int32), f_X6_light σ a0 a1 a2 a3 = some r ∧ f_X7_light μ a0 a1 a2 a3 = some r ∧ Rel σ μ)
    (H12 : ∀ (σ : xS) (μ : mS), Rel σ μ → ∀ (a0 : Int32) (a1 : Int32), ∃ (r : Int32) (σ1 : xS) (μ1 : mS), f_X6_pay σ a0 a1 = some (r, σ1) ∧ f_X7_pay μ a0 a1 = some (r, μ1) ∧ Rel σ1 μ1)
    (H13 : ∀ (σ : xS) (μ : mS), Rel σ μ → ∀ (a0 : Int32), ∃ (r : Int32), f_X6_paid σ a0 = some r ∧ f_X7_paid μ a0 = some r ∧ Rel σ μ)
    (H14 : ∀ (σ : xS) (μ : mS), Rel σ μ → ∀ (a0 : Int32), ∃ (r : Int64), f_X6_credit σ a0 = some r ∧ f_X7_credit μ a0 = some r ∧ Rel σ μ)
    (H15 : ∀ (σ : xS) (μ : mS), Rel σ μ → ∀ (a0 : Int32), ∃ (r : Int32) (σ1 : xS) (μ1 : mS), f_X6_give σ a0 = some (r, σ1) ∧ f_X7_give μ a0 = some (r, μ1) ∧ Rel σ1 μ1)
    (H16 : ∀ (σ : xS) (μ : mS), Rel σ μ → ∀ (a0 : Int32) (a1 : Int32), ∃ (r : Int32) (σ1 : xS), f_X6_lack σ a0 a1 = some (r, σ1) ∧ f_X7_lack μ a0 a1 = some r ∧ Rel σ1 μ)
    (H17 : ∀ (σ : xS) (μ : mS), Rel σ μ → ∀ (a0 : Int32) (a1 : Int32) (a2 : Int32), ∃ (r : Int32) (σ1 : xS) (μ1 : mS), f_X6_road σ a0 a1 a2 = some (r, σ1) ∧ f_X7_road μ a0 a1 a2 = some (r, μ1) ∧ Rel σ1 μ1)
    (H18 : ∀ (σ : xS) (μ : mS), Rel σ μ → ∀ (a0 : Int32) (a1 : Int32), ∃ (r : Int32) (σ1 : xS) (μ1 : mS), f_X6_send σ a0 a1 = some (r, σ1) ∧ f_X7_send μ a0 a1 = some (r, μ1) ∧ Rel σ1 μ1)
    (H19 : ∀ (σ : xS) (μ : mS), Rel σ μ → ∀ (a0 : Int32) (a1 : Int32), ∃ (r : Int32) (σ1 : xS) (μ1 : mS), f_X6_bring σ a0 a1 = some (r, σ1) ∧ f_X7_bring μ a0 a1 = some (r, μ1) ∧ Rel σ1 μ1)
    (H20 : ∀ (σ : xS) (μ : mS), Rel σ μ → ∀ (a0 : Int32), ∃ (r : Int32) (σ1 : xS) (μ1 : mS), f_X6_melt σ a0 = some (r, σ1) ∧ f_X7_melt μ a0 = some (r, μ1) ∧ Rel σ1 μ1)
    (H21 : ∀ (σ : xS) (μ : mS), Rel σ μ → ∀ (a0 : Int32) (a1 : Int32), ∃ (r : Int32) (σ1 : xS) (μ1 : mS), f_X6_furnace σ a0 a1 = some (r, σ1) ∧ f_X7_furnace μ a0 a1 = some (r, μ1) ∧ Rel σ1 μ1)
    (H22 : ∀ (σ : xS) (μ : mS), Rel σ μ → ∀ (a0 : Int32), ∃ (r : Int32) (σ1 : xS) (μ1 : mS), f_X6_refine σ a0 = some (r, σ1) ∧ f_X7_refine μ a0 = some (r, μ1) ∧ Rel σ1 μ1)
    (H23 : ∀ (σ : xS) (μ : mS), Rel σ μ → ∀ (a0 : Int32) (a1 : Int32) (a2 : Int32), ∃ (r : Int32) (σ1 : xS) (μ1 : mS), f_X6_strike σ a0 a1 a2 = some (r, σ1) ∧ f_X7_strike μ a0 a1 a2 = some (r, μ1) ∧ Rel σ1 μ1)
    (H24 : ∀ (σ : xS) (μ : mS), Rel σ μ → ∀ (a0 : Int32) (a1 : Int32), ∃ (r : Int64), f_X6_mint σ a0 a1 = some r ∧ f_X7_mint μ a0 a1 = some r ∧ Rel σ μ)
    (H25 : ∀ (σ : xS) (μ : mS), Rel σ μ → ∃ (r : Int64), f_X6_all σ = some r ∧ f_X7_all μ = some r ∧ Rel σ μ)
    (H26 : ∀ (σ : xS) (μ : mS), Rel σ μ → ∀ (a0 : Int32) (a1 : Int32) (a2 : Int32) (a3 : Int32), ∃ (r : Int32), f_X6_drawn σ a0 a1 a2 a3 = some r ∧ f_X7_drawn μ a0 a1 a2 a3 = some r ∧ Rel σ μ)
    (H27 : ∀ (σ : xS) (μ : mS), Rel σ μ → ∀ (a0 : Int32) (a1 : Int32) (a2 : Int32), ∃ (r : Int32) (σ1 : xS) (μ1 : mS), f_X6_wish σ a0 a1 a2 = some (r, σ1) ∧ f_X7_wish μ a0 a1 a2 = some (r, μ1) ∧ Rel σ1 μ1)
    (H28 : ∀ (σ : xS) (μ : mS), Rel σ μ → ∃ (r : Int32) (σ1 : xS) (μ1 : mS), f_X6_flow σ = some (r, σ1) ∧ f_X7_flow μ = some (r, μ1) ∧ Rel σ1 μ1)
    (H29 : ∀ (σ : xS) (μ : mS), Rel σ μ → ∃ (r : Int32), f_X6_sent σ = some r ∧ f_X7_sent μ = some r ∧ Rel σ μ)
    (H30 : ∀ (σ : xS) (μ : mS), Rel σ μ → ∀ (a0 : Int32), ∃ (r : Int32), f_X6_count σ a0 = some r ∧ f_X7_count μ a0 = some r ∧ Rel σ μ) :
    ∀ (n k : Nat) (σ : xS) (μ : mS), L ≤ 7 * k + 7 * n → 7 * k ≤ L + 7 → Rel σ μ → JL p l e s m below meth c b D αc (70 + 4 * k) (2000 + 30 * k) (gx (gm roN μ) σ) 18 [(3, .int (Int32.ofNat (7 * k))), (2, .ref 5000), (1, .ref 0), (0, .ref (9001 + 30))] [] := by
  intro n
  induction n with
  | zero =>
    intro k σ μ h1 h2 hR
    refine l_iload_n (pc' := 19) C tokL_H rfl rfl rfl ?_
    refine l_aload_n (pc' := 20) C tokL_H rfl rfl rfl ?_
    refine l_slen (pc' := 21) C tokL_H rfl rfl ?_
    refine l_bipush (v := 7) (pc' := 23) C tokL_H rfl rfl (by decide) ?_
    refine l_isub (pc' := 24) C tokL_H rfl rfl ?_
    refine l_icmp_gt (tgt := 1217) (pc' := 27) C tokL_H rfl rfl rfl (fun _ => ?_) (fun q => absurd ((l_cmp hL h2).mpr (by omega)) q)
    refine l_iconst (v := 1) (pc' := 1218) C tokL_H rfl rfl (by decide) ?_
    exact l_end C tokL_H rfl (by omega) (by omega)
  | succ n ih =>
    intro k σ μ h1 h2 hR
    refine l_iload_n (pc' := 19) C tokL_H rfl rfl rfl ?_
    refine l_aload_n (pc' := 20) C tokL_H rfl rfl rfl ?_
    refine l_slen (pc' := 21) C tokL_H rfl rfl ?_
    refine l_bipush (v := 7) (pc' := 23) C tokL_H rfl rfl (by decide) ?_
    refine l_isub (pc' := 24) C tokL_H rfl rfl ?_
    refine l_icmp_gt (tgt := 1217) (pc' := 27) C tokL_H rfl rfl rfl (fun _ => ?_) (fun q => ?_)
    · refine l_iconst (v := 1) (pc' := 1218) C tokL_H rfl rfl (by decide) ?_
      exact l_end C tokL_H rfl (by omega) (by omega)
    · have hr : 7 * k + 7 ≤ L := by
        have := mt (l_cmp hL h2).mpr q
        omega
      have v0 : vp_in (Int32.ofNat (7 * k)) L := by
        have := (l_ix hr hL 0 (by decide)).1
        rwa [show Int32.ofNat (7 * k) + Int32.ofNat 0 = Int32.ofNat (7 * k) by rw [← Int32.ofNat_add, Nat.add_zero]] at this

      have v1 : vp_in (Int32.ofNat (7 * k) + 1) L := (l_ix hr hL 1 (by decide)).1
      have v2 : vp_in (Int32.ofNat (7 * k) + 2) L := (l_ix hr hL 2 (by decide)).1
      have v3 : vp_in (Int32.ofNat (7 * k) + 3) L := (l_ix hr hL 3 (by decide)).1
      have v4 : vp_in (Int32.ofNat (7 * k) + 4) L := (l_ix hr hL 4 (by decide)).1
      have v5 : vp_in (Int32.ofNat (7 * k) + 5) L := (l_ix hr hL 5 (by decide)).1
      have v6 : vp_in (Int32.ofNat (7 * k) + 6) L := (l_ix hr hL 6 (by decide)).1
      have tail : ∀ (σ1 : xS) (μ1 : mS), Rel σ1 μ1 → JL p l e s m below meth c b D αc (70 + 4 * k + 4) (2000 + 30 * k + 30) (gx (gm roN μ1) σ1) 1211 [(3, .int (Int32.ofNat (7 * k))), (2, .ref 5000), (1, .ref 0), (0, .ref (9001 + 30))] [] := by
        intro σ1 μ1 hR1
        refine l_iinc (pc' := 1214) (d := 7) (ls' := [(3, _), (2, _), (1, _), (0, _)]) C tokL_H rfl rfl rfl (by decide) (by decide) rfl ?_
        refine l_goto (tgt := 18) C tokL_H rfl rfl ?_
        rw [show Int32.ofNat (7 * k) + 7 = Int32.ofNat (7 * (k + 1)) by rw [Nat.mul_succ, Int32.ofNat_add]; rfl]
        exact ih (k + 1) σ1 μ1 (by omega) (by omega) hR1
      have hk : k ≤ 512 := by omega
      refine l_aload_n (pc' := 28) C tokL_H rfl rfl rfl ?_
      refine l_iload_n (pc' := 29) C tokL_H rfl rfl rfl ?_
      refine l_sld (pc' := 30) C tokL_H rfl rfl v0 ?_
      refine l_bipush (v := 31) (pc' := 32) C tokL_H rfl rfl (by decide) ?_
      refine l_iand (pc' := 33) C tokL_H rfl rfl ?_
      generalize xs (Int32.ofNat (7 * k)).toNatClampNeg &&& 31 = w
      by_cases w0 : w = 0
      · rw [w0]
        refine l_tableIn (tgt := 172) C tokL_H rfl (by decide) (by decide) rfl rfl ?_
        exact law_case_0 C H0 hR v1 v2 v3 v4 v5 v6 hk tail
      by_cases w1 : w = 1
      · rw [w1]
        refine l_tableIn (tgt := 225) C tokL_H rfl (by decide) (by decide) rfl rfl ?_
        exact law_case_1 C H1 hR v1 v2 v3 v4 v5 v6 hk tail
      by_cases w2 : w = 2
      · rw [w2]
        refine l_tableIn (tgt := 300) C tokL_H rfl (by decide) (by decide) rfl rfl ?_
        exact law_case_2 C H2 hR v1 v2 v3 v4 v5 v6 hk tail
      by_cases w3 : w = 3
      · rw [w3]
        refine l_tableIn (tgt := 333) C tokL_H rfl (by decide) (by decide) rfl rfl ?_
        exact law_case_3 C H3 hR v1 v2 v3 v4 v5 v6 hk tail
      by_cases w4 : w = 4
      · rw [w4]
        refine l_tableIn (tgt := 366) C tokL_H rfl (by decide) (by decide) rfl rfl ?_
        exact law_case_4 C H4 hR v1 v2 v3 v4 v5 v6 hk tail
      by_cases w5 : w = 5
      · rw [w5]
        refine l_tableIn (tgt := 390) C tokL_H rfl (by decide) (by decide) rfl rfl ?_
        exact law_case_5 C H5 hR v1 v2 v3 v4 v5 v6 hk tail
      by_cases w6 : w = 6
      · rw [w6]
        refine l_tableIn (tgt := 413) C tokL_H rfl (by decide) (by decide) rfl rfl ?_
        exact law_case_6 C H6 hR v1 v2 v3 v4 v5 v6 hk tail
      by_cases w7 : w = 7
      · rw [w7]
        refine l_tableIn (tgt := 476) C tokL_H rfl (by decide) (by decide) rfl rfl ?_
        exact law_case_7 C H7 hR v1 v2 v3 v4 v5 v6 hk tail
      by_cases w8 : w = 8
      · rw [w8]
        refine l_tableIn (tgt := 489) C tokL_H rfl (by decide) (by decide) rfl rfl ?_
        exact law_case_8 C H8 hR v1 v2 v3 v4 v5 v6 hk tail
      by_cases w9 : w = 9
      · rw [w9]
        refine l_tableIn (tgt := 522) C tokL_H rfl (by decide) (by decide) rfl rfl ?_
        exact law_case_9 C H9 hR v1 v2 v3 v4 v5 v6 hk tail
      by_cases w10 : w = 10
      · rw [w10]
        refine l_tableIn (tgt := 555) C tokL_H rfl (by decide) (by decide) rfl rfl ?_
        exact law_case_10 C H10 hR v1 v2 v3 v4 v5 v6 hk tail
      by_cases w11 : w = 11
      · rw [w11]
        refine l_tableIn (tgt := 598) C tokL_H rfl (by decide) (by decide) rfl rfl ?_
        exact law_case_11 C H11 hR v1 v2 v3 v4 v5 v6 hk tail
      by_cases w12 : w = 12
      · rw [w12]
        refine l_tableIn (tgt := 651) C tokL_H rfl (by decide) (by decide) rfl rfl ?_
        exact law_case_12 C H12 hR v1 v2 v3 v4 v5 v6 hk tail
      by_cases w13 : w = 13
      · rw [w13]
        refine l_tableIn (tgt := 684) C tokL_H rfl (by decide) (by decide) rfl rfl ?_
        exact law_case_13 C H13 hR v1 v2 v3 v4 v5 v6 hk tail
      by_cases w14 : w = 14
      · rw [w14]
        refine l_tableIn (tgt := 707) C tokL_H rfl (by decide) (by decide) rfl rfl ?_
        exact law_case_14 C H14 hR v1 v2 v3 v4 v5 v6 hk tail
      by_cases w15 : w = 15
      · rw [w15]
        refine l_tableIn (tgt := 731) C tokL_H rfl (by decide) (by decide) rfl rfl ?_
        exact law_case_15 C H15 hR v1 v2 v3 v4 v5 v6 hk tail
      by_cases w16 : w = 16
      · rw [w16]
        refine l_tableIn (tgt := 754) C tokL_H rfl (by decide) (by decide) rfl rfl ?_
        exact law_case_16 C H16 hR v1 v2 v3 v4 v5 v6 hk tail
      by_cases w17 : w = 17
      · rw [w17]
        refine l_tableIn (tgt := 787) C tokL_H rfl (by decide) (by decide) rfl rfl ?_
        exact law_case_17 C H17 hR v1 v2 v3 v4 v5 v6 hk tail
      by_cases w18 : w = 18
      · rw [w18]
        refine l_tableIn (tgt := 830) C tokL_H rfl (by decide) (by decide) rfl rfl ?_
        exact law_case_18 C H18 hR v1 v2 v3 v4 v5 v6 hk tail
      by_cases w19 : w = 19
      · rw [w19]
        refine l_tableIn (tgt := 863) C tokL_H rfl (by decide) (by decide) rfl rfl ?_
        exact law_case_19 C H19 hR v1 v2 v3 v4 v5 v6 hk tail
      by_cases w20 : w = 20
      · rw [w20]
        refine l_tableIn (tgt := 896) C tokL_H rfl (by decide) (by decide) rfl rfl ?_
        exact law_case_20 C H20 hR v1 v2 v3 v4 v5 v6 hk tail
      by_cases w21 : w = 21
      · rw [w21]
        refine l_tableIn (tgt := 919) C tokL_H rfl (by decide) (by decide) rfl rfl ?_
        exact law_case_21 C H21 hR v1 v2 v3 v4 v5 v6 hk tail
      by_cases w22 : w = 22
      · rw [w22]
        refine l_tableIn (tgt := 952) C tokL_H rfl (by decide) (by decide) rfl rfl ?_
        exact law_case_22 C H22 hR v1 v2 v3 v4 v5 v6 hk tail
      by_cases w23 : w = 23
      · rw [w23]
        refine l_tableIn (tgt := 975) C tokL_H rfl (by decide) (by decide) rfl rfl ?_
        exact law_case_23 C H23 hR v1 v2 v3 v4 v5 v6 hk tail
      by_cases w24 : w = 24
      · rw [w24]
        refine l_tableIn (tgt := 1018) C tokL_H rfl (by decide) (by decide) rfl rfl ?_
        exact law_case_24 C H24 hR v1 v2 v3 v4 v5 v6 hk tail
      by_cases w25 : w = 25
      · rw [w25]
        refine l_tableIn (tgt := 1052) C tokL_H rfl (by decide) (by decide) rfl rfl ?_
        exact law_case_25 C H25 hR v1 v2 v3 v4 v5 v6 hk tail
      by_cases w26 : w = 26
      · rw [w26]
        refine l_tableIn (tgt := 1066) C tokL_H rfl (by decide) (by decide) rfl rfl ?_
        exact law_case_26 C H26 hR v1 v2 v3 v4 v5 v6 hk tail
      by_cases w27 : w = 27
      · rw [w27]
        refine l_tableIn (tgt := 1119) C tokL_H rfl (by decide) (by decide) rfl rfl ?_
        exact law_case_27 C H27 hR v1 v2 v3 v4 v5 v6 hk tail
      by_cases w28 : w = 28
      · rw [w28]
        refine l_tableIn (tgt := 1162) C tokL_H rfl (by decide) (by decide) rfl rfl ?_
        exact law_case_28 C H28 hR v1 v2 v3 v4 v5 v6 hk tail
      by_cases w29 : w = 29
      · rw [w29]
        refine l_tableIn (tgt := 1175) C tokL_H rfl (by decide) (by decide) rfl rfl ?_
        exact law_case_29 C H29 hR v1 v2 v3 v4 v5 v6 hk tail
      by_cases w30 : w = 30
      · rw [w30]
        refine l_tableIn (tgt := 1188) C tokL_H rfl (by decide) (by decide) rfl rfl ?_
        exact law_case_30 C H30 hR v1 v2 v3 v4 v5 v6 hk tail
      refine l_tableOut (tgt := 1211) C tokL_H rfl (sw_out (n := 30) (by decide) (fun v hv => by
        have : v = 0 ∨ v = 1 ∨ v = 2 ∨ v = 3 ∨ v = 4 ∨ v = 5 ∨ v = 6 ∨ v = 7 ∨ v = 8 ∨ v = 9 ∨ v = 10 ∨ v = 11 ∨ v = 12 ∨ v = 13 ∨ v = 14 ∨ v = 15 ∨ v = 16 ∨ v = 17 ∨ v = 18 ∨ v = 19 ∨ v = 20 ∨ v = 21 ∨ v = 22 ∨ v = 23 ∨ v = 24 ∨ v = 25 ∨ v = 26 ∨ v = 27 ∨ v = 28 ∨ v = 29 ∨ v = 30 := by omega
        rcases this with rfl | rfl | rfl | rfl | rfl | rfl | rfl | rfl | rfl | rfl | rfl | rfl | rfl | rfl | rfl | rfl | rfl | rfl | rfl | rfl | rfl | rfl | rfl | rfl | rfl | rfl | rfl | rfl | rfl | rfl | rfl
        · exact w0
        · exact w1
        · exact w2
        · exact w3
        · exact w4
        · exact w5
        · exact w6
        · exact w7
        · exact w8
        · exact w9
        · exact w10
        · exact w11
        · exact w12
        · exact w13
        · exact w14
        · exact w15
        · exact w16
        · exact w17
        · exact w18
        · exact w19
        · exact w20
        · exact w21
        · exact w22
        · exact w23
        · exact w24
        · exact w25
        · exact w26
        · exact w27
        · exact w28
        · exact w29
        · exact w30)) rfl ?_
      refine l_widen (a := 70 + 4 * k + 4) (d := 2000 + 30 * k + 30) (by omega) (by omega) ?_
      exact tail σ μ hR
end LAWLOOP2
