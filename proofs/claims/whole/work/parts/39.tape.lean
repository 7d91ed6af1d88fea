section TAPE
def rX5_readWeight : Room := { frames := 5, cells := 0, slots := 0, locals := 107 }
def f_X5_readWeight (σ : xS) (x1 : Int32) : Option (Int32 × xS) := (rdw (h_byt.getD 3 []) σ).bind fun r3 => if r3.1 = 0 then some (0, r3.2) else (f_X5_readNumber r3.2 1 4).bind fun r19 => bif vin x1 8 then letm (xi r19.2 23 (va_up (r19.2.1 23) (x1).toNatClampNeg r19.1)) fun σ22 => bif vin x1 8 then if (σ22.1 23 (x1).toNatClampNeg) = (-1) then some (0, σ22) else some (1, σ22) else none else none
set_option maxHeartbeats 4000000 in
set_option maxRecDepth 100000 in
theorem s_X5_readWeight (g : hH) (σ : xS) (x1 : Int32) (r : (Int32 × xS)) (hf : f_X5_readWeight σ x1 = some r) : SpD mX5_readWeight rX5_readWeight [.ref 11, .int x1] (gx g σ) (some (.int r.1)) (gx g r.2) := by
  refine sp_of miX5_readWeight (Nat.le_of_ble_eq_true rfl) ?_
  show J _ _ _ 0 0 _ 0 [(0, .ref 11), (1, .int x1)] []
  unfold f_X5_readWeight at hf
  refine j_aload_n (pc' := 1) rfl rfl rfl ?_
  refine j_ldcS (pc' := 3) (i := 3) (tx := " by weight ") rfl rfl rfl (fun _ _ q => q.2.2.1.2.2.2) ?_
  obtain ⟨r3, e3, hf⟩ := o_bind hf
  refine j_v1 (pc' := 6) rfl rfl miX5_readWord lnX5_41 (gxk_11 g σ) rfl (s_X5_readWord g σ 3 (by decide) _ e3) (h_rm_of rfl) (Nat.le_of_ble_eq_true rfl) (c' := 0) (s' := 0) rfl rfl ?_
  refine j_if_ne (tgt := 11) (pc' := 9) rfl rfl rfl (fun c6 => ?_) (fun c6 => ?_)
  · rw [if_neg c6] at hf
    refine j_aload_n (pc' := 12) rfl rfl rfl ?_
    refine j_get (pc' := 15) rfl rfl flX5_15 (gxk_11 g r3.2) (tpF_1 r3.2) ?_
    refine j_iload_n (pc' := 16) rfl rfl rfl ?_
    refine j_aload_n (pc' := 17) rfl rfl rfl ?_
    refine j_iconst (v := 1) (pc' := 18) rfl rfl (by decide) ?_
    refine j_iconst (v := 4) (pc' := 19) rfl rfl (by decide) ?_
    obtain ⟨r19, e19, hf⟩ := o_bind hf
    refine j_v2 (pc' := 22) rfl rfl miX5_readNumber lnX5_64 (gxk_11 g r3.2) rfl (s_X5_readNumber g r3.2 1 4 _ e19) (h_rm_of rfl) (Nat.le_of_ble_eq_true rfl) (c' := 0) (s' := 0) rfl rfl ?_
    obtain ⟨c22, hf⟩ := o_chk hf
    obtain ⟨σ22, e22, hf⟩ := o_let hf
    refine j_iast (pc' := 23) rfl rfl (gxk_13 g r19.2) (by decide) (vin_ok c22) ?_
    rw [gxs_13]; rw [e22]
    refine j_aload_n (pc' := 24) rfl rfl rfl ?_
    refine j_get (pc' := 27) rfl rfl flX5_15 (gxk_11 g σ22) (tpF_1 σ22) ?_
    refine j_iload_n (pc' := 28) rfl rfl rfl ?_
    obtain ⟨c28, hf⟩ := o_chk hf
    refine j_iald (pc' := 29) rfl rfl (gxk_13 g σ22) (vin_ok c28) ?_
    refine j_iconst (v := (-1)) (pc' := 30) rfl rfl (by decide) ?_
    refine j_icmp_eq (tgt := 37) (pc' := 33) rfl rfl rfl (fun c30 => ?_) (fun c30 => ?_)
    · rw [if_pos c30] at hf
      refine j_iconst (v := 0) (pc' := 38) rfl rfl (by decide) ?_
      have hf := Option.some.inj hf; subst hf
      exact j_zret rfl rfl (by decide) (Nat.le_of_ble_eq_true rfl) (Nat.le_of_ble_eq_true rfl) ⟨rfl, rfl⟩
    · rw [if_neg c30] at hf
      refine j_iconst (v := 1) (pc' := 34) rfl rfl (by decide) ?_
      refine j_goto (tgt := 38) rfl rfl ?_
      have hf := Option.some.inj hf; subst hf
      exact j_zret rfl rfl (by decide) (Nat.le_of_ble_eq_true rfl) (Nat.le_of_ble_eq_true rfl) ⟨rfl, rfl⟩
  · rw [if_pos c6] at hf
    refine j_iconst (v := 0) (pc' := 10) rfl rfl (by decide) ?_
    have hf := Option.some.inj hf; subst hf
    exact j_zret rfl rfl (by decide) (Nat.le_of_ble_eq_true rfl) (Nat.le_of_ble_eq_true rfl) ⟨rfl, rfl⟩
def rX5_readClause : Room := { frames := 6, cells := 0, slots := 0, locals := 128 }
def f_X5_readClause (σ : xS) : Option (Int32 × xS) := (f_X5_digitHere σ).bind fun r1 => (f_X6_within r1 0 7).bind fun r9 => if r9 = 0 then some (0, σ) else bif vin r1 8 then if (σ.1 22 (r1).toNatClampNeg) = (-1) then letm (xi σ 21 (fun _ => ((σ.1 21 0) + 1))) fun σ34 => (rdw (h_byt.getD 1 []) σ34).bind fun r40 => if r40.1 = 0 then some (0, r40.2) else (f_X5_isHere r40.2 111).bind fun r51 => if r51 = 0 then (f_X5_readNumber r40.2 0 3).bind fun r79 => bif vin r1 8 then letm (xi r79.2 22 (va_up (r79.2.1 22) (r1).toNatClampNeg r79.1)) fun σ82 => bif vin r1 8 then if (σ82.1 22 (r1).toNatClampNeg) = (-1) then some (0, σ82) else (f_X5_isHere σ82 32).bind fun r98 => if r98 = 0 then some (1, σ82) else (f_X5_readWeight σ82 r1).bind fun r106 => if r106.1 = 0 then some (0, r106.2) else some (1, r106.2) else none else none else bif vin r1 8 then letm (xi r40.2 22 (va_up (r40.2.1 22) (r1).toNatClampNeg 0)) fun σ63 => (rdw (h_byt.getD 2 []) σ63).bind fun r67 => bif zb r67.1 then some (r67.1, r67.2) else none else none else some (0, σ) else none
set_option maxHeartbeats 4000000 in
set_option maxRecDepth 100000 in
theorem s_X5_readClause (g : hH) (σ : xS) (r : (Int32 × xS)) (hf : f_X5_readClause σ = some r) : SpD mX5_readClause rX5_readClause [.ref 11] (gx g σ) (some (.int r.1)) (gx g r.2) := by
  refine sp_of miX5_readClause (Nat.le_of_ble_eq_true rfl) ?_
  show J _ _ _ 0 0 _ 0 [(0, .ref 11)] []
  unfold f_X5_readClause at hf
  refine j_aload_n (pc' := 1) rfl rfl rfl ?_
  obtain ⟨r1, e1, hf⟩ := o_bind hf
  refine j_v0 (pc' := 4) rfl rfl miX5_digitHere lnX5_48 (gxk_11 g σ) rfl (s_X5_digitHere g σ _ e1) (h_rm_of rfl) (Nat.le_of_ble_eq_true rfl) (c' := 0) (s' := 0) rfl rfl ?_
  refine j_istore_n (pc' := 5) (ls' := [(1, _), (0, _)]) rfl rfl (Nat.le_of_ble_eq_true rfl) rfl ?_
  refine j_iload_n (pc' := 6) rfl rfl rfl ?_
  refine j_iconst (v := 0) (pc' := 7) rfl rfl (by decide) ?_
  refine j_bipush (v := 7) (pc' := 9) rfl rfl (by decide) ?_
  obtain ⟨r9, e9, hf⟩ := o_bind hf
  refine j_sn3 (pc' := 12) rfl rfl miX6_within lnX5_52 (s_X6_within (gx g σ) r1 0 7 _ e9) (h_rm_of rfl) (Nat.le_of_ble_eq_true rfl) (c' := 0) (s' := 0) rfl rfl ?_
  refine j_if_eq (tgt := 25) (pc' := 15) rfl rfl rfl (fun c12 => ?_) (fun c12 => ?_)
  · rw [if_pos c12] at hf
    refine j_iconst (v := 0) (pc' := 26) rfl rfl (by decide) ?_
    have hf := Option.some.inj hf; subst hf
    exact j_zret rfl rfl (by decide) (Nat.le_of_ble_eq_true rfl) (Nat.le_of_ble_eq_true rfl) ⟨rfl, rfl⟩
  · rw [if_neg c12] at hf
    refine j_aload_n (pc' := 16) rfl rfl rfl ?_
    refine j_get (pc' := 19) rfl rfl flX5_9 (gxk_11 g σ) (tpF_0 σ) ?_
    refine j_iload_n (pc' := 20) rfl rfl rfl ?_
    obtain ⟨c20, hf⟩ := o_chk hf
    refine j_iald (pc' := 21) rfl rfl (gxk_12 g σ) (vin_ok c20) ?_
    refine j_iconst (v := (-1)) (pc' := 22) rfl rfl (by decide) ?_
    refine j_icmp_eq (tgt := 27) (pc' := 25) rfl rfl rfl (fun c22 => ?_) (fun c22 => ?_)
    · rw [if_pos c22] at hf
      refine j_aload_n (pc' := 28) rfl rfl rfl ?_
      refine j_dup (pc' := 29) rfl rfl rfl ?_
      refine j_get (pc' := 32) rfl rfl flX5_26 (gxk_11 g σ) (tpF_4 σ) ?_
      refine j_iconst (v := 1) (pc' := 33) rfl rfl (by decide) ?_
      refine j_iadd (pc' := 34) rfl rfl ?_
      obtain ⟨σ34, e34, hf⟩ := o_let hf
      refine j_put (pc' := 37) rfl rfl flX5_26 (gxk_11 g σ) (by decide) (Nat.le_of_ble_eq_true rfl) rfl rfl ?_
      rw [tps_4]; rw [e34]
      refine j_aload_n (pc' := 38) rfl rfl rfl ?_
      refine j_ldcS (pc' := 40) (i := 1) (tx := " is ") rfl rfl rfl (fun _ _ q => q.2.2.1.2.1) ?_
      obtain ⟨r40, e40, hf⟩ := o_bind hf
      refine j_v1 (pc' := 43) rfl rfl miX5_readWord lnX5_41 (gxk_11 g σ34) rfl (s_X5_readWord g σ34 1 (by decide) _ e40) (h_rm_of rfl) (Nat.le_of_ble_eq_true rfl) (c' := 0) (s' := 0) rfl rfl ?_
      refine j_if_ne (tgt := 48) (pc' := 46) rfl rfl rfl (fun c43 => ?_) (fun c43 => ?_)
      · rw [if_neg c43] at hf
        refine j_aload_n (pc' := 49) rfl rfl rfl ?_
        refine j_bipush (v := 111) (pc' := 51) rfl rfl (by decide) ?_
        obtain ⟨r51, e51, hf⟩ := o_bind hf
        refine j_v1 (pc' := 54) rfl rfl miX5_isHere lnX5_58 (gxk_11 g r40.2) rfl (s_X5_isHere g r40.2 111 _ e51) (h_rm_of rfl) (Nat.le_of_ble_eq_true rfl) (c' := 0) (s' := 0) rfl rfl ?_
        refine j_if_eq (tgt := 71) (pc' := 57) rfl rfl rfl (fun c54 => ?_) (fun c54 => ?_)
        · rw [if_pos c54] at hf
          refine j_aload_n (pc' := 72) rfl rfl rfl ?_
          refine j_get (pc' := 75) rfl rfl flX5_9 (gxk_11 g r40.2) (tpF_0 r40.2) ?_
          refine j_iload_n (pc' := 76) rfl rfl rfl ?_
          refine j_aload_n (pc' := 77) rfl rfl rfl ?_
          refine j_iconst (v := 0) (pc' := 78) rfl rfl (by decide) ?_
          refine j_iconst (v := 3) (pc' := 79) rfl rfl (by decide) ?_
          obtain ⟨r79, e79, hf⟩ := o_bind hf
          refine j_v2 (pc' := 82) rfl rfl miX5_readNumber lnX5_64 (gxk_11 g r40.2) rfl (s_X5_readNumber g r40.2 0 3 _ e79) (h_rm_of rfl) (Nat.le_of_ble_eq_true rfl) (c' := 0) (s' := 0) rfl rfl ?_
          obtain ⟨c82, hf⟩ := o_chk hf
          obtain ⟨σ82, e82, hf⟩ := o_let hf
          refine j_iast (pc' := 83) rfl rfl (gxk_12 g r79.2) (by decide) (vin_ok c82) ?_
          rw [gxs_12]; rw [e82]
          refine j_aload_n (pc' := 84) rfl rfl rfl ?_
          refine j_get (pc' := 87) rfl rfl flX5_9 (gxk_11 g σ82) (tpF_0 σ82) ?_
          refine j_iload_n (pc' := 88) rfl rfl rfl ?_
          obtain ⟨c88, hf⟩ := o_chk hf
          refine j_iald (pc' := 89) rfl rfl (gxk_12 g σ82) (vin_ok c88) ?_
          refine j_iconst (v := (-1)) (pc' := 90) rfl rfl (by decide) ?_
          refine j_icmp_ne (tgt := 95) (pc' := 93) rfl rfl rfl (fun c90 => ?_) (fun c90 => ?_)
          · rw [if_neg c90] at hf
            refine j_aload_n (pc' := 96) rfl rfl rfl ?_
            refine j_bipush (v := 32) (pc' := 98) rfl rfl (by decide) ?_
            obtain ⟨r98, e98, hf⟩ := o_bind hf
            refine j_v1 (pc' := 101) rfl rfl miX5_isHere lnX5_58 (gxk_11 g σ82) rfl (s_X5_isHere g σ82 32 _ e98) (h_rm_of rfl) (Nat.le_of_ble_eq_true rfl) (c' := 0) (s' := 0) rfl rfl ?_
            refine j_if_eq (tgt := 112) (pc' := 104) rfl rfl rfl (fun c101 => ?_) (fun c101 => ?_)
            · rw [if_pos c101] at hf
              refine j_iconst (v := 1) (pc' := 113) rfl rfl (by decide) ?_
              refine j_goto (tgt := 117) rfl rfl ?_
              have hf := Option.some.inj hf; subst hf
              exact j_zret rfl rfl (by decide) (Nat.le_of_ble_eq_true rfl) (Nat.le_of_ble_eq_true rfl) ⟨rfl, rfl⟩
            · rw [if_neg c101] at hf
              refine j_aload_n (pc' := 105) rfl rfl rfl ?_
              refine j_iload_n (pc' := 106) rfl rfl rfl ?_
              obtain ⟨r106, e106, hf⟩ := o_bind hf
              refine j_v1 (pc' := 109) rfl rfl miX5_readWeight lnX5_68 (gxk_11 g σ82) rfl (s_X5_readWeight g σ82 r1 _ e106) (h_rm_of rfl) (Nat.le_of_ble_eq_true rfl) (c' := 0) (s' := 0) rfl rfl ?_
              refine j_if_eq (tgt := 116) (pc' := 112) rfl rfl rfl (fun c109 => ?_) (fun c109 => ?_)
              · rw [if_pos c109] at hf
                refine j_iconst (v := 0) (pc' := 117) rfl rfl (by decide) ?_
                have hf := Option.some.inj hf; subst hf
                exact j_zret rfl rfl (by decide) (Nat.le_of_ble_eq_true rfl) (Nat.le_of_ble_eq_true rfl) ⟨rfl, rfl⟩
              · rw [if_neg c109] at hf
                refine j_iconst (v := 1) (pc' := 113) rfl rfl (by decide) ?_
                refine j_goto (tgt := 117) rfl rfl ?_
                have hf := Option.some.inj hf; subst hf
                exact j_zret rfl rfl (by decide) (Nat.le_of_ble_eq_true rfl) (Nat.le_of_ble_eq_true rfl) ⟨rfl, rfl⟩
          · rw [if_pos c90] at hf
            refine j_iconst (v := 0) (pc' := 94) rfl rfl (by decide) ?_
            have hf := Option.some.inj hf; subst hf
            exact j_zret rfl rfl (by decide) (Nat.le_of_ble_eq_true rfl) (Nat.le_of_ble_eq_true rfl) ⟨rfl, rfl⟩
        · rw [if_neg c54] at hf
          refine j_aload_n (pc' := 58) rfl rfl rfl ?_
          refine j_get (pc' := 61) rfl rfl flX5_9 (gxk_11 g r40.2) (tpF_0 r40.2) ?_
          refine j_iload_n (pc' := 62) rfl rfl rfl ?_
          refine j_iconst (v := 0) (pc' := 63) rfl rfl (by decide) ?_
          obtain ⟨c63, hf⟩ := o_chk hf
          obtain ⟨σ63, e63, hf⟩ := o_let hf
          refine j_iast (pc' := 64) rfl rfl (gxk_12 g r40.2) (by decide) (vin_ok c63) ?_
          rw [gxs_12]; rw [e63]
          refine j_aload_n (pc' := 65) rfl rfl rfl ?_
          refine j_ldcS (pc' := 67) (i := 2) (tx := "out") rfl rfl rfl (fun _ _ q => q.2.2.1.2.2.1) ?_
          obtain ⟨r67, e67, hf⟩ := o_bind hf
          refine j_v1 (pc' := 70) rfl rfl miX5_readWord lnX5_41 (gxk_11 g σ63) rfl (s_X5_readWord g σ63 2 (by decide) _ e67) (h_rm_of rfl) (Nat.le_of_ble_eq_true rfl) (c' := 0) (s' := 0) rfl rfl ?_
          obtain ⟨c70, hf⟩ := o_chk hf
          have hf := Option.some.inj hf; subst hf
          exact j_zret rfl rfl (zb_ok c70) (Nat.le_of_ble_eq_true rfl) (Nat.le_of_ble_eq_true rfl) ⟨rfl, rfl⟩
      · rw [if_pos c43] at hf
        refine j_iconst (v := 0) (pc' := 47) rfl rfl (by decide) ?_
        have hf := Option.some.inj hf; subst hf
        exact j_zret rfl rfl (by decide) (Nat.le_of_ble_eq_true rfl) (Nat.le_of_ble_eq_true rfl) ⟨rfl, rfl⟩
    · rw [if_neg c22] at hf
      refine j_iconst (v := 0) (pc' := 26) rfl rfl (by decide) ?_
      have hf := Option.some.inj hf; subst hf
      exact j_zret rfl rfl (by decide) (Nat.le_of_ble_eq_true rfl) (Nat.le_of_ble_eq_true rfl) ⟨rfl, rfl⟩
def rX5_readClauses : Room := { frames := 7, cells := 0, slots := 0, locals := 149 }
def f_X5_readClauses_L2 : Nat → xS → Int32 → Option (Nat × xS)
  | 0, _, _ => none
  | n + 1, σ, x1 => if 6 ≤ x1 then some (0, σ) else if x1 ≤ 0 then (f_X5_readClause σ).bind fun r24 => if r24.1 = 0 then some (2, r24.2) else if (r24.2.1 21 0) = (r24.2.1 20 0) then some (3, r24.2) else f_X5_readClauses_L2 n r24.2 (x1 + 1) else (rdw (h_byt.getD 0 []) σ).bind fun r15 => if r15.1 = 0 then some (1, r15.2) else (f_X5_readClause r15.2).bind fun r24 => if r24.1 = 0 then some (2, r24.2) else if (r24.2.1 21 0) = (r24.2.1 20 0) then some (3, r24.2) else f_X5_readClauses_L2 n r24.2 (x1 + 1)
set_option maxHeartbeats 4000000 in
set_option maxRecDepth 100000 in
theorem s_X5_readClauses_L2 {Q : Option Value → hH → Prop} (g : hH) : ∀ (n : Nat) (σ : xS) (x1 : Int32) (r : Nat × xS), f_X5_readClauses_L2 n σ x1 = some r → (r.1 = 0 → J mX5_readClauses rX5_readClauses Q 0 0 (gx g r.2) 51 [] []) → (r.1 = 1 → J mX5_readClauses rX5_readClauses Q 0 0 (gx g r.2) 21 [] []) → (r.1 = 2 → J mX5_readClauses rX5_readClauses Q 0 0 (gx g r.2) 30 [] []) → (r.1 = 3 → J mX5_readClauses rX5_readClauses Q 0 0 (gx g r.2) 43 [] []) → J mX5_readClauses rX5_readClauses Q 0 0 (gx g σ) 2 [(0, .ref 11), (1, .int x1)] [] := by
  intro n
  induction n with
  | zero =>
    intro σ x1 r hf
    cases hf
  | succ n ih =>
    intro σ x1 r hf k0 k1 k2 k3
    rw [f_X5_readClauses_L2] at hf
    refine j_iload_n (pc' := 3) rfl rfl rfl ?_
    refine j_bipush (v := 6) (pc' := 5) rfl rfl (by decide) ?_
    refine j_icmp_ge (tgt := 51) (pc' := 8) rfl rfl rfl (fun c5 => ?_) (fun c5 => ?_)
    · rw [if_pos c5] at hf
      have hf := Option.some.inj hf; subst hf
      exact j_sub (ls' := []) trivial (k0 rfl)
    · rw [if_neg c5] at hf
      refine j_iload_n (pc' := 9) rfl rfl rfl ?_
      refine j_if_le (tgt := 23) (pc' := 12) rfl rfl rfl (fun c9 => ?_) (fun c9 => ?_)
      · rw [if_pos c9] at hf
        refine j_aload_n (pc' := 24) rfl rfl rfl ?_
        obtain ⟨r24, e24, hf⟩ := o_bind hf
        refine j_v0 (pc' := 27) rfl rfl miX5_readClause lnX5_45 (gxk_11 g σ) rfl (s_X5_readClause g σ _ e24) (h_rm_of rfl) (Nat.le_of_ble_eq_true rfl) (c' := 0) (s' := 0) rfl rfl ?_
        refine j_if_ne (tgt := 32) (pc' := 30) rfl rfl rfl (fun c27 => ?_) (fun c27 => ?_)
        · rw [if_neg c27] at hf
          refine j_aload_n (pc' := 33) rfl rfl rfl ?_
          refine j_get (pc' := 36) rfl rfl flX5_26 (gxk_11 g r24.2) (tpF_4 r24.2) ?_
          refine j_aload_n (pc' := 37) rfl rfl rfl ?_
          refine j_get (pc' := 40) rfl rfl flX5_22 (gxk_11 g r24.2) (tpF_2 r24.2) ?_
          refine j_icmp_ne (tgt := 45) (pc' := 43) rfl rfl rfl (fun c40 => ?_) (fun c40 => ?_)
          · rw [if_neg c40] at hf
            refine j_iinc (pc' := 48) (d := 1) (ls' := [(1, _), (0, _)]) rfl rfl rfl (by decide) (Nat.le_of_ble_eq_true rfl) rfl ?_
            refine j_goto (tgt := 2) rfl rfl ?_
            refine j_sub (ls' := [(0, .ref 11), (1, .int _)]) ⟨rfl, rfl, trivial⟩ ?_
            exact ih _ _ _ hf k0 k1 k2 k3
          · rw [if_pos c40] at hf
            have hf := Option.some.inj hf; subst hf
            exact j_sub (ls' := []) trivial (k3 rfl)
        · rw [if_pos c27] at hf
          have hf := Option.some.inj hf; subst hf
          exact j_sub (ls' := []) trivial (k2 rfl)
      · rw [if_neg c9] at hf
        refine j_aload_n (pc' := 13) rfl rfl rfl ?_
        refine j_ldcS (pc' := 15) (i := 0) (tx := ";") rfl rfl rfl (fun _ _ q => q.2.2.1.1) ?_
        obtain ⟨r15, e15, hf⟩ := o_bind hf
        refine j_v1 (pc' := 18) rfl rfl miX5_readWord lnX5_41 (gxk_11 g σ) rfl (s_X5_readWord g σ 0 (by decide) _ e15) (h_rm_of rfl) (Nat.le_of_ble_eq_true rfl) (c' := 0) (s' := 0) rfl rfl ?_
        refine j_if_ne (tgt := 23) (pc' := 21) rfl rfl rfl (fun c18 => ?_) (fun c18 => ?_)
        · rw [if_neg c18] at hf
          refine j_aload_n (pc' := 24) rfl rfl rfl ?_
          obtain ⟨r24, e24, hf⟩ := o_bind hf
          refine j_v0 (pc' := 27) rfl rfl miX5_readClause lnX5_45 (gxk_11 g r15.2) rfl (s_X5_readClause g r15.2 _ e24) (h_rm_of rfl) (Nat.le_of_ble_eq_true rfl) (c' := 0) (s' := 0) rfl rfl ?_
          refine j_if_ne (tgt := 32) (pc' := 30) rfl rfl rfl (fun c27 => ?_) (fun c27 => ?_)
          · rw [if_neg c27] at hf
            refine j_aload_n (pc' := 33) rfl rfl rfl ?_
            refine j_get (pc' := 36) rfl rfl flX5_26 (gxk_11 g r24.2) (tpF_4 r24.2) ?_
            refine j_aload_n (pc' := 37) rfl rfl rfl ?_
            refine j_get (pc' := 40) rfl rfl flX5_22 (gxk_11 g r24.2) (tpF_2 r24.2) ?_
            refine j_icmp_ne (tgt := 45) (pc' := 43) rfl rfl rfl (fun c40 => ?_) (fun c40 => ?_)
            · rw [if_neg c40] at hf
              refine j_iinc (pc' := 48) (d := 1) (ls' := [(1, _), (0, _)]) rfl rfl rfl (by decide) (Nat.le_of_ble_eq_true rfl) rfl ?_
              refine j_goto (tgt := 2) rfl rfl ?_
              refine j_sub (ls' := [(0, .ref 11), (1, .int _)]) ⟨rfl, rfl, trivial⟩ ?_
              exact ih _ _ _ hf k0 k1 k2 k3
            · rw [if_pos c40] at hf
              have hf := Option.some.inj hf; subst hf
              exact j_sub (ls' := []) trivial (k3 rfl)
          · rw [if_pos c27] at hf
            have hf := Option.some.inj hf; subst hf
            exact j_sub (ls' := []) trivial (k2 rfl)
        · rw [if_pos c18] at hf
          have hf := Option.some.inj hf; subst hf
          exact j_sub (ls' := []) trivial (k1 rfl)
def f_X5_readClauses (σ : xS) : Option (Int32 × xS) := (f_X5_readClauses_L2 4000 σ 0).bind fun r2 => if r2.1 = 0 then some (0, r2.2) else if r2.1 = 1 then some (0, r2.2) else if r2.1 = 2 then some (0, r2.2) else if r2.1 = 3 then some (1, r2.2) else none
set_option maxHeartbeats 4000000 in
set_option maxRecDepth 100000 in
theorem s_X5_readClauses (g : hH) (σ : xS) (r : (Int32 × xS)) (hf : f_X5_readClauses σ = some r) : SpD mX5_readClauses rX5_readClauses [.ref 11] (gx g σ) (some (.int r.1)) (gx g r.2) := by
  refine sp_of miX5_readClauses (Nat.le_of_ble_eq_true rfl) ?_
  show J _ _ _ 0 0 _ 0 [(0, .ref 11)] []
  unfold f_X5_readClauses at hf
  refine j_iconst (v := 0) (pc' := 1) rfl rfl (by decide) ?_
  refine j_istore_n (pc' := 2) (ls' := [(1, _), (0, _)]) rfl rfl (Nat.le_of_ble_eq_true rfl) rfl ?_
  obtain ⟨r2, e2, hf⟩ := o_bind hf
  refine j_sub (ls' := [(0, .ref 11), (1, .int _)]) ⟨rfl, rfl, trivial⟩ ?_
  refine s_X5_readClauses_L2 g _ _ _ _ e2 (fun t2 => ?_) (fun t2 => ?_) (fun t2 => ?_) (fun t2 => ?_)
  · rw [if_pos t2] at hf
    refine j_iconst (v := 0) (pc' := 52) rfl rfl (by decide) ?_
    have hf := Option.some.inj hf; subst hf
    exact j_zret rfl rfl (by decide) (Nat.le_of_ble_eq_true rfl) (Nat.le_of_ble_eq_true rfl) ⟨rfl, rfl⟩
  · rw [if_neg (by rw [t2]; decide)] at hf
    rw [if_pos t2] at hf
    refine j_iconst (v := 0) (pc' := 22) rfl rfl (by decide) ?_
    have hf := Option.some.inj hf; subst hf
    exact j_zret rfl rfl (by decide) (Nat.le_of_ble_eq_true rfl) (Nat.le_of_ble_eq_true rfl) ⟨rfl, rfl⟩
  · rw [if_neg (by rw [t2]; decide)] at hf
    rw [if_neg (by rw [t2]; decide)] at hf
    rw [if_pos t2] at hf
    refine j_iconst (v := 0) (pc' := 31) rfl rfl (by decide) ?_
    have hf := Option.some.inj hf; subst hf
    exact j_zret rfl rfl (by decide) (Nat.le_of_ble_eq_true rfl) (Nat.le_of_ble_eq_true rfl) ⟨rfl, rfl⟩
  · rw [if_neg (by rw [t2]; decide)] at hf
    rw [if_neg (by rw [t2]; decide)] at hf
    rw [if_neg (by rw [t2]; decide)] at hf
    rw [if_pos t2] at hf
    refine j_iconst (v := 1) (pc' := 44) rfl rfl (by decide) ?_
    have hf := Option.some.inj hf; subst hf
    exact j_zret rfl rfl (by decide) (Nat.le_of_ble_eq_true rfl) (Nat.le_of_ble_eq_true rfl) ⟨rfl, rfl⟩
def rX5_findFault : Room := { frames := 8, cells := 0, slots := 0, locals := 170 }
def f_X5_findFault (σ : xS) : Option (Int32 × xS) := letm (xi σ 21 (fun _ => 0)) fun σ2 => letm (xi σ2 22 (fillf 8 (-1) (σ2.1 22))) fun σ10 => letm (xi σ10 23 (fillf 8 0 (σ10.1 23))) fun σ18 => (f_X5_readClauses σ18).bind fun r22 => if r22.1 = 0 then some ((r22.2.1 21 0), r22.2) else some ((-1), r22.2)
set_option maxHeartbeats 4000000 in
set_option maxRecDepth 100000 in
theorem s_X5_findFault (g : hH) (σ : xS) (r : (Int32 × xS)) (hf : f_X5_findFault σ = some r) : SpD mX5_findFault rX5_findFault [.ref 11] (gx g σ) (some (.int r.1)) (gx g r.2) := by
  refine sp_of miX5_findFault (Nat.le_of_ble_eq_true rfl) ?_
  show J _ _ _ 0 0 _ 0 [(0, .ref 11)] []
  unfold f_X5_findFault at hf
  refine j_aload_n (pc' := 1) rfl rfl rfl ?_
  refine j_iconst (v := 0) (pc' := 2) rfl rfl (by decide) ?_
  obtain ⟨σ2, e2, hf⟩ := o_let hf
  refine j_put (pc' := 5) rfl rfl flX5_26 (gxk_11 g σ) (by decide) (Nat.le_of_ble_eq_true rfl) rfl rfl ?_
  rw [tps_4]; rw [e2]
  refine j_aload_n (pc' := 6) rfl rfl rfl ?_
  refine j_get (pc' := 9) rfl rfl flX5_9 (gxk_11 g σ2) (tpF_0 σ2) ?_
  refine j_iconst (v := (-1)) (pc' := 10) rfl rfl (by decide) ?_
  obtain ⟨σ10, e10, hf⟩ := o_let hf
  refine j_sw2 (pc' := 13) rfl rfl miJ7_fill_53178 lnX5_29 (s_fill (gxk_12 g σ2) (by decide) (by decide) (-1)) (h_rm_of rfl) (Nat.le_of_ble_eq_true rfl) (c' := 0) (s' := 0) rfl rfl ?_
  rw [gxs_12]; rw [e10]
  refine j_aload_n (pc' := 14) rfl rfl rfl ?_
  refine j_get (pc' := 17) rfl rfl flX5_15 (gxk_11 g σ10) (tpF_1 σ10) ?_
  refine j_iconst (v := 0) (pc' := 18) rfl rfl (by decide) ?_
  obtain ⟨σ18, e18, hf⟩ := o_let hf
  refine j_sw2 (pc' := 21) rfl rfl miJ7_fill_53178 lnX5_29 (s_fill (gxk_13 g σ10) (by decide) (by decide) 0) (h_rm_of rfl) (Nat.le_of_ble_eq_true rfl) (c' := 0) (s' := 0) rfl rfl ?_
  rw [gxs_13]; rw [e18]
  refine j_aload_n (pc' := 22) rfl rfl rfl ?_
  obtain ⟨r22, e22, hf⟩ := o_bind hf
  refine j_v0 (pc' := 25) rfl rfl miX5_readClauses lnX5_35 (gxk_11 g σ18) rfl (s_X5_readClauses g σ18 _ e22) (h_rm_of rfl) (Nat.le_of_ble_eq_true rfl) (c' := 0) (s' := 0) rfl rfl ?_
  refine j_if_eq (tgt := 32) (pc' := 28) rfl rfl rfl (fun c25 => ?_) (fun c25 => ?_)
  · rw [if_pos c25] at hf
    refine j_aload_n (pc' := 33) rfl rfl rfl ?_
    refine j_get (pc' := 36) rfl rfl flX5_26 (gxk_11 g r22.2) (tpF_4 r22.2) ?_
    have hf := Option.some.inj hf; subst hf
    exact j_iret rfl rfl (Nat.le_of_ble_eq_true rfl) (Nat.le_of_ble_eq_true rfl) ⟨rfl, rfl⟩
  · rw [if_neg c25] at hf
    refine j_iconst (v := (-1)) (pc' := 29) rfl rfl (by decide) ?_
    refine j_goto (tgt := 36) rfl rfl ?_
    have hf := Option.some.inj hf; subst hf
    exact j_iret rfl rfl (Nat.le_of_ble_eq_true rfl) (Nat.le_of_ble_eq_true rfl) ⟨rfl, rfl⟩
def rX2_init__12_13 : Room := { frames := 2, cells := 3, slots := 22, locals := 52 }
def f_X2_init__12_13 (σ : xS) (x0 : Nat) : Option xS := bif decide (σ.2.2.2 6 < 200) then letm (3200 + σ.2.2.2 6) fun k7 => letm (newoa 1000 6 (fun _ => 0) σ) fun σ7 => bif isO σ7 x0 then letm (xr σ7 132 (va_up (σ7.2.2.1 132) (x0 - 3000) (some k7))) fun σ9 => bif decide (σ9.2.2.2 7 < 200) then letm (3400 + σ9.2.2.2 7) fun k16 => letm (newoa 2000 7 (σ9.1 22) σ9) fun σ16 => bif isO σ16 x0 then letm (xr σ16 130 (va_up (σ16.2.2.1 130) (x0 - 3000) (some k16))) fun σ19 => bif decide (σ19.2.2.2 8 < 200) then letm (3600 + σ19.2.2.2 8) fun k26 => letm (newoa 3000 8 (σ19.1 23) σ19) fun σ26 => bif isO σ26 x0 then letm (xr σ26 131 (va_up (σ26.2.2.1 131) (x0 - 3000) (some k26))) fun σ29 => bif isO σ29 x0 then (σ29.2.2.1 132 (x0 - 3000)).bind fun a33_5 => bif isT σ29 a33_5 then letm (xi σ29 (1000 + (a33_5 - 3200)) (fillf 6 (-1) (σ29.1 (1000 + (a33_5 - 3200))))) fun σ37 => some σ37 else none else none else none else none else none else none else none else none
set_option maxHeartbeats 4000000 in
set_option maxRecDepth 100000 in
theorem s_X2_init__12_13 (g : hH) (σ : xS) (x0 : Nat) (r : xS) (hf : f_X2_init__12_13 σ x0 = some r) : SpD mX2_init rX2_init__12_13 [.ref x0, .ref 12, .ref 13] (gx g σ) (none) (gx g r) := by
  refine sp_of miX2_init (Nat.le_of_ble_eq_true rfl) ?_
  show J _ _ _ 0 0 _ 0 [(0, .ref x0), (1, .ref 12), (2, .ref 13)] []
  unfold f_X2_init__12_13 at hf
  refine j_aload_n (pc' := 1) rfl rfl rfl ?_
  refine j_objInit (pc' := 4) rfl rfl koX2 ko_i ko_c ⟨Nat.le_of_ble_eq_true rfl, Nat.le_of_ble_eq_true rfl⟩ ?_
  refine j_aload_n (pc' := 5) rfl rfl rfl ?_
  refine j_bipush (v := 6) (pc' := 7) rfl rfl (by decide) ?_
  obtain ⟨c7, hf⟩ := o_chk hf
  have c7 := of_decide_eq_true c7
  obtain ⟨k7, ek7, hf⟩ := o_let hf
  obtain ⟨σ7, e7, hf⟩ := o_let hf
  refine j_newa_int (pc' := 9) (N := 6) rfl rfl ka_int (by decide) (by decide) (by decide) (gx_newtold c7 (fun _ => 0)).1 (by omega) (Nat.le_of_ble_eq_true rfl) (Nat.le_of_ble_eq_true rfl) ?_
  rw [(gx_newtold c7 (fun _ => 0)).2]; rw [e7, ek7]
  obtain ⟨c9_1, hf⟩ := o_chk hf
  obtain ⟨σ9, e9, hf⟩ := o_let hf
  refine j_putF (pc' := 12) rfl rfl flX2_9 rfl rfl (gx_ord c9_1) (lt_O c9_1) (Nat.le_of_ble_eq_true rfl) rfl rfl ?_
  rw [ords_2 c9_1]; rw [e9]
  refine j_aload_n (pc' := 13) rfl rfl rfl ?_
  refine j_aload_n (pc' := 14) rfl rfl rfl ?_
  refine j_bipush (v := 8) (pc' := 16) rfl rfl (by decide) ?_
  obtain ⟨c16, hf⟩ := o_chk hf
  have c16 := of_decide_eq_true c16
  obtain ⟨k16, ek16, hf⟩ := o_let hf
  obtain ⟨σ16, e16, hf⟩ := o_let hf
  refine j_s2 (pc' := 19) rfl rfl miJ7_copyOf_59c91 lnX2_15 (s_copyOf (gxk_12 g σ9) (gx_newpence c16 (σ9.1 22)).1 (by omega)) (h_rm_of rfl) (Nat.le_of_ble_eq_true rfl) (c' := 2) (s' := 14) rfl rfl ?_
  rw [(gx_newpence c16 (σ9.1 22)).2]; rw [e16, ek16]
  obtain ⟨c19_2, hf⟩ := o_chk hf
  obtain ⟨σ19, e19, hf⟩ := o_let hf
  refine j_putF (pc' := 22) rfl rfl flX2_21 rfl rfl (gx_ord c19_2) (lt_O c19_2) (Nat.le_of_ble_eq_true rfl) rfl rfl ?_
  rw [ords_0 c19_2]; rw [e19]
  refine j_aload_n (pc' := 23) rfl rfl rfl ?_
  refine j_aload_n (pc' := 24) rfl rfl rfl ?_
  refine j_bipush (v := 8) (pc' := 26) rfl rfl (by decide) ?_
  obtain ⟨c26, hf⟩ := o_chk hf
  have c26 := of_decide_eq_true c26
  obtain ⟨k26, ek26, hf⟩ := o_let hf
  obtain ⟨σ26, e26, hf⟩ := o_let hf
  refine j_s2 (pc' := 29) rfl rfl miJ7_copyOf_59c91 lnX2_15 (s_copyOf (gxk_13 g σ19) (gx_newgrains c26 (σ19.1 23)).1 (by omega)) (h_rm_of rfl) (Nat.le_of_ble_eq_true rfl) (c' := 3) (s' := 22) rfl rfl ?_
  rw [(gx_newgrains c26 (σ19.1 23)).2]; rw [e26, ek26]
  obtain ⟨c29_3, hf⟩ := o_chk hf
  obtain ⟨σ29, e29, hf⟩ := o_let hf
  refine j_putF (pc' := 32) rfl rfl flX2_24 rfl rfl (gx_ord c29_3) (lt_O c29_3) (Nat.le_of_ble_eq_true rfl) rfl rfl ?_
  rw [ords_1 c29_3]; rw [e29]
  refine j_aload_n (pc' := 33) rfl rfl rfl ?_
  obtain ⟨c33_4, hf⟩ := o_chk hf
  obtain ⟨a33_5, ea33_5, hf⟩ := o_bind hf
  refine j_get (pc' := 36) (v := .ref a33_5) rfl rfl flX2_9 (gx_ord c33_4) ((ordF_2 _ _).trans (by rw [ea33_5, va_rf_some])) ?_
  refine j_iconst (v := (-1)) (pc' := 37) rfl rfl (by decide) ?_
  obtain ⟨c37_6, hf⟩ := o_chk hf
  obtain ⟨σ37, e37, hf⟩ := o_let hf
  refine j_sw2 (pc' := 40) rfl rfl miJ7_fill_53178 lnX2_27 (s_fill (gx_told c37_6) (lt_T c37_6) (by decide) (-1)) (h_rm_of rfl) (Nat.le_of_ble_eq_true rfl) (c' := 3) (s' := 22) rfl rfl ?_
  rw [gxs_told c37_6]; rw [e37]
  have hf := Option.some.inj hf; subst hf
  exact j_vret rfl rfl (Nat.le_of_ble_eq_true rfl) (Nat.le_of_ble_eq_true rfl) ⟨rfl, rfl⟩
def rX6_order : Room := { frames := 9, cells := 4, slots := 25, locals := 190 }
def f_X6_order (σ : xS) : Option (Int32 × xS) := if (σ.1 5 0) < 10 then (f_X5_findFault σ).bind fun r16 => letm (xi r16.2 20 (fun _ => 0)) fun σ25 => if r16.1 = (-1) then bif decide (σ25.2.2.2 2 < 200) then letm (3000 + σ25.2.2.2 2) fun k46 => letm (neword σ25) fun σ46 => (f_X2_init__12_13 σ46 k46).bind fun r64 => bif isO r64 k46 then bif vin (σ25.1 5 0) 10 then letm (xr r64 4 (va_up (r64.2.2.1 4) ((σ25.1 5 0)).toNatClampNeg (some k46))) fun σ67 => letm (xi σ67 5 (fun _ => ((σ67.1 5 0) + 1))) fun σ76 => some ((σ67.1 5 0), σ76) else none else none else none else some (((-10) - r16.1), σ25) else some ((-4), σ)
set_option maxHeartbeats 4000000 in
set_option maxRecDepth 100000 in
theorem s_X6_order (g : hH) (σ : xS) (r : (Int32 × xS)) (hf : f_X6_order σ = some r) : SpD mX6_order rX6_order [.ref 0] (gx g σ) (some (.int r.1)) (gx g r.2) := by
  refine sp_of miX6_order (Nat.le_of_ble_eq_true rfl) ?_
  show J _ _ _ 0 0 _ 0 [(0, .ref 0)] []
  unfold f_X6_order at hf
  refine j_aload_n (pc' := 1) rfl rfl rfl ?_
  refine j_get (pc' := 4) rfl rfl flX6_186 (gxk_0 g σ) (nsF_5 σ) ?_
  refine j_bipush (v := 10) (pc' := 6) rfl rfl (by decide) ?_
  refine j_icmp_lt (tgt := 12) (pc' := 9) rfl rfl rfl (fun c6 => ?_) (fun c6 => ?_)
  · rw [if_pos c6] at hf
    refine j_aload_n (pc' := 13) rfl rfl rfl ?_
    refine j_get (pc' := 16) rfl rfl flX6_30 (gxk_0 g σ) (nsF_6 σ) ?_
    obtain ⟨r16, e16, hf⟩ := o_bind hf
    refine j_v0 (pc' := 19) rfl rfl miX5_findFault lnX6_189 (gxk_11 g σ) rfl (s_X5_findFault g σ _ e16) (h_rm_of rfl) (Nat.le_of_ble_eq_true rfl) (c' := 0) (s' := 0) rfl rfl ?_
    refine j_istore_n (pc' := 20) (ls' := [(1, _), (0, _)]) rfl rfl (Nat.le_of_ble_eq_true rfl) rfl ?_
    refine j_aload_n (pc' := 21) rfl rfl rfl ?_
    refine j_get (pc' := 24) rfl rfl flX6_30 (gxk_0 g r16.2) (nsF_6 r16.2) ?_
    refine j_iconst (v := 0) (pc' := 25) rfl rfl (by decide) ?_
    obtain ⟨σ25, e25, hf⟩ := o_let hf
    refine j_put (pc' := 28) rfl rfl flX6_183 (gxk_11 g r16.2) (by decide) (Nat.le_of_ble_eq_true rfl) rfl rfl ?_
    rw [tps_2]; rw [e25]
    refine j_iload_n (pc' := 29) rfl rfl rfl ?_
    refine j_iconst (v := (-1)) (pc' := 30) rfl rfl (by decide) ?_
    refine j_icmp_eq (tgt := 38) (pc' := 33) rfl rfl rfl (fun c30 => ?_) (fun c30 => ?_)
    · rw [if_pos c30] at hf
      refine j_aload_n (pc' := 39) rfl rfl rfl ?_
      refine j_get (pc' := 42) rfl rfl flX6_23 (gxk_0 g σ25) (nsF_4 σ25) ?_
      refine j_aload_n (pc' := 43) rfl rfl rfl ?_
      refine j_get (pc' := 46) rfl rfl flX6_186 (gxk_0 g σ25) (nsF_5 σ25) ?_
      obtain ⟨c46, hf⟩ := o_chk hf
      have c46 := of_decide_eq_true c46
      obtain ⟨k46, ek46, hf⟩ := o_let hf
      obtain ⟨σ46, e46, hf⟩ := o_let hf
      refine j_new (pc' := 49) (ci := 2) (fs := dfX2) rfl rfl klX6_21 rfl dfX2_ok (by decide) (gx_neword c46).1 (by omega) (Nat.le_of_ble_eq_true rfl) (Nat.le_of_ble_eq_true rfl) ?_
      rw [(gx_neword c46).2]; rw [e46, ek46]
      refine j_dup (pc' := 50) rfl rfl rfl ?_
      refine j_aload_n (pc' := 51) rfl rfl rfl ?_
      refine j_get (pc' := 54) rfl rfl flX6_30 (gxk_0 g σ46) (nsF_6 σ46) ?_
      refine j_get (pc' := 57) rfl rfl flX6_193 (gxk_11 g σ46) (tpF_0 σ46) ?_
      refine j_aload_n (pc' := 58) rfl rfl rfl ?_
      refine j_get (pc' := 61) rfl rfl flX6_30 (gxk_0 g σ46) (nsF_6 σ46) ?_
      refine j_get (pc' := 64) rfl rfl flX6_196 (gxk_11 g σ46) (tpF_1 σ46) ?_
      obtain ⟨r64, e64, hf⟩ := o_bind hf
      refine j_i2 (pc' := 67) rfl rfl miX2_init rfl lnX6_199 (s_X2_init__12_13 g σ46 k46 _ e64) (h_rm_of rfl) (Nat.le_of_ble_eq_true rfl) (c' := 4) (s' := 25) rfl rfl ?_
      obtain ⟨c67_1, hf⟩ := o_chk hf
      obtain ⟨c67, hf⟩ := o_chk hf
      obtain ⟨σ67, e67, hf⟩ := o_let hf
      refine j_aast (pc' := 68) (ci := 2) (r := (RX2, TX2, 3)) rfl rfl (List.Mem.tail _ (List.Mem.tail _ (List.Mem.head _))) (gxk_3 g r64) (by decide) (vin_ok c67) (gx_ord c67_1) rfl ?_
      rw [gxs_3]; rw [e67]
      refine j_aload_n (pc' := 69) rfl rfl rfl ?_
      refine j_dup (pc' := 70) rfl rfl rfl ?_
      refine j_get (pc' := 73) rfl rfl flX6_186 (gxk_0 g σ67) (nsF_5 σ67) ?_
      refine j_dup_x1 (pc' := 74) rfl rfl rfl rfl ?_
      refine j_iconst (v := 1) (pc' := 75) rfl rfl (by decide) ?_
      refine j_iadd (pc' := 76) rfl rfl ?_
      obtain ⟨σ76, e76, hf⟩ := o_let hf
      refine j_put (pc' := 79) rfl rfl flX6_186 (gxk_0 g σ67) (by decide) (Nat.le_of_ble_eq_true rfl) rfl rfl ?_
      rw [nss_5]; rw [e76]
      have hf := Option.some.inj hf; subst hf
      exact j_iret rfl rfl (Nat.le_of_ble_eq_true rfl) (Nat.le_of_ble_eq_true rfl) ⟨rfl, rfl⟩
    · rw [if_neg c30] at hf
      refine j_bipush (v := (-10)) (pc' := 35) rfl rfl (by decide) ?_
      refine j_iload_n (pc' := 36) rfl rfl rfl ?_
      refine j_isub (pc' := 37) rfl rfl ?_
      have hf := Option.some.inj hf; subst hf
      exact j_iret rfl rfl (Nat.le_of_ble_eq_true rfl) (Nat.le_of_ble_eq_true rfl) ⟨rfl, rfl⟩
  · rw [if_neg c6] at hf
    refine j_bipush (v := (-4)) (pc' := 11) rfl rfl (by decide) ?_
    have hf := Option.some.inj hf; subst hf
    exact j_iret rfl rfl (Nat.le_of_ble_eq_true rfl) (Nat.le_of_ble_eq_true rfl) ⟨rfl, rfl⟩
end TAPE
