section CLASS3
def rX6_isWorse : Room := { frames := 1, cells := 0, slots := 0, locals := 20 }
def f_X6_isWorse (σ : xS) (x0 : Nat) (x1 : Int32) (x2 : Nat) (x3 : Int32) : Option Int32 := bif isL σ x0 then (f_X1_silverHeld σ x0).bind fun r1 => bif isL σ x2 then (f_X1_silverHeld σ x2).bind fun r8 => if 0 ≤ (lg_cmp (r1 * (x3).toInt64) (r8 * (x1).toInt64)) then some 0 else some 1 else none else none
set_option maxHeartbeats 4000000 in
set_option maxRecDepth 100000 in
theorem s_X6_isWorse (g : hH) (σ : xS) (x0 : Nat) (x1 : Int32) (x2 : Nat) (x3 : Int32) (r : Int32) (hf : f_X6_isWorse σ x0 x1 x2 x3 = some r) : SpD mX6_isWorse rX6_isWorse [.ref x0, .int x1, .ref x2, .int x3] (gx g σ) (some (.int r)) (gx g σ) := by
  refine sp_of miX6_isWorse (Nat.le_of_ble_eq_true rfl) ?_
  show J _ _ _ 0 0 _ 0 [(0, .ref x0), (1, .int x1), (2, .ref x2), (3, .int x3)] []
  unfold f_X6_isWorse at hf
  refine j_aload_n (pc' := 1) rfl rfl rfl ?_
  obtain ⟨c1_1, hf⟩ := o_chk hf
  obtain ⟨r1, e1, hf⟩ := o_bind hf
  refine j_v0 (pc' := 4) rfl rfl miX1_silverHeld lnX6_175 (gx_lot c1_1) rfl (s_X1_silverHeld g σ x0 _ e1) (h_rm_of rfl) (Nat.le_of_ble_eq_true rfl) (c' := 0) (s' := 0) rfl rfl ?_
  refine j_iload_n (pc' := 5) rfl rfl rfl ?_
  refine j_i2l (pc' := 6) rfl rfl ?_
  refine j_lmul (pc' := 7) rfl rfl ?_
  refine j_aload_n (pc' := 8) rfl rfl rfl ?_
  obtain ⟨c8_2, hf⟩ := o_chk hf
  obtain ⟨r8, e8, hf⟩ := o_bind hf
  refine j_v0 (pc' := 11) rfl rfl miX1_silverHeld lnX6_175 (gx_lot c8_2) rfl (s_X1_silverHeld g σ x2 _ e8) (h_rm_of rfl) (Nat.le_of_ble_eq_true rfl) (c' := 0) (s' := 0) rfl rfl ?_
  refine j_iload_n (pc' := 12) rfl rfl rfl ?_
  refine j_i2l (pc' := 13) rfl rfl ?_
  refine j_lmul (pc' := 14) rfl rfl ?_
  refine j_lcmp (pc' := 15) rfl rfl ?_
  refine j_if_ge (tgt := 22) (pc' := 18) rfl rfl rfl (fun c15 => ?_) (fun c15 => ?_)
  · rw [if_pos c15] at hf
    refine j_iconst (v := 0) (pc' := 23) rfl rfl (by decide) ?_
    have hf := Option.some.inj hf; subst hf
    exact j_zret rfl rfl (by decide) (Nat.le_of_ble_eq_true rfl) (Nat.le_of_ble_eq_true rfl) ⟨rfl, rfl⟩
  · rw [if_neg c15] at hf
    refine j_iconst (v := 1) (pc' := 19) rfl rfl (by decide) ?_
    refine j_goto (tgt := 23) rfl rfl ?_
    have hf := Option.some.inj hf; subst hf
    exact j_zret rfl rfl (by decide) (Nat.le_of_ble_eq_true rfl) (Nat.le_of_ble_eq_true rfl) ⟨rfl, rfl⟩
def rX6_payWorst : Room := { frames := 2, cells := 0, slots := 0, locals := 43 }
def f_X6_payWorst_L6 : Nat → xS → (Option Nat) → Int32 → Int32 → Option ((Option Nat) × Int32)
  | 0, _, _, _, _ => none
  | n + 1, σ, x1, x2, x3 => if (σ.1 3 0) ≤ x3 then some (x1, x2) else (f_X6_lotAt σ x3).bind fun r16 => oq x1 (oq r16 (f_X6_payWorst_L6 n σ none x2 (x3 + 1)) (fun k19_2 => bif vin x3 30 then if (σ.1 12 (x3).toNatClampNeg) ≤ 0 then f_X6_payWorst_L6 n σ none x2 (x3 + 1) else f_X6_payWorst_L6 n σ (some k19_2) x3 (x3 + 1) else none)) (fun k19_1 => oq r16 (f_X6_payWorst_L6 n σ (some k19_1) x2 (x3 + 1)) (fun k19_3 => bif vin x3 30 then if (σ.1 12 (x3).toNatClampNeg) ≤ 0 then f_X6_payWorst_L6 n σ (some k19_1) x2 (x3 + 1) else bif vin x3 30 then bif vin x2 30 then (f_X6_isWorse σ k19_3 (σ.1 12 (x3).toNatClampNeg) k19_1 (σ.1 12 (x2).toNatClampNeg)).bind fun r54 => if r54 = 0 then f_X6_payWorst_L6 n σ (some k19_1) x2 (x3 + 1) else f_X6_payWorst_L6 n σ (some k19_3) x3 (x3 + 1) else none else none else none))
set_option maxHeartbeats 4000000 in
set_option maxRecDepth 100000 in
theorem s_X6_payWorst_L6 {Q : Option Value → hH → Prop} (g : hH) : ∀ (n : Nat) (σ : xS) (x1 : (Option Nat)) (x2 : Int32) (x3 : Int32) (r : (Option Nat) × Int32), f_X6_payWorst_L6 n σ x1 x2 x3 = some r → (J mX6_payWorst rX6_payWorst Q 0 0 (gx g σ) 71 [(0, .ref 0), (1, va_rf r.1), (2, .int r.2)] []) → J mX6_payWorst rX6_payWorst Q 0 0 (gx g σ) 6 [(0, .ref 0), (1, va_rf x1), (2, .int x2), (3, .int x3)] [] := by
  intro n
  induction n with
  | zero =>
    intro σ x1 x2 x3 r hf
    cases hf
  | succ n ih =>
    intro σ x1 x2 x3 r hf k0
    rw [f_X6_payWorst_L6] at hf
    refine j_iload_n (pc' := 7) rfl rfl rfl ?_
    refine j_aload_n (pc' := 8) rfl rfl rfl ?_
    refine j_get (pc' := 11) rfl rfl flX6_97 (gxk_0 g σ) (nsF_3 σ) ?_
    refine j_icmp_ge (tgt := 71) (pc' := 14) rfl rfl rfl (fun c11 => ?_) (fun c11 => ?_)
    · rw [if_pos c11] at hf
      have hf := Option.some.inj hf; subst hf
      exact j_sub (ls' := [(0, .ref 0), (1, va_rf x1), (2, .int _)]) ⟨rfl, rfl, rfl, trivial⟩ (k0)
    · rw [if_neg c11] at hf
      refine j_aload_n (pc' := 15) rfl rfl rfl ?_
      refine j_iload_n (pc' := 16) rfl rfl rfl ?_
      obtain ⟨r16, e16, hf⟩ := o_bind hf
      refine j_v1 (pc' := 19) rfl rfl miX6_lotAt lnX6_116 (gxk_0 g σ) rfl (s_X6_lotAt g σ x3 _ e16) (h_rm_of rfl) (Nat.le_of_ble_eq_true rfl) (c' := 0) (s' := 0) rfl rfl ?_
      rcases o_q hf with ⟨q19_1, hf⟩ | ⟨k19_1, q19_1, hf⟩
      · rw [q19_1, va_rf_none]
        rcases o_q hf with ⟨q19_2, hf⟩ | ⟨k19_2, q19_2, hf⟩
        · rw [q19_2, va_rf_none]
          refine j_astoreN (pc' := 21) (ls' := [(4, _), (0, _), (1, _), (2, _), (3, _)]) rfl rfl (Nat.le_of_ble_eq_true rfl) rfl ?_
          refine j_aloadN (pc' := 23) rfl rfl rfl ?_
          refine j_ifnullN (tgt := 65) rfl rfl ?_
          refine j_iinc (pc' := 68) (d := 1) (ls' := [(3, _), (4, _), (0, _), (1, _), (2, _)]) rfl rfl rfl (by decide) (Nat.le_of_ble_eq_true rfl) rfl ?_
          refine j_goto (tgt := 6) rfl rfl ?_
          refine j_sub (ls' := [(0, .ref 0), (1, va_rf none), (2, .int _), (3, .int _)]) ⟨rfl, rfl, rfl, rfl, trivial⟩ ?_
          exact ih _ _ _ _ _ hf k0
        · rw [q19_2, va_rf_some]
          refine j_astore (pc' := 21) (ls' := [(4, _), (0, _), (1, _), (2, _), (3, _)]) rfl rfl (Nat.le_of_ble_eq_true rfl) rfl ?_
          refine j_aload (pc' := 23) rfl rfl rfl ?_
          refine j_ifnull (pc' := 26) rfl rfl ?_
          refine j_aload_n (pc' := 27) rfl rfl rfl ?_
          refine j_get (pc' := 30) rfl rfl flX6_51 (gxk_0 g σ) (nsF_12 σ) ?_
          refine j_iload_n (pc' := 31) rfl rfl rfl ?_
          obtain ⟨c31, hf⟩ := o_chk hf
          refine j_iald (pc' := 32) rfl rfl (gxk_8 g σ) (vin_ok c31) ?_
          refine j_if_le (tgt := 65) (pc' := 35) rfl rfl rfl (fun c32 => ?_) (fun c32 => ?_)
          · rw [if_pos c32] at hf
            refine j_iinc (pc' := 68) (d := 1) (ls' := [(3, _), (4, _), (0, _), (1, _), (2, _)]) rfl rfl rfl (by decide) (Nat.le_of_ble_eq_true rfl) rfl ?_
            refine j_goto (tgt := 6) rfl rfl ?_
            refine j_sub (ls' := [(0, .ref 0), (1, va_rf none), (2, .int _), (3, .int _)]) ⟨rfl, rfl, rfl, rfl, trivial⟩ ?_
            exact ih _ _ _ _ _ hf k0
          · rw [if_neg c32] at hf
            refine j_aload_nN (pc' := 36) rfl rfl rfl ?_
            refine j_ifnullN (tgt := 60) rfl rfl ?_
            refine j_aload (pc' := 62) rfl rfl rfl ?_
            refine j_astore_n (pc' := 63) (ls' := [(1, _), (4, _), (0, _), (2, _), (3, _)]) rfl rfl (Nat.le_of_ble_eq_true rfl) rfl ?_
            refine j_iload_n (pc' := 64) rfl rfl rfl ?_
            refine j_istore_n (pc' := 65) (ls' := [(2, _), (1, _), (4, _), (0, _), (3, _)]) rfl rfl (Nat.le_of_ble_eq_true rfl) rfl ?_
            refine j_iinc (pc' := 68) (d := 1) (ls' := [(3, _), (2, _), (1, _), (4, _), (0, _)]) rfl rfl rfl (by decide) (Nat.le_of_ble_eq_true rfl) rfl ?_
            refine j_goto (tgt := 6) rfl rfl ?_
            refine j_sub (ls' := [(0, .ref 0), (1, va_rf (some k19_2)), (2, .int _), (3, .int _)]) ⟨rfl, rfl, rfl, rfl, trivial⟩ ?_
            exact ih _ _ _ _ _ hf k0
      · rw [q19_1, va_rf_some]
        rcases o_q hf with ⟨q19_3, hf⟩ | ⟨k19_3, q19_3, hf⟩
        · rw [q19_3, va_rf_none]
          refine j_astoreN (pc' := 21) (ls' := [(4, _), (0, _), (1, _), (2, _), (3, _)]) rfl rfl (Nat.le_of_ble_eq_true rfl) rfl ?_
          refine j_aloadN (pc' := 23) rfl rfl rfl ?_
          refine j_ifnullN (tgt := 65) rfl rfl ?_
          refine j_iinc (pc' := 68) (d := 1) (ls' := [(3, _), (4, _), (0, _), (1, _), (2, _)]) rfl rfl rfl (by decide) (Nat.le_of_ble_eq_true rfl) rfl ?_
          refine j_goto (tgt := 6) rfl rfl ?_
          refine j_sub (ls' := [(0, .ref 0), (1, va_rf (some k19_1)), (2, .int _), (3, .int _)]) ⟨rfl, rfl, rfl, rfl, trivial⟩ ?_
          exact ih _ _ _ _ _ hf k0
        · rw [q19_3, va_rf_some]
          refine j_astore (pc' := 21) (ls' := [(4, _), (0, _), (1, _), (2, _), (3, _)]) rfl rfl (Nat.le_of_ble_eq_true rfl) rfl ?_
          refine j_aload (pc' := 23) rfl rfl rfl ?_
          refine j_ifnull (pc' := 26) rfl rfl ?_
          refine j_aload_n (pc' := 27) rfl rfl rfl ?_
          refine j_get (pc' := 30) rfl rfl flX6_51 (gxk_0 g σ) (nsF_12 σ) ?_
          refine j_iload_n (pc' := 31) rfl rfl rfl ?_
          obtain ⟨c31, hf⟩ := o_chk hf
          refine j_iald (pc' := 32) rfl rfl (gxk_8 g σ) (vin_ok c31) ?_
          refine j_if_le (tgt := 65) (pc' := 35) rfl rfl rfl (fun c32 => ?_) (fun c32 => ?_)
          · rw [if_pos c32] at hf
            refine j_iinc (pc' := 68) (d := 1) (ls' := [(3, _), (4, _), (0, _), (1, _), (2, _)]) rfl rfl rfl (by decide) (Nat.le_of_ble_eq_true rfl) rfl ?_
            refine j_goto (tgt := 6) rfl rfl ?_
            refine j_sub (ls' := [(0, .ref 0), (1, va_rf (some k19_1)), (2, .int _), (3, .int _)]) ⟨rfl, rfl, rfl, rfl, trivial⟩ ?_
            exact ih _ _ _ _ _ hf k0
          · rw [if_neg c32] at hf
            refine j_aload_n (pc' := 36) rfl rfl rfl ?_
            refine j_ifnull (pc' := 39) rfl rfl ?_
            refine j_aload (pc' := 41) rfl rfl rfl ?_
            refine j_aload_n (pc' := 42) rfl rfl rfl ?_
            refine j_get (pc' := 45) rfl rfl flX6_51 (gxk_0 g σ) (nsF_12 σ) ?_
            refine j_iload_n (pc' := 46) rfl rfl rfl ?_
            obtain ⟨c46, hf⟩ := o_chk hf
            refine j_iald (pc' := 47) rfl rfl (gxk_8 g σ) (vin_ok c46) ?_
            refine j_aload_n (pc' := 48) rfl rfl rfl ?_
            refine j_aload_n (pc' := 49) rfl rfl rfl ?_
            refine j_get (pc' := 52) rfl rfl flX6_51 (gxk_0 g σ) (nsF_12 σ) ?_
            refine j_iload_n (pc' := 53) rfl rfl rfl ?_
            obtain ⟨c53, hf⟩ := o_chk hf
            refine j_iald (pc' := 54) rfl rfl (gxk_8 g σ) (vin_ok c53) ?_
            obtain ⟨r54, e54, hf⟩ := o_bind hf
            refine j_s4 (pc' := 57) rfl rfl miX6_isWorse lnX6_324 (s_X6_isWorse g σ k19_3 (σ.1 12 (x3).toNatClampNeg) k19_1 (σ.1 12 (x2).toNatClampNeg) _ e54) (h_rm_of rfl) (Nat.le_of_ble_eq_true rfl) (c' := 0) (s' := 0) rfl rfl ?_
            refine j_if_eq (tgt := 65) (pc' := 60) rfl rfl rfl (fun c57 => ?_) (fun c57 => ?_)
            · rw [if_pos c57] at hf
              refine j_iinc (pc' := 68) (d := 1) (ls' := [(3, _), (4, _), (0, _), (1, _), (2, _)]) rfl rfl rfl (by decide) (Nat.le_of_ble_eq_true rfl) rfl ?_
              refine j_goto (tgt := 6) rfl rfl ?_
              refine j_sub (ls' := [(0, .ref 0), (1, va_rf (some k19_1)), (2, .int _), (3, .int _)]) ⟨rfl, rfl, rfl, rfl, trivial⟩ ?_
              exact ih _ _ _ _ _ hf k0
            · rw [if_neg c57] at hf
              refine j_aload (pc' := 62) rfl rfl rfl ?_
              refine j_astore_n (pc' := 63) (ls' := [(1, _), (4, _), (0, _), (2, _), (3, _)]) rfl rfl (Nat.le_of_ble_eq_true rfl) rfl ?_
              refine j_iload_n (pc' := 64) rfl rfl rfl ?_
              refine j_istore_n (pc' := 65) (ls' := [(2, _), (1, _), (4, _), (0, _), (3, _)]) rfl rfl (Nat.le_of_ble_eq_true rfl) rfl ?_
              refine j_iinc (pc' := 68) (d := 1) (ls' := [(3, _), (2, _), (1, _), (4, _), (0, _)]) rfl rfl rfl (by decide) (Nat.le_of_ble_eq_true rfl) rfl ?_
              refine j_goto (tgt := 6) rfl rfl ?_
              refine j_sub (ls' := [(0, .ref 0), (1, va_rf (some k19_3)), (2, .int _), (3, .int _)]) ⟨rfl, rfl, rfl, rfl, trivial⟩ ?_
              exact ih _ _ _ _ _ hf k0
def f_X6_payWorst (σ : xS) : Option (Int32 × xS) := (f_X6_payWorst_L6 4000 σ none 0 0).bind fun r6 => oq r6.1 (some (0, σ)) (fun k71_4 => if (σ.1 11 0) < 30 then bif vin r6.2 30 then bif vin r6.2 30 then letm (xi σ 12 (va_up (σ.1 12) (r6.2).toNatClampNeg 0)) fun σ99 => bif isL σ99 k71_4 then letm (xi σ99 110 (va_up (σ99.1 110) (k71_4 - 1000) 1)) fun σ102 => letm (xi σ102 11 (fun _ => ((σ102.1 11 0) + 1))) fun σ117 => bif vin (σ102.1 11 0) 30 then letm (xi σ117 10 (va_up (σ117.1 10) ((σ102.1 11 0)).toNatClampNeg r6.2)) fun σ121 => some ((σ.1 12 (r6.2).toNatClampNeg), σ121) else none else none else none else none else some (0, σ))
set_option maxHeartbeats 4000000 in
set_option maxRecDepth 100000 in
theorem s_X6_payWorst (g : hH) (σ : xS) (r : (Int32 × xS)) (hf : f_X6_payWorst σ = some r) : SpD mX6_payWorst rX6_payWorst [.ref 0] (gx g σ) (some (.int r.1)) (gx g r.2) := by
  refine sp_of miX6_payWorst (Nat.le_of_ble_eq_true rfl) ?_
  show J _ _ _ 0 0 _ 0 [(0, .ref 0)] []
  unfold f_X6_payWorst at hf
  refine j_null (pc' := 1) rfl rfl ?_
  refine j_astore_nN (pc' := 2) (ls' := [(1, _), (0, _)]) rfl rfl (Nat.le_of_ble_eq_true rfl) rfl ?_
  refine j_iconst (v := 0) (pc' := 3) rfl rfl (by decide) ?_
  refine j_istore_n (pc' := 4) (ls' := [(2, _), (1, _), (0, _)]) rfl rfl (Nat.le_of_ble_eq_true rfl) rfl ?_
  refine j_iconst (v := 0) (pc' := 5) rfl rfl (by decide) ?_
  refine j_istore_n (pc' := 6) (ls' := [(3, _), (2, _), (1, _), (0, _)]) rfl rfl (Nat.le_of_ble_eq_true rfl) rfl ?_
  obtain ⟨r6, e6, hf⟩ := o_bind hf
  refine j_sub (ls' := [(0, .ref 0), (1, va_rf none), (2, .int _), (3, .int _)]) ⟨rfl, rfl, rfl, rfl, trivial⟩ ?_
  refine s_X6_payWorst_L6 g _ _ _ _ _ _ e6 ?_
  rcases o_q hf with ⟨q71_4, hf⟩ | ⟨k71_4, q71_4, hf⟩
  · rw [q71_4, va_rf_none]
    refine j_aload_nN (pc' := 72) rfl rfl rfl ?_
    refine j_ifnullN (tgt := 84) rfl rfl ?_
    refine j_iconst (v := 0) (pc' := 85) rfl rfl (by decide) ?_
    have hf := Option.some.inj hf; subst hf
    exact j_iret rfl rfl (Nat.le_of_ble_eq_true rfl) (Nat.le_of_ble_eq_true rfl) ⟨rfl, rfl⟩
  · rw [q71_4, va_rf_some]
    refine j_aload_n (pc' := 72) rfl rfl rfl ?_
    refine j_ifnull (pc' := 75) rfl rfl ?_
    refine j_aload_n (pc' := 76) rfl rfl rfl ?_
    refine j_get (pc' := 79) rfl rfl flX6_230 (gxk_0 g σ) (nsF_11 σ) ?_
    refine j_bipush (v := 30) (pc' := 81) rfl rfl (by decide) ?_
    refine j_icmp_lt (tgt := 86) (pc' := 84) rfl rfl rfl (fun c81 => ?_) (fun c81 => ?_)
    · rw [if_pos c81] at hf
      refine j_aload_n (pc' := 87) rfl rfl rfl ?_
      refine j_get (pc' := 90) rfl rfl flX6_51 (gxk_0 g σ) (nsF_12 σ) ?_
      refine j_iload_n (pc' := 91) rfl rfl rfl ?_
      obtain ⟨c91, hf⟩ := o_chk hf
      refine j_iald (pc' := 92) rfl rfl (gxk_8 g σ) (vin_ok c91) ?_
      refine j_istore_n (pc' := 93) (ls' := [(3, _), (0, _), (1, _), (2, _)]) rfl rfl (Nat.le_of_ble_eq_true rfl) rfl ?_
      refine j_aload_n (pc' := 94) rfl rfl rfl ?_
      refine j_get (pc' := 97) rfl rfl flX6_51 (gxk_0 g σ) (nsF_12 σ) ?_
      refine j_iload_n (pc' := 98) rfl rfl rfl ?_
      refine j_iconst (v := 0) (pc' := 99) rfl rfl (by decide) ?_
      obtain ⟨c99, hf⟩ := o_chk hf
      obtain ⟨σ99, e99, hf⟩ := o_let hf
      refine j_iast (pc' := 100) rfl rfl (gxk_8 g σ) (by decide) (vin_ok c99) ?_
      rw [gxs_8]; rw [e99]
      refine j_aload_n (pc' := 101) rfl rfl rfl ?_
      refine j_iconst (v := 1) (pc' := 102) rfl rfl (by decide) ?_
      obtain ⟨c102_5, hf⟩ := o_chk hf
      obtain ⟨σ102, e102, hf⟩ := o_let hf
      refine j_put (pc' := 105) rfl rfl flX6_167 (gx_lot c102_5) (lt_L c102_5) (Nat.le_of_ble_eq_true rfl) rfl rfl ?_
      rw [lots_10 c102_5]; rw [e102]
      refine j_aload_n (pc' := 106) rfl rfl rfl ?_
      refine j_get (pc' := 109) rfl rfl flX6_48 (gxk_0 g σ102) (nsF_10 σ102) ?_
      refine j_aload_n (pc' := 110) rfl rfl rfl ?_
      refine j_dup (pc' := 111) rfl rfl rfl ?_
      refine j_get (pc' := 114) rfl rfl flX6_230 (gxk_0 g σ102) (nsF_11 σ102) ?_
      refine j_dup_x1 (pc' := 115) rfl rfl rfl rfl ?_
      refine j_iconst (v := 1) (pc' := 116) rfl rfl (by decide) ?_
      refine j_iadd (pc' := 117) rfl rfl ?_
      obtain ⟨σ117, e117, hf⟩ := o_let hf
      refine j_put (pc' := 120) rfl rfl flX6_230 (gxk_0 g σ102) (by decide) (Nat.le_of_ble_eq_true rfl) rfl rfl ?_
      rw [nss_11]; rw [e117]
      refine j_iload_n (pc' := 121) rfl rfl rfl ?_
      obtain ⟨c121, hf⟩ := o_chk hf
      obtain ⟨σ121, e121, hf⟩ := o_let hf
      refine j_iast (pc' := 122) rfl rfl (gxk_7 g σ117) (by decide) (vin_ok c121) ?_
      rw [gxs_7]; rw [e121]
      refine j_iload_n (pc' := 123) rfl rfl rfl ?_
      have hf := Option.some.inj hf; subst hf
      exact j_iret rfl rfl (Nat.le_of_ble_eq_true rfl) (Nat.le_of_ble_eq_true rfl) ⟨rfl, rfl⟩
    · rw [if_neg c81] at hf
      refine j_iconst (v := 0) (pc' := 85) rfl rfl (by decide) ?_
      have hf := Option.some.inj hf; subst hf
      exact j_iret rfl rfl (Nat.le_of_ble_eq_true rfl) (Nat.le_of_ble_eq_true rfl) ⟨rfl, rfl⟩
def rX6_pay : Room := { frames := 4, cells := 0, slots := 0, locals := 97 }
def f_X6_pay_L46 : Nat → xS → Int32 → Int32 → Int64 → Int32 → Option (Int64 × xS)
  | 0, _, _, _, _, _ => none
  | n + 1, σ, x1, x2, x3, x5 => if 30 ≤ x5 then some (x3, σ) else if 0 ≤ (lg_cmp x3 ((x2).toInt64)) then some (x3, σ) else (f_X6_payWorst σ).bind fun r62 => f_X6_pay_L46 n r62.2 x1 x2 (x3 + (r62.1).toInt64) (x5 + 1)
set_option maxHeartbeats 4000000 in
set_option maxRecDepth 100000 in
theorem s_X6_pay_L46 {Q : Option Value → hH → Prop} (g : hH) : ∀ (n : Nat) (σ : xS) (x1 : Int32) (x2 : Int32) (x3 : Int64) (x5 : Int32) (r : Int64 × xS), f_X6_pay_L46 n σ x1 x2 x3 x5 = some r → (J mX6_pay rX6_pay Q 0 0 (gx g r.2) 74 [(0, .ref 0), (1, .int x1), (2, .int x2), (3, .long r.1)] []) → J mX6_pay rX6_pay Q 0 0 (gx g σ) 46 [(0, .ref 0), (1, .int x1), (2, .int x2), (3, .long x3), (5, .int x5)] [] := by
  intro n
  induction n with
  | zero =>
    intro σ x1 x2 x3 x5 r hf
    cases hf
  | succ n ih =>
    intro σ x1 x2 x3 x5 r hf k0
    rw [f_X6_pay_L46] at hf
    refine j_iload (pc' := 48) rfl rfl rfl ?_
    refine j_bipush (v := 30) (pc' := 50) rfl rfl (by decide) ?_
    refine j_icmp_ge (tgt := 74) (pc' := 53) rfl rfl rfl (fun c50 => ?_) (fun c50 => ?_)
    · rw [if_pos c50] at hf
      have hf := Option.some.inj hf; subst hf
      exact j_sub (ls' := [(0, .ref 0), (1, .int _), (2, .int _), (3, .long _)]) ⟨rfl, rfl, rfl, rfl, trivial⟩ (k0)
    · rw [if_neg c50] at hf
      refine j_lload_n (pc' := 54) rfl rfl rfl ?_
      refine j_iload_n (pc' := 55) rfl rfl rfl ?_
      refine j_i2l (pc' := 56) rfl rfl ?_
      refine j_lcmp (pc' := 57) rfl rfl ?_
      refine j_if_ge (tgt := 74) (pc' := 60) rfl rfl rfl (fun c57 => ?_) (fun c57 => ?_)
      · rw [if_pos c57] at hf
        have hf := Option.some.inj hf; subst hf
        exact j_sub (ls' := [(0, .ref 0), (1, .int _), (2, .int _), (3, .long _)]) ⟨rfl, rfl, rfl, rfl, trivial⟩ (k0)
      · rw [if_neg c57] at hf
        refine j_lload_n (pc' := 61) rfl rfl rfl ?_
        refine j_aload_n (pc' := 62) rfl rfl rfl ?_
        obtain ⟨r62, e62, hf⟩ := o_bind hf
        refine j_v0 (pc' := 65) rfl rfl miX6_payWorst lnX6_233 (gxk_0 g σ) rfl (s_X6_payWorst g σ _ e62) (h_rm_of rfl) (Nat.le_of_ble_eq_true rfl) (c' := 0) (s' := 0) rfl rfl ?_
        refine j_i2l (pc' := 66) rfl rfl ?_
        refine j_ladd (pc' := 67) rfl rfl ?_
        refine j_lstore_n (pc' := 68) (ls' := [(3, _), (0, _), (1, _), (2, _), (5, _)]) rfl rfl (Nat.le_of_ble_eq_true rfl) rfl ?_
        refine j_iinc (pc' := 71) (d := 1) (ls' := [(5, _), (3, _), (0, _), (1, _), (2, _)]) rfl rfl rfl (by decide) (Nat.le_of_ble_eq_true rfl) rfl ?_
        refine j_goto (tgt := 46) rfl rfl ?_
        refine j_sub (ls' := [(0, .ref 0), (1, .int _), (2, .int _), (3, .long _), (5, .int _)]) ⟨rfl, rfl, rfl, rfl, rfl, trivial⟩ ?_
        exact ih _ _ _ _ _ _ hf k0
def f_X6_pay (σ : xS) (x1 : Int32) (x2 : Int32) : Option (Int32 × xS) := (f_X6_isTown x1).bind fun r1 => if r1 = 0 then some ((-1), σ) else (f_X6_within x2 1 1000000).bind fun r13 => if r13 = 0 then some ((-2), σ) else (f_X6_reckonWorth σ x1).bind fun r24 => if 0 ≤ (lg_cmp r24.1 ((x2).toInt64)) then letm (xi r24.2 11 (fun _ => 0)) fun σ38 => (f_X6_pay_L46 4000 σ38 x1 x2 0 0).bind fun r46 => bif vin x1 6 then bif vin x1 6 then letm (xl r46.2 9 (va_up (r46.2.2.1 9) (x1).toNatClampNeg ((r46.2.2.1 9 (x1).toNatClampNeg) + (r46.1 - (x2).toInt64)))) fun σ86 => some ((σ86.1 11 0), σ86) else none else none else some ((-3), r24.2)
set_option maxHeartbeats 4000000 in
set_option maxRecDepth 100000 in
theorem s_X6_pay (g : hH) (σ : xS) (x1 : Int32) (x2 : Int32) (r : (Int32 × xS)) (hf : f_X6_pay σ x1 x2 = some r) : SpD mX6_pay rX6_pay [.ref 0, .int x1, .int x2] (gx g σ) (some (.int r.1)) (gx g r.2) := by
  refine sp_of miX6_pay (Nat.le_of_ble_eq_true rfl) ?_
  show J _ _ _ 0 0 _ 0 [(0, .ref 0), (1, .int x1), (2, .int x2)] []
  unfold f_X6_pay at hf
  refine j_iload_n (pc' := 1) rfl rfl rfl ?_
  obtain ⟨r1, e1, hf⟩ := o_bind hf
  refine j_s1 (pc' := 4) rfl rfl miX6_isTown lnX6_89 (s_X6_isTown (gx g σ) x1 _ e1) (h_rm_of rfl) (Nat.le_of_ble_eq_true rfl) (c' := 0) (s' := 0) rfl rfl ?_
  refine j_if_ne (tgt := 9) (pc' := 7) rfl rfl rfl (fun c4 => ?_) (fun c4 => ?_)
  · rw [if_neg c4] at hf
    refine j_iload_n (pc' := 10) rfl rfl rfl ?_
    refine j_iconst (v := 1) (pc' := 11) rfl rfl (by decide) ?_
    refine j_ldc (pc' := 13) rfl rfl kcX6_225 ?_
    obtain ⟨r13, e13, hf⟩ := o_bind hf
    refine j_s3 (pc' := 16) rfl rfl miX6_within lnX6_74 (s_X6_within (gx g σ) x2 1 1000000 _ e13) (h_rm_of rfl) (Nat.le_of_ble_eq_true rfl) (c' := 0) (s' := 0) rfl rfl ?_
    refine j_if_ne (tgt := 22) (pc' := 19) rfl rfl rfl (fun c16 => ?_) (fun c16 => ?_)
    · rw [if_neg c16] at hf
      refine j_aload_n (pc' := 23) rfl rfl rfl ?_
      refine j_iload_n (pc' := 24) rfl rfl rfl ?_
      obtain ⟨r24, e24, hf⟩ := o_bind hf
      refine j_v1 (pc' := 27) rfl rfl miX6_reckonWorth lnX6_226 (gxk_0 g σ) rfl (s_X6_reckonWorth g σ x1 _ e24) (h_rm_of rfl) (Nat.le_of_ble_eq_true rfl) (c' := 0) (s' := 0) rfl rfl ?_
      refine j_iload_n (pc' := 28) rfl rfl rfl ?_
      refine j_i2l (pc' := 29) rfl rfl ?_
      refine j_lcmp (pc' := 30) rfl rfl ?_
      refine j_if_ge (tgt := 36) (pc' := 33) rfl rfl rfl (fun c30 => ?_) (fun c30 => ?_)
      · rw [if_pos c30] at hf
        refine j_aload_n (pc' := 37) rfl rfl rfl ?_
        refine j_iconst (v := 0) (pc' := 38) rfl rfl (by decide) ?_
        obtain ⟨σ38, e38, hf⟩ := o_let hf
        refine j_put (pc' := 41) rfl rfl flX6_230 (gxk_0 g r24.2) (by decide) (Nat.le_of_ble_eq_true rfl) rfl rfl ?_
        rw [nss_11]; rw [e38]
        refine j_lconst (v := 0) (pc' := 42) rfl rfl (by decide) ?_
        refine j_lstore_n (pc' := 43) (ls' := [(3, _), (0, _), (1, _), (2, _)]) rfl rfl (Nat.le_of_ble_eq_true rfl) rfl ?_
        refine j_iconst (v := 0) (pc' := 44) rfl rfl (by decide) ?_
        refine j_istore (pc' := 46) (ls' := [(5, _), (3, _), (0, _), (1, _), (2, _)]) rfl rfl (Nat.le_of_ble_eq_true rfl) rfl ?_
        obtain ⟨r46, e46, hf⟩ := o_bind hf
        refine j_sub (ls' := [(0, .ref 0), (1, .int _), (2, .int _), (3, .long _), (5, .int _)]) ⟨rfl, rfl, rfl, rfl, rfl, trivial⟩ ?_
        refine s_X6_pay_L46 g _ _ _ _ _ _ _ e46 ?_
        refine j_aload_n (pc' := 75) rfl rfl rfl ?_
        refine j_get (pc' := 78) rfl rfl flX6_44 (gxk_0 g r46.2) (nsF_9 r46.2) ?_
        refine j_iload_n (pc' := 79) rfl rfl rfl ?_
        refine j_dup2_11 (pc' := 80) rfl rfl rfl rfl ?_
        obtain ⟨c80, hf⟩ := o_chk hf
        refine j_lald (pc' := 81) rfl rfl (gxk_6 g r46.2) (vin_ok c80) ?_
        refine j_lload_n (pc' := 82) rfl rfl rfl ?_
        refine j_iload_n (pc' := 83) rfl rfl rfl ?_
        refine j_i2l (pc' := 84) rfl rfl ?_
        refine j_lsub (pc' := 85) rfl rfl ?_
        refine j_ladd (pc' := 86) rfl rfl ?_
        obtain ⟨c86, hf⟩ := o_chk hf
        obtain ⟨σ86, e86, hf⟩ := o_let hf
        refine j_last (pc' := 87) rfl rfl (gxk_6 g r46.2) (by decide) (vin_ok c86) ?_
        rw [gxs_6]; rw [e86]
        refine j_aload_n (pc' := 88) rfl rfl rfl ?_
        refine j_get (pc' := 91) rfl rfl flX6_230 (gxk_0 g σ86) (nsF_11 σ86) ?_
        have hf := Option.some.inj hf; subst hf
        exact j_iret rfl rfl (Nat.le_of_ble_eq_true rfl) (Nat.le_of_ble_eq_true rfl) ⟨rfl, rfl⟩
      · rw [if_neg c30] at hf
        refine j_bipush (v := (-3)) (pc' := 35) rfl rfl (by decide) ?_
        have hf := Option.some.inj hf; subst hf
        exact j_iret rfl rfl (Nat.le_of_ble_eq_true rfl) (Nat.le_of_ble_eq_true rfl) ⟨rfl, rfl⟩
    · rw [if_pos c16] at hf
      refine j_bipush (v := (-2)) (pc' := 21) rfl rfl (by decide) ?_
      have hf := Option.some.inj hf; subst hf
      exact j_iret rfl rfl (Nat.le_of_ble_eq_true rfl) (Nat.le_of_ble_eq_true rfl) ⟨rfl, rfl⟩
  · rw [if_pos c4] at hf
    refine j_iconst (v := (-1)) (pc' := 8) rfl rfl (by decide) ?_
    have hf := Option.some.inj hf; subst hf
    exact j_iret rfl rfl (Nat.le_of_ble_eq_true rfl) (Nat.le_of_ble_eq_true rfl) ⟨rfl, rfl⟩
def rX6_paid : Room := { frames := 1, cells := 0, slots := 0, locals := 22 }
def f_X6_paid (σ : xS) (x1 : Int32) : Option Int32 := (f_X6_within x1 0 ((σ.1 11 0) - 1)).bind fun r8 => if r8 = 0 then some (-1) else bif vin x1 30 then some (σ.1 10 (x1).toNatClampNeg) else none
set_option maxHeartbeats 4000000 in
set_option maxRecDepth 100000 in
theorem s_X6_paid (g : hH) (σ : xS) (x1 : Int32) (r : Int32) (hf : f_X6_paid σ x1 = some r) : SpD mX6_paid rX6_paid [.ref 0, .int x1] (gx g σ) (some (.int r)) (gx g σ) := by
  refine sp_of miX6_paid (Nat.le_of_ble_eq_true rfl) ?_
  show J _ _ _ 0 0 _ 0 [(0, .ref 0), (1, .int x1)] []
  unfold f_X6_paid at hf
  refine j_iload_n (pc' := 1) rfl rfl rfl ?_
  refine j_iconst (v := 0) (pc' := 2) rfl rfl (by decide) ?_
  refine j_aload_n (pc' := 3) rfl rfl rfl ?_
  refine j_get (pc' := 6) rfl rfl flX6_230 (gxk_0 g σ) (nsF_11 σ) ?_
  refine j_iconst (v := 1) (pc' := 7) rfl rfl (by decide) ?_
  refine j_isub (pc' := 8) rfl rfl ?_
  obtain ⟨r8, e8, hf⟩ := o_bind hf
  refine j_s3 (pc' := 11) rfl rfl miX6_within lnX6_74 (s_X6_within (gx g σ) x1 0 ((σ.1 11 0) - 1) _ e8) (h_rm_of rfl) (Nat.le_of_ble_eq_true rfl) (c' := 0) (s' := 0) rfl rfl ?_
  refine j_if_eq (tgt := 23) (pc' := 14) rfl rfl rfl (fun c11 => ?_) (fun c11 => ?_)
  · rw [if_pos c11] at hf
    refine j_iconst (v := (-1)) (pc' := 24) rfl rfl (by decide) ?_
    have hf := Option.some.inj hf; subst hf
    exact j_iret rfl rfl (Nat.le_of_ble_eq_true rfl) (Nat.le_of_ble_eq_true rfl) ⟨rfl, rfl⟩
  · rw [if_neg c11] at hf
    refine j_aload_n (pc' := 15) rfl rfl rfl ?_
    refine j_get (pc' := 18) rfl rfl flX6_48 (gxk_0 g σ) (nsF_10 σ) ?_
    refine j_iload_n (pc' := 19) rfl rfl rfl ?_
    obtain ⟨c19, hf⟩ := o_chk hf
    refine j_iald (pc' := 20) rfl rfl (gxk_7 g σ) (vin_ok c19) ?_
    refine j_goto (tgt := 24) rfl rfl ?_
    have hf := Option.some.inj hf; subst hf
    exact j_iret rfl rfl (Nat.le_of_ble_eq_true rfl) (Nat.le_of_ble_eq_true rfl) ⟨rfl, rfl⟩
def rX6_credit : Room := { frames := 2, cells := 0, slots := 0, locals := 42 }
def f_X6_credit (σ : xS) (x1 : Int32) : Option Int64 := (f_X6_isTown x1).bind fun r1 => if r1 = 0 then some (-1) else bif vin x1 6 then some (σ.2.1 9 (x1).toNatClampNeg) else none
set_option maxHeartbeats 4000000 in
set_option maxRecDepth 100000 in
theorem s_X6_credit (g : hH) (σ : xS) (x1 : Int32) (r : Int64) (hf : f_X6_credit σ x1 = some r) : SpD mX6_credit rX6_credit [.ref 0, .int x1] (gx g σ) (some (.long r)) (gx g σ) := by
  refine sp_of miX6_credit (Nat.le_of_ble_eq_true rfl) ?_
  show J _ _ _ 0 0 _ 0 [(0, .ref 0), (1, .int x1)] []
  unfold f_X6_credit at hf
  refine j_iload_n (pc' := 1) rfl rfl rfl ?_
  obtain ⟨r1, e1, hf⟩ := o_bind hf
  refine j_s1 (pc' := 4) rfl rfl miX6_isTown lnX6_89 (s_X6_isTown (gx g σ) x1 _ e1) (h_rm_of rfl) (Nat.le_of_ble_eq_true rfl) (c' := 0) (s' := 0) rfl rfl ?_
  refine j_if_eq (tgt := 16) (pc' := 7) rfl rfl rfl (fun c4 => ?_) (fun c4 => ?_)
  · rw [if_pos c4] at hf
    refine j_ldc2 (pc' := 19) rfl rfl kcX6_173 ?_
    have hf := Option.some.inj hf; subst hf
    exact j_lret rfl rfl (Nat.le_of_ble_eq_true rfl) (Nat.le_of_ble_eq_true rfl) ⟨rfl, rfl⟩
  · rw [if_neg c4] at hf
    refine j_aload_n (pc' := 8) rfl rfl rfl ?_
    refine j_get (pc' := 11) rfl rfl flX6_44 (gxk_0 g σ) (nsF_9 σ) ?_
    refine j_iload_n (pc' := 12) rfl rfl rfl ?_
    obtain ⟨c12, hf⟩ := o_chk hf
    refine j_lald (pc' := 13) rfl rfl (gxk_6 g σ) (vin_ok c12) ?_
    refine j_goto (tgt := 19) rfl rfl ?_
    have hf := Option.some.inj hf; subst hf
    exact j_lret rfl rfl (Nat.le_of_ble_eq_true rfl) (Nat.le_of_ble_eq_true rfl) ⟨rfl, rfl⟩
def rX6_give : Room := { frames := 2, cells := 0, slots := 0, locals := 43 }
def f_X6_give_L13 : Nat → xS → Int32 → Int32 → Int32 → Option (Int32 × xS)
  | 0, _, _, _, _ => none
  | n + 1, σ, x1, x2, x3 => if (σ.1 3 0) ≤ x3 then some (x2, σ) else (f_X6_lotAt σ x3).bind fun r23 => oq r23 (f_X6_give_L13 n σ x1 x2 (x3 + 1)) (fun k26_1 => bif isL σ k26_1 then if (σ.1 110 (k26_1 - 1000)) = 0 then f_X6_give_L13 n σ x1 x2 (x3 + 1) else if (σ.1 106 (k26_1 - 1000)) = x1 then letm (xi σ 110 (va_up (σ.1 110) (k26_1 - 1000) 0)) fun σ53 => f_X6_give_L13 n σ53 x1 (x2 + 1) (x3 + 1) else f_X6_give_L13 n σ x1 x2 (x3 + 1) else none)
set_option maxHeartbeats 4000000 in
set_option maxRecDepth 100000 in
theorem s_X6_give_L13 {Q : Option Value → hH → Prop} (g : hH) : ∀ (n : Nat) (σ : xS) (x1 : Int32) (x2 : Int32) (x3 : Int32) (r : Int32 × xS), f_X6_give_L13 n σ x1 x2 x3 = some r → (J mX6_give rX6_give Q 0 0 (gx g r.2) 65 [(2, .int r.1)] []) → J mX6_give rX6_give Q 0 0 (gx g σ) 13 [(0, .ref 0), (1, .int x1), (2, .int x2), (3, .int x3)] [] := by
  intro n
  induction n with
  | zero =>
    intro σ x1 x2 x3 r hf
    cases hf
  | succ n ih =>
    intro σ x1 x2 x3 r hf k0
    rw [f_X6_give_L13] at hf
    refine j_iload_n (pc' := 14) rfl rfl rfl ?_
    refine j_aload_n (pc' := 15) rfl rfl rfl ?_
    refine j_get (pc' := 18) rfl rfl flX6_97 (gxk_0 g σ) (nsF_3 σ) ?_
    refine j_icmp_ge (tgt := 65) (pc' := 21) rfl rfl rfl (fun c18 => ?_) (fun c18 => ?_)
    · rw [if_pos c18] at hf
      have hf := Option.some.inj hf; subst hf
      exact j_sub (ls' := [(2, .int _)]) ⟨rfl, trivial⟩ (k0)
    · rw [if_neg c18] at hf
      refine j_aload_n (pc' := 22) rfl rfl rfl ?_
      refine j_iload_n (pc' := 23) rfl rfl rfl ?_
      obtain ⟨r23, e23, hf⟩ := o_bind hf
      refine j_v1 (pc' := 26) rfl rfl miX6_lotAt lnX6_116 (gxk_0 g σ) rfl (s_X6_lotAt g σ x3 _ e23) (h_rm_of rfl) (Nat.le_of_ble_eq_true rfl) (c' := 0) (s' := 0) rfl rfl ?_
      rcases o_q hf with ⟨q26_1, hf⟩ | ⟨k26_1, q26_1, hf⟩
      · rw [q26_1, va_rf_none]
        refine j_astoreN (pc' := 28) (ls' := [(4, _), (0, _), (1, _), (2, _), (3, _)]) rfl rfl (Nat.le_of_ble_eq_true rfl) rfl ?_
        refine j_aloadN (pc' := 30) rfl rfl rfl ?_
        refine j_ifnullN (tgt := 59) rfl rfl ?_
        refine j_iinc (pc' := 62) (d := 1) (ls' := [(3, _), (4, _), (0, _), (1, _), (2, _)]) rfl rfl rfl (by decide) (Nat.le_of_ble_eq_true rfl) rfl ?_
        refine j_goto (tgt := 13) rfl rfl ?_
        refine j_sub (ls' := [(0, .ref 0), (1, .int _), (2, .int _), (3, .int _)]) ⟨rfl, rfl, rfl, rfl, trivial⟩ ?_
        exact ih _ _ _ _ _ hf k0
      · rw [q26_1, va_rf_some]
        refine j_astore (pc' := 28) (ls' := [(4, _), (0, _), (1, _), (2, _), (3, _)]) rfl rfl (Nat.le_of_ble_eq_true rfl) rfl ?_
        refine j_aload (pc' := 30) rfl rfl rfl ?_
        refine j_ifnull (pc' := 33) rfl rfl ?_
        refine j_aload (pc' := 35) rfl rfl rfl ?_
        obtain ⟨c35_2, hf⟩ := o_chk hf
        refine j_get (pc' := 38) (v := .int (σ.1 110 (k26_1 - 1000))) rfl rfl flX6_167 (gx_lot c35_2) (lotF_10 _ _) ?_
        refine j_if_eq (tgt := 59) (pc' := 41) rfl rfl rfl (fun c38 => ?_) (fun c38 => ?_)
        · rw [if_pos c38] at hf
          refine j_iinc (pc' := 62) (d := 1) (ls' := [(3, _), (4, _), (0, _), (1, _), (2, _)]) rfl rfl rfl (by decide) (Nat.le_of_ble_eq_true rfl) rfl ?_
          refine j_goto (tgt := 13) rfl rfl ?_
          refine j_sub (ls' := [(0, .ref 0), (1, .int _), (2, .int _), (3, .int _)]) ⟨rfl, rfl, rfl, rfl, trivial⟩ ?_
          exact ih _ _ _ _ _ hf k0
        · rw [if_neg c38] at hf
          refine j_aload (pc' := 43) rfl rfl rfl ?_
          refine j_get (pc' := 46) (v := .int (σ.1 106 (k26_1 - 1000))) rfl rfl flX6_109 (gx_lot c35_2) (lotF_6 _ _) ?_
          refine j_iload_n (pc' := 47) rfl rfl rfl ?_
          refine j_icmp_ne (tgt := 59) (pc' := 50) rfl rfl rfl (fun c47 => ?_) (fun c47 => ?_)
          · rw [if_neg c47] at hf
            refine j_iinc (pc' := 62) (d := 1) (ls' := [(3, _), (4, _), (0, _), (1, _), (2, _)]) rfl rfl rfl (by decide) (Nat.le_of_ble_eq_true rfl) rfl ?_
            refine j_goto (tgt := 13) rfl rfl ?_
            refine j_sub (ls' := [(0, .ref 0), (1, .int _), (2, .int _), (3, .int _)]) ⟨rfl, rfl, rfl, rfl, trivial⟩ ?_
            exact ih _ _ _ _ _ hf k0
          · rw [if_pos c47] at hf
            refine j_aload (pc' := 52) rfl rfl rfl ?_
            refine j_iconst (v := 0) (pc' := 53) rfl rfl (by decide) ?_
            obtain ⟨σ53, e53, hf⟩ := o_let hf
            refine j_put (pc' := 56) rfl rfl flX6_167 (gx_lot c35_2) (lt_L c35_2) (Nat.le_of_ble_eq_true rfl) rfl rfl ?_
            rw [lots_10 c35_2]; rw [e53]
            refine j_iinc (pc' := 59) (d := 1) (ls' := [(2, _), (4, _), (0, _), (1, _), (3, _)]) rfl rfl rfl (by decide) (Nat.le_of_ble_eq_true rfl) rfl ?_
            refine j_iinc (pc' := 62) (d := 1) (ls' := [(3, _), (2, _), (4, _), (0, _), (1, _)]) rfl rfl rfl (by decide) (Nat.le_of_ble_eq_true rfl) rfl ?_
            refine j_goto (tgt := 13) rfl rfl ?_
            refine j_sub (ls' := [(0, .ref 0), (1, .int _), (2, .int _), (3, .int _)]) ⟨rfl, rfl, rfl, rfl, trivial⟩ ?_
            exact ih _ _ _ _ _ hf k0
def f_X6_give (σ : xS) (x1 : Int32) : Option (Int32 × xS) := (f_X6_isTown x1).bind fun r1 => if r1 = 0 then some ((-1), σ) else (f_X6_give_L13 4000 σ x1 0 0).bind fun r13 => some (r13.1, r13.2)
set_option maxHeartbeats 4000000 in
set_option maxRecDepth 100000 in
theorem s_X6_give (g : hH) (σ : xS) (x1 : Int32) (r : (Int32 × xS)) (hf : f_X6_give σ x1 = some r) : SpD mX6_give rX6_give [.ref 0, .int x1] (gx g σ) (some (.int r.1)) (gx g r.2) := by
  refine sp_of miX6_give (Nat.le_of_ble_eq_true rfl) ?_
  show J _ _ _ 0 0 _ 0 [(0, .ref 0), (1, .int x1)] []
  unfold f_X6_give at hf
  refine j_iload_n (pc' := 1) rfl rfl rfl ?_
  obtain ⟨r1, e1, hf⟩ := o_bind hf
  refine j_s1 (pc' := 4) rfl rfl miX6_isTown lnX6_89 (s_X6_isTown (gx g σ) x1 _ e1) (h_rm_of rfl) (Nat.le_of_ble_eq_true rfl) (c' := 0) (s' := 0) rfl rfl ?_
  refine j_if_ne (tgt := 9) (pc' := 7) rfl rfl rfl (fun c4 => ?_) (fun c4 => ?_)
  · rw [if_neg c4] at hf
    refine j_iconst (v := 0) (pc' := 10) rfl rfl (by decide) ?_
    refine j_istore_n (pc' := 11) (ls' := [(2, _), (0, _), (1, _)]) rfl rfl (Nat.le_of_ble_eq_true rfl) rfl ?_
    refine j_iconst (v := 0) (pc' := 12) rfl rfl (by decide) ?_
    refine j_istore_n (pc' := 13) (ls' := [(3, _), (2, _), (0, _), (1, _)]) rfl rfl (Nat.le_of_ble_eq_true rfl) rfl ?_
    obtain ⟨r13, e13, hf⟩ := o_bind hf
    refine j_sub (ls' := [(0, .ref 0), (1, .int _), (2, .int _), (3, .int _)]) ⟨rfl, rfl, rfl, rfl, trivial⟩ ?_
    refine s_X6_give_L13 g _ _ _ _ _ _ e13 ?_
    refine j_iload_n (pc' := 66) rfl rfl rfl ?_
    have hf := Option.some.inj hf; subst hf
    exact j_iret rfl rfl (Nat.le_of_ble_eq_true rfl) (Nat.le_of_ble_eq_true rfl) ⟨rfl, rfl⟩
  · rw [if_pos c4] at hf
    refine j_iconst (v := (-1)) (pc' := 8) rfl rfl (by decide) ?_
    have hf := Option.some.inj hf; subst hf
    exact j_iret rfl rfl (Nat.le_of_ble_eq_true rfl) (Nat.le_of_ble_eq_true rfl) ⟨rfl, rfl⟩
def rX6_lack : Room := { frames := 4, cells := 0, slots := 0, locals := 97 }
def f_X6_lack (σ : xS) (x1 : Int32) (x2 : Int32) : Option (Int32 × xS) := (f_X6_isTown x1).bind fun r1 => if r1 = 0 then some ((-1), σ) else (f_X6_within x2 0 100000).bind fun r13 => if r13 = 0 then some ((-2), σ) else (f_X6_reckonWorth σ x1).bind fun r27 => some (((if ((x2).toInt64 - r27.1) < 0 then 0 else ((x2).toInt64 - r27.1))).toInt32, r27.2)
set_option maxHeartbeats 4000000 in
set_option maxRecDepth 100000 in
theorem s_X6_lack (g : hH) (σ : xS) (x1 : Int32) (x2 : Int32) (r : (Int32 × xS)) (hf : f_X6_lack σ x1 x2 = some r) : SpD mX6_lack rX6_lack [.ref 0, .int x1, .int x2] (gx g σ) (some (.int r.1)) (gx g r.2) := by
  refine sp_of miX6_lack (Nat.le_of_ble_eq_true rfl) ?_
  show J _ _ _ 0 0 _ 0 [(0, .ref 0), (1, .int x1), (2, .int x2)] []
  unfold f_X6_lack at hf
  refine j_iload_n (pc' := 1) rfl rfl rfl ?_
  obtain ⟨r1, e1, hf⟩ := o_bind hf
  refine j_s1 (pc' := 4) rfl rfl miX6_isTown lnX6_89 (s_X6_isTown (gx g σ) x1 _ e1) (h_rm_of rfl) (Nat.le_of_ble_eq_true rfl) (c' := 0) (s' := 0) rfl rfl ?_
  refine j_if_ne (tgt := 9) (pc' := 7) rfl rfl rfl (fun c4 => ?_) (fun c4 => ?_)
  · rw [if_neg c4] at hf
    refine j_iload_n (pc' := 10) rfl rfl rfl ?_
    refine j_iconst (v := 0) (pc' := 11) rfl rfl (by decide) ?_
    refine j_ldc (pc' := 13) rfl rfl kcX6_236 ?_
    obtain ⟨r13, e13, hf⟩ := o_bind hf
    refine j_s3 (pc' := 16) rfl rfl miX6_within lnX6_74 (s_X6_within (gx g σ) x2 0 100000 _ e13) (h_rm_of rfl) (Nat.le_of_ble_eq_true rfl) (c' := 0) (s' := 0) rfl rfl ?_
    refine j_if_ne (tgt := 22) (pc' := 19) rfl rfl rfl (fun c16 => ?_) (fun c16 => ?_)
    · rw [if_neg c16] at hf
      refine j_lconst (v := 0) (pc' := 23) rfl rfl (by decide) ?_
      refine j_iload_n (pc' := 24) rfl rfl rfl ?_
      refine j_i2l (pc' := 25) rfl rfl ?_
      refine j_aload_n (pc' := 26) rfl rfl rfl ?_
      refine j_iload_n (pc' := 27) rfl rfl rfl ?_
      obtain ⟨r27, e27, hf⟩ := o_bind hf
      refine j_v1 (pc' := 30) rfl rfl miX6_reckonWorth lnX6_226 (gxk_0 g σ) rfl (s_X6_reckonWorth g σ x1 _ e27) (h_rm_of rfl) (Nat.le_of_ble_eq_true rfl) (c' := 0) (s' := 0) rfl rfl ?_
      refine j_lsub (pc' := 31) rfl rfl ?_
      refine j_mmaxl (pc' := 34) rfl rfl kjX6_237 kj_max_s kj_math kj_max_c ⟨(Nat.le_of_ble_eq_true rfl), (Nat.le_of_ble_eq_true rfl)⟩ (Nat.le_of_ble_eq_true rfl) (Nat.le_of_ble_eq_true rfl) ?_
      refine j_l2i (pc' := 35) rfl rfl ?_
      have hf := Option.some.inj hf; subst hf
      exact j_iret rfl rfl (Nat.le_of_ble_eq_true rfl) (Nat.le_of_ble_eq_true rfl) ⟨rfl, rfl⟩
    · rw [if_pos c16] at hf
      refine j_bipush (v := (-2)) (pc' := 21) rfl rfl (by decide) ?_
      have hf := Option.some.inj hf; subst hf
      exact j_iret rfl rfl (Nat.le_of_ble_eq_true rfl) (Nat.le_of_ble_eq_true rfl) ⟨rfl, rfl⟩
  · rw [if_pos c4] at hf
    refine j_iconst (v := (-1)) (pc' := 8) rfl rfl (by decide) ?_
    have hf := Option.some.inj hf; subst hf
    exact j_iret rfl rfl (Nat.le_of_ble_eq_true rfl) (Nat.le_of_ble_eq_true rfl) ⟨rfl, rfl⟩
def rX6_road : Room := { frames := 2, cells := 0, slots := 0, locals := 42 }
def f_X6_road (σ : xS) (x1 : Int32) (x2 : Int32) (x3 : Int32) : Option (Int32 × xS) := (f_X6_isTown x1).bind fun r1 => if r1 = 0 then some ((-1), σ) else (f_X6_isMint x2).bind fun r8 => if r8 = 0 then some ((-1), σ) else (f_X6_within x3 1 30).bind fun r20 => if r20 = 0 then some ((-2), σ) else bif vin ((x1 * 3) + x2) 18 then letm (σ.1 8 (((x1 * 3) + x2)).toNatClampNeg) fun y39 => bif vin ((x1 * 3) + x2) 18 then letm (xi σ 8 (va_up (σ.1 8) (((x1 * 3) + x2)).toNatClampNeg x3)) fun σ51 => some (y39, σ51) else none else none
set_option maxHeartbeats 4000000 in
set_option maxRecDepth 100000 in
theorem s_X6_road (g : hH) (σ : xS) (x1 : Int32) (x2 : Int32) (x3 : Int32) (r : (Int32 × xS)) (hf : f_X6_road σ x1 x2 x3 = some r) : SpD mX6_road rX6_road [.ref 0, .int x1, .int x2, .int x3] (gx g σ) (some (.int r.1)) (gx g r.2) := by
  refine sp_of miX6_road (Nat.le_of_ble_eq_true rfl) ?_
  show J _ _ _ 0 0 _ 0 [(0, .ref 0), (1, .int x1), (2, .int x2), (3, .int x3)] []
  unfold f_X6_road at hf
  refine j_iload_n (pc' := 1) rfl rfl rfl ?_
  obtain ⟨r1, e1, hf⟩ := o_bind hf
  refine j_s1 (pc' := 4) rfl rfl miX6_isTown lnX6_89 (s_X6_isTown (gx g σ) x1 _ e1) (h_rm_of rfl) (Nat.le_of_ble_eq_true rfl) (c' := 0) (s' := 0) rfl rfl ?_
  refine j_if_eq (tgt := 14) (pc' := 7) rfl rfl rfl (fun c4 => ?_) (fun c4 => ?_)
  · rw [if_pos c4] at hf
    refine j_iconst (v := (-1)) (pc' := 15) rfl rfl (by decide) ?_
    have hf := Option.some.inj hf; subst hf
    exact j_iret rfl rfl (Nat.le_of_ble_eq_true rfl) (Nat.le_of_ble_eq_true rfl) ⟨rfl, rfl⟩
  · rw [if_neg c4] at hf
    refine j_iload_n (pc' := 8) rfl rfl rfl ?_
    obtain ⟨r8, e8, hf⟩ := o_bind hf
    refine j_s1 (pc' := 11) rfl rfl miX6_isMint lnX6_243 (s_X6_isMint (gx g σ) x2 _ e8) (h_rm_of rfl) (Nat.le_of_ble_eq_true rfl) (c' := 0) (s' := 0) rfl rfl ?_
    refine j_if_ne (tgt := 16) (pc' := 14) rfl rfl rfl (fun c11 => ?_) (fun c11 => ?_)
    · rw [if_neg c11] at hf
      refine j_iload_n (pc' := 17) rfl rfl rfl ?_
      refine j_iconst (v := 1) (pc' := 18) rfl rfl (by decide) ?_
      refine j_bipush (v := 30) (pc' := 20) rfl rfl (by decide) ?_
      obtain ⟨r20, e20, hf⟩ := o_bind hf
      refine j_s3 (pc' := 23) rfl rfl miX6_within lnX6_74 (s_X6_within (gx g σ) x3 1 30 _ e20) (h_rm_of rfl) (Nat.le_of_ble_eq_true rfl) (c' := 0) (s' := 0) rfl rfl ?_
      refine j_if_ne (tgt := 29) (pc' := 26) rfl rfl rfl (fun c23 => ?_) (fun c23 => ?_)
      · rw [if_neg c23] at hf
        refine j_aload_n (pc' := 30) rfl rfl rfl ?_
        refine j_get (pc' := 33) rfl rfl flX6_40 (gxk_0 g σ) (nsF_8 σ) ?_
        refine j_iload_n (pc' := 34) rfl rfl rfl ?_
        refine j_iconst (v := 3) (pc' := 35) rfl rfl (by decide) ?_
        refine j_imul (pc' := 36) rfl rfl ?_
        refine j_iload_n (pc' := 37) rfl rfl rfl ?_
        refine j_iadd (pc' := 38) rfl rfl ?_
        obtain ⟨c38, hf⟩ := o_chk hf
        refine j_iald (pc' := 39) rfl rfl (gxk_5 g σ) (vin_ok c38) ?_
        obtain ⟨y39, e39, hf⟩ := o_let hf
        rw [e39]
        refine j_istore (pc' := 41) (ls' := [(4, _), (0, _), (1, _), (2, _), (3, _)]) rfl rfl (Nat.le_of_ble_eq_true rfl) rfl ?_
        refine j_aload_n (pc' := 42) rfl rfl rfl ?_
        refine j_get (pc' := 45) rfl rfl flX6_40 (gxk_0 g σ) (nsF_8 σ) ?_
        refine j_iload_n (pc' := 46) rfl rfl rfl ?_
        refine j_iconst (v := 3) (pc' := 47) rfl rfl (by decide) ?_
        refine j_imul (pc' := 48) rfl rfl ?_
        refine j_iload_n (pc' := 49) rfl rfl rfl ?_
        refine j_iadd (pc' := 50) rfl rfl ?_
        refine j_iload_n (pc' := 51) rfl rfl rfl ?_
        obtain ⟨c51, hf⟩ := o_chk hf
        obtain ⟨σ51, e51, hf⟩ := o_let hf
        refine j_iast (pc' := 52) rfl rfl (gxk_5 g σ) (by decide) (vin_ok c51) ?_
        rw [gxs_5]; rw [e51]
        refine j_iload (pc' := 54) rfl rfl rfl ?_
        have hf := Option.some.inj hf; subst hf
        exact j_iret rfl rfl (Nat.le_of_ble_eq_true rfl) (Nat.le_of_ble_eq_true rfl) ⟨rfl, rfl⟩
      · rw [if_pos c23] at hf
        refine j_bipush (v := (-2)) (pc' := 28) rfl rfl (by decide) ?_
        have hf := Option.some.inj hf; subst hf
        exact j_iret rfl rfl (Nat.le_of_ble_eq_true rfl) (Nat.le_of_ble_eq_true rfl) ⟨rfl, rfl⟩
    · rw [if_pos c11] at hf
      refine j_iconst (v := (-1)) (pc' := 15) rfl rfl (by decide) ?_
      have hf := Option.some.inj hf; subst hf
      exact j_iret rfl rfl (Nat.le_of_ble_eq_true rfl) (Nat.le_of_ble_eq_true rfl) ⟨rfl, rfl⟩
def rX6_send : Room := { frames := 2, cells := 0, slots := 0, locals := 43 }
def f_X6_send (σ : xS) (x1 : Int32) (x2 : Int32) : Option (Int32 × xS) := (f_X6_lotAt σ x1).bind fun r2 => oq r2 (some ((-1), σ)) (fun k5_1 => (f_X6_isMint x2).bind fun r11 => if r11 = 0 then some ((-1), σ) else bif isL σ k5_1 then (f_X6_isTown (σ.1 106 (k5_1 - 1000))).bind fun r23 => if r23 = 0 then some ((-3), σ) else (f_X1_isOnRoad σ k5_1 (σ.1 16 0)).bind fun r34 => if r34 = 0 then if (σ.1 110 (k5_1 - 1000)) = 0 then bif vin (((σ.1 106 (k5_1 - 1000)) * 3) + x2) 18 then letm (xi σ 108 (va_up (σ.1 108) (k5_1 - 1000) ((σ.1 16 0) + (σ.1 8 ((((σ.1 106 (k5_1 - 1000)) * 3) + x2)).toNatClampNeg)))) fun σ69 => bif isL σ69 k5_1 then letm (xi σ69 106 (va_up (σ69.1 106) (k5_1 - 1000) (-1))) fun σ74 => bif isL σ74 k5_1 then letm (xi σ74 107 (va_up (σ74.1 107) (k5_1 - 1000) x2)) fun σ79 => bif isL σ79 k5_1 then some ((σ79.1 108 (k5_1 - 1000)), σ79) else none else none else none else none else some ((-3), σ) else some ((-3), σ) else none)
set_option maxHeartbeats 4000000 in
set_option maxRecDepth 100000 in
theorem s_X6_send (g : hH) (σ : xS) (x1 : Int32) (x2 : Int32) (r : (Int32 × xS)) (hf : f_X6_send σ x1 x2 = some r) : SpD mX6_send rX6_send [.ref 0, .int x1, .int x2] (gx g σ) (some (.int r.1)) (gx g r.2) := by
  refine sp_of miX6_send (Nat.le_of_ble_eq_true rfl) ?_
  show J _ _ _ 0 0 _ 0 [(0, .ref 0), (1, .int x1), (2, .int x2)] []
  unfold f_X6_send at hf
  refine j_aload_n (pc' := 1) rfl rfl rfl ?_
  refine j_iload_n (pc' := 2) rfl rfl rfl ?_
  obtain ⟨r2, e2, hf⟩ := o_bind hf
  refine j_v1 (pc' := 5) rfl rfl miX6_lotAt lnX6_116 (gxk_0 g σ) rfl (s_X6_lotAt g σ x1 _ e2) (h_rm_of rfl) (Nat.le_of_ble_eq_true rfl) (c' := 0) (s' := 0) rfl rfl ?_
  rcases o_q hf with ⟨q5_1, hf⟩ | ⟨k5_1, q5_1, hf⟩
  · rw [q5_1, va_rf_none]
    refine j_astore_nN (pc' := 6) (ls' := [(3, _), (0, _), (1, _), (2, _)]) rfl rfl (Nat.le_of_ble_eq_true rfl) rfl ?_
    refine j_aload_nN (pc' := 7) rfl rfl rfl ?_
    refine j_ifnullN (tgt := 17) rfl rfl ?_
    refine j_iconst (v := (-1)) (pc' := 18) rfl rfl (by decide) ?_
    have hf := Option.some.inj hf; subst hf
    exact j_iret rfl rfl (Nat.le_of_ble_eq_true rfl) (Nat.le_of_ble_eq_true rfl) ⟨rfl, rfl⟩
  · rw [q5_1, va_rf_some]
    refine j_astore_n (pc' := 6) (ls' := [(3, _), (0, _), (1, _), (2, _)]) rfl rfl (Nat.le_of_ble_eq_true rfl) rfl ?_
    refine j_aload_n (pc' := 7) rfl rfl rfl ?_
    refine j_ifnull (pc' := 10) rfl rfl ?_
    refine j_iload_n (pc' := 11) rfl rfl rfl ?_
    obtain ⟨r11, e11, hf⟩ := o_bind hf
    refine j_s1 (pc' := 14) rfl rfl miX6_isMint lnX6_243 (s_X6_isMint (gx g σ) x2 _ e11) (h_rm_of rfl) (Nat.le_of_ble_eq_true rfl) (c' := 0) (s' := 0) rfl rfl ?_
    refine j_if_ne (tgt := 19) (pc' := 17) rfl rfl rfl (fun c14 => ?_) (fun c14 => ?_)
    · rw [if_neg c14] at hf
      refine j_aload_n (pc' := 20) rfl rfl rfl ?_
      obtain ⟨c20_2, hf⟩ := o_chk hf
      refine j_get (pc' := 23) (v := .int (σ.1 106 (k5_1 - 1000))) rfl rfl flX6_109 (gx_lot c20_2) (lotF_6 _ _) ?_
      obtain ⟨r23, e23, hf⟩ := o_bind hf
      refine j_s1 (pc' := 26) rfl rfl miX6_isTown lnX6_89 (s_X6_isTown (gx g σ) (σ.1 106 (k5_1 - 1000)) _ e23) (h_rm_of rfl) (Nat.le_of_ble_eq_true rfl) (c' := 0) (s' := 0) rfl rfl ?_
      refine j_if_eq (tgt := 47) (pc' := 29) rfl rfl rfl (fun c26 => ?_) (fun c26 => ?_)
      · rw [if_pos c26] at hf
        refine j_bipush (v := (-3)) (pc' := 49) rfl rfl (by decide) ?_
        have hf := Option.some.inj hf; subst hf
        exact j_iret rfl rfl (Nat.le_of_ble_eq_true rfl) (Nat.le_of_ble_eq_true rfl) ⟨rfl, rfl⟩
      · rw [if_neg c26] at hf
        refine j_aload_n (pc' := 30) rfl rfl rfl ?_
        refine j_aload_n (pc' := 31) rfl rfl rfl ?_
        refine j_get (pc' := 34) rfl rfl flX6_154 (gxk_0 g σ) (nsF_16 σ) ?_
        obtain ⟨r34, e34, hf⟩ := o_bind hf
        refine j_v1 (pc' := 37) rfl rfl miX1_isOnRoad lnX6_157 (gx_lot c20_2) rfl (s_X1_isOnRoad g σ k5_1 (σ.1 16 0) _ e34) (h_rm_of rfl) (Nat.le_of_ble_eq_true rfl) (c' := 0) (s' := 0) rfl rfl ?_
        refine j_if_ne (tgt := 47) (pc' := 40) rfl rfl rfl (fun c37 => ?_) (fun c37 => ?_)
        · rw [if_neg c37] at hf
          refine j_bipush (v := (-3)) (pc' := 49) rfl rfl (by decide) ?_
          have hf := Option.some.inj hf; subst hf
          exact j_iret rfl rfl (Nat.le_of_ble_eq_true rfl) (Nat.le_of_ble_eq_true rfl) ⟨rfl, rfl⟩
        · rw [if_pos c37] at hf
          refine j_aload_n (pc' := 41) rfl rfl rfl ?_
          refine j_get (pc' := 44) (v := .int (σ.1 110 (k5_1 - 1000))) rfl rfl flX6_167 (gx_lot c20_2) (lotF_10 _ _) ?_
          refine j_if_eq (tgt := 50) (pc' := 47) rfl rfl rfl (fun c44 => ?_) (fun c44 => ?_)
          · rw [if_pos c44] at hf
            refine j_aload_n (pc' := 51) rfl rfl rfl ?_
            refine j_aload_n (pc' := 52) rfl rfl rfl ?_
            refine j_get (pc' := 55) rfl rfl flX6_154 (gxk_0 g σ) (nsF_16 σ) ?_
            refine j_aload_n (pc' := 56) rfl rfl rfl ?_
            refine j_get (pc' := 59) rfl rfl flX6_40 (gxk_0 g σ) (nsF_8 σ) ?_
            refine j_aload_n (pc' := 60) rfl rfl rfl ?_
            refine j_get (pc' := 63) (v := .int (σ.1 106 (k5_1 - 1000))) rfl rfl flX6_109 (gx_lot c20_2) (lotF_6 _ _) ?_
            refine j_iconst (v := 3) (pc' := 64) rfl rfl (by decide) ?_
            refine j_imul (pc' := 65) rfl rfl ?_
            refine j_iload_n (pc' := 66) rfl rfl rfl ?_
            refine j_iadd (pc' := 67) rfl rfl ?_
            obtain ⟨c67, hf⟩ := o_chk hf
            refine j_iald (pc' := 68) rfl rfl (gxk_5 g σ) (vin_ok c67) ?_
            refine j_iadd (pc' := 69) rfl rfl ?_
            obtain ⟨σ69, e69, hf⟩ := o_let hf
            refine j_put (pc' := 72) rfl rfl flX6_160 (gx_lot c20_2) (lt_L c20_2) (Nat.le_of_ble_eq_true rfl) rfl rfl ?_
            rw [lots_8 c20_2]; rw [e69]
            refine j_aload_n (pc' := 73) rfl rfl rfl ?_
            refine j_iconst (v := (-1)) (pc' := 74) rfl rfl (by decide) ?_
            obtain ⟨c74_3, hf⟩ := o_chk hf
            obtain ⟨σ74, e74, hf⟩ := o_let hf
            refine j_put (pc' := 77) rfl rfl flX6_109 (gx_lot c74_3) (lt_L c74_3) (Nat.le_of_ble_eq_true rfl) rfl rfl ?_
            rw [lots_6 c74_3]; rw [e74]
            refine j_aload_n (pc' := 78) rfl rfl rfl ?_
            refine j_iload_n (pc' := 79) rfl rfl rfl ?_
            obtain ⟨c79_4, hf⟩ := o_chk hf
            obtain ⟨σ79, e79, hf⟩ := o_let hf
            refine j_put (pc' := 82) rfl rfl flX6_151 (gx_lot c79_4) (lt_L c79_4) (Nat.le_of_ble_eq_true rfl) rfl rfl ?_
            rw [lots_7 c79_4]; rw [e79]
            refine j_aload_n (pc' := 83) rfl rfl rfl ?_
            obtain ⟨c83_5, hf⟩ := o_chk hf
            refine j_get (pc' := 86) (v := .int (σ79.1 108 (k5_1 - 1000))) rfl rfl flX6_160 (gx_lot c83_5) (lotF_8 _ _) ?_
            have hf := Option.some.inj hf; subst hf
            exact j_iret rfl rfl (Nat.le_of_ble_eq_true rfl) (Nat.le_of_ble_eq_true rfl) ⟨rfl, rfl⟩
          · rw [if_neg c44] at hf
            refine j_bipush (v := (-3)) (pc' := 49) rfl rfl (by decide) ?_
            have hf := Option.some.inj hf; subst hf
            exact j_iret rfl rfl (Nat.le_of_ble_eq_true rfl) (Nat.le_of_ble_eq_true rfl) ⟨rfl, rfl⟩
    · rw [if_pos c14] at hf
      refine j_iconst (v := (-1)) (pc' := 18) rfl rfl (by decide) ?_
      have hf := Option.some.inj hf; subst hf
      exact j_iret rfl rfl (Nat.le_of_ble_eq_true rfl) (Nat.le_of_ble_eq_true rfl) ⟨rfl, rfl⟩
def rX6_bring : Room := { frames := 2, cells := 0, slots := 0, locals := 43 }
def f_X6_bring (σ : xS) (x1 : Int32) (x2 : Int32) : Option (Int32 × xS) := (f_X6_lotAt σ x1).bind fun r2 => oq r2 (some ((-1), σ)) (fun k5_1 => (f_X6_isTown x2).bind fun r11 => if r11 = 0 then some ((-1), σ) else bif isL σ k5_1 then (f_X6_isMint (σ.1 107 (k5_1 - 1000))).bind fun r23 => if r23 = 0 then some ((-3), σ) else (f_X1_isOnRoad σ k5_1 (σ.1 16 0)).bind fun r34 => if r34 = 0 then bif vin ((x2 * 3) + (σ.1 107 (k5_1 - 1000))) 18 then letm (xi σ 108 (va_up (σ.1 108) (k5_1 - 1000) ((σ.1 16 0) + (σ.1 8 (((x2 * 3) + (σ.1 107 (k5_1 - 1000)))).toNatClampNeg)))) fun σ62 => bif isL σ62 k5_1 then letm (xi σ62 107 (va_up (σ62.1 107) (k5_1 - 1000) (-1))) fun σ67 => bif isL σ67 k5_1 then letm (xi σ67 106 (va_up (σ67.1 106) (k5_1 - 1000) x2)) fun σ72 => bif isL σ72 k5_1 then some ((σ72.1 108 (k5_1 - 1000)), σ72) else none else none else none else none else some ((-3), σ) else none)
set_option maxHeartbeats 4000000 in
set_option maxRecDepth 100000 in
theorem s_X6_bring (g : hH) (σ : xS) (x1 : Int32) (x2 : Int32) (r : (Int32 × xS)) (hf : f_X6_bring σ x1 x2 = some r) : SpD mX6_bring rX6_bring [.ref 0, .int x1, .int x2] (gx g σ) (some (.int r.1)) (gx g r.2) := by
  refine sp_of miX6_bring (Nat.le_of_ble_eq_true rfl) ?_
  show J _ _ _ 0 0 _ 0 [(0, .ref 0), (1, .int x1), (2, .int x2)] []
  unfold f_X6_bring at hf
  refine j_aload_n (pc' := 1) rfl rfl rfl ?_
  refine j_iload_n (pc' := 2) rfl rfl rfl ?_
  obtain ⟨r2, e2, hf⟩ := o_bind hf
  refine j_v1 (pc' := 5) rfl rfl miX6_lotAt lnX6_116 (gxk_0 g σ) rfl (s_X6_lotAt g σ x1 _ e2) (h_rm_of rfl) (Nat.le_of_ble_eq_true rfl) (c' := 0) (s' := 0) rfl rfl ?_
  rcases o_q hf with ⟨q5_1, hf⟩ | ⟨k5_1, q5_1, hf⟩
  · rw [q5_1, va_rf_none]
    refine j_astore_nN (pc' := 6) (ls' := [(3, _), (0, _), (1, _), (2, _)]) rfl rfl (Nat.le_of_ble_eq_true rfl) rfl ?_
    refine j_aload_nN (pc' := 7) rfl rfl rfl ?_
    refine j_ifnullN (tgt := 17) rfl rfl ?_
    refine j_iconst (v := (-1)) (pc' := 18) rfl rfl (by decide) ?_
    have hf := Option.some.inj hf; subst hf
    exact j_iret rfl rfl (Nat.le_of_ble_eq_true rfl) (Nat.le_of_ble_eq_true rfl) ⟨rfl, rfl⟩
  · rw [q5_1, va_rf_some]
    refine j_astore_n (pc' := 6) (ls' := [(3, _), (0, _), (1, _), (2, _)]) rfl rfl (Nat.le_of_ble_eq_true rfl) rfl ?_
    refine j_aload_n (pc' := 7) rfl rfl rfl ?_
    refine j_ifnull (pc' := 10) rfl rfl ?_
    refine j_iload_n (pc' := 11) rfl rfl rfl ?_
    obtain ⟨r11, e11, hf⟩ := o_bind hf
    refine j_s1 (pc' := 14) rfl rfl miX6_isTown lnX6_89 (s_X6_isTown (gx g σ) x2 _ e11) (h_rm_of rfl) (Nat.le_of_ble_eq_true rfl) (c' := 0) (s' := 0) rfl rfl ?_
    refine j_if_ne (tgt := 19) (pc' := 17) rfl rfl rfl (fun c14 => ?_) (fun c14 => ?_)
    · rw [if_neg c14] at hf
      refine j_aload_n (pc' := 20) rfl rfl rfl ?_
      obtain ⟨c20_2, hf⟩ := o_chk hf
      refine j_get (pc' := 23) (v := .int (σ.1 107 (k5_1 - 1000))) rfl rfl flX6_151 (gx_lot c20_2) (lotF_7 _ _) ?_
      obtain ⟨r23, e23, hf⟩ := o_bind hf
      refine j_s1 (pc' := 26) rfl rfl miX6_isMint lnX6_243 (s_X6_isMint (gx g σ) (σ.1 107 (k5_1 - 1000)) _ e23) (h_rm_of rfl) (Nat.le_of_ble_eq_true rfl) (c' := 0) (s' := 0) rfl rfl ?_
      refine j_if_eq (tgt := 40) (pc' := 29) rfl rfl rfl (fun c26 => ?_) (fun c26 => ?_)
      · rw [if_pos c26] at hf
        refine j_bipush (v := (-3)) (pc' := 42) rfl rfl (by decide) ?_
        have hf := Option.some.inj hf; subst hf
        exact j_iret rfl rfl (Nat.le_of_ble_eq_true rfl) (Nat.le_of_ble_eq_true rfl) ⟨rfl, rfl⟩
      · rw [if_neg c26] at hf
        refine j_aload_n (pc' := 30) rfl rfl rfl ?_
        refine j_aload_n (pc' := 31) rfl rfl rfl ?_
        refine j_get (pc' := 34) rfl rfl flX6_154 (gxk_0 g σ) (nsF_16 σ) ?_
        obtain ⟨r34, e34, hf⟩ := o_bind hf
        refine j_v1 (pc' := 37) rfl rfl miX1_isOnRoad lnX6_157 (gx_lot c20_2) rfl (s_X1_isOnRoad g σ k5_1 (σ.1 16 0) _ e34) (h_rm_of rfl) (Nat.le_of_ble_eq_true rfl) (c' := 0) (s' := 0) rfl rfl ?_
        refine j_if_eq (tgt := 43) (pc' := 40) rfl rfl rfl (fun c37 => ?_) (fun c37 => ?_)
        · rw [if_pos c37] at hf
          refine j_aload_n (pc' := 44) rfl rfl rfl ?_
          refine j_aload_n (pc' := 45) rfl rfl rfl ?_
          refine j_get (pc' := 48) rfl rfl flX6_154 (gxk_0 g σ) (nsF_16 σ) ?_
          refine j_aload_n (pc' := 49) rfl rfl rfl ?_
          refine j_get (pc' := 52) rfl rfl flX6_40 (gxk_0 g σ) (nsF_8 σ) ?_
          refine j_iload_n (pc' := 53) rfl rfl rfl ?_
          refine j_iconst (v := 3) (pc' := 54) rfl rfl (by decide) ?_
          refine j_imul (pc' := 55) rfl rfl ?_
          refine j_aload_n (pc' := 56) rfl rfl rfl ?_
          refine j_get (pc' := 59) (v := .int (σ.1 107 (k5_1 - 1000))) rfl rfl flX6_151 (gx_lot c20_2) (lotF_7 _ _) ?_
          refine j_iadd (pc' := 60) rfl rfl ?_
          obtain ⟨c60, hf⟩ := o_chk hf
          refine j_iald (pc' := 61) rfl rfl (gxk_5 g σ) (vin_ok c60) ?_
          refine j_iadd (pc' := 62) rfl rfl ?_
          obtain ⟨σ62, e62, hf⟩ := o_let hf
          refine j_put (pc' := 65) rfl rfl flX6_160 (gx_lot c20_2) (lt_L c20_2) (Nat.le_of_ble_eq_true rfl) rfl rfl ?_
          rw [lots_8 c20_2]; rw [e62]
          refine j_aload_n (pc' := 66) rfl rfl rfl ?_
          refine j_iconst (v := (-1)) (pc' := 67) rfl rfl (by decide) ?_
          obtain ⟨c67_3, hf⟩ := o_chk hf
          obtain ⟨σ67, e67, hf⟩ := o_let hf
          refine j_put (pc' := 70) rfl rfl flX6_151 (gx_lot c67_3) (lt_L c67_3) (Nat.le_of_ble_eq_true rfl) rfl rfl ?_
          rw [lots_7 c67_3]; rw [e67]
          refine j_aload_n (pc' := 71) rfl rfl rfl ?_
          refine j_iload_n (pc' := 72) rfl rfl rfl ?_
          obtain ⟨c72_4, hf⟩ := o_chk hf
          obtain ⟨σ72, e72, hf⟩ := o_let hf
          refine j_put (pc' := 75) rfl rfl flX6_109 (gx_lot c72_4) (lt_L c72_4) (Nat.le_of_ble_eq_true rfl) rfl rfl ?_
          rw [lots_6 c72_4]; rw [e72]
          refine j_aload_n (pc' := 76) rfl rfl rfl ?_
          obtain ⟨c76_5, hf⟩ := o_chk hf
          refine j_get (pc' := 79) (v := .int (σ72.1 108 (k5_1 - 1000))) rfl rfl flX6_160 (gx_lot c76_5) (lotF_8 _ _) ?_
          have hf := Option.some.inj hf; subst hf
          exact j_iret rfl rfl (Nat.le_of_ble_eq_true rfl) (Nat.le_of_ble_eq_true rfl) ⟨rfl, rfl⟩
        · rw [if_neg c37] at hf
          refine j_bipush (v := (-3)) (pc' := 42) rfl rfl (by decide) ?_
          have hf := Option.some.inj hf; subst hf
          exact j_iret rfl rfl (Nat.le_of_ble_eq_true rfl) (Nat.le_of_ble_eq_true rfl) ⟨rfl, rfl⟩
    · rw [if_pos c14] at hf
      refine j_iconst (v := (-1)) (pc' := 18) rfl rfl (by decide) ?_
      have hf := Option.some.inj hf; subst hf
      exact j_iret rfl rfl (Nat.le_of_ble_eq_true rfl) (Nat.le_of_ble_eq_true rfl) ⟨rfl, rfl⟩
def rX6_findFalse : Room := { frames := 2, cells := 0, slots := 0, locals := 43 }
def f_X6_findFalse_L2 : Nat → xS → Int32 → Int32 → Option (xS)
  | 0, _, _, _ => none
  | n + 1, σ, x1, x2 => if (σ.1 3 0) ≤ x2 then some (σ) else (f_X6_lotAt σ x2).bind fun r12 => oq r12 (f_X6_findFalse_L2 n σ x1 (x2 + 1)) (fun k15_1 => bif isL σ k15_1 then if (σ.1 104 (k15_1 - 1000)) = 5 then if (σ.1 100 (k15_1 - 1000)) = x1 then letm (xi σ 111 (va_up (σ.1 111) (k15_1 - 1000) 1)) fun σ38 => f_X6_findFalse_L2 n σ38 x1 (x2 + 1) else f_X6_findFalse_L2 n σ x1 (x2 + 1) else f_X6_findFalse_L2 n σ x1 (x2 + 1) else none)
set_option maxHeartbeats 4000000 in
set_option maxRecDepth 100000 in
theorem s_X6_findFalse_L2 {Q : Option Value → hH → Prop} (g : hH) : ∀ (n : Nat) (σ : xS) (x1 : Int32) (x2 : Int32) (r : xS), f_X6_findFalse_L2 n σ x1 x2 = some r → (J mX6_findFalse rX6_findFalse Q 0 0 (gx g r) 47 [] []) → J mX6_findFalse rX6_findFalse Q 0 0 (gx g σ) 2 [(0, .ref 0), (1, .int x1), (2, .int x2)] [] := by
  intro n
  induction n with
  | zero =>
    intro σ x1 x2 r hf
    cases hf
  | succ n ih =>
    intro σ x1 x2 r hf k0
    rw [f_X6_findFalse_L2] at hf
    refine j_iload_n (pc' := 3) rfl rfl rfl ?_
    refine j_aload_n (pc' := 4) rfl rfl rfl ?_
    refine j_get (pc' := 7) rfl rfl flX6_97 (gxk_0 g σ) (nsF_3 σ) ?_
    refine j_icmp_ge (tgt := 47) (pc' := 10) rfl rfl rfl (fun c7 => ?_) (fun c7 => ?_)
    · rw [if_pos c7] at hf
      have hf := Option.some.inj hf; subst hf
      exact j_sub (ls' := []) trivial (k0)
    · rw [if_neg c7] at hf
      refine j_aload_n (pc' := 11) rfl rfl rfl ?_
      refine j_iload_n (pc' := 12) rfl rfl rfl ?_
      obtain ⟨r12, e12, hf⟩ := o_bind hf
      refine j_v1 (pc' := 15) rfl rfl miX6_lotAt lnX6_116 (gxk_0 g σ) rfl (s_X6_lotAt g σ x2 _ e12) (h_rm_of rfl) (Nat.le_of_ble_eq_true rfl) (c' := 0) (s' := 0) rfl rfl ?_
      rcases o_q hf with ⟨q15_1, hf⟩ | ⟨k15_1, q15_1, hf⟩
      · rw [q15_1, va_rf_none]
        refine j_astore_nN (pc' := 16) (ls' := [(3, _), (0, _), (1, _), (2, _)]) rfl rfl (Nat.le_of_ble_eq_true rfl) rfl ?_
        refine j_aload_nN (pc' := 17) rfl rfl rfl ?_
        refine j_ifnullN (tgt := 41) rfl rfl ?_
        refine j_iinc (pc' := 44) (d := 1) (ls' := [(2, _), (3, _), (0, _), (1, _)]) rfl rfl rfl (by decide) (Nat.le_of_ble_eq_true rfl) rfl ?_
        refine j_goto (tgt := 2) rfl rfl ?_
        refine j_sub (ls' := [(0, .ref 0), (1, .int _), (2, .int _)]) ⟨rfl, rfl, rfl, trivial⟩ ?_
        exact ih _ _ _ _ hf k0
      · rw [q15_1, va_rf_some]
        refine j_astore_n (pc' := 16) (ls' := [(3, _), (0, _), (1, _), (2, _)]) rfl rfl (Nat.le_of_ble_eq_true rfl) rfl ?_
        refine j_aload_n (pc' := 17) rfl rfl rfl ?_
        refine j_ifnull (pc' := 20) rfl rfl ?_
        refine j_aload_n (pc' := 21) rfl rfl rfl ?_
        obtain ⟨c21_2, hf⟩ := o_chk hf
        refine j_get (pc' := 24) (v := .int (σ.1 104 (k15_1 - 1000))) rfl rfl flX6_137 (gx_lot c21_2) (lotF_4 _ _) ?_
        refine j_iconst (v := 5) (pc' := 25) rfl rfl (by decide) ?_
        refine j_icmp_ne (tgt := 41) (pc' := 28) rfl rfl rfl (fun c25 => ?_) (fun c25 => ?_)
        · rw [if_neg c25] at hf
          refine j_iinc (pc' := 44) (d := 1) (ls' := [(2, _), (3, _), (0, _), (1, _)]) rfl rfl rfl (by decide) (Nat.le_of_ble_eq_true rfl) rfl ?_
          refine j_goto (tgt := 2) rfl rfl ?_
          refine j_sub (ls' := [(0, .ref 0), (1, .int _), (2, .int _)]) ⟨rfl, rfl, rfl, trivial⟩ ?_
          exact ih _ _ _ _ hf k0
        · rw [if_pos c25] at hf
          refine j_aload_n (pc' := 29) rfl rfl rfl ?_
          refine j_get (pc' := 32) (v := .int (σ.1 100 (k15_1 - 1000))) rfl rfl flX6_147 (gx_lot c21_2) (lotF_0 _ _) ?_
          refine j_iload_n (pc' := 33) rfl rfl rfl ?_
          refine j_icmp_ne (tgt := 41) (pc' := 36) rfl rfl rfl (fun c33 => ?_) (fun c33 => ?_)
          · rw [if_neg c33] at hf
            refine j_iinc (pc' := 44) (d := 1) (ls' := [(2, _), (3, _), (0, _), (1, _)]) rfl rfl rfl (by decide) (Nat.le_of_ble_eq_true rfl) rfl ?_
            refine j_goto (tgt := 2) rfl rfl ?_
            refine j_sub (ls' := [(0, .ref 0), (1, .int _), (2, .int _)]) ⟨rfl, rfl, rfl, trivial⟩ ?_
            exact ih _ _ _ _ hf k0
          · rw [if_pos c33] at hf
            refine j_aload_n (pc' := 37) rfl rfl rfl ?_
            refine j_iconst (v := 1) (pc' := 38) rfl rfl (by decide) ?_
            obtain ⟨σ38, e38, hf⟩ := o_let hf
            refine j_put (pc' := 41) rfl rfl flX6_170 (gx_lot c21_2) (lt_L c21_2) (Nat.le_of_ble_eq_true rfl) rfl rfl ?_
            rw [lots_11 c21_2]; rw [e38]
            refine j_iinc (pc' := 44) (d := 1) (ls' := [(2, _), (3, _), (0, _), (1, _)]) rfl rfl rfl (by decide) (Nat.le_of_ble_eq_true rfl) rfl ?_
            refine j_goto (tgt := 2) rfl rfl ?_
            refine j_sub (ls' := [(0, .ref 0), (1, .int _), (2, .int _)]) ⟨rfl, rfl, rfl, trivial⟩ ?_
            exact ih _ _ _ _ hf k0
def f_X6_findFalse (σ : xS) (x1 : Int32) : Option xS := (f_X6_findFalse_L2 4000 σ x1 0).bind fun r2 => some r2
set_option maxHeartbeats 4000000 in
set_option maxRecDepth 100000 in
theorem s_X6_findFalse (g : hH) (σ : xS) (x1 : Int32) (r : xS) (hf : f_X6_findFalse σ x1 = some r) : SpD mX6_findFalse rX6_findFalse [.ref 0, .int x1] (gx g σ) (none) (gx g r) := by
  refine sp_of miX6_findFalse (Nat.le_of_ble_eq_true rfl) ?_
  show J _ _ _ 0 0 _ 0 [(0, .ref 0), (1, .int x1)] []
  unfold f_X6_findFalse at hf
  refine j_iconst (v := 0) (pc' := 1) rfl rfl (by decide) ?_
  refine j_istore_n (pc' := 2) (ls' := [(2, _), (0, _), (1, _)]) rfl rfl (Nat.le_of_ble_eq_true rfl) rfl ?_
  obtain ⟨r2, e2, hf⟩ := o_bind hf
  refine j_sub (ls' := [(0, .ref 0), (1, .int _), (2, .int _)]) ⟨rfl, rfl, rfl, trivial⟩ ?_
  refine s_X6_findFalse_L2 g _ _ _ _ _ e2 ?_
  have hf := Option.some.inj hf; subst hf
  exact j_vret rfl rfl (Nat.le_of_ble_eq_true rfl) (Nat.le_of_ble_eq_true rfl) ⟨rfl, rfl⟩
def rX6_melt : Room := { frames := 3, cells := 0, slots := 0, locals := 66 }
def f_X6_melt (σ : xS) (x1 : Int32) : Option (Int32 × xS) := (f_X6_lotAt σ x1).bind fun r2 => oq r2 (some ((-1), σ)) (fun k5_1 => bif isL σ k5_1 then (f_X6_potAt σ (σ.1 107 (k5_1 - 1000))).bind fun r17 => oq r17 (some ((-3), σ)) (fun k20_3 => (f_X1_isOnRoad σ k5_1 (σ.1 16 0)).bind fun r30 => if r30 = 0 then if (σ.1 104 (k5_1 - 1000)) = 5 then (f_X6_findFalse σ (σ.1 100 (k5_1 - 1000))).bind fun r52 => some (0, r52) else bif isP σ k20_3 then (f_X3_meltedOn σ k20_3 (σ.1 16 0)).bind fun r62 => if (r62 + (σ.1 105 (k5_1 - 1000))) ≤ (σ.1 146 (k20_3 - 23)) then (f_X1_silverHeld σ k5_1).bind fun r86 => (f_X3_takeIn σ k20_3 (σ.1 105 (k5_1 - 1000)) r86 (σ.1 16 0)).bind fun r93 => bif isL r93 k5_1 then (f_X1_vanish r93 k5_1).bind fun r97 => some (1, r97) else none else some ((-4), σ) else none else some ((-3), σ)) else none)
set_option maxHeartbeats 4000000 in
set_option maxRecDepth 100000 in
theorem s_X6_melt (g : hH) (σ : xS) (x1 : Int32) (r : (Int32 × xS)) (hf : f_X6_melt σ x1 = some r) : SpD mX6_melt rX6_melt [.ref 0, .int x1] (gx g σ) (some (.int r.1)) (gx g r.2) := by
  refine sp_of miX6_melt (Nat.le_of_ble_eq_true rfl) ?_
  show J _ _ _ 0 0 _ 0 [(0, .ref 0), (1, .int x1)] []
  unfold f_X6_melt at hf
  refine j_aload_n (pc' := 1) rfl rfl rfl ?_
  refine j_iload_n (pc' := 2) rfl rfl rfl ?_
  obtain ⟨r2, e2, hf⟩ := o_bind hf
  refine j_v1 (pc' := 5) rfl rfl miX6_lotAt lnX6_116 (gxk_0 g σ) rfl (s_X6_lotAt g σ x1 _ e2) (h_rm_of rfl) (Nat.le_of_ble_eq_true rfl) (c' := 0) (s' := 0) rfl rfl ?_
  rcases o_q hf with ⟨q5_1, hf⟩ | ⟨k5_1, q5_1, hf⟩
  · rw [q5_1, va_rf_none]
    refine j_astore_nN (pc' := 6) (ls' := [(2, _), (0, _), (1, _)]) rfl rfl (Nat.le_of_ble_eq_true rfl) rfl ?_
    refine j_aload_nN (pc' := 7) rfl rfl rfl ?_
    refine j_ifnonnullN (pc' := 10) rfl rfl ?_
    refine j_iconst (v := (-1)) (pc' := 11) rfl rfl (by decide) ?_
    have hf := Option.some.inj hf; subst hf
    exact j_iret rfl rfl (Nat.le_of_ble_eq_true rfl) (Nat.le_of_ble_eq_true rfl) ⟨rfl, rfl⟩
  · rw [q5_1, va_rf_some]
    refine j_astore_n (pc' := 6) (ls' := [(2, _), (0, _), (1, _)]) rfl rfl (Nat.le_of_ble_eq_true rfl) rfl ?_
    refine j_aload_n (pc' := 7) rfl rfl rfl ?_
    refine j_ifnonnull (tgt := 12) rfl rfl ?_
    refine j_aload_n (pc' := 13) rfl rfl rfl ?_
    refine j_aload_n (pc' := 14) rfl rfl rfl ?_
    obtain ⟨c14_2, hf⟩ := o_chk hf
    refine j_get (pc' := 17) (v := .int (σ.1 107 (k5_1 - 1000))) rfl rfl flX6_151 (gx_lot c14_2) (lotF_7 _ _) ?_
    obtain ⟨r17, e17, hf⟩ := o_bind hf
    refine j_v1 (pc' := 20) rfl rfl miX6_potAt lnX6_246 (gxk_0 g σ) rfl (s_X6_potAt g σ (σ.1 107 (k5_1 - 1000)) _ e17) (h_rm_of rfl) (Nat.le_of_ble_eq_true rfl) (c' := 0) (s' := 0) rfl rfl ?_
    rcases o_q hf with ⟨q20_3, hf⟩ | ⟨k20_3, q20_3, hf⟩
    · rw [q20_3, va_rf_none]
      refine j_astore_nN (pc' := 21) (ls' := [(3, _), (2, _), (0, _), (1, _)]) rfl rfl (Nat.le_of_ble_eq_true rfl) rfl ?_
      refine j_aload_nN (pc' := 22) rfl rfl rfl ?_
      refine j_ifnullN (tgt := 36) rfl rfl ?_
      refine j_bipush (v := (-3)) (pc' := 38) rfl rfl (by decide) ?_
      have hf := Option.some.inj hf; subst hf
      exact j_iret rfl rfl (Nat.le_of_ble_eq_true rfl) (Nat.le_of_ble_eq_true rfl) ⟨rfl, rfl⟩
    · rw [q20_3, va_rf_some]
      refine j_astore_n (pc' := 21) (ls' := [(3, _), (2, _), (0, _), (1, _)]) rfl rfl (Nat.le_of_ble_eq_true rfl) rfl ?_
      refine j_aload_n (pc' := 22) rfl rfl rfl ?_
      refine j_ifnull (pc' := 25) rfl rfl ?_
      refine j_aload_n (pc' := 26) rfl rfl rfl ?_
      refine j_aload_n (pc' := 27) rfl rfl rfl ?_
      refine j_get (pc' := 30) rfl rfl flX6_154 (gxk_0 g σ) (nsF_16 σ) ?_
      obtain ⟨r30, e30, hf⟩ := o_bind hf
      refine j_v1 (pc' := 33) rfl rfl miX1_isOnRoad lnX6_157 (gx_lot c14_2) rfl (s_X1_isOnRoad g σ k5_1 (σ.1 16 0) _ e30) (h_rm_of rfl) (Nat.le_of_ble_eq_true rfl) (c' := 0) (s' := 0) rfl rfl ?_
      refine j_if_eq (tgt := 39) (pc' := 36) rfl rfl rfl (fun c33 => ?_) (fun c33 => ?_)
      · rw [if_pos c33] at hf
        refine j_aload_n (pc' := 40) rfl rfl rfl ?_
        refine j_get (pc' := 43) (v := .int (σ.1 104 (k5_1 - 1000))) rfl rfl flX6_137 (gx_lot c14_2) (lotF_4 _ _) ?_
        refine j_iconst (v := 5) (pc' := 44) rfl rfl (by decide) ?_
        refine j_icmp_ne (tgt := 57) (pc' := 47) rfl rfl rfl (fun c44 => ?_) (fun c44 => ?_)
        · rw [if_neg c44] at hf
          refine j_aload_n (pc' := 58) rfl rfl rfl ?_
          refine j_aload_n (pc' := 59) rfl rfl rfl ?_
          refine j_get (pc' := 62) rfl rfl flX6_154 (gxk_0 g σ) (nsF_16 σ) ?_
          obtain ⟨c62_4, hf⟩ := o_chk hf
          obtain ⟨r62, e62, hf⟩ := o_bind hf
          refine j_v1 (pc' := 65) rfl rfl miX3_meltedOn lnX6_254 (gx_pot c62_4) rfl (s_X3_meltedOn g σ k20_3 (σ.1 16 0) _ e62) (h_rm_of rfl) (Nat.le_of_ble_eq_true rfl) (c' := 0) (s' := 0) rfl rfl ?_
          refine j_aload_n (pc' := 66) rfl rfl rfl ?_
          refine j_get (pc' := 69) (v := .int (σ.1 105 (k5_1 - 1000))) rfl rfl flX6_140 (gx_lot c14_2) (lotF_5 _ _) ?_
          refine j_iadd (pc' := 70) rfl rfl ?_
          refine j_aload_n (pc' := 71) rfl rfl rfl ?_
          refine j_get (pc' := 74) (v := .int (σ.1 146 (k20_3 - 23))) rfl rfl flX6_258 (gx_pot c62_4) (potF_6 _ _) ?_
          refine j_icmp_le (tgt := 80) (pc' := 77) rfl rfl rfl (fun c74 => ?_) (fun c74 => ?_)
          · rw [if_pos c74] at hf
            refine j_aload_n (pc' := 81) rfl rfl rfl ?_
            refine j_aload_n (pc' := 82) rfl rfl rfl ?_
            refine j_get (pc' := 85) (v := .int (σ.1 105 (k5_1 - 1000))) rfl rfl flX6_140 (gx_lot c14_2) (lotF_5 _ _) ?_
            refine j_aload_n (pc' := 86) rfl rfl rfl ?_
            obtain ⟨r86, e86, hf⟩ := o_bind hf
            refine j_v0 (pc' := 89) rfl rfl miX1_silverHeld lnX6_175 (gx_lot c14_2) rfl (s_X1_silverHeld g σ k5_1 _ e86) (h_rm_of rfl) (Nat.le_of_ble_eq_true rfl) (c' := 0) (s' := 0) rfl rfl ?_
            refine j_aload_n (pc' := 90) rfl rfl rfl ?_
            refine j_get (pc' := 93) rfl rfl flX6_154 (gxk_0 g σ) (nsF_16 σ) ?_
            obtain ⟨r93, e93, hf⟩ := o_bind hf
            refine j_vw3 (pc' := 96) rfl rfl miX3_takeIn lnX6_261 (gx_pot c62_4) rfl (s_X3_takeIn g σ k20_3 (σ.1 105 (k5_1 - 1000)) r86 (σ.1 16 0) _ e93) (h_rm_of rfl) (Nat.le_of_ble_eq_true rfl) (c' := 0) (s' := 0) rfl rfl ?_
            refine j_aload_n (pc' := 97) rfl rfl rfl ?_
            obtain ⟨c97_5, hf⟩ := o_chk hf
            obtain ⟨r97, e97, hf⟩ := o_bind hf
            refine j_vw0 (pc' := 100) rfl rfl miX1_vanish lnX6_265 (gx_lot c97_5) rfl (s_X1_vanish g r93 k5_1 _ e97) (h_rm_of rfl) (Nat.le_of_ble_eq_true rfl) (c' := 0) (s' := 0) rfl rfl ?_
            refine j_iconst (v := 1) (pc' := 101) rfl rfl (by decide) ?_
            have hf := Option.some.inj hf; subst hf
            exact j_iret rfl rfl (Nat.le_of_ble_eq_true rfl) (Nat.le_of_ble_eq_true rfl) ⟨rfl, rfl⟩
          · rw [if_neg c74] at hf
            refine j_bipush (v := (-4)) (pc' := 79) rfl rfl (by decide) ?_
            have hf := Option.some.inj hf; subst hf
            exact j_iret rfl rfl (Nat.le_of_ble_eq_true rfl) (Nat.le_of_ble_eq_true rfl) ⟨rfl, rfl⟩
        · rw [if_pos c44] at hf
          refine j_aload_n (pc' := 48) rfl rfl rfl ?_
          refine j_aload_n (pc' := 49) rfl rfl rfl ?_
          refine j_get (pc' := 52) (v := .int (σ.1 100 (k5_1 - 1000))) rfl rfl flX6_147 (gx_lot c14_2) (lotF_0 _ _) ?_
          obtain ⟨r52, e52, hf⟩ := o_bind hf
          refine j_vw1 (pc' := 55) rfl rfl miX6_findFalse lnX6_250 (gxk_0 g σ) rfl (s_X6_findFalse g σ (σ.1 100 (k5_1 - 1000)) _ e52) (h_rm_of rfl) (Nat.le_of_ble_eq_true rfl) (c' := 0) (s' := 0) rfl rfl ?_
          refine j_iconst (v := 0) (pc' := 56) rfl rfl (by decide) ?_
          have hf := Option.some.inj hf; subst hf
          exact j_iret rfl rfl (Nat.le_of_ble_eq_true rfl) (Nat.le_of_ble_eq_true rfl) ⟨rfl, rfl⟩
      · rw [if_neg c33] at hf
        refine j_bipush (v := (-3)) (pc' := 38) rfl rfl (by decide) ?_
        have hf := Option.some.inj hf; subst hf
        exact j_iret rfl rfl (Nat.le_of_ble_eq_true rfl) (Nat.le_of_ble_eq_true rfl) ⟨rfl, rfl⟩
end CLASS3
