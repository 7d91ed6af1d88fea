section CLASS4
def rX6_furnace : Room := { frames := 3, cells := 0, slots := 0, locals := 63 }
def f_X6_furnace (σ : xS) (x1 : Int32) (x2 : Int32) : Option (Int32 × xS) := (f_X6_potAt σ x1).bind fun r2 => oq r2 (some ((-1), σ)) (fun k5_1 => (f_X6_within x2 1 1000000).bind fun r16 => if r16 = 0 then some ((-2), σ) else bif isP σ k5_1 then letm (xi σ 146 (va_up (σ.1 146) (k5_1 - 23) x2)) fun σ33 => some ((σ.1 146 (k5_1 - 23)), σ33) else none)
set_option maxHeartbeats 4000000 in
set_option maxRecDepth 100000 in
theorem s_X6_furnace (g : hH) (σ : xS) (x1 : Int32) (x2 : Int32) (r : (Int32 × xS)) (hf : f_X6_furnace σ x1 x2 = some r) : SpD mX6_furnace rX6_furnace [.ref 0, .int x1, .int x2] (gx g σ) (some (.int r.1)) (gx g r.2) := by
  refine sp_of miX6_furnace (Nat.le_of_ble_eq_true rfl) ?_
  show J _ _ _ 0 0 _ 0 [(0, .ref 0), (1, .int x1), (2, .int x2)] []
  unfold f_X6_furnace at hf
  refine j_aload_n (pc' := 1) rfl rfl rfl ?_
  refine j_iload_n (pc' := 2) rfl rfl rfl ?_
  obtain ⟨r2, e2, hf⟩ := o_bind hf
  refine j_v1 (pc' := 5) rfl rfl miX6_potAt lnX6_246 (gxk_0 g σ) rfl (s_X6_potAt g σ x1 _ e2) (h_rm_of rfl) (Nat.le_of_ble_eq_true rfl) (c' := 0) (s' := 0) rfl rfl ?_
  rcases o_q hf with ⟨q5_1, hf⟩ | ⟨k5_1, q5_1, hf⟩
  · rw [q5_1, va_rf_none]
    refine j_astore_nN (pc' := 6) (ls' := [(3, _), (0, _), (1, _), (2, _)]) rfl rfl (Nat.le_of_ble_eq_true rfl) rfl ?_
    refine j_aload_nN (pc' := 7) rfl rfl rfl ?_
    refine j_ifnonnullN (pc' := 10) rfl rfl ?_
    refine j_iconst (v := (-1)) (pc' := 11) rfl rfl (by decide) ?_
    have hf := Option.some.inj hf; subst hf
    exact j_iret rfl rfl (Nat.le_of_ble_eq_true rfl) (Nat.le_of_ble_eq_true rfl) ⟨rfl, rfl⟩
  · rw [q5_1, va_rf_some]
    refine j_astore_n (pc' := 6) (ls' := [(3, _), (0, _), (1, _), (2, _)]) rfl rfl (Nat.le_of_ble_eq_true rfl) rfl ?_
    refine j_aload_n (pc' := 7) rfl rfl rfl ?_
    refine j_ifnonnull (tgt := 12) rfl rfl ?_
    refine j_iload_n (pc' := 13) rfl rfl rfl ?_
    refine j_iconst (v := 1) (pc' := 14) rfl rfl (by decide) ?_
    refine j_ldc (pc' := 16) rfl rfl kcX6_225 ?_
    obtain ⟨r16, e16, hf⟩ := o_bind hf
    refine j_s3 (pc' := 19) rfl rfl miX6_within lnX6_74 (s_X6_within (gx g σ) x2 1 1000000 _ e16) (h_rm_of rfl) (Nat.le_of_ble_eq_true rfl) (c' := 0) (s' := 0) rfl rfl ?_
    refine j_if_ne (tgt := 25) (pc' := 22) rfl rfl rfl (fun c19 => ?_) (fun c19 => ?_)
    · rw [if_neg c19] at hf
      refine j_aload_n (pc' := 26) rfl rfl rfl ?_
      obtain ⟨c26_2, hf⟩ := o_chk hf
      refine j_get (pc' := 29) (v := .int (σ.1 146 (k5_1 - 23))) rfl rfl flX6_258 (gx_pot c26_2) (potF_6 _ _) ?_
      refine j_istore (pc' := 31) (ls' := [(4, _), (3, _), (0, _), (1, _), (2, _)]) rfl rfl (Nat.le_of_ble_eq_true rfl) rfl ?_
      refine j_aload_n (pc' := 32) rfl rfl rfl ?_
      refine j_iload_n (pc' := 33) rfl rfl rfl ?_
      obtain ⟨σ33, e33, hf⟩ := o_let hf
      refine j_put (pc' := 36) rfl rfl flX6_258 (gx_pot c26_2) (lt_P c26_2) (Nat.le_of_ble_eq_true rfl) rfl rfl ?_
      rw [pots_6 c26_2]; rw [e33]
      refine j_iload (pc' := 38) rfl rfl rfl ?_
      have hf := Option.some.inj hf; subst hf
      exact j_iret rfl rfl (Nat.le_of_ble_eq_true rfl) (Nat.le_of_ble_eq_true rfl) ⟨rfl, rfl⟩
    · rw [if_pos c19] at hf
      refine j_bipush (v := (-2)) (pc' := 24) rfl rfl (by decide) ?_
      have hf := Option.some.inj hf; subst hf
      exact j_iret rfl rfl (Nat.le_of_ble_eq_true rfl) (Nat.le_of_ble_eq_true rfl) ⟨rfl, rfl⟩
def rX6_refine : Room := { frames := 3, cells := 0, slots := 0, locals := 63 }
def f_X6_refine (σ : xS) (x1 : Int32) : Option (Int32 × xS) := (f_X6_potAt σ x1).bind fun r2 => oq r2 (some ((-1), σ)) (fun k5_1 => bif isP σ k5_1 then if (lg_cmp (σ.2.1 140 (k5_1 - 23)) 0) = 0 then some ((-3), σ) else (f_X3_bringToLaw σ k5_1).bind fun r27 => some ((r27.1).toInt32, r27.2) else none)
set_option maxHeartbeats 4000000 in
set_option maxRecDepth 100000 in
theorem s_X6_refine (g : hH) (σ : xS) (x1 : Int32) (r : (Int32 × xS)) (hf : f_X6_refine σ x1 = some r) : SpD mX6_refine rX6_refine [.ref 0, .int x1] (gx g σ) (some (.int r.1)) (gx g r.2) := by
  refine sp_of miX6_refine (Nat.le_of_ble_eq_true rfl) ?_
  show J _ _ _ 0 0 _ 0 [(0, .ref 0), (1, .int x1)] []
  unfold f_X6_refine at hf
  refine j_aload_n (pc' := 1) rfl rfl rfl ?_
  refine j_iload_n (pc' := 2) rfl rfl rfl ?_
  obtain ⟨r2, e2, hf⟩ := o_bind hf
  refine j_v1 (pc' := 5) rfl rfl miX6_potAt lnX6_246 (gxk_0 g σ) rfl (s_X6_potAt g σ x1 _ e2) (h_rm_of rfl) (Nat.le_of_ble_eq_true rfl) (c' := 0) (s' := 0) rfl rfl ?_
  rcases o_q hf with ⟨q5_1, hf⟩ | ⟨k5_1, q5_1, hf⟩
  · rw [q5_1, va_rf_none]
    refine j_astore_nN (pc' := 6) (ls' := [(2, _), (0, _), (1, _)]) rfl rfl (Nat.le_of_ble_eq_true rfl) rfl ?_
    refine j_aload_nN (pc' := 7) rfl rfl rfl ?_
    refine j_ifnonnullN (pc' := 10) rfl rfl ?_
    refine j_iconst (v := (-1)) (pc' := 11) rfl rfl (by decide) ?_
    have hf := Option.some.inj hf; subst hf
    exact j_iret rfl rfl (Nat.le_of_ble_eq_true rfl) (Nat.le_of_ble_eq_true rfl) ⟨rfl, rfl⟩
  · rw [q5_1, va_rf_some]
    refine j_astore_n (pc' := 6) (ls' := [(2, _), (0, _), (1, _)]) rfl rfl (Nat.le_of_ble_eq_true rfl) rfl ?_
    refine j_aload_n (pc' := 7) rfl rfl rfl ?_
    refine j_ifnonnull (tgt := 12) rfl rfl ?_
    refine j_aload_n (pc' := 13) rfl rfl rfl ?_
    obtain ⟨c13_2, hf⟩ := o_chk hf
    refine j_get (pc' := 16) (v := .long (σ.2.1 140 (k5_1 - 23))) rfl rfl flX6_268 (gx_pot c13_2) (potF_0 _ _) ?_
    refine j_lconst (v := 0) (pc' := 17) rfl rfl (by decide) ?_
    refine j_lcmp (pc' := 18) rfl rfl ?_
    refine j_if_ne (tgt := 26) (pc' := 21) rfl rfl rfl (fun c18 => ?_) (fun c18 => ?_)
    · rw [if_neg c18] at hf
      refine j_aload_n (pc' := 27) rfl rfl rfl ?_
      obtain ⟨r27, e27, hf⟩ := o_bind hf
      refine j_v0 (pc' := 30) rfl rfl miX3_bringToLaw lnX6_271 (gx_pot c13_2) rfl (s_X3_bringToLaw g σ k5_1 _ e27) (h_rm_of rfl) (Nat.le_of_ble_eq_true rfl) (c' := 0) (s' := 0) rfl rfl ?_
      refine j_l2i (pc' := 31) rfl rfl ?_
      have hf := Option.some.inj hf; subst hf
      exact j_iret rfl rfl (Nat.le_of_ble_eq_true rfl) (Nat.le_of_ble_eq_true rfl) ⟨rfl, rfl⟩
    · rw [if_pos c18] at hf
      refine j_bipush (v := (-3)) (pc' := 23) rfl rfl (by decide) ?_
      refine j_goto (tgt := 31) rfl rfl ?_
      have hf := Option.some.inj hf; subst hf
      exact j_iret rfl rfl (Nat.le_of_ble_eq_true rfl) (Nat.le_of_ble_eq_true rfl) ⟨rfl, rfl⟩
def rX6_strike : Room := { frames := 3, cells := 1, slots := 12, locals := 63 }
def f_X6_strike (σ : xS) (x1 : Int32) (x2 : Int32) (x3 : Int32) : Option (Int32 × xS) := (f_X6_potAt σ x1).bind fun r2 => oq r2 ((f_X6_sortAt σ x2).bind fun r9 => oq r9 (some ((-1), σ)) (fun k12_2 => some ((-1), σ))) (fun k5_1 => (f_X6_sortAt σ x2).bind fun r9 => oq r9 (some ((-1), σ)) (fun k12_3 => (f_X6_within x3 1 1000).bind fun r31 => if r31 = 0 then some ((-2), σ) else bif isS σ k12_3 then if (σ.1 122 (k12_3 - 2000)) = 925 then letm (x3 * (σ.1 121 (k12_3 - 2000))) fun y58 => bif isP σ k5_1 then if (σ.1 142 (k5_1 - 23)) = 0 then some ((-3), σ) else if 0 ≤ (lg_cmp (σ.2.1 140 (k5_1 - 23)) ((y58).toInt64)) then if (σ.1 3 0) < 30 then (f_X3_pourOut σ k5_1 y58).bind fun r99 => bif decide (r99.2.2.2 1 < 1000) then letm (1000 + r99.2.2.2 1) fun k102 => letm (newlot r99) fun σ102 => (f_X1_init σ102 k102 4 x2 k12_3 x3 y58 925).bind fun r116 => bif isL r116 k102 then letm (xi r116 107 (va_up (r116.1 107) (k102 - 1000) x1)) fun σ124 => (f_X6_keepLot σ124 k102).bind fun r130 => some (r130.1, r130.2) else none else none else some ((-4), σ) else some ((-3), σ) else none else some ((-2), σ) else none))
set_option maxHeartbeats 4000000 in
set_option maxRecDepth 100000 in
theorem s_X6_strike (g : hH) (σ : xS) (x1 : Int32) (x2 : Int32) (x3 : Int32) (r : (Int32 × xS)) (hf : f_X6_strike σ x1 x2 x3 = some r) : SpD mX6_strike rX6_strike [.ref 0, .int x1, .int x2, .int x3] (gx g σ) (some (.int r.1)) (gx g r.2) := by
  refine sp_of miX6_strike (Nat.le_of_ble_eq_true rfl) ?_
  show J _ _ _ 0 0 _ 0 [(0, .ref 0), (1, .int x1), (2, .int x2), (3, .int x3)] []
  unfold f_X6_strike at hf
  refine j_aload_n (pc' := 1) rfl rfl rfl ?_
  refine j_iload_n (pc' := 2) rfl rfl rfl ?_
  obtain ⟨r2, e2, hf⟩ := o_bind hf
  refine j_v1 (pc' := 5) rfl rfl miX6_potAt lnX6_246 (gxk_0 g σ) rfl (s_X6_potAt g σ x1 _ e2) (h_rm_of rfl) (Nat.le_of_ble_eq_true rfl) (c' := 0) (s' := 0) rfl rfl ?_
  rcases o_q hf with ⟨q5_1, hf⟩ | ⟨k5_1, q5_1, hf⟩
  · rw [q5_1, va_rf_none]
    refine j_astoreN (pc' := 7) (ls' := [(4, _), (0, _), (1, _), (2, _), (3, _)]) rfl rfl (Nat.le_of_ble_eq_true rfl) rfl ?_
    refine j_aload_n (pc' := 8) rfl rfl rfl ?_
    refine j_iload_n (pc' := 9) rfl rfl rfl ?_
    obtain ⟨r9, e9, hf⟩ := o_bind hf
    refine j_v1 (pc' := 12) rfl rfl miX6_sortAt lnX6_85 (gxk_0 g σ) rfl (s_X6_sortAt g σ x2 _ e9) (h_rm_of rfl) (Nat.le_of_ble_eq_true rfl) (c' := 0) (s' := 0) rfl rfl ?_
    rcases o_q hf with ⟨q12_2, hf⟩ | ⟨k12_2, q12_2, hf⟩
    · rw [q12_2, va_rf_none]
      refine j_astoreN (pc' := 14) (ls' := [(5, _), (4, _), (0, _), (1, _), (2, _), (3, _)]) rfl rfl (Nat.le_of_ble_eq_true rfl) rfl ?_
      refine j_aloadN (pc' := 16) rfl rfl rfl ?_
      refine j_ifnullN (tgt := 24) rfl rfl ?_
      refine j_iconst (v := (-1)) (pc' := 25) rfl rfl (by decide) ?_
      have hf := Option.some.inj hf; subst hf
      exact j_iret rfl rfl (Nat.le_of_ble_eq_true rfl) (Nat.le_of_ble_eq_true rfl) ⟨rfl, rfl⟩
    · rw [q12_2, va_rf_some]
      refine j_astore (pc' := 14) (ls' := [(5, _), (4, _), (0, _), (1, _), (2, _), (3, _)]) rfl rfl (Nat.le_of_ble_eq_true rfl) rfl ?_
      refine j_aloadN (pc' := 16) rfl rfl rfl ?_
      refine j_ifnullN (tgt := 24) rfl rfl ?_
      refine j_iconst (v := (-1)) (pc' := 25) rfl rfl (by decide) ?_
      have hf := Option.some.inj hf; subst hf
      exact j_iret rfl rfl (Nat.le_of_ble_eq_true rfl) (Nat.le_of_ble_eq_true rfl) ⟨rfl, rfl⟩
  · rw [q5_1, va_rf_some]
    refine j_astore (pc' := 7) (ls' := [(4, _), (0, _), (1, _), (2, _), (3, _)]) rfl rfl (Nat.le_of_ble_eq_true rfl) rfl ?_
    refine j_aload_n (pc' := 8) rfl rfl rfl ?_
    refine j_iload_n (pc' := 9) rfl rfl rfl ?_
    obtain ⟨r9, e9, hf⟩ := o_bind hf
    refine j_v1 (pc' := 12) rfl rfl miX6_sortAt lnX6_85 (gxk_0 g σ) rfl (s_X6_sortAt g σ x2 _ e9) (h_rm_of rfl) (Nat.le_of_ble_eq_true rfl) (c' := 0) (s' := 0) rfl rfl ?_
    rcases o_q hf with ⟨q12_3, hf⟩ | ⟨k12_3, q12_3, hf⟩
    · rw [q12_3, va_rf_none]
      refine j_astoreN (pc' := 14) (ls' := [(5, _), (4, _), (0, _), (1, _), (2, _), (3, _)]) rfl rfl (Nat.le_of_ble_eq_true rfl) rfl ?_
      refine j_aload (pc' := 16) rfl rfl rfl ?_
      refine j_ifnull (pc' := 19) rfl rfl ?_
      refine j_aloadN (pc' := 21) rfl rfl rfl ?_
      refine j_ifnonnullN (pc' := 24) rfl rfl ?_
      refine j_iconst (v := (-1)) (pc' := 25) rfl rfl (by decide) ?_
      have hf := Option.some.inj hf; subst hf
      exact j_iret rfl rfl (Nat.le_of_ble_eq_true rfl) (Nat.le_of_ble_eq_true rfl) ⟨rfl, rfl⟩
    · rw [q12_3, va_rf_some]
      refine j_astore (pc' := 14) (ls' := [(5, _), (4, _), (0, _), (1, _), (2, _), (3, _)]) rfl rfl (Nat.le_of_ble_eq_true rfl) rfl ?_
      refine j_aload (pc' := 16) rfl rfl rfl ?_
      refine j_ifnull (pc' := 19) rfl rfl ?_
      refine j_aload (pc' := 21) rfl rfl rfl ?_
      refine j_ifnonnull (tgt := 26) rfl rfl ?_
      refine j_iload_n (pc' := 27) rfl rfl rfl ?_
      refine j_iconst (v := 1) (pc' := 28) rfl rfl (by decide) ?_
      refine j_sipush (v := 1000) (pc' := 31) rfl rfl (by decide) ?_
      obtain ⟨r31, e31, hf⟩ := o_bind hf
      refine j_s3 (pc' := 34) rfl rfl miX6_within lnX6_74 (s_X6_within (gx g σ) x3 1 1000 _ e31) (h_rm_of rfl) (Nat.le_of_ble_eq_true rfl) (c' := 0) (s' := 0) rfl rfl ?_
      refine j_if_eq (tgt := 48) (pc' := 37) rfl rfl rfl (fun c34 => ?_) (fun c34 => ?_)
      · rw [if_pos c34] at hf
        refine j_bipush (v := (-2)) (pc' := 50) rfl rfl (by decide) ?_
        have hf := Option.some.inj hf; subst hf
        exact j_iret rfl rfl (Nat.le_of_ble_eq_true rfl) (Nat.le_of_ble_eq_true rfl) ⟨rfl, rfl⟩
      · rw [if_neg c34] at hf
        refine j_aload (pc' := 39) rfl rfl rfl ?_
        obtain ⟨c39_4, hf⟩ := o_chk hf
        refine j_get (pc' := 42) (v := .int (σ.1 122 (k12_3 - 2000))) rfl rfl flX6_103 (gx_sort c39_4) (sortF_2 _ _) ?_
        refine j_sipush (v := 925) (pc' := 45) rfl rfl (by decide) ?_
        refine j_icmp_eq (tgt := 51) (pc' := 48) rfl rfl rfl (fun c45 => ?_) (fun c45 => ?_)
        · rw [if_pos c45] at hf
          refine j_iload_n (pc' := 52) rfl rfl rfl ?_
          refine j_aload (pc' := 54) rfl rfl rfl ?_
          refine j_get (pc' := 57) (v := .int (σ.1 121 (k12_3 - 2000))) rfl rfl flX6_127 (gx_sort c39_4) (sortF_1 _ _) ?_
          refine j_imul (pc' := 58) rfl rfl ?_
          obtain ⟨y58, e58, hf⟩ := o_let hf
          rw [e58]
          refine j_istore (pc' := 60) (ls' := [(6, _), (5, _), (4, _), (0, _), (1, _), (2, _), (3, _)]) rfl rfl (Nat.le_of_ble_eq_true rfl) rfl ?_
          refine j_aload (pc' := 62) rfl rfl rfl ?_
          obtain ⟨c62_5, hf⟩ := o_chk hf
          refine j_get (pc' := 65) (v := .int (σ.1 142 (k5_1 - 23))) rfl rfl flX6_274 (gx_pot c62_5) (potF_2 _ _) ?_
          refine j_if_eq (tgt := 80) (pc' := 68) rfl rfl rfl (fun c65 => ?_) (fun c65 => ?_)
          · rw [if_pos c65] at hf
            refine j_bipush (v := (-3)) (pc' := 82) rfl rfl (by decide) ?_
            have hf := Option.some.inj hf; subst hf
            exact j_iret rfl rfl (Nat.le_of_ble_eq_true rfl) (Nat.le_of_ble_eq_true rfl) ⟨rfl, rfl⟩
          · rw [if_neg c65] at hf
            refine j_aload (pc' := 70) rfl rfl rfl ?_
            refine j_get (pc' := 73) (v := .long (σ.2.1 140 (k5_1 - 23))) rfl rfl flX6_268 (gx_pot c62_5) (potF_0 _ _) ?_
            refine j_iload (pc' := 75) rfl rfl rfl ?_
            refine j_i2l (pc' := 76) rfl rfl ?_
            refine j_lcmp (pc' := 77) rfl rfl ?_
            refine j_if_ge (tgt := 83) (pc' := 80) rfl rfl rfl (fun c77 => ?_) (fun c77 => ?_)
            · rw [if_pos c77] at hf
              refine j_aload_n (pc' := 84) rfl rfl rfl ?_
              refine j_get (pc' := 87) rfl rfl flX6_97 (gxk_0 g σ) (nsF_3 σ) ?_
              refine j_bipush (v := 30) (pc' := 89) rfl rfl (by decide) ?_
              refine j_icmp_lt (tgt := 95) (pc' := 92) rfl rfl rfl (fun c89 => ?_) (fun c89 => ?_)
              · rw [if_pos c89] at hf
                refine j_aload (pc' := 97) rfl rfl rfl ?_
                refine j_iload (pc' := 99) rfl rfl rfl ?_
                obtain ⟨r99, e99, hf⟩ := o_bind hf
                refine j_vw1 (pc' := 102) rfl rfl miX3_pourOut lnX6_277 (gx_pot c62_5) rfl (s_X3_pourOut g σ k5_1 y58 _ e99) (h_rm_of rfl) (Nat.le_of_ble_eq_true rfl) (c' := 0) (s' := 0) rfl rfl ?_
                obtain ⟨c102, hf⟩ := o_chk hf
                have c102 := of_decide_eq_true c102
                obtain ⟨k102, ek102, hf⟩ := o_let hf
                obtain ⟨σ102, e102, hf⟩ := o_let hf
                refine j_new (pc' := 105) (ci := 1) (fs := dfX1) rfl rfl klX6_15 rfl dfX1_ok (by decide) (gx_newlot c102).1 (by omega) (Nat.le_of_ble_eq_true rfl) (Nat.le_of_ble_eq_true rfl) ?_
                rw [(gx_newlot c102).2]; rw [e102, ek102]
                refine j_dup (pc' := 106) rfl rfl rfl ?_
                refine j_iconst (v := 4) (pc' := 107) rfl rfl (by decide) ?_
                refine j_iload_n (pc' := 108) rfl rfl rfl ?_
                refine j_aload (pc' := 110) rfl rfl rfl ?_
                refine j_iload_n (pc' := 111) rfl rfl rfl ?_
                refine j_iload (pc' := 113) rfl rfl rfl ?_
                refine j_sipush (v := 925) (pc' := 116) rfl rfl (by decide) ?_
                obtain ⟨r116, e116, hf⟩ := o_bind hf
                refine j_i6 (pc' := 119) rfl rfl miX1_init rfl lnX6_106 (s_X1_init g σ102 k102 4 x2 k12_3 x3 y58 925 _ e116) (h_rm_of rfl) (Nat.le_of_ble_eq_true rfl) (c' := 1) (s' := 12) rfl rfl ?_
                refine j_astore (pc' := 121) (ls' := [(7, _), (6, _), (5, _), (4, _), (0, _), (1, _), (2, _), (3, _)]) rfl rfl (Nat.le_of_ble_eq_true rfl) rfl ?_
                refine j_aload (pc' := 123) rfl rfl rfl ?_
                refine j_iload_n (pc' := 124) rfl rfl rfl ?_
                obtain ⟨c124_6, hf⟩ := o_chk hf
                obtain ⟨σ124, e124, hf⟩ := o_let hf
                refine j_put (pc' := 127) rfl rfl flX6_151 (gx_lot c124_6) (lt_L c124_6) (Nat.le_of_ble_eq_true rfl) rfl rfl ?_
                rw [lots_7 c124_6]; rw [e124]
                refine j_aload_n (pc' := 128) rfl rfl rfl ?_
                refine j_aload (pc' := 130) rfl rfl rfl ?_
                obtain ⟨r130, e130, hf⟩ := o_bind hf
                refine j_v1 (pc' := 133) rfl rfl miX6_keepLot lnX6_112 (gxk_0 g σ124) rfl (s_X6_keepLot g σ124 k102 _ e130) (h_rm_of rfl) (Nat.le_of_ble_eq_true rfl) (c' := 1) (s' := 12) rfl rfl ?_
                have hf := Option.some.inj hf; subst hf
                exact j_iret rfl rfl (Nat.le_of_ble_eq_true rfl) (Nat.le_of_ble_eq_true rfl) ⟨rfl, rfl⟩
              · rw [if_neg c89] at hf
                refine j_bipush (v := (-4)) (pc' := 94) rfl rfl (by decide) ?_
                have hf := Option.some.inj hf; subst hf
                exact j_iret rfl rfl (Nat.le_of_ble_eq_true rfl) (Nat.le_of_ble_eq_true rfl) ⟨rfl, rfl⟩
            · rw [if_neg c77] at hf
              refine j_bipush (v := (-3)) (pc' := 82) rfl rfl (by decide) ?_
              have hf := Option.some.inj hf; subst hf
              exact j_iret rfl rfl (Nat.le_of_ble_eq_true rfl) (Nat.le_of_ble_eq_true rfl) ⟨rfl, rfl⟩
        · rw [if_neg c45] at hf
          refine j_bipush (v := (-2)) (pc' := 50) rfl rfl (by decide) ?_
          have hf := Option.some.inj hf; subst hf
          exact j_iret rfl rfl (Nat.le_of_ble_eq_true rfl) (Nat.le_of_ble_eq_true rfl) ⟨rfl, rfl⟩
def rX6_mint : Room := { frames := 3, cells := 0, slots := 0, locals := 63 }
def f_X6_mint (σ : xS) (x1 : Int32) (x2 : Int32) : Option Int64 := (f_X6_potAt σ x1).bind fun r2 => oq r2 (some (-1)) (fun k5_1 => if x2 = 0 then bif isP σ k5_1 then some (σ.2.1 140 (k5_1 - 23)) else none else if x2 = 1 then bif isP σ k5_1 then some (σ.2.1 141 (k5_1 - 23)) else none else if x2 = 2 then bif isP σ k5_1 then (f_X6_oneIf (σ.1 142 (k5_1 - 23))).bind fun r66 => some ((r66).toInt64) else none else if x2 = 3 then bif isP σ k5_1 then some (σ.2.1 143 (k5_1 - 23)) else none else if x2 = 4 then bif isP σ k5_1 then some (σ.2.1 144 (k5_1 - 23)) else none else if x2 = 5 then bif isP σ k5_1 then (f_X3_meltedOn σ k5_1 (σ.1 16 0)).bind fun r86 => some ((r86).toInt64) else none else some (-1))
set_option maxHeartbeats 4000000 in
set_option maxRecDepth 100000 in
theorem s_X6_mint (g : hH) (σ : xS) (x1 : Int32) (x2 : Int32) (r : Int64) (hf : f_X6_mint σ x1 x2 = some r) : SpD mX6_mint rX6_mint [.ref 0, .int x1, .int x2] (gx g σ) (some (.long r)) (gx g σ) := by
  refine sp_of miX6_mint (Nat.le_of_ble_eq_true rfl) ?_
  show J _ _ _ 0 0 _ 0 [(0, .ref 0), (1, .int x1), (2, .int x2)] []
  unfold f_X6_mint at hf
  refine j_aload_n (pc' := 1) rfl rfl rfl ?_
  refine j_iload_n (pc' := 2) rfl rfl rfl ?_
  obtain ⟨r2, e2, hf⟩ := o_bind hf
  refine j_v1 (pc' := 5) rfl rfl miX6_potAt lnX6_246 (gxk_0 g σ) rfl (s_X6_potAt g σ x1 _ e2) (h_rm_of rfl) (Nat.le_of_ble_eq_true rfl) (c' := 0) (s' := 0) rfl rfl ?_
  rcases o_q hf with ⟨q5_1, hf⟩ | ⟨k5_1, q5_1, hf⟩
  · rw [q5_1, va_rf_none]
    refine j_astore_nN (pc' := 6) (ls' := [(3, _), (0, _), (1, _), (2, _)]) rfl rfl (Nat.le_of_ble_eq_true rfl) rfl ?_
    refine j_aload_nN (pc' := 7) rfl rfl rfl ?_
    refine j_ifnonnullN (pc' := 10) rfl rfl ?_
    refine j_ldc2 (pc' := 13) rfl rfl kcX6_173 ?_
    have hf := Option.some.inj hf; subst hf
    exact j_lret rfl rfl (Nat.le_of_ble_eq_true rfl) (Nat.le_of_ble_eq_true rfl) ⟨rfl, rfl⟩
  · rw [q5_1, va_rf_some]
    refine j_astore_n (pc' := 6) (ls' := [(3, _), (0, _), (1, _), (2, _)]) rfl rfl (Nat.le_of_ble_eq_true rfl) rfl ?_
    refine j_aload_n (pc' := 7) rfl rfl rfl ?_
    refine j_ifnonnull (tgt := 14) rfl rfl ?_
    refine j_iload_n (pc' := 15) rfl rfl rfl ?_
    by_cases w15_0 : x2 = 0
    · rw [if_pos w15_0] at hf
      rw [w15_0]
      refine j_tableIn (tgt := 52) rfl (by decide) (by decide) rfl rfl ?_
      refine j_aload_n (pc' := 53) rfl rfl rfl ?_
      obtain ⟨c53_2, hf⟩ := o_chk hf
      refine j_get (pc' := 56) (v := .long (σ.2.1 140 (k5_1 - 23))) rfl rfl flX6_268 (gx_pot c53_2) (potF_0 _ _) ?_
      have hf := Option.some.inj hf; subst hf
      exact j_lret rfl rfl (Nat.le_of_ble_eq_true rfl) (Nat.le_of_ble_eq_true rfl) ⟨rfl, rfl⟩
    rw [if_neg w15_0] at hf
    by_cases w15_1 : x2 = 1
    · rw [if_pos w15_1] at hf
      rw [w15_1]
      refine j_tableIn (tgt := 57) rfl (by decide) (by decide) rfl rfl ?_
      refine j_aload_n (pc' := 58) rfl rfl rfl ?_
      obtain ⟨c58_3, hf⟩ := o_chk hf
      refine j_get (pc' := 61) (v := .long (σ.2.1 141 (k5_1 - 23))) rfl rfl flX6_280 (gx_pot c58_3) (potF_1 _ _) ?_
      have hf := Option.some.inj hf; subst hf
      exact j_lret rfl rfl (Nat.le_of_ble_eq_true rfl) (Nat.le_of_ble_eq_true rfl) ⟨rfl, rfl⟩
    rw [if_neg w15_1] at hf
    by_cases w15_2 : x2 = 2
    · rw [if_pos w15_2] at hf
      rw [w15_2]
      refine j_tableIn (tgt := 62) rfl (by decide) (by decide) rfl rfl ?_
      refine j_aload_n (pc' := 63) rfl rfl rfl ?_
      obtain ⟨c63_4, hf⟩ := o_chk hf
      refine j_get (pc' := 66) (v := .int (σ.1 142 (k5_1 - 23))) rfl rfl flX6_274 (gx_pot c63_4) (potF_2 _ _) ?_
      obtain ⟨r66, e66, hf⟩ := o_bind hf
      refine j_s1 (pc' := 69) rfl rfl miX6_oneIf lnX6_143 (s_X6_oneIf (gx g σ) (σ.1 142 (k5_1 - 23)) _ e66) (h_rm_of rfl) (Nat.le_of_ble_eq_true rfl) (c' := 0) (s' := 0) rfl rfl ?_
      refine j_i2l (pc' := 70) rfl rfl ?_
      have hf := Option.some.inj hf; subst hf
      exact j_lret rfl rfl (Nat.le_of_ble_eq_true rfl) (Nat.le_of_ble_eq_true rfl) ⟨rfl, rfl⟩
    rw [if_neg w15_2] at hf
    by_cases w15_3 : x2 = 3
    · rw [if_pos w15_3] at hf
      rw [w15_3]
      refine j_tableIn (tgt := 71) rfl (by decide) (by decide) rfl rfl ?_
      refine j_aload_n (pc' := 72) rfl rfl rfl ?_
      obtain ⟨c72_5, hf⟩ := o_chk hf
      refine j_get (pc' := 75) (v := .long (σ.2.1 143 (k5_1 - 23))) rfl rfl flX6_283 (gx_pot c72_5) (potF_3 _ _) ?_
      have hf := Option.some.inj hf; subst hf
      exact j_lret rfl rfl (Nat.le_of_ble_eq_true rfl) (Nat.le_of_ble_eq_true rfl) ⟨rfl, rfl⟩
    rw [if_neg w15_3] at hf
    by_cases w15_4 : x2 = 4
    · rw [if_pos w15_4] at hf
      rw [w15_4]
      refine j_tableIn (tgt := 76) rfl (by decide) (by decide) rfl rfl ?_
      refine j_aload_n (pc' := 77) rfl rfl rfl ?_
      obtain ⟨c77_6, hf⟩ := o_chk hf
      refine j_get (pc' := 80) (v := .long (σ.2.1 144 (k5_1 - 23))) rfl rfl flX6_286 (gx_pot c77_6) (potF_4 _ _) ?_
      have hf := Option.some.inj hf; subst hf
      exact j_lret rfl rfl (Nat.le_of_ble_eq_true rfl) (Nat.le_of_ble_eq_true rfl) ⟨rfl, rfl⟩
    rw [if_neg w15_4] at hf
    by_cases w15_5 : x2 = 5
    · rw [if_pos w15_5] at hf
      rw [w15_5]
      refine j_tableIn (tgt := 81) rfl (by decide) (by decide) rfl rfl ?_
      refine j_aload_n (pc' := 82) rfl rfl rfl ?_
      refine j_aload_n (pc' := 83) rfl rfl rfl ?_
      refine j_get (pc' := 86) rfl rfl flX6_154 (gxk_0 g σ) (nsF_16 σ) ?_
      obtain ⟨c86_7, hf⟩ := o_chk hf
      obtain ⟨r86, e86, hf⟩ := o_bind hf
      refine j_v1 (pc' := 89) rfl rfl miX3_meltedOn lnX6_254 (gx_pot c86_7) rfl (s_X3_meltedOn g σ k5_1 (σ.1 16 0) _ e86) (h_rm_of rfl) (Nat.le_of_ble_eq_true rfl) (c' := 0) (s' := 0) rfl rfl ?_
      refine j_i2l (pc' := 90) rfl rfl ?_
      have hf := Option.some.inj hf; subst hf
      exact j_lret rfl rfl (Nat.le_of_ble_eq_true rfl) (Nat.le_of_ble_eq_true rfl) ⟨rfl, rfl⟩
    rw [if_neg w15_5] at hf
    refine j_tableOut (tgt := 91) rfl (sw_out (n := 5) (by decide) (fun v hv => by
      have : v = 0 ∨ v = 1 ∨ v = 2 ∨ v = 3 ∨ v = 4 ∨ v = 5 := by omega
      rcases this with rfl | rfl | rfl | rfl | rfl | rfl
      · exact w15_0
      · exact w15_1
      · exact w15_2
      · exact w15_3
      · exact w15_4
      · exact w15_5)) rfl ?_
    refine j_ldc2 (pc' := 94) rfl rfl kcX6_173 ?_
    have hf := Option.some.inj hf; subst hf
    exact j_lret rfl rfl (Nat.le_of_ble_eq_true rfl) (Nat.le_of_ble_eq_true rfl) ⟨rfl, rfl⟩
def rX6_all : Room := { frames := 3, cells := 0, slots := 0, locals := 63 }
def f_X6_all_L4 : Nat → xS → Int64 → Int32 → Option (Int64)
  | 0, _, _, _ => none
  | n + 1, σ, x1, x3 => if (σ.1 3 0) ≤ x3 then some (x1) else (f_X6_lotAt σ x3).bind fun r14 => oq r14 (f_X6_all_L4 n σ x1 (x3 + 1)) (fun k17_1 => bif isL σ k17_1 then if (σ.1 109 (k17_1 - 1000)) = 0 then (f_X1_silverHeld σ k17_1).bind fun r35 => f_X6_all_L4 n σ (x1 + r35) (x3 + 1) else f_X6_all_L4 n σ x1 (x3 + 1) else none)
set_option maxHeartbeats 4000000 in
set_option maxRecDepth 100000 in
theorem s_X6_all_L4 {Q : Option Value → hH → Prop} (g : hH) : ∀ (n : Nat) (σ : xS) (x1 : Int64) (x3 : Int32) (r : Int64), f_X6_all_L4 n σ x1 x3 = some r → (J mX6_all rX6_all Q 0 0 (gx g σ) 46 [(0, .ref 0), (1, .long r)] []) → J mX6_all rX6_all Q 0 0 (gx g σ) 4 [(0, .ref 0), (1, .long x1), (3, .int x3)] [] := by
  intro n
  induction n with
  | zero =>
    intro σ x1 x3 r hf
    cases hf
  | succ n ih =>
    intro σ x1 x3 r hf k0
    rw [f_X6_all_L4] at hf
    refine j_iload_n (pc' := 5) rfl rfl rfl ?_
    refine j_aload_n (pc' := 6) rfl rfl rfl ?_
    refine j_get (pc' := 9) rfl rfl flX6_97 (gxk_0 g σ) (nsF_3 σ) ?_
    refine j_icmp_ge (tgt := 46) (pc' := 12) rfl rfl rfl (fun c9 => ?_) (fun c9 => ?_)
    · rw [if_pos c9] at hf
      have hf := Option.some.inj hf; subst hf
      exact j_sub (ls' := [(0, .ref 0), (1, .long _)]) ⟨rfl, rfl, trivial⟩ (k0)
    · rw [if_neg c9] at hf
      refine j_aload_n (pc' := 13) rfl rfl rfl ?_
      refine j_iload_n (pc' := 14) rfl rfl rfl ?_
      obtain ⟨r14, e14, hf⟩ := o_bind hf
      refine j_v1 (pc' := 17) rfl rfl miX6_lotAt lnX6_116 (gxk_0 g σ) rfl (s_X6_lotAt g σ x3 _ e14) (h_rm_of rfl) (Nat.le_of_ble_eq_true rfl) (c' := 0) (s' := 0) rfl rfl ?_
      rcases o_q hf with ⟨q17_1, hf⟩ | ⟨k17_1, q17_1, hf⟩
      · rw [q17_1, va_rf_none]
        refine j_astoreN (pc' := 19) (ls' := [(4, _), (0, _), (1, _), (3, _)]) rfl rfl (Nat.le_of_ble_eq_true rfl) rfl ?_
        refine j_aloadN (pc' := 21) rfl rfl rfl ?_
        refine j_ifnullN (tgt := 40) rfl rfl ?_
        refine j_iinc (pc' := 43) (d := 1) (ls' := [(3, _), (4, _), (0, _), (1, _)]) rfl rfl rfl (by decide) (Nat.le_of_ble_eq_true rfl) rfl ?_
        refine j_goto (tgt := 4) rfl rfl ?_
        refine j_sub (ls' := [(0, .ref 0), (1, .long _), (3, .int _)]) ⟨rfl, rfl, rfl, trivial⟩ ?_
        exact ih _ _ _ _ hf k0
      · rw [q17_1, va_rf_some]
        refine j_astore (pc' := 19) (ls' := [(4, _), (0, _), (1, _), (3, _)]) rfl rfl (Nat.le_of_ble_eq_true rfl) rfl ?_
        refine j_aload (pc' := 21) rfl rfl rfl ?_
        refine j_ifnull (pc' := 24) rfl rfl ?_
        refine j_aload (pc' := 26) rfl rfl rfl ?_
        obtain ⟨c26_2, hf⟩ := o_chk hf
        refine j_get (pc' := 29) (v := .int (σ.1 109 (k17_1 - 1000))) rfl rfl flX6_163 (gx_lot c26_2) (lotF_9 _ _) ?_
        refine j_if_ne (tgt := 40) (pc' := 32) rfl rfl rfl (fun c29 => ?_) (fun c29 => ?_)
        · rw [if_neg c29] at hf
          refine j_iinc (pc' := 43) (d := 1) (ls' := [(3, _), (4, _), (0, _), (1, _)]) rfl rfl rfl (by decide) (Nat.le_of_ble_eq_true rfl) rfl ?_
          refine j_goto (tgt := 4) rfl rfl ?_
          refine j_sub (ls' := [(0, .ref 0), (1, .long _), (3, .int _)]) ⟨rfl, rfl, rfl, trivial⟩ ?_
          exact ih _ _ _ _ hf k0
        · rw [if_pos c29] at hf
          refine j_lload_n (pc' := 33) rfl rfl rfl ?_
          refine j_aload (pc' := 35) rfl rfl rfl ?_
          obtain ⟨r35, e35, hf⟩ := o_bind hf
          refine j_v0 (pc' := 38) rfl rfl miX1_silverHeld lnX6_175 (gx_lot c26_2) rfl (s_X1_silverHeld g σ k17_1 _ e35) (h_rm_of rfl) (Nat.le_of_ble_eq_true rfl) (c' := 0) (s' := 0) rfl rfl ?_
          refine j_ladd (pc' := 39) rfl rfl ?_
          refine j_lstore_n (pc' := 40) (ls' := [(1, _), (4, _), (0, _), (3, _)]) rfl rfl (Nat.le_of_ble_eq_true rfl) rfl ?_
          refine j_iinc (pc' := 43) (d := 1) (ls' := [(3, _), (1, _), (4, _), (0, _)]) rfl rfl rfl (by decide) (Nat.le_of_ble_eq_true rfl) rfl ?_
          refine j_goto (tgt := 4) rfl rfl ?_
          refine j_sub (ls' := [(0, .ref 0), (1, .long _), (3, .int _)]) ⟨rfl, rfl, rfl, trivial⟩ ?_
          exact ih _ _ _ _ hf k0
def f_X6_all_L48 : Nat → xS → Int64 → Int32 → Option (Int64)
  | 0, _, _, _ => none
  | n + 1, σ, x1, x3 => if 3 ≤ x3 then some (x1) else (f_X6_potAt σ x3).bind fun r55 => oq r55 (f_X6_all_L48 n σ x1 (x3 + 1)) (fun k58_3 => bif isP σ k58_3 then letm (x1 + (((σ.2.1 141 (k58_3 - 23)) - ((σ.2.1 144 (k58_3 - 23)) * 1000)) + (σ.2.1 145 (k58_3 - 23)))) fun y88 => f_X6_all_L48 n σ y88 (x3 + 1) else none)
set_option maxHeartbeats 4000000 in
set_option maxRecDepth 100000 in
theorem s_X6_all_L48 {Q : Option Value → hH → Prop} (g : hH) : ∀ (n : Nat) (σ : xS) (x1 : Int64) (x3 : Int32) (r : Int64), f_X6_all_L48 n σ x1 x3 = some r → (J mX6_all rX6_all Q 0 0 (gx g σ) 95 [(1, .long r)] []) → J mX6_all rX6_all Q 0 0 (gx g σ) 48 [(0, .ref 0), (1, .long x1), (3, .int x3)] [] := by
  intro n
  induction n with
  | zero =>
    intro σ x1 x3 r hf
    cases hf
  | succ n ih =>
    intro σ x1 x3 r hf k0
    rw [f_X6_all_L48] at hf
    refine j_iload_n (pc' := 49) rfl rfl rfl ?_
    refine j_iconst (v := 3) (pc' := 50) rfl rfl (by decide) ?_
    refine j_icmp_ge (tgt := 95) (pc' := 53) rfl rfl rfl (fun c50 => ?_) (fun c50 => ?_)
    · rw [if_pos c50] at hf
      have hf := Option.some.inj hf; subst hf
      exact j_sub (ls' := [(1, .long _)]) ⟨rfl, trivial⟩ (k0)
    · rw [if_neg c50] at hf
      refine j_aload_n (pc' := 54) rfl rfl rfl ?_
      refine j_iload_n (pc' := 55) rfl rfl rfl ?_
      obtain ⟨r55, e55, hf⟩ := o_bind hf
      refine j_v1 (pc' := 58) rfl rfl miX6_potAt lnX6_246 (gxk_0 g σ) rfl (s_X6_potAt g σ x3 _ e55) (h_rm_of rfl) (Nat.le_of_ble_eq_true rfl) (c' := 0) (s' := 0) rfl rfl ?_
      rcases o_q hf with ⟨q58_3, hf⟩ | ⟨k58_3, q58_3, hf⟩
      · rw [q58_3, va_rf_none]
        refine j_astoreN (pc' := 60) (ls' := [(4, _), (0, _), (1, _), (3, _)]) rfl rfl (Nat.le_of_ble_eq_true rfl) rfl ?_
        refine j_aloadN (pc' := 62) rfl rfl rfl ?_
        refine j_ifnullN (tgt := 89) rfl rfl ?_
        refine j_iinc (pc' := 92) (d := 1) (ls' := [(3, _), (4, _), (0, _), (1, _)]) rfl rfl rfl (by decide) (Nat.le_of_ble_eq_true rfl) rfl ?_
        refine j_goto (tgt := 48) rfl rfl ?_
        refine j_sub (ls' := [(0, .ref 0), (1, .long _), (3, .int _)]) ⟨rfl, rfl, rfl, trivial⟩ ?_
        exact ih _ _ _ _ hf k0
      · rw [q58_3, va_rf_some]
        refine j_astore (pc' := 60) (ls' := [(4, _), (0, _), (1, _), (3, _)]) rfl rfl (Nat.le_of_ble_eq_true rfl) rfl ?_
        refine j_aload (pc' := 62) rfl rfl rfl ?_
        refine j_ifnull (pc' := 65) rfl rfl ?_
        refine j_lload_n (pc' := 66) rfl rfl rfl ?_
        refine j_aload (pc' := 68) rfl rfl rfl ?_
        obtain ⟨c68_4, hf⟩ := o_chk hf
        refine j_get (pc' := 71) (v := .long (σ.2.1 141 (k58_3 - 23))) rfl rfl flX6_280 (gx_pot c68_4) (potF_1 _ _) ?_
        refine j_aload (pc' := 73) rfl rfl rfl ?_
        refine j_get (pc' := 76) (v := .long (σ.2.1 144 (k58_3 - 23))) rfl rfl flX6_286 (gx_pot c68_4) (potF_4 _ _) ?_
        refine j_ldc2 (pc' := 79) rfl rfl kcX6_289 ?_
        refine j_lmul (pc' := 80) rfl rfl ?_
        refine j_lsub (pc' := 81) rfl rfl ?_
        refine j_aload (pc' := 83) rfl rfl rfl ?_
        refine j_get (pc' := 86) (v := .long (σ.2.1 145 (k58_3 - 23))) rfl rfl flX6_291 (gx_pot c68_4) (potF_5 _ _) ?_
        refine j_ladd (pc' := 87) rfl rfl ?_
        refine j_ladd (pc' := 88) rfl rfl ?_
        obtain ⟨y88, e88, hf⟩ := o_let hf
        rw [e88]
        refine j_lstore_n (pc' := 89) (ls' := [(1, _), (4, _), (0, _), (3, _)]) rfl rfl (Nat.le_of_ble_eq_true rfl) rfl ?_
        refine j_iinc (pc' := 92) (d := 1) (ls' := [(3, _), (1, _), (4, _), (0, _)]) rfl rfl rfl (by decide) (Nat.le_of_ble_eq_true rfl) rfl ?_
        refine j_goto (tgt := 48) rfl rfl ?_
        refine j_sub (ls' := [(0, .ref 0), (1, .long _), (3, .int _)]) ⟨rfl, rfl, rfl, trivial⟩ ?_
        exact ih _ _ _ _ hf k0
def f_X6_all (σ : xS) : Option Int64 := (f_X6_all_L4 4000 σ 0 0).bind fun r4 => (f_X6_all_L48 4000 σ r4 0).bind fun r48 => some r48
set_option maxHeartbeats 4000000 in
set_option maxRecDepth 100000 in
theorem s_X6_all (g : hH) (σ : xS) (r : Int64) (hf : f_X6_all σ = some r) : SpD mX6_all rX6_all [.ref 0] (gx g σ) (some (.long r)) (gx g σ) := by
  refine sp_of miX6_all (Nat.le_of_ble_eq_true rfl) ?_
  show J _ _ _ 0 0 _ 0 [(0, .ref 0)] []
  unfold f_X6_all at hf
  refine j_lconst (v := 0) (pc' := 1) rfl rfl (by decide) ?_
  refine j_lstore_n (pc' := 2) (ls' := [(1, _), (0, _)]) rfl rfl (Nat.le_of_ble_eq_true rfl) rfl ?_
  refine j_iconst (v := 0) (pc' := 3) rfl rfl (by decide) ?_
  refine j_istore_n (pc' := 4) (ls' := [(3, _), (1, _), (0, _)]) rfl rfl (Nat.le_of_ble_eq_true rfl) rfl ?_
  obtain ⟨r4, e4, hf⟩ := o_bind hf
  refine j_sub (ls' := [(0, .ref 0), (1, .long _), (3, .int _)]) ⟨rfl, rfl, rfl, trivial⟩ ?_
  refine s_X6_all_L4 g _ _ _ _ _ e4 ?_
  refine j_iconst (v := 0) (pc' := 47) rfl rfl (by decide) ?_
  refine j_istore_n (pc' := 48) (ls' := [(3, _), (0, _), (1, _)]) rfl rfl (Nat.le_of_ble_eq_true rfl) rfl ?_
  obtain ⟨r48, e48, hf⟩ := o_bind hf
  refine j_sub (ls' := [(0, .ref 0), (1, .long _), (3, .int _)]) ⟨rfl, rfl, rfl, trivial⟩ ?_
  refine s_X6_all_L48 g _ _ _ _ _ e48 ?_
  refine j_lload_n (pc' := 96) rfl rfl rfl ?_
  have hf := Option.some.inj hf; subst hf
  exact j_lret rfl rfl (Nat.le_of_ble_eq_true rfl) (Nat.le_of_ble_eq_true rfl) ⟨rfl, rfl⟩
def rX6_drawn : Room := { frames := 2, cells := 0, slots := 0, locals := 44 }
def f_X6_drawn (σ : xS) (x1 : Int32) (x2 : Int32) (x3 : Int32) (x4 : Int32) : Option Int32 := (f_X6_lotAt σ x1).bind fun r2 => oq r2 (some (-1)) (fun k5_1 => (f_X6_within x4 0 1).bind fun r16 => if r16 = 0 then some (-1) else bif isL σ k5_1 then (f_X1_canDraw σ k5_1 x2 x3).bind fun r28 => if r28 = 0 then some (-2) else if x4 = 0 then (f_X1_leastDrawn σ k5_1 x2 x3).bind fun r46 => some r46 else (f_X1_mostDrawn σ k5_1 x2 x3).bind fun r56 => some r56 else none)
set_option maxHeartbeats 4000000 in
set_option maxRecDepth 100000 in
theorem s_X6_drawn (g : hH) (σ : xS) (x1 : Int32) (x2 : Int32) (x3 : Int32) (x4 : Int32) (r : Int32) (hf : f_X6_drawn σ x1 x2 x3 x4 = some r) : SpD mX6_drawn rX6_drawn [.ref 0, .int x1, .int x2, .int x3, .int x4] (gx g σ) (some (.int r)) (gx g σ) := by
  refine sp_of miX6_drawn (Nat.le_of_ble_eq_true rfl) ?_
  show J _ _ _ 0 0 _ 0 [(0, .ref 0), (1, .int x1), (2, .int x2), (3, .int x3), (4, .int x4)] []
  unfold f_X6_drawn at hf
  refine j_aload_n (pc' := 1) rfl rfl rfl ?_
  refine j_iload_n (pc' := 2) rfl rfl rfl ?_
  obtain ⟨r2, e2, hf⟩ := o_bind hf
  refine j_v1 (pc' := 5) rfl rfl miX6_lotAt lnX6_116 (gxk_0 g σ) rfl (s_X6_lotAt g σ x1 _ e2) (h_rm_of rfl) (Nat.le_of_ble_eq_true rfl) (c' := 0) (s' := 0) rfl rfl ?_
  rcases o_q hf with ⟨q5_1, hf⟩ | ⟨k5_1, q5_1, hf⟩
  · rw [q5_1, va_rf_none]
    refine j_astoreN (pc' := 7) (ls' := [(5, _), (0, _), (1, _), (2, _), (3, _), (4, _)]) rfl rfl (Nat.le_of_ble_eq_true rfl) rfl ?_
    refine j_aloadN (pc' := 9) rfl rfl rfl ?_
    refine j_ifnullN (tgt := 22) rfl rfl ?_
    refine j_iconst (v := (-1)) (pc' := 23) rfl rfl (by decide) ?_
    have hf := Option.some.inj hf; subst hf
    exact j_iret rfl rfl (Nat.le_of_ble_eq_true rfl) (Nat.le_of_ble_eq_true rfl) ⟨rfl, rfl⟩
  · rw [q5_1, va_rf_some]
    refine j_astore (pc' := 7) (ls' := [(5, _), (0, _), (1, _), (2, _), (3, _), (4, _)]) rfl rfl (Nat.le_of_ble_eq_true rfl) rfl ?_
    refine j_aload (pc' := 9) rfl rfl rfl ?_
    refine j_ifnull (pc' := 12) rfl rfl ?_
    refine j_iload (pc' := 14) rfl rfl rfl ?_
    refine j_iconst (v := 0) (pc' := 15) rfl rfl (by decide) ?_
    refine j_iconst (v := 1) (pc' := 16) rfl rfl (by decide) ?_
    obtain ⟨r16, e16, hf⟩ := o_bind hf
    refine j_s3 (pc' := 19) rfl rfl miX6_within lnX6_74 (s_X6_within (gx g σ) x4 0 1 _ e16) (h_rm_of rfl) (Nat.le_of_ble_eq_true rfl) (c' := 0) (s' := 0) rfl rfl ?_
    refine j_if_ne (tgt := 24) (pc' := 22) rfl rfl rfl (fun c19 => ?_) (fun c19 => ?_)
    · rw [if_neg c19] at hf
      refine j_aload (pc' := 26) rfl rfl rfl ?_
      refine j_iload_n (pc' := 27) rfl rfl rfl ?_
      refine j_iload_n (pc' := 28) rfl rfl rfl ?_
      obtain ⟨c28_2, hf⟩ := o_chk hf
      obtain ⟨r28, e28, hf⟩ := o_bind hf
      refine j_v2 (pc' := 31) rfl rfl miX1_canDraw lnX6_217 (gx_lot c28_2) rfl (s_X1_canDraw g σ k5_1 x2 x3 _ e28) (h_rm_of rfl) (Nat.le_of_ble_eq_true rfl) (c' := 0) (s' := 0) rfl rfl ?_
      refine j_if_ne (tgt := 37) (pc' := 34) rfl rfl rfl (fun c31 => ?_) (fun c31 => ?_)
      · rw [if_neg c31] at hf
        refine j_iload (pc' := 39) rfl rfl rfl ?_
        refine j_if_ne (tgt := 52) (pc' := 42) rfl rfl rfl (fun c39 => ?_) (fun c39 => ?_)
        · rw [if_neg c39] at hf
          refine j_aload (pc' := 54) rfl rfl rfl ?_
          refine j_iload_n (pc' := 55) rfl rfl rfl ?_
          refine j_iload_n (pc' := 56) rfl rfl rfl ?_
          obtain ⟨r56, e56, hf⟩ := o_bind hf
          refine j_v2 (pc' := 59) rfl rfl miX1_mostDrawn lnX6_221 (gx_lot c28_2) rfl (s_X1_mostDrawn g σ k5_1 x2 x3 _ e56) (h_rm_of rfl) (Nat.le_of_ble_eq_true rfl) (c' := 0) (s' := 0) rfl rfl ?_
          have hf := Option.some.inj hf; subst hf
          exact j_iret rfl rfl (Nat.le_of_ble_eq_true rfl) (Nat.le_of_ble_eq_true rfl) ⟨rfl, rfl⟩
        · rw [if_pos c39] at hf
          refine j_aload (pc' := 44) rfl rfl rfl ?_
          refine j_iload_n (pc' := 45) rfl rfl rfl ?_
          refine j_iload_n (pc' := 46) rfl rfl rfl ?_
          obtain ⟨r46, e46, hf⟩ := o_bind hf
          refine j_v2 (pc' := 49) rfl rfl miX1_leastDrawn lnX6_294 (gx_lot c28_2) rfl (s_X1_leastDrawn g σ k5_1 x2 x3 _ e46) (h_rm_of rfl) (Nat.le_of_ble_eq_true rfl) (c' := 0) (s' := 0) rfl rfl ?_
          refine j_goto (tgt := 59) rfl rfl ?_
          have hf := Option.some.inj hf; subst hf
          exact j_iret rfl rfl (Nat.le_of_ble_eq_true rfl) (Nat.le_of_ble_eq_true rfl) ⟨rfl, rfl⟩
      · rw [if_pos c31] at hf
        refine j_bipush (v := (-2)) (pc' := 36) rfl rfl (by decide) ?_
        have hf := Option.some.inj hf; subst hf
        exact j_iret rfl rfl (Nat.le_of_ble_eq_true rfl) (Nat.le_of_ble_eq_true rfl) ⟨rfl, rfl⟩
    · rw [if_pos c19] at hf
      refine j_iconst (v := (-1)) (pc' := 23) rfl rfl (by decide) ?_
      have hf := Option.some.inj hf; subst hf
      exact j_iret rfl rfl (Nat.le_of_ble_eq_true rfl) (Nat.le_of_ble_eq_true rfl) ⟨rfl, rfl⟩
def rX6_wish : Room := { frames := 2, cells := 0, slots := 0, locals := 42 }
def f_X6_wish (σ : xS) (x1 : Int32) (x2 : Int32) (x3 : Int32) : Option (Int32 × xS) := if x1 = 0 then (f_X6_isMint x2).bind fun r5 => if r5 = 0 then if x1 = 1 then (f_X6_isTown x2).bind fun r24 => if r24 = 0 then some ((-1), σ) else (f_X6_within x3 0 1000).bind fun r54 => if r54 = 0 then some ((-2), σ) else bif vin x2 6 then bif vin x2 6 then letm (xi σ 14 (va_up (σ.1 14) (x2).toNatClampNeg x3)) fun σ91 => some ((σ.1 14 (x2).toNatClampNeg), σ91) else none else none else some ((-1), σ) else if x1 = 1 then (f_X6_isTown x2).bind fun r24 => if r24 = 0 then (f_X6_within x3 0 1000).bind fun r54 => if r54 = 0 then some ((-2), σ) else bif vin x2 3 then bif vin x2 3 then letm (xi σ 13 (va_up (σ.1 13) (x2).toNatClampNeg x3)) fun σ91 => some ((σ.1 13 (x2).toNatClampNeg), σ91) else none else none else (f_X6_within x3 0 1000).bind fun r54 => if r54 = 0 then some ((-2), σ) else bif vin x2 3 then bif vin x2 3 then letm (xi σ 13 (va_up (σ.1 13) (x2).toNatClampNeg x3)) fun σ91 => some ((σ.1 13 (x2).toNatClampNeg), σ91) else none else none else (f_X6_within x3 0 1000).bind fun r54 => if r54 = 0 then some ((-2), σ) else bif vin x2 3 then bif vin x2 3 then letm (xi σ 13 (va_up (σ.1 13) (x2).toNatClampNeg x3)) fun σ91 => some ((σ.1 13 (x2).toNatClampNeg), σ91) else none else none else if x1 = 1 then (f_X6_isTown x2).bind fun r24 => if r24 = 0 then some ((-1), σ) else (f_X6_within x3 0 1000).bind fun r54 => if r54 = 0 then some ((-2), σ) else bif vin x2 6 then bif vin x2 6 then letm (xi σ 14 (va_up (σ.1 14) (x2).toNatClampNeg x3)) fun σ91 => some ((σ.1 14 (x2).toNatClampNeg), σ91) else none else none else some ((-1), σ)
set_option maxHeartbeats 4000000 in
set_option maxRecDepth 100000 in
theorem s_X6_wish (g : hH) (σ : xS) (x1 : Int32) (x2 : Int32) (x3 : Int32) (r : (Int32 × xS)) (hf : f_X6_wish σ x1 x2 x3 = some r) : SpD mX6_wish rX6_wish [.ref 0, .int x1, .int x2, .int x3] (gx g σ) (some (.int r.1)) (gx g r.2) := by
  refine sp_of miX6_wish (Nat.le_of_ble_eq_true rfl) ?_
  show J _ _ _ 0 0 _ 0 [(0, .ref 0), (1, .int x1), (2, .int x2), (3, .int x3)] []
  unfold f_X6_wish at hf
  refine j_iload_n (pc' := 1) rfl rfl rfl ?_
  refine j_if_ne (tgt := 15) (pc' := 4) rfl rfl rfl (fun c1 => ?_) (fun c1 => ?_)
  · rw [if_neg c1] at hf
    refine j_iconst (v := 0) (pc' := 16) rfl rfl (by decide) ?_
    refine j_istore (pc' := 18) (ls' := [(4, _), (0, _), (1, _), (2, _), (3, _)]) rfl rfl (Nat.le_of_ble_eq_true rfl) rfl ?_
    refine j_iload_n (pc' := 19) rfl rfl rfl ?_
    refine j_iconst (v := 1) (pc' := 20) rfl rfl (by decide) ?_
    refine j_icmp_ne (tgt := 34) (pc' := 23) rfl rfl rfl (fun c20 => ?_) (fun c20 => ?_)
    · rw [if_neg c20] at hf
      refine j_iconst (v := 0) (pc' := 35) rfl rfl (by decide) ?_
      refine j_istore (pc' := 37) (ls' := [(5, _), (4, _), (0, _), (1, _), (2, _), (3, _)]) rfl rfl (Nat.le_of_ble_eq_true rfl) rfl ?_
      refine j_iload (pc' := 39) rfl rfl rfl ?_
      refine j_if_ne (tgt := 49) (pc' := 42) rfl rfl rfl (fun c39 => absurd c39 (by decide)) (fun _ => ?_)
      refine j_iload (pc' := 44) rfl rfl rfl ?_
      refine j_if_ne (tgt := 49) (pc' := 47) rfl rfl rfl (fun c44 => absurd c44 (by decide)) (fun _ => ?_)
      refine j_iconst (v := (-1)) (pc' := 48) rfl rfl (by decide) ?_
      have hf := Option.some.inj hf; subst hf
      exact j_iret rfl rfl (Nat.le_of_ble_eq_true rfl) (Nat.le_of_ble_eq_true rfl) ⟨rfl, rfl⟩
    · rw [if_pos c20] at hf
      refine j_iload_n (pc' := 24) rfl rfl rfl ?_
      obtain ⟨r24, e24, hf⟩ := o_bind hf
      refine j_s1 (pc' := 27) rfl rfl miX6_isTown lnX6_89 (s_X6_isTown (gx g σ) x2 _ e24) (h_rm_of rfl) (Nat.le_of_ble_eq_true rfl) (c' := 0) (s' := 0) rfl rfl ?_
      refine j_if_eq (tgt := 34) (pc' := 30) rfl rfl rfl (fun c27 => ?_) (fun c27 => ?_)
      · rw [if_pos c27] at hf
        refine j_iconst (v := 0) (pc' := 35) rfl rfl (by decide) ?_
        refine j_istore (pc' := 37) (ls' := [(5, _), (4, _), (0, _), (1, _), (2, _), (3, _)]) rfl rfl (Nat.le_of_ble_eq_true rfl) rfl ?_
        refine j_iload (pc' := 39) rfl rfl rfl ?_
        refine j_if_ne (tgt := 49) (pc' := 42) rfl rfl rfl (fun c39 => absurd c39 (by decide)) (fun _ => ?_)
        refine j_iload (pc' := 44) rfl rfl rfl ?_
        refine j_if_ne (tgt := 49) (pc' := 47) rfl rfl rfl (fun c44 => absurd c44 (by decide)) (fun _ => ?_)
        refine j_iconst (v := (-1)) (pc' := 48) rfl rfl (by decide) ?_
        have hf := Option.some.inj hf; subst hf
        exact j_iret rfl rfl (Nat.le_of_ble_eq_true rfl) (Nat.le_of_ble_eq_true rfl) ⟨rfl, rfl⟩
      · rw [if_neg c27] at hf
        refine j_iconst (v := 1) (pc' := 31) rfl rfl (by decide) ?_
        refine j_goto (tgt := 35) rfl rfl ?_
        refine j_istore (pc' := 37) (ls' := [(5, _), (4, _), (0, _), (1, _), (2, _), (3, _)]) rfl rfl (Nat.le_of_ble_eq_true rfl) rfl ?_
        refine j_iload (pc' := 39) rfl rfl rfl ?_
        refine j_if_ne (tgt := 49) (pc' := 42) rfl rfl rfl (fun c39 => absurd c39 (by decide)) (fun _ => ?_)
        refine j_iload (pc' := 44) rfl rfl rfl ?_
        refine j_if_ne (tgt := 49) (pc' := 47) rfl rfl rfl (fun _ => ?_) (fun c44 => absurd c44 (by decide))
        refine j_iload_n (pc' := 50) rfl rfl rfl ?_
        refine j_iconst (v := 0) (pc' := 51) rfl rfl (by decide) ?_
        refine j_sipush (v := 1000) (pc' := 54) rfl rfl (by decide) ?_
        obtain ⟨r54, e54, hf⟩ := o_bind hf
        refine j_s3 (pc' := 57) rfl rfl miX6_within lnX6_74 (s_X6_within (gx g σ) x3 0 1000 _ e54) (h_rm_of rfl) (Nat.le_of_ble_eq_true rfl) (c' := 0) (s' := 0) rfl rfl ?_
        refine j_if_ne (tgt := 63) (pc' := 60) rfl rfl rfl (fun c57 => ?_) (fun c57 => ?_)
        · rw [if_neg c57] at hf
          refine j_iload (pc' := 65) rfl rfl rfl ?_
          refine j_if_eq (tgt := 75) (pc' := 68) rfl rfl rfl (fun _ => ?_) (fun c65 => absurd c65 (by decide))
          refine j_aload_n (pc' := 76) rfl rfl rfl ?_
          refine j_get (pc' := 79) rfl rfl flX6_57 (gxk_0 g σ) (nsF_14 σ) ?_
          refine j_astore (pc' := 81) (ls' := [(6, _), (5, _), (4, _), (0, _), (1, _), (2, _), (3, _)]) rfl rfl (Nat.le_of_ble_eq_true rfl) rfl ?_
          refine j_aload (pc' := 83) rfl rfl rfl ?_
          refine j_iload_n (pc' := 84) rfl rfl rfl ?_
          obtain ⟨c84, hf⟩ := o_chk hf
          refine j_iald (pc' := 85) rfl rfl (gxk_10 g σ) (vin_ok c84) ?_
          refine j_istore (pc' := 87) (ls' := [(7, _), (6, _), (5, _), (4, _), (0, _), (1, _), (2, _), (3, _)]) rfl rfl (Nat.le_of_ble_eq_true rfl) rfl ?_
          refine j_aload (pc' := 89) rfl rfl rfl ?_
          refine j_iload_n (pc' := 90) rfl rfl rfl ?_
          refine j_iload_n (pc' := 91) rfl rfl rfl ?_
          obtain ⟨c91, hf⟩ := o_chk hf
          obtain ⟨σ91, e91, hf⟩ := o_let hf
          refine j_iast (pc' := 92) rfl rfl (gxk_10 g σ) (by decide) (vin_ok c91) ?_
          rw [gxs_10]; rw [e91]
          refine j_iload (pc' := 94) rfl rfl rfl ?_
          have hf := Option.some.inj hf; subst hf
          exact j_iret rfl rfl (Nat.le_of_ble_eq_true rfl) (Nat.le_of_ble_eq_true rfl) ⟨rfl, rfl⟩
        · rw [if_pos c57] at hf
          refine j_bipush (v := (-2)) (pc' := 62) rfl rfl (by decide) ?_
          have hf := Option.some.inj hf; subst hf
          exact j_iret rfl rfl (Nat.le_of_ble_eq_true rfl) (Nat.le_of_ble_eq_true rfl) ⟨rfl, rfl⟩
  · rw [if_pos c1] at hf
    refine j_iload_n (pc' := 5) rfl rfl rfl ?_
    obtain ⟨r5, e5, hf⟩ := o_bind hf
    refine j_s1 (pc' := 8) rfl rfl miX6_isMint lnX6_243 (s_X6_isMint (gx g σ) x2 _ e5) (h_rm_of rfl) (Nat.le_of_ble_eq_true rfl) (c' := 0) (s' := 0) rfl rfl ?_
    refine j_if_eq (tgt := 15) (pc' := 11) rfl rfl rfl (fun c8 => ?_) (fun c8 => ?_)
    · rw [if_pos c8] at hf
      refine j_iconst (v := 0) (pc' := 16) rfl rfl (by decide) ?_
      refine j_istore (pc' := 18) (ls' := [(4, _), (0, _), (1, _), (2, _), (3, _)]) rfl rfl (Nat.le_of_ble_eq_true rfl) rfl ?_
      refine j_iload_n (pc' := 19) rfl rfl rfl ?_
      refine j_iconst (v := 1) (pc' := 20) rfl rfl (by decide) ?_
      refine j_icmp_ne (tgt := 34) (pc' := 23) rfl rfl rfl (fun c20 => ?_) (fun c20 => ?_)
      · rw [if_neg c20] at hf
        refine j_iconst (v := 0) (pc' := 35) rfl rfl (by decide) ?_
        refine j_istore (pc' := 37) (ls' := [(5, _), (4, _), (0, _), (1, _), (2, _), (3, _)]) rfl rfl (Nat.le_of_ble_eq_true rfl) rfl ?_
        refine j_iload (pc' := 39) rfl rfl rfl ?_
        refine j_if_ne (tgt := 49) (pc' := 42) rfl rfl rfl (fun c39 => absurd c39 (by decide)) (fun _ => ?_)
        refine j_iload (pc' := 44) rfl rfl rfl ?_
        refine j_if_ne (tgt := 49) (pc' := 47) rfl rfl rfl (fun c44 => absurd c44 (by decide)) (fun _ => ?_)
        refine j_iconst (v := (-1)) (pc' := 48) rfl rfl (by decide) ?_
        have hf := Option.some.inj hf; subst hf
        exact j_iret rfl rfl (Nat.le_of_ble_eq_true rfl) (Nat.le_of_ble_eq_true rfl) ⟨rfl, rfl⟩
      · rw [if_pos c20] at hf
        refine j_iload_n (pc' := 24) rfl rfl rfl ?_
        obtain ⟨r24, e24, hf⟩ := o_bind hf
        refine j_s1 (pc' := 27) rfl rfl miX6_isTown lnX6_89 (s_X6_isTown (gx g σ) x2 _ e24) (h_rm_of rfl) (Nat.le_of_ble_eq_true rfl) (c' := 0) (s' := 0) rfl rfl ?_
        refine j_if_eq (tgt := 34) (pc' := 30) rfl rfl rfl (fun c27 => ?_) (fun c27 => ?_)
        · rw [if_pos c27] at hf
          refine j_iconst (v := 0) (pc' := 35) rfl rfl (by decide) ?_
          refine j_istore (pc' := 37) (ls' := [(5, _), (4, _), (0, _), (1, _), (2, _), (3, _)]) rfl rfl (Nat.le_of_ble_eq_true rfl) rfl ?_
          refine j_iload (pc' := 39) rfl rfl rfl ?_
          refine j_if_ne (tgt := 49) (pc' := 42) rfl rfl rfl (fun c39 => absurd c39 (by decide)) (fun _ => ?_)
          refine j_iload (pc' := 44) rfl rfl rfl ?_
          refine j_if_ne (tgt := 49) (pc' := 47) rfl rfl rfl (fun c44 => absurd c44 (by decide)) (fun _ => ?_)
          refine j_iconst (v := (-1)) (pc' := 48) rfl rfl (by decide) ?_
          have hf := Option.some.inj hf; subst hf
          exact j_iret rfl rfl (Nat.le_of_ble_eq_true rfl) (Nat.le_of_ble_eq_true rfl) ⟨rfl, rfl⟩
        · rw [if_neg c27] at hf
          refine j_iconst (v := 1) (pc' := 31) rfl rfl (by decide) ?_
          refine j_goto (tgt := 35) rfl rfl ?_
          refine j_istore (pc' := 37) (ls' := [(5, _), (4, _), (0, _), (1, _), (2, _), (3, _)]) rfl rfl (Nat.le_of_ble_eq_true rfl) rfl ?_
          refine j_iload (pc' := 39) rfl rfl rfl ?_
          refine j_if_ne (tgt := 49) (pc' := 42) rfl rfl rfl (fun c39 => absurd c39 (by decide)) (fun _ => ?_)
          refine j_iload (pc' := 44) rfl rfl rfl ?_
          refine j_if_ne (tgt := 49) (pc' := 47) rfl rfl rfl (fun _ => ?_) (fun c44 => absurd c44 (by decide))
          refine j_iload_n (pc' := 50) rfl rfl rfl ?_
          refine j_iconst (v := 0) (pc' := 51) rfl rfl (by decide) ?_
          refine j_sipush (v := 1000) (pc' := 54) rfl rfl (by decide) ?_
          obtain ⟨r54, e54, hf⟩ := o_bind hf
          refine j_s3 (pc' := 57) rfl rfl miX6_within lnX6_74 (s_X6_within (gx g σ) x3 0 1000 _ e54) (h_rm_of rfl) (Nat.le_of_ble_eq_true rfl) (c' := 0) (s' := 0) rfl rfl ?_
          refine j_if_ne (tgt := 63) (pc' := 60) rfl rfl rfl (fun c57 => ?_) (fun c57 => ?_)
          · rw [if_neg c57] at hf
            refine j_iload (pc' := 65) rfl rfl rfl ?_
            refine j_if_eq (tgt := 75) (pc' := 68) rfl rfl rfl (fun _ => ?_) (fun c65 => absurd c65 (by decide))
            refine j_aload_n (pc' := 76) rfl rfl rfl ?_
            refine j_get (pc' := 79) rfl rfl flX6_57 (gxk_0 g σ) (nsF_14 σ) ?_
            refine j_astore (pc' := 81) (ls' := [(6, _), (5, _), (4, _), (0, _), (1, _), (2, _), (3, _)]) rfl rfl (Nat.le_of_ble_eq_true rfl) rfl ?_
            refine j_aload (pc' := 83) rfl rfl rfl ?_
            refine j_iload_n (pc' := 84) rfl rfl rfl ?_
            obtain ⟨c84, hf⟩ := o_chk hf
            refine j_iald (pc' := 85) rfl rfl (gxk_10 g σ) (vin_ok c84) ?_
            refine j_istore (pc' := 87) (ls' := [(7, _), (6, _), (5, _), (4, _), (0, _), (1, _), (2, _), (3, _)]) rfl rfl (Nat.le_of_ble_eq_true rfl) rfl ?_
            refine j_aload (pc' := 89) rfl rfl rfl ?_
            refine j_iload_n (pc' := 90) rfl rfl rfl ?_
            refine j_iload_n (pc' := 91) rfl rfl rfl ?_
            obtain ⟨c91, hf⟩ := o_chk hf
            obtain ⟨σ91, e91, hf⟩ := o_let hf
            refine j_iast (pc' := 92) rfl rfl (gxk_10 g σ) (by decide) (vin_ok c91) ?_
            rw [gxs_10]; rw [e91]
            refine j_iload (pc' := 94) rfl rfl rfl ?_
            have hf := Option.some.inj hf; subst hf
            exact j_iret rfl rfl (Nat.le_of_ble_eq_true rfl) (Nat.le_of_ble_eq_true rfl) ⟨rfl, rfl⟩
          · rw [if_pos c57] at hf
            refine j_bipush (v := (-2)) (pc' := 62) rfl rfl (by decide) ?_
            have hf := Option.some.inj hf; subst hf
            exact j_iret rfl rfl (Nat.le_of_ble_eq_true rfl) (Nat.le_of_ble_eq_true rfl) ⟨rfl, rfl⟩
    · rw [if_neg c8] at hf
      refine j_iconst (v := 1) (pc' := 12) rfl rfl (by decide) ?_
      refine j_goto (tgt := 16) rfl rfl ?_
      refine j_istore (pc' := 18) (ls' := [(4, _), (0, _), (1, _), (2, _), (3, _)]) rfl rfl (Nat.le_of_ble_eq_true rfl) rfl ?_
      refine j_iload_n (pc' := 19) rfl rfl rfl ?_
      refine j_iconst (v := 1) (pc' := 20) rfl rfl (by decide) ?_
      refine j_icmp_ne (tgt := 34) (pc' := 23) rfl rfl rfl (fun c20 => ?_) (fun c20 => ?_)
      · rw [if_neg c20] at hf
        refine j_iconst (v := 0) (pc' := 35) rfl rfl (by decide) ?_
        refine j_istore (pc' := 37) (ls' := [(5, _), (4, _), (0, _), (1, _), (2, _), (3, _)]) rfl rfl (Nat.le_of_ble_eq_true rfl) rfl ?_
        refine j_iload (pc' := 39) rfl rfl rfl ?_
        refine j_if_ne (tgt := 49) (pc' := 42) rfl rfl rfl (fun _ => ?_) (fun c39 => absurd c39 (by decide))
        refine j_iload_n (pc' := 50) rfl rfl rfl ?_
        refine j_iconst (v := 0) (pc' := 51) rfl rfl (by decide) ?_
        refine j_sipush (v := 1000) (pc' := 54) rfl rfl (by decide) ?_
        obtain ⟨r54, e54, hf⟩ := o_bind hf
        refine j_s3 (pc' := 57) rfl rfl miX6_within lnX6_74 (s_X6_within (gx g σ) x3 0 1000 _ e54) (h_rm_of rfl) (Nat.le_of_ble_eq_true rfl) (c' := 0) (s' := 0) rfl rfl ?_
        refine j_if_ne (tgt := 63) (pc' := 60) rfl rfl rfl (fun c57 => ?_) (fun c57 => ?_)
        · rw [if_neg c57] at hf
          refine j_iload (pc' := 65) rfl rfl rfl ?_
          refine j_if_eq (tgt := 75) (pc' := 68) rfl rfl rfl (fun c65 => absurd c65 (by decide)) (fun _ => ?_)
          refine j_aload_n (pc' := 69) rfl rfl rfl ?_
          refine j_get (pc' := 72) rfl rfl flX6_54 (gxk_0 g σ) (nsF_13 σ) ?_
          refine j_goto (tgt := 79) rfl rfl ?_
          refine j_astore (pc' := 81) (ls' := [(6, _), (5, _), (4, _), (0, _), (1, _), (2, _), (3, _)]) rfl rfl (Nat.le_of_ble_eq_true rfl) rfl ?_
          refine j_aload (pc' := 83) rfl rfl rfl ?_
          refine j_iload_n (pc' := 84) rfl rfl rfl ?_
          obtain ⟨c84, hf⟩ := o_chk hf
          refine j_iald (pc' := 85) rfl rfl (gxk_9 g σ) (vin_ok c84) ?_
          refine j_istore (pc' := 87) (ls' := [(7, _), (6, _), (5, _), (4, _), (0, _), (1, _), (2, _), (3, _)]) rfl rfl (Nat.le_of_ble_eq_true rfl) rfl ?_
          refine j_aload (pc' := 89) rfl rfl rfl ?_
          refine j_iload_n (pc' := 90) rfl rfl rfl ?_
          refine j_iload_n (pc' := 91) rfl rfl rfl ?_
          obtain ⟨c91, hf⟩ := o_chk hf
          obtain ⟨σ91, e91, hf⟩ := o_let hf
          refine j_iast (pc' := 92) rfl rfl (gxk_9 g σ) (by decide) (vin_ok c91) ?_
          rw [gxs_9]; rw [e91]
          refine j_iload (pc' := 94) rfl rfl rfl ?_
          have hf := Option.some.inj hf; subst hf
          exact j_iret rfl rfl (Nat.le_of_ble_eq_true rfl) (Nat.le_of_ble_eq_true rfl) ⟨rfl, rfl⟩
        · rw [if_pos c57] at hf
          refine j_bipush (v := (-2)) (pc' := 62) rfl rfl (by decide) ?_
          have hf := Option.some.inj hf; subst hf
          exact j_iret rfl rfl (Nat.le_of_ble_eq_true rfl) (Nat.le_of_ble_eq_true rfl) ⟨rfl, rfl⟩
      · rw [if_pos c20] at hf
        refine j_iload_n (pc' := 24) rfl rfl rfl ?_
        obtain ⟨r24, e24, hf⟩ := o_bind hf
        refine j_s1 (pc' := 27) rfl rfl miX6_isTown lnX6_89 (s_X6_isTown (gx g σ) x2 _ e24) (h_rm_of rfl) (Nat.le_of_ble_eq_true rfl) (c' := 0) (s' := 0) rfl rfl ?_
        refine j_if_eq (tgt := 34) (pc' := 30) rfl rfl rfl (fun c27 => ?_) (fun c27 => ?_)
        · rw [if_pos c27] at hf
          refine j_iconst (v := 0) (pc' := 35) rfl rfl (by decide) ?_
          refine j_istore (pc' := 37) (ls' := [(5, _), (4, _), (0, _), (1, _), (2, _), (3, _)]) rfl rfl (Nat.le_of_ble_eq_true rfl) rfl ?_
          refine j_iload (pc' := 39) rfl rfl rfl ?_
          refine j_if_ne (tgt := 49) (pc' := 42) rfl rfl rfl (fun _ => ?_) (fun c39 => absurd c39 (by decide))
          refine j_iload_n (pc' := 50) rfl rfl rfl ?_
          refine j_iconst (v := 0) (pc' := 51) rfl rfl (by decide) ?_
          refine j_sipush (v := 1000) (pc' := 54) rfl rfl (by decide) ?_
          obtain ⟨r54, e54, hf⟩ := o_bind hf
          refine j_s3 (pc' := 57) rfl rfl miX6_within lnX6_74 (s_X6_within (gx g σ) x3 0 1000 _ e54) (h_rm_of rfl) (Nat.le_of_ble_eq_true rfl) (c' := 0) (s' := 0) rfl rfl ?_
          refine j_if_ne (tgt := 63) (pc' := 60) rfl rfl rfl (fun c57 => ?_) (fun c57 => ?_)
          · rw [if_neg c57] at hf
            refine j_iload (pc' := 65) rfl rfl rfl ?_
            refine j_if_eq (tgt := 75) (pc' := 68) rfl rfl rfl (fun c65 => absurd c65 (by decide)) (fun _ => ?_)
            refine j_aload_n (pc' := 69) rfl rfl rfl ?_
            refine j_get (pc' := 72) rfl rfl flX6_54 (gxk_0 g σ) (nsF_13 σ) ?_
            refine j_goto (tgt := 79) rfl rfl ?_
            refine j_astore (pc' := 81) (ls' := [(6, _), (5, _), (4, _), (0, _), (1, _), (2, _), (3, _)]) rfl rfl (Nat.le_of_ble_eq_true rfl) rfl ?_
            refine j_aload (pc' := 83) rfl rfl rfl ?_
            refine j_iload_n (pc' := 84) rfl rfl rfl ?_
            obtain ⟨c84, hf⟩ := o_chk hf
            refine j_iald (pc' := 85) rfl rfl (gxk_9 g σ) (vin_ok c84) ?_
            refine j_istore (pc' := 87) (ls' := [(7, _), (6, _), (5, _), (4, _), (0, _), (1, _), (2, _), (3, _)]) rfl rfl (Nat.le_of_ble_eq_true rfl) rfl ?_
            refine j_aload (pc' := 89) rfl rfl rfl ?_
            refine j_iload_n (pc' := 90) rfl rfl rfl ?_
            refine j_iload_n (pc' := 91) rfl rfl rfl ?_
            obtain ⟨c91, hf⟩ := o_chk hf
            obtain ⟨σ91, e91, hf⟩ := o_let hf
            refine j_iast (pc' := 92) rfl rfl (gxk_9 g σ) (by decide) (vin_ok c91) ?_
            rw [gxs_9]; rw [e91]
            refine j_iload (pc' := 94) rfl rfl rfl ?_
            have hf := Option.some.inj hf; subst hf
            exact j_iret rfl rfl (Nat.le_of_ble_eq_true rfl) (Nat.le_of_ble_eq_true rfl) ⟨rfl, rfl⟩
          · rw [if_pos c57] at hf
            refine j_bipush (v := (-2)) (pc' := 62) rfl rfl (by decide) ?_
            have hf := Option.some.inj hf; subst hf
            exact j_iret rfl rfl (Nat.le_of_ble_eq_true rfl) (Nat.le_of_ble_eq_true rfl) ⟨rfl, rfl⟩
        · rw [if_neg c27] at hf
          refine j_iconst (v := 1) (pc' := 31) rfl rfl (by decide) ?_
          refine j_goto (tgt := 35) rfl rfl ?_
          refine j_istore (pc' := 37) (ls' := [(5, _), (4, _), (0, _), (1, _), (2, _), (3, _)]) rfl rfl (Nat.le_of_ble_eq_true rfl) rfl ?_
          refine j_iload (pc' := 39) rfl rfl rfl ?_
          refine j_if_ne (tgt := 49) (pc' := 42) rfl rfl rfl (fun _ => ?_) (fun c39 => absurd c39 (by decide))
          refine j_iload_n (pc' := 50) rfl rfl rfl ?_
          refine j_iconst (v := 0) (pc' := 51) rfl rfl (by decide) ?_
          refine j_sipush (v := 1000) (pc' := 54) rfl rfl (by decide) ?_
          obtain ⟨r54, e54, hf⟩ := o_bind hf
          refine j_s3 (pc' := 57) rfl rfl miX6_within lnX6_74 (s_X6_within (gx g σ) x3 0 1000 _ e54) (h_rm_of rfl) (Nat.le_of_ble_eq_true rfl) (c' := 0) (s' := 0) rfl rfl ?_
          refine j_if_ne (tgt := 63) (pc' := 60) rfl rfl rfl (fun c57 => ?_) (fun c57 => ?_)
          · rw [if_neg c57] at hf
            refine j_iload (pc' := 65) rfl rfl rfl ?_
            refine j_if_eq (tgt := 75) (pc' := 68) rfl rfl rfl (fun c65 => absurd c65 (by decide)) (fun _ => ?_)
            refine j_aload_n (pc' := 69) rfl rfl rfl ?_
            refine j_get (pc' := 72) rfl rfl flX6_54 (gxk_0 g σ) (nsF_13 σ) ?_
            refine j_goto (tgt := 79) rfl rfl ?_
            refine j_astore (pc' := 81) (ls' := [(6, _), (5, _), (4, _), (0, _), (1, _), (2, _), (3, _)]) rfl rfl (Nat.le_of_ble_eq_true rfl) rfl ?_
            refine j_aload (pc' := 83) rfl rfl rfl ?_
            refine j_iload_n (pc' := 84) rfl rfl rfl ?_
            obtain ⟨c84, hf⟩ := o_chk hf
            refine j_iald (pc' := 85) rfl rfl (gxk_9 g σ) (vin_ok c84) ?_
            refine j_istore (pc' := 87) (ls' := [(7, _), (6, _), (5, _), (4, _), (0, _), (1, _), (2, _), (3, _)]) rfl rfl (Nat.le_of_ble_eq_true rfl) rfl ?_
            refine j_aload (pc' := 89) rfl rfl rfl ?_
            refine j_iload_n (pc' := 90) rfl rfl rfl ?_
            refine j_iload_n (pc' := 91) rfl rfl rfl ?_
            obtain ⟨c91, hf⟩ := o_chk hf
            obtain ⟨σ91, e91, hf⟩ := o_let hf
            refine j_iast (pc' := 92) rfl rfl (gxk_9 g σ) (by decide) (vin_ok c91) ?_
            rw [gxs_9]; rw [e91]
            refine j_iload (pc' := 94) rfl rfl rfl ?_
            have hf := Option.some.inj hf; subst hf
            exact j_iret rfl rfl (Nat.le_of_ble_eq_true rfl) (Nat.le_of_ble_eq_true rfl) ⟨rfl, rfl⟩
          · rw [if_pos c57] at hf
            refine j_bipush (v := (-2)) (pc' := 62) rfl rfl (by decide) ?_
            have hf := Option.some.inj hf; subst hf
            exact j_iret rfl rfl (Nat.le_of_ble_eq_true rfl) (Nat.le_of_ble_eq_true rfl) ⟨rfl, rfl⟩
def rX0_goOn__5 : Room := { frames := 0, cells := 0, slots := 0, locals := 0 }
def f_X0_goOn__5_L2 : Nat → xS → Int32 → Int32 → Option (xS)
  | 0, _, _, _ => none
  | n + 1, σ, x1, x3 => if 3 ≤ x3 then some (σ) else bif vin x3 3 then bif vin ((x1 * 3) + x3) 18 then letm ((σ.1 43 (x3).toNatClampNeg) + (σ.1 8 (((x1 * 3) + x3)).toNatClampNeg)) fun y21 => bif vin x3 3 then if 1000000 ≤ (σ.1 43 (x3).toNatClampNeg) then f_X0_goOn__5_L2 n σ x1 (x3 + 1) else bif vin x1 6 then if (σ.1 44 (x1).toNatClampNeg) ≤ y21 then f_X0_goOn__5_L2 n σ x1 (x3 + 1) else bif vin x1 6 then letm (xi σ 44 (va_up (σ.1 44) (x1).toNatClampNeg y21)) fun σ52 => bif vin x1 6 then letm (xi σ52 46 (va_up (σ52.1 46) (x1).toNatClampNeg x3)) fun σ59 => f_X0_goOn__5_L2 n σ59 x1 (x3 + 1) else none else none else none else none else none else none
set_option maxHeartbeats 4000000 in
set_option maxRecDepth 100000 in
theorem s_X0_goOn__5_L2 {Q : Option Value → hH → Prop} (g : hH) : ∀ (n : Nat) (σ : xS) (x1 : Int32) (x3 : Int32) (r : xS), f_X0_goOn__5_L2 n σ x1 x3 = some r → (J mX0_goOn rX0_goOn__5 Q 0 0 (gx g r) 66 [] []) → J mX0_goOn rX0_goOn__5 Q 0 0 (gx g σ) 2 [(0, .ref 15), (1, .int x1), (2, .ref 5), (3, .int x3)] [] := by
  intro n
  induction n with
  | zero =>
    intro σ x1 x3 r hf
    cases hf
  | succ n ih =>
    intro σ x1 x3 r hf k0
    rw [f_X0_goOn__5_L2] at hf
    refine j_iload_n (pc' := 3) rfl rfl rfl ?_
    refine j_iconst (v := 3) (pc' := 4) rfl rfl (by decide) ?_
    refine j_icmp_ge (tgt := 66) (pc' := 7) rfl rfl rfl (fun c4 => ?_) (fun c4 => ?_)
    · rw [if_pos c4] at hf
      have hf := Option.some.inj hf; subst hf
      exact j_sub (ls' := []) trivial (k0)
    · rw [if_neg c4] at hf
      refine j_aload_n (pc' := 8) rfl rfl rfl ?_
      refine j_get (pc' := 11) rfl rfl flX0_21 (gxk_15 g σ) (crF_3 σ) ?_
      refine j_iload_n (pc' := 12) rfl rfl rfl ?_
      obtain ⟨c12, hf⟩ := o_chk hf
      refine j_iald (pc' := 13) rfl rfl (gxk_19 g σ) (vin_ok c12) ?_
      refine j_aload_n (pc' := 14) rfl rfl rfl ?_
      refine j_iload_n (pc' := 15) rfl rfl rfl ?_
      refine j_iconst (v := 3) (pc' := 16) rfl rfl (by decide) ?_
      refine j_imul (pc' := 17) rfl rfl ?_
      refine j_iload_n (pc' := 18) rfl rfl rfl ?_
      refine j_iadd (pc' := 19) rfl rfl ?_
      obtain ⟨c19, hf⟩ := o_chk hf
      refine j_iald (pc' := 20) rfl rfl (gxk_5 g σ) (vin_ok c19) ?_
      refine j_iadd (pc' := 21) rfl rfl ?_
      obtain ⟨y21, e21, hf⟩ := o_let hf
      rw [e21]
      refine j_istore (pc' := 23) (ls' := [(4, _), (0, _), (1, _), (2, _), (3, _)]) rfl rfl (Nat.le_of_ble_eq_true rfl) rfl ?_
      refine j_aload_n (pc' := 24) rfl rfl rfl ?_
      refine j_get (pc' := 27) rfl rfl flX0_21 (gxk_15 g σ) (crF_3 σ) ?_
      refine j_iload_n (pc' := 28) rfl rfl rfl ?_
      obtain ⟨c28, hf⟩ := o_chk hf
      refine j_iald (pc' := 29) rfl rfl (gxk_19 g σ) (vin_ok c28) ?_
      refine j_ldc (pc' := 31) rfl rfl kcX0_61 ?_
      refine j_icmp_ge (tgt := 60) (pc' := 34) rfl rfl rfl (fun c31 => ?_) (fun c31 => ?_)
      · rw [if_pos c31] at hf
        refine j_iinc (pc' := 63) (d := 1) (ls' := [(3, _), (4, _), (0, _), (1, _), (2, _)]) rfl rfl rfl (by decide) (Nat.le_of_ble_eq_true rfl) rfl ?_
        refine j_goto (tgt := 2) rfl rfl ?_
        refine j_sub (ls' := [(0, .ref 15), (1, .int _), (2, .ref 5), (3, .int _)]) ⟨rfl, rfl, rfl, rfl, trivial⟩ ?_
        exact ih _ _ _ _ hf k0
      · rw [if_neg c31] at hf
        refine j_iload (pc' := 36) rfl rfl rfl ?_
        refine j_aload_n (pc' := 37) rfl rfl rfl ?_
        refine j_get (pc' := 40) rfl rfl flX0_24 (gxk_15 g σ) (crF_4 σ) ?_
        refine j_iload_n (pc' := 41) rfl rfl rfl ?_
        obtain ⟨c41, hf⟩ := o_chk hf
        refine j_iald (pc' := 42) rfl rfl (gxk_20 g σ) (vin_ok c41) ?_
        refine j_icmp_ge (tgt := 60) (pc' := 45) rfl rfl rfl (fun c42 => ?_) (fun c42 => ?_)
        · rw [if_pos c42] at hf
          refine j_iinc (pc' := 63) (d := 1) (ls' := [(3, _), (4, _), (0, _), (1, _), (2, _)]) rfl rfl rfl (by decide) (Nat.le_of_ble_eq_true rfl) rfl ?_
          refine j_goto (tgt := 2) rfl rfl ?_
          refine j_sub (ls' := [(0, .ref 15), (1, .int _), (2, .ref 5), (3, .int _)]) ⟨rfl, rfl, rfl, rfl, trivial⟩ ?_
          exact ih _ _ _ _ hf k0
        · rw [if_neg c42] at hf
          refine j_aload_n (pc' := 46) rfl rfl rfl ?_
          refine j_get (pc' := 49) rfl rfl flX0_24 (gxk_15 g σ) (crF_4 σ) ?_
          refine j_iload_n (pc' := 50) rfl rfl rfl ?_
          refine j_iload (pc' := 52) rfl rfl rfl ?_
          obtain ⟨c52, hf⟩ := o_chk hf
          obtain ⟨σ52, e52, hf⟩ := o_let hf
          refine j_iast (pc' := 53) rfl rfl (gxk_20 g σ) (by decide) (vin_ok c52) ?_
          rw [gxs_20]; rw [e52]
          refine j_aload_n (pc' := 54) rfl rfl rfl ?_
          refine j_get (pc' := 57) rfl rfl flX0_30 (gxk_15 g σ52) (crF_6 σ52) ?_
          refine j_iload_n (pc' := 58) rfl rfl rfl ?_
          refine j_iload_n (pc' := 59) rfl rfl rfl ?_
          obtain ⟨c59, hf⟩ := o_chk hf
          obtain ⟨σ59, e59, hf⟩ := o_let hf
          refine j_iast (pc' := 60) rfl rfl (gxk_22 g σ52) (by decide) (vin_ok c59) ?_
          rw [gxs_22]; rw [e59]
          refine j_iinc (pc' := 63) (d := 1) (ls' := [(3, _), (4, _), (0, _), (1, _), (2, _)]) rfl rfl rfl (by decide) (Nat.le_of_ble_eq_true rfl) rfl ?_
          refine j_goto (tgt := 2) rfl rfl ?_
          refine j_sub (ls' := [(0, .ref 15), (1, .int _), (2, .ref 5), (3, .int _)]) ⟨rfl, rfl, rfl, rfl, trivial⟩ ?_
          exact ih _ _ _ _ hf k0
def f_X0_goOn__5 (σ : xS) (x1 : Int32) : Option xS := (f_X0_goOn__5_L2 4000 σ x1 0).bind fun r2 => some r2
set_option maxHeartbeats 4000000 in
set_option maxRecDepth 100000 in
theorem s_X0_goOn__5 (g : hH) (σ : xS) (x1 : Int32) (r : xS) (hf : f_X0_goOn__5 σ x1 = some r) : SpD mX0_goOn rX0_goOn__5 [.ref 15, .int x1, .ref 5] (gx g σ) (none) (gx g r) := by
  refine sp_of miX0_goOn (Nat.le_of_ble_eq_true rfl) ?_
  show J _ _ _ 0 0 _ 0 [(0, .ref 15), (1, .int x1), (2, .ref 5)] []
  unfold f_X0_goOn__5 at hf
  refine j_iconst (v := 0) (pc' := 1) rfl rfl (by decide) ?_
  refine j_istore_n (pc' := 2) (ls' := [(3, _), (0, _), (1, _), (2, _)]) rfl rfl (Nat.le_of_ble_eq_true rfl) rfl ?_
  obtain ⟨r2, e2, hf⟩ := o_bind hf
  refine j_sub (ls' := [(0, .ref 15), (1, .int _), (2, .ref 5), (3, .int _)]) ⟨rfl, rfl, rfl, rfl, trivial⟩ ?_
  refine s_X0_goOn__5_L2 g _ _ _ _ _ e2 ?_
  have hf := Option.some.inj hf; subst hf
  exact j_vret rfl rfl (Nat.le_of_ble_eq_true rfl) (Nat.le_of_ble_eq_true rfl) ⟨rfl, rfl⟩
end CLASS4
