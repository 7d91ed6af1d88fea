section MODEL5
def rX7_strike : Room := { frames := 2, cells := 0, slots := 0, locals := 43 }
def f_X7_strike (μ : mS) (x1 : Int32) (x2 : Int32) (x3 : Int32) : Option (Int32 × mS) := (f_X7_isMint x1).bind fun r1 => if r1 = 0 then some ((-1), μ) else (f_X7_isSort μ x2).bind fun r9 => if r9 = 0 then some ((-1), μ) else (f_X7_in x3 1 1000).bind fun r22 => if r22 = 0 then some ((-2), μ) else bif vin x2 8 then if (μ.1 4 (x2).toNatClampNeg) = 925 then bif vin x2 8 then letm (x3 * (μ.1 3 (x2).toNatClampNeg)) fun y51 => bif vin x1 3 then if (μ.1 35 (x1).toNatClampNeg) = 0 then some ((-3), μ) else bif vin x1 3 then if 0 ≤ (lg_cmp (μ.2 33 (x1).toNatClampNeg) ((y51).toInt64)) then if (μ.1 7 0) = 30 then some ((-4), μ) else bif vin x1 3 then bif vin x1 3 then letm (setl μ 33 (va_up (μ.2 33) (x1).toNatClampNeg ((μ.2 33 (x1).toNatClampNeg) - (y51).toInt64))) fun μ101 => bif vin x1 3 then bif vin x1 3 then letm (setl μ101 34 (va_up (μ101.2 34) (x1).toNatClampNeg ((μ101.2 34 (x1).toNatClampNeg) - (925 * (y51).toInt64)))) fun μ117 => (f_X7_newLot μ117 4 x2 x3 y51 0 (-1) x1).bind fun r127 => some (r127.1, r127.2) else none else none else none else none else some ((-3), μ) else none else none else none else some ((-2), μ) else none
set_option maxHeartbeats 4000000 in
set_option maxRecDepth 100000 in
theorem s_X7_strike (g : hH) (μ : mS) (x1 : Int32) (x2 : Int32) (x3 : Int32) (r : (Int32 × mS)) (hf : f_X7_strike μ x1 x2 x3 = some r) : SpD mX7_strike rX7_strike [.ref 5000, .int x1, .int x2, .int x3] (gm g μ) (some (.int r.1)) (gm g r.2) := by
  refine sp_of miX7_strike (Nat.le_of_ble_eq_true rfl) ?_
  show J _ _ _ 0 0 _ 0 [(0, .ref 5000), (1, .int x1), (2, .int x2), (3, .int x3)] []
  unfold f_X7_strike at hf
  refine j_iload_n (pc' := 1) rfl rfl rfl ?_
  obtain ⟨r1, e1, hf⟩ := o_bind hf
  refine j_s1 (pc' := 4) rfl rfl miX7_isMint lnX7_238 (s_X7_isMint (gm g μ) x1 _ e1) (h_rm_of rfl) (Nat.le_of_ble_eq_true rfl) (c' := 0) (s' := 0) rfl rfl ?_
  refine j_if_eq (tgt := 15) (pc' := 7) rfl rfl rfl (fun c4 => ?_) (fun c4 => ?_)
  · rw [if_pos c4] at hf
    refine j_iconst (v := (-1)) (pc' := 16) rfl rfl (by decide) ?_
    have hf := Option.some.inj hf; subst hf
    exact j_iret rfl rfl (Nat.zero_le _) (Nat.zero_le _) ⟨rfl, rfl⟩
  · rw [if_neg c4] at hf
    refine j_aload_n (pc' := 8) rfl rfl rfl ?_
    refine j_iload_n (pc' := 9) rfl rfl rfl ?_
    obtain ⟨r9, e9, hf⟩ := o_bind hf
    refine j_v1 (pc' := 12) rfl rfl miX7_isSort lnX7_145 (gm_o g μ) rfl (s_X7_isSort g μ x2 _ e9) (h_rm_of rfl) (Nat.le_of_ble_eq_true rfl) (c' := 0) (s' := 0) rfl rfl ?_
    refine j_if_ne (tgt := 17) (pc' := 15) rfl rfl rfl (fun c12 => ?_) (fun c12 => ?_)
    · rw [if_neg c12] at hf
      refine j_iload_n (pc' := 18) rfl rfl rfl ?_
      refine j_iconst (v := 1) (pc' := 19) rfl rfl (by decide) ?_
      refine j_sipush (v := 1000) (pc' := 22) rfl rfl (by decide) ?_
      obtain ⟨r22, e22, hf⟩ := o_bind hf
      refine j_s3 (pc' := 25) rfl rfl miX7_in lnX7_138 (s_X7_in (gm g μ) x3 1 1000 _ e22) (h_rm_of rfl) (Nat.le_of_ble_eq_true rfl) (c' := 0) (s' := 0) rfl rfl ?_
      refine j_if_eq (tgt := 40) (pc' := 28) rfl rfl rfl (fun c25 => ?_) (fun c25 => ?_)
      · rw [if_pos c25] at hf
        refine j_bipush (v := (-2)) (pc' := 42) rfl rfl (by decide) ?_
        have hf := Option.some.inj hf; subst hf
        exact j_iret rfl rfl (Nat.zero_le _) (Nat.zero_le _) ⟨rfl, rfl⟩
      · rw [if_neg c25] at hf
        refine j_aload_n (pc' := 29) rfl rfl rfl ?_
        refine j_get (pc' := 32) rfl rfl flX7_16 (gm_o g μ) (mF_4 μ) ?_
        refine j_iload_n (pc' := 33) rfl rfl rfl ?_
        obtain ⟨c33, hf⟩ := o_chk hf
        refine j_iald (pc' := 34) rfl rfl (gm_4 g μ) (vin_ok c33) ?_
        refine j_sipush (v := 925) (pc' := 37) rfl rfl (by decide) ?_
        refine j_icmp_eq (tgt := 43) (pc' := 40) rfl rfl rfl (fun c37 => ?_) (fun c37 => ?_)
        · rw [if_pos c37] at hf
          refine j_iload_n (pc' := 44) rfl rfl rfl ?_
          refine j_aload_n (pc' := 45) rfl rfl rfl ?_
          refine j_get (pc' := 48) rfl rfl flX7_13 (gm_o g μ) (mF_3 μ) ?_
          refine j_iload_n (pc' := 49) rfl rfl rfl ?_
          obtain ⟨c49, hf⟩ := o_chk hf
          refine j_iald (pc' := 50) rfl rfl (gm_3 g μ) (vin_ok c49) ?_
          refine j_imul (pc' := 51) rfl rfl ?_
          obtain ⟨y51, e51, hf⟩ := o_let hf
          rw [e51]
          refine j_istore (pc' := 53) (ls' := [(4, _), (0, _), (1, _), (2, _), (3, _)]) rfl rfl (Nat.le_of_ble_eq_true rfl) rfl ?_
          refine j_aload_n (pc' := 54) rfl rfl rfl ?_
          refine j_get (pc' := 57) rfl rfl flX7_91 (gm_o g μ) (mF_35 μ) ?_
          refine j_iload_n (pc' := 58) rfl rfl rfl ?_
          obtain ⟨c58, hf⟩ := o_chk hf
          refine j_zald (pc' := 59) rfl rfl (gm_35 g μ) (vin_ok c58) ?_
          refine j_if_eq (tgt := 75) (pc' := 62) rfl rfl rfl (fun c59 => ?_) (fun c59 => ?_)
          · rw [if_pos c59] at hf
            refine j_bipush (v := (-3)) (pc' := 77) rfl rfl (by decide) ?_
            have hf := Option.some.inj hf; subst hf
            exact j_iret rfl rfl (Nat.zero_le _) (Nat.zero_le _) ⟨rfl, rfl⟩
          · rw [if_neg c59] at hf
            refine j_aload_n (pc' := 63) rfl rfl rfl ?_
            refine j_get (pc' := 66) rfl rfl flX7_85 (gm_o g μ) (mF_33 μ) ?_
            refine j_iload_n (pc' := 67) rfl rfl rfl ?_
            obtain ⟨c67, hf⟩ := o_chk hf
            refine j_lald (pc' := 68) rfl rfl (gm_33 g μ) (vin_ok c67) ?_
            refine j_iload (pc' := 70) rfl rfl rfl ?_
            refine j_i2l (pc' := 71) rfl rfl ?_
            refine j_lcmp (pc' := 72) rfl rfl ?_
            refine j_if_ge (tgt := 78) (pc' := 75) rfl rfl rfl (fun c72 => ?_) (fun c72 => ?_)
            · rw [if_pos c72] at hf
              refine j_aload_n (pc' := 79) rfl rfl rfl ?_
              refine j_get (pc' := 82) rfl rfl flX7_142 (gm_o g μ) (mF_7 μ) ?_
              refine j_bipush (v := 30) (pc' := 84) rfl rfl (by decide) ?_
              refine j_icmp_ne (tgt := 90) (pc' := 87) rfl rfl rfl (fun c84 => ?_) (fun c84 => ?_)
              · rw [if_neg c84] at hf
                refine j_aload_n (pc' := 91) rfl rfl rfl ?_
                refine j_get (pc' := 94) rfl rfl flX7_85 (gm_o g μ) (mF_33 μ) ?_
                refine j_iload_n (pc' := 95) rfl rfl rfl ?_
                refine j_dup2_11 (pc' := 96) rfl rfl rfl rfl ?_
                obtain ⟨c96, hf⟩ := o_chk hf
                refine j_lald (pc' := 97) rfl rfl (gm_33 g μ) (vin_ok c96) ?_
                refine j_iload (pc' := 99) rfl rfl rfl ?_
                refine j_i2l (pc' := 100) rfl rfl ?_
                refine j_lsub (pc' := 101) rfl rfl ?_
                obtain ⟨c101, hf⟩ := o_chk hf
                obtain ⟨μ101, e101, hf⟩ := o_let hf
                refine j_last (pc' := 102) rfl rfl (gm_33 g μ) (by decide) (vin_ok c101) ?_
                rw [gs_33]; rw [e101]
                refine j_aload_n (pc' := 103) rfl rfl rfl ?_
                refine j_get (pc' := 106) rfl rfl flX7_88 (gm_o g μ101) (mF_34 μ101) ?_
                refine j_iload_n (pc' := 107) rfl rfl rfl ?_
                refine j_dup2_11 (pc' := 108) rfl rfl rfl rfl ?_
                obtain ⟨c108, hf⟩ := o_chk hf
                refine j_lald (pc' := 109) rfl rfl (gm_34 g μ101) (vin_ok c108) ?_
                refine j_ldc2 (pc' := 112) rfl rfl kcX7_247 ?_
                refine j_iload (pc' := 114) rfl rfl rfl ?_
                refine j_i2l (pc' := 115) rfl rfl ?_
                refine j_lmul (pc' := 116) rfl rfl ?_
                refine j_lsub (pc' := 117) rfl rfl ?_
                obtain ⟨c117, hf⟩ := o_chk hf
                obtain ⟨μ117, e117, hf⟩ := o_let hf
                refine j_last (pc' := 118) rfl rfl (gm_34 g μ101) (by decide) (vin_ok c117) ?_
                rw [gs_34]; rw [e117]
                refine j_aload_n (pc' := 119) rfl rfl rfl ?_
                refine j_iconst (v := 4) (pc' := 120) rfl rfl (by decide) ?_
                refine j_iload_n (pc' := 121) rfl rfl rfl ?_
                refine j_iload_n (pc' := 122) rfl rfl rfl ?_
                refine j_iload (pc' := 124) rfl rfl rfl ?_
                refine j_iconst (v := 0) (pc' := 125) rfl rfl (by decide) ?_
                refine j_iconst (v := (-1)) (pc' := 126) rfl rfl (by decide) ?_
                refine j_iload_n (pc' := 127) rfl rfl rfl ?_
                obtain ⟨r127, e127, hf⟩ := o_bind hf
                refine j_v7 (pc' := 130) rfl rfl miX7_newLot lnX7_156 (gm_o g μ117) rfl (s_X7_newLot g μ117 4 x2 x3 y51 0 (-1) x1 _ e127) (h_rm_of rfl) (Nat.le_of_ble_eq_true rfl) (c' := 0) (s' := 0) rfl rfl ?_
                have hf := Option.some.inj hf; subst hf
                exact j_iret rfl rfl (Nat.zero_le _) (Nat.zero_le _) ⟨rfl, rfl⟩
              · rw [if_pos c84] at hf
                refine j_bipush (v := (-4)) (pc' := 89) rfl rfl (by decide) ?_
                have hf := Option.some.inj hf; subst hf
                exact j_iret rfl rfl (Nat.zero_le _) (Nat.zero_le _) ⟨rfl, rfl⟩
            · rw [if_neg c72] at hf
              refine j_bipush (v := (-3)) (pc' := 77) rfl rfl (by decide) ?_
              have hf := Option.some.inj hf; subst hf
              exact j_iret rfl rfl (Nat.zero_le _) (Nat.zero_le _) ⟨rfl, rfl⟩
        · rw [if_neg c37] at hf
          refine j_bipush (v := (-2)) (pc' := 42) rfl rfl (by decide) ?_
          have hf := Option.some.inj hf; subst hf
          exact j_iret rfl rfl (Nat.zero_le _) (Nat.zero_le _) ⟨rfl, rfl⟩
    · rw [if_pos c12] at hf
      refine j_iconst (v := (-1)) (pc' := 16) rfl rfl (by decide) ?_
      have hf := Option.some.inj hf; subst hf
      exact j_iret rfl rfl (Nat.zero_le _) (Nat.zero_le _) ⟨rfl, rfl⟩
def rX7_mint : Room := { frames := 2, cells := 0, slots := 0, locals := 42 }
def f_X7_mint (μ : mS) (x1 : Int32) (x2 : Int32) : Option Int64 := (f_X7_isMint x1).bind fun r1 => if r1 = 0 then some (-1) else if x2 = 0 then bif vin x1 3 then some (μ.2 33 (x1).toNatClampNeg) else none else if x2 = 1 then bif vin x1 3 then some (μ.2 34 (x1).toNatClampNeg) else none else if x2 = 2 then bif vin x1 3 then if (μ.1 35 (x1).toNatClampNeg) = 0 then some 0 else some 1 else none else if x2 = 3 then bif vin x1 3 then some (μ.2 36 (x1).toNatClampNeg) else none else if x2 = 4 then bif vin x1 3 then some (μ.2 37 (x1).toNatClampNeg) else none else if x2 = 5 then (f_X7_meltedToday μ x1).bind fun r97 => some ((r97).toInt64) else some (-1)
set_option maxHeartbeats 4000000 in
set_option maxRecDepth 100000 in
theorem s_X7_mint (g : hH) (μ : mS) (x1 : Int32) (x2 : Int32) (r : Int64) (hf : f_X7_mint μ x1 x2 = some r) : SpD mX7_mint rX7_mint [.ref 5000, .int x1, .int x2] (gm g μ) (some (.long r)) (gm g μ) := by
  refine sp_of miX7_mint (Nat.le_of_ble_eq_true rfl) ?_
  show J _ _ _ 0 0 _ 0 [(0, .ref 5000), (1, .int x1), (2, .int x2)] []
  unfold f_X7_mint at hf
  refine j_iload_n (pc' := 1) rfl rfl rfl ?_
  obtain ⟨r1, e1, hf⟩ := o_bind hf
  refine j_s1 (pc' := 4) rfl rfl miX7_isMint lnX7_238 (s_X7_isMint (gm g μ) x1 _ e1) (h_rm_of rfl) (Nat.le_of_ble_eq_true rfl) (c' := 0) (s' := 0) rfl rfl ?_
  refine j_if_ne (tgt := 11) (pc' := 7) rfl rfl rfl (fun c4 => ?_) (fun c4 => ?_)
  · rw [if_neg c4] at hf
    refine j_iload_n (pc' := 12) rfl rfl rfl ?_
    by_cases w12_0 : x2 = 0
    · rw [if_pos w12_0] at hf
      rw [w12_0]
      refine j_tableIn (tgt := 52) rfl (by decide) (by decide) rfl rfl ?_
      refine j_aload_n (pc' := 53) rfl rfl rfl ?_
      refine j_get (pc' := 56) rfl rfl flX7_85 (gm_o g μ) (mF_33 μ) ?_
      refine j_iload_n (pc' := 57) rfl rfl rfl ?_
      obtain ⟨c57, hf⟩ := o_chk hf
      refine j_lald (pc' := 58) rfl rfl (gm_33 g μ) (vin_ok c57) ?_
      have hf := Option.some.inj hf; subst hf
      exact j_lret rfl rfl (Nat.zero_le _) (Nat.zero_le _) ⟨rfl, rfl⟩
    rw [if_neg w12_0] at hf
    by_cases w12_1 : x2 = 1
    · rw [if_pos w12_1] at hf
      rw [w12_1]
      refine j_tableIn (tgt := 59) rfl (by decide) (by decide) rfl rfl ?_
      refine j_aload_n (pc' := 60) rfl rfl rfl ?_
      refine j_get (pc' := 63) rfl rfl flX7_88 (gm_o g μ) (mF_34 μ) ?_
      refine j_iload_n (pc' := 64) rfl rfl rfl ?_
      obtain ⟨c64, hf⟩ := o_chk hf
      refine j_lald (pc' := 65) rfl rfl (gm_34 g μ) (vin_ok c64) ?_
      have hf := Option.some.inj hf; subst hf
      exact j_lret rfl rfl (Nat.zero_le _) (Nat.zero_le _) ⟨rfl, rfl⟩
    rw [if_neg w12_1] at hf
    by_cases w12_2 : x2 = 2
    · rw [if_pos w12_2] at hf
      rw [w12_2]
      refine j_tableIn (tgt := 66) rfl (by decide) (by decide) rfl rfl ?_
      refine j_aload_n (pc' := 67) rfl rfl rfl ?_
      refine j_get (pc' := 70) rfl rfl flX7_91 (gm_o g μ) (mF_35 μ) ?_
      refine j_iload_n (pc' := 71) rfl rfl rfl ?_
      obtain ⟨c71, hf⟩ := o_chk hf
      refine j_zald (pc' := 72) rfl rfl (gm_35 g μ) (vin_ok c71) ?_
      refine j_if_eq (tgt := 79) (pc' := 75) rfl rfl rfl (fun c72 => ?_) (fun c72 => ?_)
      · rw [if_pos c72] at hf
        refine j_lconst (v := 0) (pc' := 80) rfl rfl (by decide) ?_
        have hf := Option.some.inj hf; subst hf
        exact j_lret rfl rfl (Nat.zero_le _) (Nat.zero_le _) ⟨rfl, rfl⟩
      · rw [if_neg c72] at hf
        refine j_lconst (v := 1) (pc' := 76) rfl rfl (by decide) ?_
        refine j_goto (tgt := 80) rfl rfl ?_
        have hf := Option.some.inj hf; subst hf
        exact j_lret rfl rfl (Nat.zero_le _) (Nat.zero_le _) ⟨rfl, rfl⟩
    rw [if_neg w12_2] at hf
    by_cases w12_3 : x2 = 3
    · rw [if_pos w12_3] at hf
      rw [w12_3]
      refine j_tableIn (tgt := 81) rfl (by decide) (by decide) rfl rfl ?_
      refine j_aload_n (pc' := 82) rfl rfl rfl ?_
      refine j_get (pc' := 85) rfl rfl flX7_94 (gm_o g μ) (mF_36 μ) ?_
      refine j_iload_n (pc' := 86) rfl rfl rfl ?_
      obtain ⟨c86, hf⟩ := o_chk hf
      refine j_lald (pc' := 87) rfl rfl (gm_36 g μ) (vin_ok c86) ?_
      have hf := Option.some.inj hf; subst hf
      exact j_lret rfl rfl (Nat.zero_le _) (Nat.zero_le _) ⟨rfl, rfl⟩
    rw [if_neg w12_3] at hf
    by_cases w12_4 : x2 = 4
    · rw [if_pos w12_4] at hf
      rw [w12_4]
      refine j_tableIn (tgt := 88) rfl (by decide) (by decide) rfl rfl ?_
      refine j_aload_n (pc' := 89) rfl rfl rfl ?_
      refine j_get (pc' := 92) rfl rfl flX7_97 (gm_o g μ) (mF_37 μ) ?_
      refine j_iload_n (pc' := 93) rfl rfl rfl ?_
      obtain ⟨c93, hf⟩ := o_chk hf
      refine j_lald (pc' := 94) rfl rfl (gm_37 g μ) (vin_ok c93) ?_
      have hf := Option.some.inj hf; subst hf
      exact j_lret rfl rfl (Nat.zero_le _) (Nat.zero_le _) ⟨rfl, rfl⟩
    rw [if_neg w12_4] at hf
    by_cases w12_5 : x2 = 5
    · rw [if_pos w12_5] at hf
      rw [w12_5]
      refine j_tableIn (tgt := 95) rfl (by decide) (by decide) rfl rfl ?_
      refine j_aload_n (pc' := 96) rfl rfl rfl ?_
      refine j_iload_n (pc' := 97) rfl rfl rfl ?_
      obtain ⟨r97, e97, hf⟩ := o_bind hf
      refine j_v1 (pc' := 100) rfl rfl miX7_meltedToday lnX7_244 (gm_o g μ) rfl (s_X7_meltedToday g μ x1 _ e97) (h_rm_of rfl) (Nat.le_of_ble_eq_true rfl) (c' := 0) (s' := 0) rfl rfl ?_
      refine j_i2l (pc' := 101) rfl rfl ?_
      have hf := Option.some.inj hf; subst hf
      exact j_lret rfl rfl (Nat.zero_le _) (Nat.zero_le _) ⟨rfl, rfl⟩
    rw [if_neg w12_5] at hf
    refine j_tableOut (tgt := 102) rfl (sw_out (n := 5) (by decide) (fun v hv => by
      have : v = 0 ∨ v = 1 ∨ v = 2 ∨ v = 3 ∨ v = 4 ∨ v = 5 := by omega
      rcases this with rfl | rfl | rfl | rfl | rfl | rfl
      · exact w12_0
      · exact w12_1
      · exact w12_2
      · exact w12_3
      · exact w12_4
      · exact w12_5)) rfl ?_
    refine j_ldc2 (pc' := 105) rfl rfl kcX7_177 ?_
    have hf := Option.some.inj hf; subst hf
    exact j_lret rfl rfl (Nat.zero_le _) (Nat.zero_le _) ⟨rfl, rfl⟩
  · rw [if_pos c4] at hf
    refine j_ldc2 (pc' := 10) rfl rfl kcX7_177 ?_
    have hf := Option.some.inj hf; subst hf
    exact j_lret rfl rfl (Nat.zero_le _) (Nat.zero_le _) ⟨rfl, rfl⟩
def rX7_all : Room := { frames := 2, cells := 0, slots := 0, locals := 42 }
def f_X7_all_L7 : Nat → mS → Int64 → Int32 → Option (Int64)
  | 0, _, _, _ => none
  | n + 1, μ, x1, x3 => if (μ.1 7 0) ≤ x3 then some (x1) else bif vin x3 30 then if (μ.1 16 (x3).toNatClampNeg) = 0 then (f_X7_silverOf μ x3).bind fun r31 => f_X7_all_L7 n μ (x1 + r31) (x3 + 1) else f_X7_all_L7 n μ (x1 + 0) (x3 + 1) else none
set_option maxHeartbeats 4000000 in
set_option maxRecDepth 100000 in
theorem s_X7_all_L7 {Q : Option Value → hH → Prop} (g : hH) : ∀ (n : Nat) (μ : mS) (x1 : Int64) (x3 : Int32) (r : Int64), f_X7_all_L7 n μ x1 x3 = some r → (J mX7_all rX7_all Q 0 0 (gm g μ) 42 [(0, .ref 5000), (1, .long r)] []) → J mX7_all rX7_all Q 0 0 (gm g μ) 7 [(0, .ref 5000), (1, .long x1), (3, .int x3)] [] := by
  intro n
  induction n with
  | zero =>
    intro μ x1 x3 r hf
    cases hf
  | succ n ih =>
    intro μ x1 x3 r hf k0
    rw [f_X7_all_L7] at hf
    refine j_iload_n (pc' := 8) rfl rfl rfl ?_
    refine j_aload_n (pc' := 9) rfl rfl rfl ?_
    refine j_get (pc' := 12) rfl rfl flX7_142 (gm_o g μ) (mF_7 μ) ?_
    refine j_icmp_ge (tgt := 42) (pc' := 15) rfl rfl rfl (fun c12 => ?_) (fun c12 => ?_)
    · rw [if_pos c12] at hf
      have hf := Option.some.inj hf; subst hf
      exact j_sub (ls' := [(0, .ref 5000), (1, .long _)]) ⟨rfl, rfl, trivial⟩ (k0)
    · rw [if_neg c12] at hf
      refine j_lload_n (pc' := 16) rfl rfl rfl ?_
      refine j_aload_n (pc' := 17) rfl rfl rfl ?_
      refine j_get (pc' := 20) rfl rfl flX7_46 (gm_o g μ) (mF_16 μ) ?_
      refine j_iload_n (pc' := 21) rfl rfl rfl ?_
      obtain ⟨c21, hf⟩ := o_chk hf
      refine j_zald (pc' := 22) rfl rfl (gm_16 g μ) (vin_ok c21) ?_
      refine j_if_eq (tgt := 29) (pc' := 25) rfl rfl rfl (fun c22 => ?_) (fun c22 => ?_)
      · rw [if_pos c22] at hf
        refine j_aload_n (pc' := 30) rfl rfl rfl ?_
        refine j_iload_n (pc' := 31) rfl rfl rfl ?_
        obtain ⟨r31, e31, hf⟩ := o_bind hf
        refine j_v1 (pc' := 34) rfl rfl miX7_silverOf lnX7_173 (gm_o g μ) rfl (s_X7_silverOf g μ x3 _ e31) (h_rm_of rfl) (Nat.le_of_ble_eq_true rfl) (c' := 0) (s' := 0) rfl rfl ?_
        refine j_ladd (pc' := 35) rfl rfl ?_
        refine j_lstore_n (pc' := 36) (ls' := [(1, _), (0, _), (3, _)]) rfl rfl (Nat.le_of_ble_eq_true rfl) rfl ?_
        refine j_iinc (pc' := 39) (d := 1) (ls' := [(3, _), (1, _), (0, _)]) rfl rfl rfl (by decide) (Nat.le_of_ble_eq_true rfl) rfl ?_
        refine j_goto (tgt := 7) rfl rfl ?_
        refine j_sub (ls' := [(0, .ref 5000), (1, .long _), (3, .int _)]) ⟨rfl, rfl, rfl, trivial⟩ ?_
        exact ih _ _ _ _ hf k0
      · rw [if_neg c22] at hf
        refine j_lconst (v := 0) (pc' := 26) rfl rfl (by decide) ?_
        refine j_goto (tgt := 34) rfl rfl ?_
        refine j_ladd (pc' := 35) rfl rfl ?_
        refine j_lstore_n (pc' := 36) (ls' := [(1, _), (0, _), (3, _)]) rfl rfl (Nat.le_of_ble_eq_true rfl) rfl ?_
        refine j_iinc (pc' := 39) (d := 1) (ls' := [(3, _), (1, _), (0, _)]) rfl rfl rfl (by decide) (Nat.le_of_ble_eq_true rfl) rfl ?_
        refine j_goto (tgt := 7) rfl rfl ?_
        refine j_sub (ls' := [(0, .ref 5000), (1, .long _), (3, .int _)]) ⟨rfl, rfl, rfl, trivial⟩ ?_
        exact ih _ _ _ _ hf k0
def f_X7_all_L44 : Nat → mS → Int64 → Int32 → Option (Int64)
  | 0, _, _, _ => none
  | n + 1, μ, x1, x3 => if 3 ≤ x3 then some (x1) else bif vin x3 3 then bif vin x3 3 then letm (x1 + ((μ.2 34 (x3).toNatClampNeg) - (1000 * (μ.2 37 (x3).toNatClampNeg)))) fun y68 => f_X7_all_L44 n μ y68 (x3 + 1) else none else none
set_option maxHeartbeats 4000000 in
set_option maxRecDepth 100000 in
theorem s_X7_all_L44 {Q : Option Value → hH → Prop} (g : hH) : ∀ (n : Nat) (μ : mS) (x1 : Int64) (x3 : Int32) (r : Int64), f_X7_all_L44 n μ x1 x3 = some r → (J mX7_all rX7_all Q 0 0 (gm g μ) 75 [(1, .long r)] []) → J mX7_all rX7_all Q 0 0 (gm g μ) 44 [(0, .ref 5000), (1, .long x1), (3, .int x3)] [] := by
  intro n
  induction n with
  | zero =>
    intro μ x1 x3 r hf
    cases hf
  | succ n ih =>
    intro μ x1 x3 r hf k0
    rw [f_X7_all_L44] at hf
    refine j_iload_n (pc' := 45) rfl rfl rfl ?_
    refine j_iconst (v := 3) (pc' := 46) rfl rfl (by decide) ?_
    refine j_icmp_ge (tgt := 75) (pc' := 49) rfl rfl rfl (fun c46 => ?_) (fun c46 => ?_)
    · rw [if_pos c46] at hf
      have hf := Option.some.inj hf; subst hf
      exact j_sub (ls' := [(1, .long _)]) ⟨rfl, trivial⟩ (k0)
    · rw [if_neg c46] at hf
      refine j_lload_n (pc' := 50) rfl rfl rfl ?_
      refine j_aload_n (pc' := 51) rfl rfl rfl ?_
      refine j_get (pc' := 54) rfl rfl flX7_88 (gm_o g μ) (mF_34 μ) ?_
      refine j_iload_n (pc' := 55) rfl rfl rfl ?_
      obtain ⟨c55, hf⟩ := o_chk hf
      refine j_lald (pc' := 56) rfl rfl (gm_34 g μ) (vin_ok c55) ?_
      refine j_ldc2 (pc' := 59) rfl rfl kcX7_249 ?_
      refine j_aload_n (pc' := 60) rfl rfl rfl ?_
      refine j_get (pc' := 63) rfl rfl flX7_97 (gm_o g μ) (mF_37 μ) ?_
      refine j_iload_n (pc' := 64) rfl rfl rfl ?_
      obtain ⟨c64, hf⟩ := o_chk hf
      refine j_lald (pc' := 65) rfl rfl (gm_37 g μ) (vin_ok c64) ?_
      refine j_lmul (pc' := 66) rfl rfl ?_
      refine j_lsub (pc' := 67) rfl rfl ?_
      refine j_ladd (pc' := 68) rfl rfl ?_
      obtain ⟨y68, e68, hf⟩ := o_let hf
      rw [e68]
      refine j_lstore_n (pc' := 69) (ls' := [(1, _), (0, _), (3, _)]) rfl rfl (Nat.le_of_ble_eq_true rfl) rfl ?_
      refine j_iinc (pc' := 72) (d := 1) (ls' := [(3, _), (1, _), (0, _)]) rfl rfl rfl (by decide) (Nat.le_of_ble_eq_true rfl) rfl ?_
      refine j_goto (tgt := 44) rfl rfl ?_
      refine j_sub (ls' := [(0, .ref 5000), (1, .long _), (3, .int _)]) ⟨rfl, rfl, rfl, trivial⟩ ?_
      exact ih _ _ _ _ hf k0
def f_X7_all (μ : mS) : Option Int64 := (f_X7_all_L7 4000 μ (μ.2 41 0) 0).bind fun r7 => (f_X7_all_L44 4000 μ r7 0).bind fun r44 => some r44
set_option maxHeartbeats 4000000 in
set_option maxRecDepth 100000 in
theorem s_X7_all (g : hH) (μ : mS) (r : Int64) (hf : f_X7_all μ = some r) : SpD mX7_all rX7_all [.ref 5000] (gm g μ) (some (.long r)) (gm g μ) := by
  refine sp_of miX7_all (Nat.le_of_ble_eq_true rfl) ?_
  show J _ _ _ 0 0 _ 0 [(0, .ref 5000)] []
  unfold f_X7_all at hf
  refine j_aload_n (pc' := 1) rfl rfl rfl ?_
  refine j_get (pc' := 4) rfl rfl flX7_253 (gm_o g μ) (mF_41 μ) ?_
  refine j_lstore_n (pc' := 5) (ls' := [(1, _), (0, _)]) rfl rfl (Nat.le_of_ble_eq_true rfl) rfl ?_
  refine j_iconst (v := 0) (pc' := 6) rfl rfl (by decide) ?_
  refine j_istore_n (pc' := 7) (ls' := [(3, _), (1, _), (0, _)]) rfl rfl (Nat.le_of_ble_eq_true rfl) rfl ?_
  obtain ⟨r7, e7, hf⟩ := o_bind hf
  refine j_sub (ls' := [(0, .ref 5000), (1, .long (μ.2 41 0)), (3, .int 0)]) ⟨rfl, rfl, rfl, trivial⟩ ?_
  refine s_X7_all_L7 g _ _ _ _ _ e7 ?_
  refine j_iconst (v := 0) (pc' := 43) rfl rfl (by decide) ?_
  refine j_istore_n (pc' := 44) (ls' := [(3, _), (0, _), (1, _)]) rfl rfl (Nat.le_of_ble_eq_true rfl) rfl ?_
  obtain ⟨r44, e44, hf⟩ := o_bind hf
  refine j_sub (ls' := [(0, .ref 5000), (1, .long r7), (3, .int 0)]) ⟨rfl, rfl, rfl, trivial⟩ ?_
  refine s_X7_all_L44 g _ _ _ _ _ e44 ?_
  refine j_lload_n (pc' := 76) rfl rfl rfl ?_
  have hf := Option.some.inj hf; subst hf
  exact j_lret rfl rfl (Nat.zero_le _) (Nat.zero_le _) ⟨rfl, rfl⟩
def rX7_drawn : Room := { frames := 2, cells := 0, slots := 0, locals := 45 }
def f_X7_drawn (μ : mS) (x1 : Int32) (x2 : Int32) (x3 : Int32) (x4 : Int32) : Option Int32 := (f_X7_isLot μ x1).bind fun r2 => if r2 = 0 then some (-1) else (f_X7_in x4 0 1).bind fun r12 => if r12 = 0 then some (-1) else (f_X7_isDrawn μ x1 x2 x3).bind fun r24 => if r24 = 0 then some (-2) else bif vin x1 30 then if x4 = 0 then (f_X7_lowest μ x1).bind fun r49 => some (x3 + (((μ.1 10 (x1).toNatClampNeg) - x2) * r49)) else bif vin x1 30 then bif vin (μ.1 9 (x1).toNatClampNeg) 8 then some (x3 + (((μ.1 10 (x1).toNatClampNeg) - x2) * (μ.1 3 ((μ.1 9 (x1).toNatClampNeg)).toNatClampNeg))) else none else none else none
set_option maxHeartbeats 4000000 in
set_option maxRecDepth 100000 in
theorem s_X7_drawn (g : hH) (μ : mS) (x1 : Int32) (x2 : Int32) (x3 : Int32) (x4 : Int32) (r : Int32) (hf : f_X7_drawn μ x1 x2 x3 x4 = some r) : SpD mX7_drawn rX7_drawn [.ref 5000, .int x1, .int x2, .int x3, .int x4] (gm g μ) (some (.int r)) (gm g μ) := by
  refine sp_of miX7_drawn (Nat.le_of_ble_eq_true rfl) ?_
  show J _ _ _ 0 0 _ 0 [(0, .ref 5000), (1, .int x1), (2, .int x2), (3, .int x3), (4, .int x4)] []
  unfold f_X7_drawn at hf
  refine j_aload_n (pc' := 1) rfl rfl rfl ?_
  refine j_iload_n (pc' := 2) rfl rfl rfl ?_
  obtain ⟨r2, e2, hf⟩ := o_bind hf
  refine j_v1 (pc' := 5) rfl rfl miX7_isLot lnX7_160 (gm_o g μ) rfl (s_X7_isLot g μ x1 _ e2) (h_rm_of rfl) (Nat.le_of_ble_eq_true rfl) (c' := 0) (s' := 0) rfl rfl ?_
  refine j_if_eq (tgt := 18) (pc' := 8) rfl rfl rfl (fun c5 => ?_) (fun c5 => ?_)
  · rw [if_pos c5] at hf
    refine j_iconst (v := (-1)) (pc' := 19) rfl rfl (by decide) ?_
    have hf := Option.some.inj hf; subst hf
    exact j_iret rfl rfl (Nat.zero_le _) (Nat.zero_le _) ⟨rfl, rfl⟩
  · rw [if_neg c5] at hf
    refine j_iload (pc' := 10) rfl rfl rfl ?_
    refine j_iconst (v := 0) (pc' := 11) rfl rfl (by decide) ?_
    refine j_iconst (v := 1) (pc' := 12) rfl rfl (by decide) ?_
    obtain ⟨r12, e12, hf⟩ := o_bind hf
    refine j_s3 (pc' := 15) rfl rfl miX7_in lnX7_138 (s_X7_in (gm g μ) x4 0 1 _ e12) (h_rm_of rfl) (Nat.le_of_ble_eq_true rfl) (c' := 0) (s' := 0) rfl rfl ?_
    refine j_if_ne (tgt := 20) (pc' := 18) rfl rfl rfl (fun c15 => ?_) (fun c15 => ?_)
    · rw [if_neg c15] at hf
      refine j_aload_n (pc' := 21) rfl rfl rfl ?_
      refine j_iload_n (pc' := 22) rfl rfl rfl ?_
      refine j_iload_n (pc' := 23) rfl rfl rfl ?_
      refine j_iload_n (pc' := 24) rfl rfl rfl ?_
      obtain ⟨r24, e24, hf⟩ := o_bind hf
      refine j_v3 (pc' := 27) rfl rfl miX7_isDrawn lnX7_225 (gm_o g μ) rfl (s_X7_isDrawn g μ x1 x2 x3 _ e24) (h_rm_of rfl) (Nat.le_of_ble_eq_true rfl) (c' := 0) (s' := 0) rfl rfl ?_
      refine j_if_ne (tgt := 33) (pc' := 30) rfl rfl rfl (fun c27 => ?_) (fun c27 => ?_)
      · rw [if_neg c27] at hf
        refine j_iload_n (pc' := 34) rfl rfl rfl ?_
        refine j_aload_n (pc' := 35) rfl rfl rfl ?_
        refine j_get (pc' := 38) rfl rfl flX7_28 (gm_o g μ) (mF_10 μ) ?_
        refine j_iload_n (pc' := 39) rfl rfl rfl ?_
        obtain ⟨c39, hf⟩ := o_chk hf
        refine j_iald (pc' := 40) rfl rfl (gm_10 g μ) (vin_ok c39) ?_
        refine j_iload_n (pc' := 41) rfl rfl rfl ?_
        refine j_isub (pc' := 42) rfl rfl ?_
        refine j_iload (pc' := 44) rfl rfl rfl ?_
        refine j_if_ne (tgt := 55) (pc' := 47) rfl rfl rfl (fun c44 => ?_) (fun c44 => ?_)
        · rw [if_neg c44] at hf
          refine j_aload_n (pc' := 56) rfl rfl rfl ?_
          refine j_get (pc' := 59) rfl rfl flX7_13 (gm_o g μ) (mF_3 μ) ?_
          refine j_aload_n (pc' := 60) rfl rfl rfl ?_
          refine j_get (pc' := 63) rfl rfl flX7_25 (gm_o g μ) (mF_9 μ) ?_
          refine j_iload_n (pc' := 64) rfl rfl rfl ?_
          obtain ⟨c64, hf⟩ := o_chk hf
          refine j_iald (pc' := 65) rfl rfl (gm_9 g μ) (vin_ok c64) ?_
          obtain ⟨c65, hf⟩ := o_chk hf
          refine j_iald (pc' := 66) rfl rfl (gm_3 g μ) (vin_ok c65) ?_
          refine j_imul (pc' := 67) rfl rfl ?_
          refine j_iadd (pc' := 68) rfl rfl ?_
          have hf := Option.some.inj hf; subst hf
          exact j_iret rfl rfl (Nat.zero_le _) (Nat.zero_le _) ⟨rfl, rfl⟩
        · rw [if_pos c44] at hf
          refine j_aload_n (pc' := 48) rfl rfl rfl ?_
          refine j_iload_n (pc' := 49) rfl rfl rfl ?_
          obtain ⟨r49, e49, hf⟩ := o_bind hf
          refine j_v1 (pc' := 52) rfl rfl miX7_lowest lnX7_222 (gm_o g μ) rfl (s_X7_lowest g μ x1 _ e49) (h_rm_of rfl) (Nat.le_of_ble_eq_true rfl) (c' := 0) (s' := 0) rfl rfl ?_
          refine j_goto (tgt := 66) rfl rfl ?_
          refine j_imul (pc' := 67) rfl rfl ?_
          refine j_iadd (pc' := 68) rfl rfl ?_
          have hf := Option.some.inj hf; subst hf
          exact j_iret rfl rfl (Nat.zero_le _) (Nat.zero_le _) ⟨rfl, rfl⟩
      · rw [if_pos c27] at hf
        refine j_bipush (v := (-2)) (pc' := 32) rfl rfl (by decide) ?_
        have hf := Option.some.inj hf; subst hf
        exact j_iret rfl rfl (Nat.zero_le _) (Nat.zero_le _) ⟨rfl, rfl⟩
    · rw [if_pos c15] at hf
      refine j_iconst (v := (-1)) (pc' := 19) rfl rfl (by decide) ?_
      have hf := Option.some.inj hf; subst hf
      exact j_iret rfl rfl (Nat.zero_le _) (Nat.zero_le _) ⟨rfl, rfl⟩
def rX7_wish : Room := { frames := 2, cells := 0, slots := 0, locals := 42 }
def f_X7_wish (μ : mS) (x1 : Int32) (x2 : Int32) (x3 : Int32) : Option (Int32 × mS) := (f_X7_in x1 0 1).bind fun r3 => if r3 = 0 then some ((-1), μ) else if x1 = 0 then (f_X7_isMint x2).bind fun r14 => if r14 = 0 then some ((-1), μ) else (f_X7_in x3 0 1000).bind fun r37 => if r37 = 0 then some ((-2), μ) else if x1 = 0 then bif vin x2 3 then if x1 = 0 then bif vin x2 3 then letm (seti μ 42 (va_up (μ.1 42) (x2).toNatClampNeg x3)) fun μ77 => some ((μ.1 42 (x2).toNatClampNeg), μ77) else none else bif vin x2 6 then letm (seti μ 43 (va_up (μ.1 43) (x2).toNatClampNeg x3)) fun μ87 => some ((μ.1 42 (x2).toNatClampNeg), μ87) else none else none else bif vin x2 6 then if x1 = 0 then bif vin x2 3 then letm (seti μ 42 (va_up (μ.1 42) (x2).toNatClampNeg x3)) fun μ77 => some ((μ.1 43 (x2).toNatClampNeg), μ77) else none else bif vin x2 6 then letm (seti μ 43 (va_up (μ.1 43) (x2).toNatClampNeg x3)) fun μ87 => some ((μ.1 43 (x2).toNatClampNeg), μ87) else none else none else (f_X7_isTown x2).bind fun r24 => if r24 = 0 then some ((-1), μ) else (f_X7_in x3 0 1000).bind fun r37 => if r37 = 0 then some ((-2), μ) else if x1 = 0 then bif vin x2 3 then if x1 = 0 then bif vin x2 3 then letm (seti μ 42 (va_up (μ.1 42) (x2).toNatClampNeg x3)) fun μ77 => some ((μ.1 42 (x2).toNatClampNeg), μ77) else none else bif vin x2 6 then letm (seti μ 43 (va_up (μ.1 43) (x2).toNatClampNeg x3)) fun μ87 => some ((μ.1 42 (x2).toNatClampNeg), μ87) else none else none else bif vin x2 6 then if x1 = 0 then bif vin x2 3 then letm (seti μ 42 (va_up (μ.1 42) (x2).toNatClampNeg x3)) fun μ77 => some ((μ.1 43 (x2).toNatClampNeg), μ77) else none else bif vin x2 6 then letm (seti μ 43 (va_up (μ.1 43) (x2).toNatClampNeg x3)) fun μ87 => some ((μ.1 43 (x2).toNatClampNeg), μ87) else none else none
set_option maxHeartbeats 4000000 in
set_option maxRecDepth 100000 in
theorem s_X7_wish (g : hH) (μ : mS) (x1 : Int32) (x2 : Int32) (x3 : Int32) (r : (Int32 × mS)) (hf : f_X7_wish μ x1 x2 x3 = some r) : SpD mX7_wish rX7_wish [.ref 5000, .int x1, .int x2, .int x3] (gm g μ) (some (.int r.1)) (gm g r.2) := by
  refine sp_of miX7_wish (Nat.le_of_ble_eq_true rfl) ?_
  show J _ _ _ 0 0 _ 0 [(0, .ref 5000), (1, .int x1), (2, .int x2), (3, .int x3)] []
  unfold f_X7_wish at hf
  refine j_iload_n (pc' := 1) rfl rfl rfl ?_
  refine j_iconst (v := 0) (pc' := 2) rfl rfl (by decide) ?_
  refine j_iconst (v := 1) (pc' := 3) rfl rfl (by decide) ?_
  obtain ⟨r3, e3, hf⟩ := o_bind hf
  refine j_s3 (pc' := 6) rfl rfl miX7_in lnX7_138 (s_X7_in (gm g μ) x1 0 1 _ e3) (h_rm_of rfl) (Nat.le_of_ble_eq_true rfl) (c' := 0) (s' := 0) rfl rfl ?_
  refine j_if_eq (tgt := 30) (pc' := 9) rfl rfl rfl (fun c6 => ?_) (fun c6 => ?_)
  · rw [if_pos c6] at hf
    refine j_iconst (v := (-1)) (pc' := 31) rfl rfl (by decide) ?_
    have hf := Option.some.inj hf; subst hf
    exact j_iret rfl rfl (Nat.zero_le _) (Nat.zero_le _) ⟨rfl, rfl⟩
  · rw [if_neg c6] at hf
    refine j_iload_n (pc' := 10) rfl rfl rfl ?_
    refine j_if_ne (tgt := 23) (pc' := 13) rfl rfl rfl (fun c10 => ?_) (fun c10 => ?_)
    · rw [if_neg c10] at hf
      refine j_iload_n (pc' := 24) rfl rfl rfl ?_
      obtain ⟨r24, e24, hf⟩ := o_bind hf
      refine j_s1 (pc' := 27) rfl rfl miX7_isTown lnX7_149 (s_X7_isTown (gm g μ) x2 _ e24) (h_rm_of rfl) (Nat.le_of_ble_eq_true rfl) (c' := 0) (s' := 0) rfl rfl ?_
      refine j_if_ne (tgt := 32) (pc' := 30) rfl rfl rfl (fun c27 => ?_) (fun c27 => ?_)
      · rw [if_neg c27] at hf
        refine j_iload_n (pc' := 33) rfl rfl rfl ?_
        refine j_iconst (v := 0) (pc' := 34) rfl rfl (by decide) ?_
        refine j_sipush (v := 1000) (pc' := 37) rfl rfl (by decide) ?_
        obtain ⟨r37, e37, hf⟩ := o_bind hf
        refine j_s3 (pc' := 40) rfl rfl miX7_in lnX7_138 (s_X7_in (gm g μ) x3 0 1000 _ e37) (h_rm_of rfl) (Nat.le_of_ble_eq_true rfl) (c' := 0) (s' := 0) rfl rfl ?_
        refine j_if_ne (tgt := 46) (pc' := 43) rfl rfl rfl (fun c40 => ?_) (fun c40 => ?_)
        · rw [if_neg c40] at hf
          refine j_iload_n (pc' := 47) rfl rfl rfl ?_
          refine j_if_ne (tgt := 59) (pc' := 50) rfl rfl rfl (fun c47 => ?_) (fun c47 => ?_)
          · rw [if_neg c47] at hf
            refine j_aload_n (pc' := 60) rfl rfl rfl ?_
            refine j_get (pc' := 63) rfl rfl flX7_113 (gm_o g μ) (mF_43 μ) ?_
            refine j_iload_n (pc' := 64) rfl rfl rfl ?_
            obtain ⟨c64, hf⟩ := o_chk hf
            refine j_iald (pc' := 65) rfl rfl (gm_43 g μ) (vin_ok c64) ?_
            refine j_istore (pc' := 67) (ls' := [(4, _), (0, _), (1, _), (2, _), (3, _)]) rfl rfl (Nat.le_of_ble_eq_true rfl) rfl ?_
            refine j_iload_n (pc' := 68) rfl rfl rfl ?_
            refine j_if_ne (tgt := 81) (pc' := 71) rfl rfl rfl (fun c68 => ?_) (fun c68 => ?_)
            · rw [if_neg c68] at hf
              refine j_aload_n (pc' := 82) rfl rfl rfl ?_
              refine j_get (pc' := 85) rfl rfl flX7_113 (gm_o g μ) (mF_43 μ) ?_
              refine j_iload_n (pc' := 86) rfl rfl rfl ?_
              refine j_iload_n (pc' := 87) rfl rfl rfl ?_
              obtain ⟨c87, hf⟩ := o_chk hf
              obtain ⟨μ87, e87, hf⟩ := o_let hf
              refine j_iast (pc' := 88) rfl rfl (gm_43 g μ) (by decide) (vin_ok c87) ?_
              rw [gs_43]; rw [e87]
              refine j_iload (pc' := 90) rfl rfl rfl ?_
              have hf := Option.some.inj hf; subst hf
              exact j_iret rfl rfl (Nat.zero_le _) (Nat.zero_le _) ⟨rfl, rfl⟩
            · rw [if_pos c68] at hf
              refine j_aload_n (pc' := 72) rfl rfl rfl ?_
              refine j_get (pc' := 75) rfl rfl flX7_110 (gm_o g μ) (mF_42 μ) ?_
              refine j_iload_n (pc' := 76) rfl rfl rfl ?_
              refine j_iload_n (pc' := 77) rfl rfl rfl ?_
              obtain ⟨c77, hf⟩ := o_chk hf
              obtain ⟨μ77, e77, hf⟩ := o_let hf
              refine j_iast (pc' := 78) rfl rfl (gm_42 g μ) (by decide) (vin_ok c77) ?_
              rw [gs_42]; rw [e77]
              refine j_goto (tgt := 88) rfl rfl ?_
              refine j_iload (pc' := 90) rfl rfl rfl ?_
              have hf := Option.some.inj hf; subst hf
              exact j_iret rfl rfl (Nat.zero_le _) (Nat.zero_le _) ⟨rfl, rfl⟩
          · rw [if_pos c47] at hf
            refine j_aload_n (pc' := 51) rfl rfl rfl ?_
            refine j_get (pc' := 54) rfl rfl flX7_110 (gm_o g μ) (mF_42 μ) ?_
            refine j_iload_n (pc' := 55) rfl rfl rfl ?_
            obtain ⟨c55, hf⟩ := o_chk hf
            refine j_iald (pc' := 56) rfl rfl (gm_42 g μ) (vin_ok c55) ?_
            refine j_goto (tgt := 65) rfl rfl ?_
            refine j_istore (pc' := 67) (ls' := [(4, _), (0, _), (1, _), (2, _), (3, _)]) rfl rfl (Nat.le_of_ble_eq_true rfl) rfl ?_
            refine j_iload_n (pc' := 68) rfl rfl rfl ?_
            refine j_if_ne (tgt := 81) (pc' := 71) rfl rfl rfl (fun c68 => ?_) (fun c68 => ?_)
            · rw [if_neg c68] at hf
              refine j_aload_n (pc' := 82) rfl rfl rfl ?_
              refine j_get (pc' := 85) rfl rfl flX7_113 (gm_o g μ) (mF_43 μ) ?_
              refine j_iload_n (pc' := 86) rfl rfl rfl ?_
              refine j_iload_n (pc' := 87) rfl rfl rfl ?_
              obtain ⟨c87, hf⟩ := o_chk hf
              obtain ⟨μ87, e87, hf⟩ := o_let hf
              refine j_iast (pc' := 88) rfl rfl (gm_43 g μ) (by decide) (vin_ok c87) ?_
              rw [gs_43]; rw [e87]
              refine j_iload (pc' := 90) rfl rfl rfl ?_
              have hf := Option.some.inj hf; subst hf
              exact j_iret rfl rfl (Nat.zero_le _) (Nat.zero_le _) ⟨rfl, rfl⟩
            · rw [if_pos c68] at hf
              refine j_aload_n (pc' := 72) rfl rfl rfl ?_
              refine j_get (pc' := 75) rfl rfl flX7_110 (gm_o g μ) (mF_42 μ) ?_
              refine j_iload_n (pc' := 76) rfl rfl rfl ?_
              refine j_iload_n (pc' := 77) rfl rfl rfl ?_
              obtain ⟨c77, hf⟩ := o_chk hf
              obtain ⟨μ77, e77, hf⟩ := o_let hf
              refine j_iast (pc' := 78) rfl rfl (gm_42 g μ) (by decide) (vin_ok c77) ?_
              rw [gs_42]; rw [e77]
              refine j_goto (tgt := 88) rfl rfl ?_
              refine j_iload (pc' := 90) rfl rfl rfl ?_
              have hf := Option.some.inj hf; subst hf
              exact j_iret rfl rfl (Nat.zero_le _) (Nat.zero_le _) ⟨rfl, rfl⟩
        · rw [if_pos c40] at hf
          refine j_bipush (v := (-2)) (pc' := 45) rfl rfl (by decide) ?_
          have hf := Option.some.inj hf; subst hf
          exact j_iret rfl rfl (Nat.zero_le _) (Nat.zero_le _) ⟨rfl, rfl⟩
      · rw [if_pos c27] at hf
        refine j_iconst (v := (-1)) (pc' := 31) rfl rfl (by decide) ?_
        have hf := Option.some.inj hf; subst hf
        exact j_iret rfl rfl (Nat.zero_le _) (Nat.zero_le _) ⟨rfl, rfl⟩
    · rw [if_pos c10] at hf
      refine j_iload_n (pc' := 14) rfl rfl rfl ?_
      obtain ⟨r14, e14, hf⟩ := o_bind hf
      refine j_s1 (pc' := 17) rfl rfl miX7_isMint lnX7_238 (s_X7_isMint (gm g μ) x2 _ e14) (h_rm_of rfl) (Nat.le_of_ble_eq_true rfl) (c' := 0) (s' := 0) rfl rfl ?_
      refine j_if_ne (tgt := 32) (pc' := 20) rfl rfl rfl (fun c17 => ?_) (fun c17 => ?_)
      · rw [if_neg c17] at hf
        refine j_iload_n (pc' := 33) rfl rfl rfl ?_
        refine j_iconst (v := 0) (pc' := 34) rfl rfl (by decide) ?_
        refine j_sipush (v := 1000) (pc' := 37) rfl rfl (by decide) ?_
        obtain ⟨r37, e37, hf⟩ := o_bind hf
        refine j_s3 (pc' := 40) rfl rfl miX7_in lnX7_138 (s_X7_in (gm g μ) x3 0 1000 _ e37) (h_rm_of rfl) (Nat.le_of_ble_eq_true rfl) (c' := 0) (s' := 0) rfl rfl ?_
        refine j_if_ne (tgt := 46) (pc' := 43) rfl rfl rfl (fun c40 => ?_) (fun c40 => ?_)
        · rw [if_neg c40] at hf
          refine j_iload_n (pc' := 47) rfl rfl rfl ?_
          refine j_if_ne (tgt := 59) (pc' := 50) rfl rfl rfl (fun c47 => ?_) (fun c47 => ?_)
          · rw [if_neg c47] at hf
            refine j_aload_n (pc' := 60) rfl rfl rfl ?_
            refine j_get (pc' := 63) rfl rfl flX7_113 (gm_o g μ) (mF_43 μ) ?_
            refine j_iload_n (pc' := 64) rfl rfl rfl ?_
            obtain ⟨c64, hf⟩ := o_chk hf
            refine j_iald (pc' := 65) rfl rfl (gm_43 g μ) (vin_ok c64) ?_
            refine j_istore (pc' := 67) (ls' := [(4, _), (0, _), (1, _), (2, _), (3, _)]) rfl rfl (Nat.le_of_ble_eq_true rfl) rfl ?_
            refine j_iload_n (pc' := 68) rfl rfl rfl ?_
            refine j_if_ne (tgt := 81) (pc' := 71) rfl rfl rfl (fun c68 => ?_) (fun c68 => ?_)
            · rw [if_neg c68] at hf
              refine j_aload_n (pc' := 82) rfl rfl rfl ?_
              refine j_get (pc' := 85) rfl rfl flX7_113 (gm_o g μ) (mF_43 μ) ?_
              refine j_iload_n (pc' := 86) rfl rfl rfl ?_
              refine j_iload_n (pc' := 87) rfl rfl rfl ?_
              obtain ⟨c87, hf⟩ := o_chk hf
              obtain ⟨μ87, e87, hf⟩ := o_let hf
              refine j_iast (pc' := 88) rfl rfl (gm_43 g μ) (by decide) (vin_ok c87) ?_
              rw [gs_43]; rw [e87]
              refine j_iload (pc' := 90) rfl rfl rfl ?_
              have hf := Option.some.inj hf; subst hf
              exact j_iret rfl rfl (Nat.zero_le _) (Nat.zero_le _) ⟨rfl, rfl⟩
            · rw [if_pos c68] at hf
              refine j_aload_n (pc' := 72) rfl rfl rfl ?_
              refine j_get (pc' := 75) rfl rfl flX7_110 (gm_o g μ) (mF_42 μ) ?_
              refine j_iload_n (pc' := 76) rfl rfl rfl ?_
              refine j_iload_n (pc' := 77) rfl rfl rfl ?_
              obtain ⟨c77, hf⟩ := o_chk hf
              obtain ⟨μ77, e77, hf⟩ := o_let hf
              refine j_iast (pc' := 78) rfl rfl (gm_42 g μ) (by decide) (vin_ok c77) ?_
              rw [gs_42]; rw [e77]
              refine j_goto (tgt := 88) rfl rfl ?_
              refine j_iload (pc' := 90) rfl rfl rfl ?_
              have hf := Option.some.inj hf; subst hf
              exact j_iret rfl rfl (Nat.zero_le _) (Nat.zero_le _) ⟨rfl, rfl⟩
          · rw [if_pos c47] at hf
            refine j_aload_n (pc' := 51) rfl rfl rfl ?_
            refine j_get (pc' := 54) rfl rfl flX7_110 (gm_o g μ) (mF_42 μ) ?_
            refine j_iload_n (pc' := 55) rfl rfl rfl ?_
            obtain ⟨c55, hf⟩ := o_chk hf
            refine j_iald (pc' := 56) rfl rfl (gm_42 g μ) (vin_ok c55) ?_
            refine j_goto (tgt := 65) rfl rfl ?_
            refine j_istore (pc' := 67) (ls' := [(4, _), (0, _), (1, _), (2, _), (3, _)]) rfl rfl (Nat.le_of_ble_eq_true rfl) rfl ?_
            refine j_iload_n (pc' := 68) rfl rfl rfl ?_
            refine j_if_ne (tgt := 81) (pc' := 71) rfl rfl rfl (fun c68 => ?_) (fun c68 => ?_)
            · rw [if_neg c68] at hf
              refine j_aload_n (pc' := 82) rfl rfl rfl ?_
              refine j_get (pc' := 85) rfl rfl flX7_113 (gm_o g μ) (mF_43 μ) ?_
              refine j_iload_n (pc' := 86) rfl rfl rfl ?_
              refine j_iload_n (pc' := 87) rfl rfl rfl ?_
              obtain ⟨c87, hf⟩ := o_chk hf
              obtain ⟨μ87, e87, hf⟩ := o_let hf
              refine j_iast (pc' := 88) rfl rfl (gm_43 g μ) (by decide) (vin_ok c87) ?_
              rw [gs_43]; rw [e87]
              refine j_iload (pc' := 90) rfl rfl rfl ?_
              have hf := Option.some.inj hf; subst hf
              exact j_iret rfl rfl (Nat.zero_le _) (Nat.zero_le _) ⟨rfl, rfl⟩
            · rw [if_pos c68] at hf
              refine j_aload_n (pc' := 72) rfl rfl rfl ?_
              refine j_get (pc' := 75) rfl rfl flX7_110 (gm_o g μ) (mF_42 μ) ?_
              refine j_iload_n (pc' := 76) rfl rfl rfl ?_
              refine j_iload_n (pc' := 77) rfl rfl rfl ?_
              obtain ⟨c77, hf⟩ := o_chk hf
              obtain ⟨μ77, e77, hf⟩ := o_let hf
              refine j_iast (pc' := 78) rfl rfl (gm_42 g μ) (by decide) (vin_ok c77) ?_
              rw [gs_42]; rw [e77]
              refine j_goto (tgt := 88) rfl rfl ?_
              refine j_iload (pc' := 90) rfl rfl rfl ?_
              have hf := Option.some.inj hf; subst hf
              exact j_iret rfl rfl (Nat.zero_le _) (Nat.zero_le _) ⟨rfl, rfl⟩
        · rw [if_pos c40] at hf
          refine j_bipush (v := (-2)) (pc' := 45) rfl rfl (by decide) ?_
          have hf := Option.some.inj hf; subst hf
          exact j_iret rfl rfl (Nat.zero_le _) (Nat.zero_le _) ⟨rfl, rfl⟩
      · rw [if_pos c17] at hf
        refine j_goto (tgt := 30) rfl rfl ?_
        refine j_iconst (v := (-1)) (pc' := 31) rfl rfl (by decide) ?_
        have hf := Option.some.inj hf; subst hf
        exact j_iret rfl rfl (Nat.zero_le _) (Nat.zero_le _) ⟨rfl, rfl⟩
def rX7_flow : Room := { frames := 2, cells := 0, slots := 0, locals := 47 }
def f_X7_flow_L2 : Nat → mS → Int32 → Option (mS)
  | 0, _, _ => none
  | n + 1, μ, x1 => if 18 ≤ x1 then some (μ) else bif vin x1 18 then letm (seti μ 44 (va_up (μ.1 44) (x1).toNatClampNeg 0)) fun μ14 => f_X7_flow_L2 n μ14 (x1 + 1) else none
set_option maxHeartbeats 4000000 in
set_option maxRecDepth 100000 in
theorem s_X7_flow_L2 {Q : Option Value → hH → Prop} (g : hH) : ∀ (n : Nat) (μ : mS) (x1 : Int32) (r : mS), f_X7_flow_L2 n μ x1 = some r → (J mX7_flow rX7_flow Q 0 0 (gm g r) 21 [(0, .ref 5000)] []) → J mX7_flow rX7_flow Q 0 0 (gm g μ) 2 [(0, .ref 5000), (1, .int x1)] [] := by
  intro n
  induction n with
  | zero =>
    intro μ x1 r hf
    cases hf
  | succ n ih =>
    intro μ x1 r hf k0
    rw [f_X7_flow_L2] at hf
    refine j_iload_n (pc' := 3) rfl rfl rfl ?_
    refine j_bipush (v := 18) (pc' := 5) rfl rfl (by decide) ?_
    refine j_icmp_ge (tgt := 21) (pc' := 8) rfl rfl rfl (fun c5 => ?_) (fun c5 => ?_)
    · rw [if_pos c5] at hf
      have hf := Option.some.inj hf; subst hf
      exact j_sub (ls' := [(0, .ref 5000)]) ⟨rfl, trivial⟩ (k0)
    · rw [if_neg c5] at hf
      refine j_aload_n (pc' := 9) rfl rfl rfl ?_
      refine j_get (pc' := 12) rfl rfl flX7_116 (gm_o g μ) (mF_44 μ) ?_
      refine j_iload_n (pc' := 13) rfl rfl rfl ?_
      refine j_iconst (v := 0) (pc' := 14) rfl rfl (by decide) ?_
      obtain ⟨c14, hf⟩ := o_chk hf
      obtain ⟨μ14, e14, hf⟩ := o_let hf
      refine j_iast (pc' := 15) rfl rfl (gm_44 g μ) (by decide) (vin_ok c14) ?_
      rw [gs_44]; rw [e14]
      refine j_iinc (pc' := 18) (d := 1) (ls' := [(1, _), (0, _)]) rfl rfl rfl (by decide) (Nat.le_of_ble_eq_true rfl) rfl ?_
      refine j_goto (tgt := 2) rfl rfl ?_
      refine j_sub (ls' := [(0, .ref 5000), (1, .int _)]) ⟨rfl, rfl, trivial⟩ ?_
      exact ih _ _ _ hf k0
def f_X7_flow_L23 : Nat → mS → Int32 → Option (mS)
  | 0, _, _ => none
  | n + 1, μ, x1 => if 3 ≤ x1 then some (μ) else bif vin x1 3 then bif vin x1 3 then letm (seti μ 45 (va_up (μ.1 45) (x1).toNatClampNeg (μ.1 42 (x1).toNatClampNeg))) fun μ39 => f_X7_flow_L23 n μ39 (x1 + 1) else none else none
set_option maxHeartbeats 4000000 in
set_option maxRecDepth 100000 in
theorem s_X7_flow_L23 {Q : Option Value → hH → Prop} (g : hH) : ∀ (n : Nat) (μ : mS) (x1 : Int32) (r : mS), f_X7_flow_L23 n μ x1 = some r → (J mX7_flow rX7_flow Q 0 0 (gm g r) 46 [(0, .ref 5000)] []) → J mX7_flow rX7_flow Q 0 0 (gm g μ) 23 [(0, .ref 5000), (1, .int x1)] [] := by
  intro n
  induction n with
  | zero =>
    intro μ x1 r hf
    cases hf
  | succ n ih =>
    intro μ x1 r hf k0
    rw [f_X7_flow_L23] at hf
    refine j_iload_n (pc' := 24) rfl rfl rfl ?_
    refine j_iconst (v := 3) (pc' := 25) rfl rfl (by decide) ?_
    refine j_icmp_ge (tgt := 46) (pc' := 28) rfl rfl rfl (fun c25 => ?_) (fun c25 => ?_)
    · rw [if_pos c25] at hf
      have hf := Option.some.inj hf; subst hf
      exact j_sub (ls' := [(0, .ref 5000)]) ⟨rfl, trivial⟩ (k0)
    · rw [if_neg c25] at hf
      refine j_aload_n (pc' := 29) rfl rfl rfl ?_
      refine j_get (pc' := 32) rfl rfl flX7_119 (gm_o g μ) (mF_45 μ) ?_
      refine j_iload_n (pc' := 33) rfl rfl rfl ?_
      refine j_aload_n (pc' := 34) rfl rfl rfl ?_
      refine j_get (pc' := 37) rfl rfl flX7_110 (gm_o g μ) (mF_42 μ) ?_
      refine j_iload_n (pc' := 38) rfl rfl rfl ?_
      obtain ⟨c38, hf⟩ := o_chk hf
      refine j_iald (pc' := 39) rfl rfl (gm_42 g μ) (vin_ok c38) ?_
      obtain ⟨c39, hf⟩ := o_chk hf
      obtain ⟨μ39, e39, hf⟩ := o_let hf
      refine j_iast (pc' := 40) rfl rfl (gm_45 g μ) (by decide) (vin_ok c39) ?_
      rw [gs_45]; rw [e39]
      refine j_iinc (pc' := 43) (d := 1) (ls' := [(1, _), (0, _)]) rfl rfl rfl (by decide) (Nat.le_of_ble_eq_true rfl) rfl ?_
      refine j_goto (tgt := 23) rfl rfl ?_
      refine j_sub (ls' := [(0, .ref 5000), (1, .int _)]) ⟨rfl, rfl, trivial⟩ ?_
      exact ih _ _ _ hf k0
def f_X7_flow_L48 : Nat → mS → Int32 → Option (mS)
  | 0, _, _ => none
  | n + 1, μ, x1 => if 6 ≤ x1 then some (μ) else bif vin x1 6 then bif vin x1 6 then letm (seti μ 46 (va_up (μ.1 46) (x1).toNatClampNeg (μ.1 43 (x1).toNatClampNeg))) fun μ65 => f_X7_flow_L48 n μ65 (x1 + 1) else none else none
set_option maxHeartbeats 4000000 in
set_option maxRecDepth 100000 in
theorem s_X7_flow_L48 {Q : Option Value → hH → Prop} (g : hH) : ∀ (n : Nat) (μ : mS) (x1 : Int32) (r : mS), f_X7_flow_L48 n μ x1 = some r → (J mX7_flow rX7_flow Q 0 0 (gm g r) 72 [(0, .ref 5000)] []) → J mX7_flow rX7_flow Q 0 0 (gm g μ) 48 [(0, .ref 5000), (1, .int x1)] [] := by
  intro n
  induction n with
  | zero =>
    intro μ x1 r hf
    cases hf
  | succ n ih =>
    intro μ x1 r hf k0
    rw [f_X7_flow_L48] at hf
    refine j_iload_n (pc' := 49) rfl rfl rfl ?_
    refine j_bipush (v := 6) (pc' := 51) rfl rfl (by decide) ?_
    refine j_icmp_ge (tgt := 72) (pc' := 54) rfl rfl rfl (fun c51 => ?_) (fun c51 => ?_)
    · rw [if_pos c51] at hf
      have hf := Option.some.inj hf; subst hf
      exact j_sub (ls' := [(0, .ref 5000)]) ⟨rfl, trivial⟩ (k0)
    · rw [if_neg c51] at hf
      refine j_aload_n (pc' := 55) rfl rfl rfl ?_
      refine j_get (pc' := 58) rfl rfl flX7_122 (gm_o g μ) (mF_46 μ) ?_
      refine j_iload_n (pc' := 59) rfl rfl rfl ?_
      refine j_aload_n (pc' := 60) rfl rfl rfl ?_
      refine j_get (pc' := 63) rfl rfl flX7_113 (gm_o g μ) (mF_43 μ) ?_
      refine j_iload_n (pc' := 64) rfl rfl rfl ?_
      obtain ⟨c64, hf⟩ := o_chk hf
      refine j_iald (pc' := 65) rfl rfl (gm_43 g μ) (vin_ok c64) ?_
      obtain ⟨c65, hf⟩ := o_chk hf
      obtain ⟨μ65, e65, hf⟩ := o_let hf
      refine j_iast (pc' := 66) rfl rfl (gm_46 g μ) (by decide) (vin_ok c65) ?_
      rw [gs_46]; rw [e65]
      refine j_iinc (pc' := 69) (d := 1) (ls' := [(1, _), (0, _)]) rfl rfl rfl (by decide) (Nat.le_of_ble_eq_true rfl) rfl ?_
      refine j_goto (tgt := 48) rfl rfl ?_
      refine j_sub (ls' := [(0, .ref 5000), (1, .int _)]) ⟨rfl, rfl, trivial⟩ ?_
      exact ih _ _ _ hf k0
def f_X7_flow_L79 : Nat → mS → Int32 → Int32 → Option (Int32 × mS)
  | 0, _, _, _ => none
  | n + 1, μ, x1, x2 => if x2 < 0 then some (x1, μ) else (f_X7_sendOne μ).bind fun r88 => f_X7_flow_L79 n r88.2 (x1 + x2) r88.1
set_option maxHeartbeats 4000000 in
set_option maxRecDepth 100000 in
theorem s_X7_flow_L79 {Q : Option Value → hH → Prop} (g : hH) : ∀ (n : Nat) (μ : mS) (x1 : Int32) (x2 : Int32) (r : Int32 × mS), f_X7_flow_L79 n μ x1 x2 = some r → (J mX7_flow rX7_flow Q 0 0 (gm g r.2) 95 [(1, .int r.1)] []) → J mX7_flow rX7_flow Q 0 0 (gm g μ) 79 [(0, .ref 5000), (1, .int x1), (2, .int x2)] [] := by
  intro n
  induction n with
  | zero =>
    intro μ x1 x2 r hf
    cases hf
  | succ n ih =>
    intro μ x1 x2 r hf k0
    rw [f_X7_flow_L79] at hf
    refine j_iload_n (pc' := 80) rfl rfl rfl ?_
    refine j_if_lt (tgt := 95) (pc' := 83) rfl rfl rfl (fun c80 => ?_) (fun c80 => ?_)
    · rw [if_pos c80] at hf
      have hf := Option.some.inj hf; subst hf
      exact j_sub (ls' := [(1, .int _)]) ⟨rfl, trivial⟩ (k0)
    · rw [if_neg c80] at hf
      refine j_iload_n (pc' := 84) rfl rfl rfl ?_
      refine j_iload_n (pc' := 85) rfl rfl rfl ?_
      refine j_iadd (pc' := 86) rfl rfl ?_
      refine j_istore_n (pc' := 87) (ls' := [(1, _), (0, _), (2, _)]) rfl rfl (Nat.le_of_ble_eq_true rfl) rfl ?_
      refine j_aload_n (pc' := 88) rfl rfl rfl ?_
      obtain ⟨r88, e88, hf⟩ := o_bind hf
      refine j_v0 (pc' := 91) rfl rfl miX7_sendOne lnX7_260 (gm_o g μ) rfl (s_X7_sendOne g μ _ e88) (h_rm_of rfl) (Nat.le_of_ble_eq_true rfl) (c' := 0) (s' := 0) rfl rfl ?_
      refine j_istore_n (pc' := 92) (ls' := [(2, _), (1, _), (0, _)]) rfl rfl (Nat.le_of_ble_eq_true rfl) rfl ?_
      refine j_goto (tgt := 79) rfl rfl ?_
      refine j_sub (ls' := [(0, .ref 5000), (1, .int _), (2, .int _)]) ⟨rfl, rfl, rfl, trivial⟩ ?_
      exact ih _ _ _ _ hf k0
def f_X7_flow (μ : mS) : Option (Int32 × mS) := (f_X7_flow_L2 4000 μ 0).bind fun r2 => (f_X7_flow_L23 4000 r2 0).bind fun r23 => (f_X7_flow_L48 4000 r23 0).bind fun r48 => (f_X7_sendOne r48).bind fun r75 => (f_X7_flow_L79 4000 r75.2 0 r75.1).bind fun r79 => some (r79.1, r79.2)
set_option maxHeartbeats 4000000 in
set_option maxRecDepth 100000 in
theorem s_X7_flow (g : hH) (μ : mS) (r : (Int32 × mS)) (hf : f_X7_flow μ = some r) : SpD mX7_flow rX7_flow [.ref 5000] (gm g μ) (some (.int r.1)) (gm g r.2) := by
  refine sp_of miX7_flow (Nat.le_of_ble_eq_true rfl) ?_
  show J _ _ _ 0 0 _ 0 [(0, .ref 5000)] []
  unfold f_X7_flow at hf
  refine j_iconst (v := 0) (pc' := 1) rfl rfl (by decide) ?_
  refine j_istore_n (pc' := 2) (ls' := [(1, _), (0, _)]) rfl rfl (Nat.le_of_ble_eq_true rfl) rfl ?_
  obtain ⟨r2, e2, hf⟩ := o_bind hf
  refine j_sub (ls' := [(0, .ref 5000), (1, .int 0)]) ⟨rfl, rfl, trivial⟩ ?_
  refine s_X7_flow_L2 g _ _ _ _ e2 ?_
  refine j_iconst (v := 0) (pc' := 22) rfl rfl (by decide) ?_
  refine j_istore_n (pc' := 23) (ls' := [(1, _), (0, _)]) rfl rfl (Nat.le_of_ble_eq_true rfl) rfl ?_
  obtain ⟨r23, e23, hf⟩ := o_bind hf
  refine j_sub (ls' := [(0, .ref 5000), (1, .int 0)]) ⟨rfl, rfl, trivial⟩ ?_
  refine s_X7_flow_L23 g _ _ _ _ e23 ?_
  refine j_iconst (v := 0) (pc' := 47) rfl rfl (by decide) ?_
  refine j_istore_n (pc' := 48) (ls' := [(1, _), (0, _)]) rfl rfl (Nat.le_of_ble_eq_true rfl) rfl ?_
  obtain ⟨r48, e48, hf⟩ := o_bind hf
  refine j_sub (ls' := [(0, .ref 5000), (1, .int 0)]) ⟨rfl, rfl, trivial⟩ ?_
  refine s_X7_flow_L48 g _ _ _ _ e48 ?_
  refine j_iconst (v := 0) (pc' := 73) rfl rfl (by decide) ?_
  refine j_istore_n (pc' := 74) (ls' := [(1, _), (0, _)]) rfl rfl (Nat.le_of_ble_eq_true rfl) rfl ?_
  refine j_aload_n (pc' := 75) rfl rfl rfl ?_
  obtain ⟨r75, e75, hf⟩ := o_bind hf
  refine j_v0 (pc' := 78) rfl rfl miX7_sendOne lnX7_260 (gm_o g r48) rfl (s_X7_sendOne g r48 _ e75) (h_rm_of rfl) (Nat.le_of_ble_eq_true rfl) (c' := 0) (s' := 0) rfl rfl ?_
  refine j_istore_n (pc' := 79) (ls' := [(2, _), (1, _), (0, _)]) rfl rfl (Nat.le_of_ble_eq_true rfl) rfl ?_
  obtain ⟨r79, e79, hf⟩ := o_bind hf
  refine j_sub (ls' := [(0, .ref 5000), (1, .int 0), (2, .int r75.1)]) ⟨rfl, rfl, rfl, trivial⟩ ?_
  refine s_X7_flow_L79 g _ _ _ _ _ e79 ?_
  refine j_iload_n (pc' := 96) rfl rfl rfl ?_
  have hf := Option.some.inj hf; subst hf
  exact j_iret rfl rfl (Nat.zero_le _) (Nat.zero_le _) ⟨rfl, rfl⟩
def rX7_sent : Room := { frames := 0, cells := 0, slots := 0, locals := 0 }
def f_X7_sent_L6 : Nat → mS → Int32 → Int32 → Int32 → Option (Int32)
  | 0, _, _, _, _ => none
  | n + 1, μ, x1, x2, x3 => if 3 ≤ x3 then some (x1) else bif vin x3 3 then letm (x1 + (μ.1 42 (x3).toNatClampNeg)) fun y19 => f_X7_sent_L6 n μ y19 x2 (x3 + 1) else none
set_option maxHeartbeats 4000000 in
set_option maxRecDepth 100000 in
theorem s_X7_sent_L6 {Q : Option Value → hH → Prop} (g : hH) : ∀ (n : Nat) (μ : mS) (x1 : Int32) (x2 : Int32) (x3 : Int32) (r : Int32), f_X7_sent_L6 n μ x1 x2 x3 = some r → (J mX7_sent rX7_sent Q 0 0 (gm g μ) 26 [(0, .ref 5000), (1, .int r), (2, .int x2)] []) → J mX7_sent rX7_sent Q 0 0 (gm g μ) 6 [(0, .ref 5000), (1, .int x1), (2, .int x2), (3, .int x3)] [] := by
  intro n
  induction n with
  | zero =>
    intro μ x1 x2 x3 r hf
    cases hf
  | succ n ih =>
    intro μ x1 x2 x3 r hf k0
    rw [f_X7_sent_L6] at hf
    refine j_iload_n (pc' := 7) rfl rfl rfl ?_
    refine j_iconst (v := 3) (pc' := 8) rfl rfl (by decide) ?_
    refine j_icmp_ge (tgt := 26) (pc' := 11) rfl rfl rfl (fun c8 => ?_) (fun c8 => ?_)
    · rw [if_pos c8] at hf
      have hf := Option.some.inj hf; subst hf
      exact j_sub (ls' := [(0, .ref 5000), (1, .int _), (2, .int _)]) ⟨rfl, rfl, rfl, trivial⟩ (k0)
    · rw [if_neg c8] at hf
      refine j_iload_n (pc' := 12) rfl rfl rfl ?_
      refine j_aload_n (pc' := 13) rfl rfl rfl ?_
      refine j_get (pc' := 16) rfl rfl flX7_110 (gm_o g μ) (mF_42 μ) ?_
      refine j_iload_n (pc' := 17) rfl rfl rfl ?_
      obtain ⟨c17, hf⟩ := o_chk hf
      refine j_iald (pc' := 18) rfl rfl (gm_42 g μ) (vin_ok c17) ?_
      refine j_iadd (pc' := 19) rfl rfl ?_
      obtain ⟨y19, e19, hf⟩ := o_let hf
      rw [e19]
      refine j_istore_n (pc' := 20) (ls' := [(1, _), (0, _), (2, _), (3, _)]) rfl rfl (Nat.le_of_ble_eq_true rfl) rfl ?_
      refine j_iinc (pc' := 23) (d := 1) (ls' := [(3, _), (1, _), (0, _), (2, _)]) rfl rfl rfl (by decide) (Nat.le_of_ble_eq_true rfl) rfl ?_
      refine j_goto (tgt := 6) rfl rfl ?_
      refine j_sub (ls' := [(0, .ref 5000), (1, .int _), (2, .int _), (3, .int _)]) ⟨rfl, rfl, rfl, rfl, trivial⟩ ?_
      exact ih _ _ _ _ _ hf k0
def f_X7_sent_L28 : Nat → mS → Int32 → Int32 → Int32 → Option (Int32)
  | 0, _, _, _, _ => none
  | n + 1, μ, x1, x2, x3 => if 6 ≤ x3 then some (x2) else bif vin x3 6 then letm (x2 + (μ.1 43 (x3).toNatClampNeg)) fun y42 => f_X7_sent_L28 n μ x1 y42 (x3 + 1) else none
set_option maxHeartbeats 4000000 in
set_option maxRecDepth 100000 in
theorem s_X7_sent_L28 {Q : Option Value → hH → Prop} (g : hH) : ∀ (n : Nat) (μ : mS) (x1 : Int32) (x2 : Int32) (x3 : Int32) (r : Int32), f_X7_sent_L28 n μ x1 x2 x3 = some r → (J mX7_sent rX7_sent Q 0 0 (gm g μ) 49 [(1, .int x1), (2, .int r)] []) → J mX7_sent rX7_sent Q 0 0 (gm g μ) 28 [(0, .ref 5000), (1, .int x1), (2, .int x2), (3, .int x3)] [] := by
  intro n
  induction n with
  | zero =>
    intro μ x1 x2 x3 r hf
    cases hf
  | succ n ih =>
    intro μ x1 x2 x3 r hf k0
    rw [f_X7_sent_L28] at hf
    refine j_iload_n (pc' := 29) rfl rfl rfl ?_
    refine j_bipush (v := 6) (pc' := 31) rfl rfl (by decide) ?_
    refine j_icmp_ge (tgt := 49) (pc' := 34) rfl rfl rfl (fun c31 => ?_) (fun c31 => ?_)
    · rw [if_pos c31] at hf
      have hf := Option.some.inj hf; subst hf
      exact j_sub (ls' := [(1, .int _), (2, .int _)]) ⟨rfl, rfl, trivial⟩ (k0)
    · rw [if_neg c31] at hf
      refine j_iload_n (pc' := 35) rfl rfl rfl ?_
      refine j_aload_n (pc' := 36) rfl rfl rfl ?_
      refine j_get (pc' := 39) rfl rfl flX7_113 (gm_o g μ) (mF_43 μ) ?_
      refine j_iload_n (pc' := 40) rfl rfl rfl ?_
      obtain ⟨c40, hf⟩ := o_chk hf
      refine j_iald (pc' := 41) rfl rfl (gm_43 g μ) (vin_ok c40) ?_
      refine j_iadd (pc' := 42) rfl rfl ?_
      obtain ⟨y42, e42, hf⟩ := o_let hf
      rw [e42]
      refine j_istore_n (pc' := 43) (ls' := [(2, _), (0, _), (1, _), (3, _)]) rfl rfl (Nat.le_of_ble_eq_true rfl) rfl ?_
      refine j_iinc (pc' := 46) (d := 1) (ls' := [(3, _), (2, _), (0, _), (1, _)]) rfl rfl rfl (by decide) (Nat.le_of_ble_eq_true rfl) rfl ?_
      refine j_goto (tgt := 28) rfl rfl ?_
      refine j_sub (ls' := [(0, .ref 5000), (1, .int _), (2, .int _), (3, .int _)]) ⟨rfl, rfl, rfl, rfl, trivial⟩ ?_
      exact ih _ _ _ _ _ hf k0
def f_X7_sent (μ : mS) : Option Int32 := (f_X7_sent_L6 4000 μ 0 0 0).bind fun r6 => (f_X7_sent_L28 4000 μ r6 0 0).bind fun r28 => if r28 ≤ r6 then some r28 else some r6
set_option maxHeartbeats 4000000 in
set_option maxRecDepth 100000 in
theorem s_X7_sent (g : hH) (μ : mS) (r : Int32) (hf : f_X7_sent μ = some r) : SpD mX7_sent rX7_sent [.ref 5000] (gm g μ) (some (.int r)) (gm g μ) := by
  refine sp_of miX7_sent (Nat.le_of_ble_eq_true rfl) ?_
  show J _ _ _ 0 0 _ 0 [(0, .ref 5000)] []
  unfold f_X7_sent at hf
  refine j_iconst (v := 0) (pc' := 1) rfl rfl (by decide) ?_
  refine j_istore_n (pc' := 2) (ls' := [(1, _), (0, _)]) rfl rfl (Nat.le_of_ble_eq_true rfl) rfl ?_
  refine j_iconst (v := 0) (pc' := 3) rfl rfl (by decide) ?_
  refine j_istore_n (pc' := 4) (ls' := [(2, _), (1, _), (0, _)]) rfl rfl (Nat.le_of_ble_eq_true rfl) rfl ?_
  refine j_iconst (v := 0) (pc' := 5) rfl rfl (by decide) ?_
  refine j_istore_n (pc' := 6) (ls' := [(3, _), (2, _), (1, _), (0, _)]) rfl rfl (Nat.le_of_ble_eq_true rfl) rfl ?_
  obtain ⟨r6, e6, hf⟩ := o_bind hf
  refine j_sub (ls' := [(0, .ref 5000), (1, .int 0), (2, .int 0), (3, .int 0)]) ⟨rfl, rfl, rfl, rfl, trivial⟩ ?_
  refine s_X7_sent_L6 g _ _ _ _ _ _ e6 ?_
  refine j_iconst (v := 0) (pc' := 27) rfl rfl (by decide) ?_
  refine j_istore_n (pc' := 28) (ls' := [(3, _), (0, _), (1, _), (2, _)]) rfl rfl (Nat.le_of_ble_eq_true rfl) rfl ?_
  obtain ⟨r28, e28, hf⟩ := o_bind hf
  refine j_sub (ls' := [(0, .ref 5000), (1, .int r6), (2, .int 0), (3, .int 0)]) ⟨rfl, rfl, rfl, rfl, trivial⟩ ?_
  refine s_X7_sent_L28 g _ _ _ _ _ _ e28 ?_
  refine j_iload_n (pc' := 50) rfl rfl rfl ?_
  refine j_iload_n (pc' := 51) rfl rfl rfl ?_
  refine j_icmp_ge (tgt := 58) (pc' := 54) rfl rfl rfl (fun c51 => ?_) (fun c51 => ?_)
  · rw [if_pos c51] at hf
    refine j_iload_n (pc' := 59) rfl rfl rfl ?_
    have hf := Option.some.inj hf; subst hf
    exact j_iret rfl rfl (Nat.zero_le _) (Nat.zero_le _) ⟨rfl, rfl⟩
  · rw [if_neg c51] at hf
    refine j_iload_n (pc' := 55) rfl rfl rfl ?_
    refine j_goto (tgt := 59) rfl rfl ?_
    have hf := Option.some.inj hf; subst hf
    exact j_iret rfl rfl (Nat.zero_le _) (Nat.zero_le _) ⟨rfl, rfl⟩
end MODEL5
