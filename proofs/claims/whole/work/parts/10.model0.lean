section MODEL0
def rX7_in : Room := { frames := 0, cells := 0, slots := 0, locals := 0 }
def f_X7_in (x0 : Int32) (x1 : Int32) (x2 : Int32) : Option Int32 := if x0 < x1 then some 0 else if x2 < x0 then some 0 else some 1
set_option maxHeartbeats 4000000 in
set_option maxRecDepth 100000 in
theorem s_X7_in (h : hH) (x0 : Int32) (x1 : Int32) (x2 : Int32) (r : Int32) (hf : f_X7_in x0 x1 x2 = some r) : SpD mX7_in rX7_in [.int x0, .int x1, .int x2] h (some (.int r)) h := by
  refine sp_of miX7_in (Nat.le_of_ble_eq_true rfl) ?_
  show J _ _ _ 0 0 _ 0 [(0, .int x0), (1, .int x1), (2, .int x2)] []
  unfold f_X7_in at hf
  refine j_iload_n (pc' := 1) rfl rfl rfl ?_
  refine j_iload_n (pc' := 2) rfl rfl rfl ?_
  refine j_icmp_lt (tgt := 14) (pc' := 5) rfl rfl rfl (fun c2 => ?_) (fun c2 => ?_)
  · rw [if_pos c2] at hf
    refine j_iconst (v := 0) (pc' := 15) rfl rfl (by decide) ?_
    have hf := Option.some.inj hf; subst hf
    exact j_zret rfl rfl (by decide) (Nat.zero_le _) (Nat.zero_le _) ⟨rfl, rfl⟩
  · rw [if_neg c2] at hf
    refine j_iload_n (pc' := 6) rfl rfl rfl ?_
    refine j_iload_n (pc' := 7) rfl rfl rfl ?_
    refine j_icmp_gt (tgt := 14) (pc' := 10) rfl rfl rfl (fun c7 => ?_) (fun c7 => ?_)
    · rw [if_pos c7] at hf
      refine j_iconst (v := 0) (pc' := 15) rfl rfl (by decide) ?_
      have hf := Option.some.inj hf; subst hf
      exact j_zret rfl rfl (by decide) (Nat.zero_le _) (Nat.zero_le _) ⟨rfl, rfl⟩
    · rw [if_neg c7] at hf
      refine j_iconst (v := 1) (pc' := 11) rfl rfl (by decide) ?_
      refine j_goto (tgt := 15) rfl rfl ?_
      have hf := Option.some.inj hf; subst hf
      exact j_zret rfl rfl (by decide) (Nat.zero_le _) (Nat.zero_le _) ⟨rfl, rfl⟩
def rX7_isSort : Room := { frames := 1, cells := 0, slots := 0, locals := 22 }
def f_X7_isSort (μ : mS) (x1 : Int32) : Option Int32 := (f_X7_in x1 0 ((μ.1 1 0) - 1)).bind fun r8 => bif zb r8 then some r8 else none
set_option maxHeartbeats 4000000 in
set_option maxRecDepth 100000 in
theorem s_X7_isSort (g : hH) (μ : mS) (x1 : Int32) (r : Int32) (hf : f_X7_isSort μ x1 = some r) : SpD mX7_isSort rX7_isSort [.ref 5000, .int x1] (gm g μ) (some (.int r)) (gm g μ) := by
  refine sp_of miX7_isSort (Nat.le_of_ble_eq_true rfl) ?_
  show J _ _ _ 0 0 _ 0 [(0, .ref 5000), (1, .int x1)] []
  unfold f_X7_isSort at hf
  refine j_iload_n (pc' := 1) rfl rfl rfl ?_
  refine j_iconst (v := 0) (pc' := 2) rfl rfl (by decide) ?_
  refine j_aload_n (pc' := 3) rfl rfl rfl ?_
  refine j_get (pc' := 6) rfl rfl flX7_135 (gm_o g μ) (mF_1 μ) ?_
  refine j_iconst (v := 1) (pc' := 7) rfl rfl (by decide) ?_
  refine j_isub (pc' := 8) rfl rfl ?_
  obtain ⟨r8, e8, hf⟩ := o_bind hf
  refine j_s3 (pc' := 11) rfl rfl miX7_in lnX7_138 (s_X7_in (gm g μ) x1 0 ((μ.1 1 0) - 1) _ e8) (h_rm_of rfl) (Nat.le_of_ble_eq_true rfl) (c' := 0) (s' := 0) rfl rfl ?_
  obtain ⟨c11, hf⟩ := o_chk hf
  have hf := Option.some.inj hf; subst hf
  exact j_zret rfl rfl (zb_ok c11) (Nat.zero_le _) (Nat.zero_le _) ⟨rfl, rfl⟩
def rX7_isLot : Room := { frames := 1, cells := 0, slots := 0, locals := 22 }
def f_X7_isLot (μ : mS) (x1 : Int32) : Option Int32 := (f_X7_in x1 0 ((μ.1 7 0) - 1)).bind fun r8 => bif zb r8 then some r8 else none
set_option maxHeartbeats 4000000 in
set_option maxRecDepth 100000 in
theorem s_X7_isLot (g : hH) (μ : mS) (x1 : Int32) (r : Int32) (hf : f_X7_isLot μ x1 = some r) : SpD mX7_isLot rX7_isLot [.ref 5000, .int x1] (gm g μ) (some (.int r)) (gm g μ) := by
  refine sp_of miX7_isLot (Nat.le_of_ble_eq_true rfl) ?_
  show J _ _ _ 0 0 _ 0 [(0, .ref 5000), (1, .int x1)] []
  unfold f_X7_isLot at hf
  refine j_iload_n (pc' := 1) rfl rfl rfl ?_
  refine j_iconst (v := 0) (pc' := 2) rfl rfl (by decide) ?_
  refine j_aload_n (pc' := 3) rfl rfl rfl ?_
  refine j_get (pc' := 6) rfl rfl flX7_142 (gm_o g μ) (mF_7 μ) ?_
  refine j_iconst (v := 1) (pc' := 7) rfl rfl (by decide) ?_
  refine j_isub (pc' := 8) rfl rfl ?_
  obtain ⟨r8, e8, hf⟩ := o_bind hf
  refine j_s3 (pc' := 11) rfl rfl miX7_in lnX7_138 (s_X7_in (gm g μ) x1 0 ((μ.1 7 0) - 1) _ e8) (h_rm_of rfl) (Nat.le_of_ble_eq_true rfl) (c' := 0) (s' := 0) rfl rfl ?_
  obtain ⟨c11, hf⟩ := o_chk hf
  have hf := Option.some.inj hf; subst hf
  exact j_zret rfl rfl (zb_ok c11) (Nat.zero_le _) (Nat.zero_le _) ⟨rfl, rfl⟩
def rX7_isTown : Room := { frames := 1, cells := 0, slots := 0, locals := 22 }
def f_X7_isTown (x0 : Int32) : Option Int32 := (f_X7_in x0 0 5).bind fun r3 => bif zb r3 then some r3 else none
set_option maxHeartbeats 4000000 in
set_option maxRecDepth 100000 in
theorem s_X7_isTown (h : hH) (x0 : Int32) (r : Int32) (hf : f_X7_isTown x0 = some r) : SpD mX7_isTown rX7_isTown [.int x0] h (some (.int r)) h := by
  refine sp_of miX7_isTown (Nat.le_of_ble_eq_true rfl) ?_
  show J _ _ _ 0 0 _ 0 [(0, .int x0)] []
  unfold f_X7_isTown at hf
  refine j_iload_n (pc' := 1) rfl rfl rfl ?_
  refine j_iconst (v := 0) (pc' := 2) rfl rfl (by decide) ?_
  refine j_iconst (v := 5) (pc' := 3) rfl rfl (by decide) ?_
  obtain ⟨r3, e3, hf⟩ := o_bind hf
  refine j_s3 (pc' := 6) rfl rfl miX7_in lnX7_138 (s_X7_in h x0 0 5 _ e3) (h_rm_of rfl) (Nat.le_of_ble_eq_true rfl) (c' := 0) (s' := 0) rfl rfl ?_
  obtain ⟨c6, hf⟩ := o_chk hf
  have hf := Option.some.inj hf; subst hf
  exact j_zret rfl rfl (zb_ok c6) (Nat.zero_le _) (Nat.zero_le _) ⟨rfl, rfl⟩
def rX7_isMint : Room := { frames := 1, cells := 0, slots := 0, locals := 22 }
def f_X7_isMint (x0 : Int32) : Option Int32 := (f_X7_in x0 0 2).bind fun r3 => bif zb r3 then some r3 else none
set_option maxHeartbeats 4000000 in
set_option maxRecDepth 100000 in
theorem s_X7_isMint (h : hH) (x0 : Int32) (r : Int32) (hf : f_X7_isMint x0 = some r) : SpD mX7_isMint rX7_isMint [.int x0] h (some (.int r)) h := by
  refine sp_of miX7_isMint (Nat.le_of_ble_eq_true rfl) ?_
  show J _ _ _ 0 0 _ 0 [(0, .int x0)] []
  unfold f_X7_isMint at hf
  refine j_iload_n (pc' := 1) rfl rfl rfl ?_
  refine j_iconst (v := 0) (pc' := 2) rfl rfl (by decide) ?_
  refine j_iconst (v := 2) (pc' := 3) rfl rfl (by decide) ?_
  obtain ⟨r3, e3, hf⟩ := o_bind hf
  refine j_s3 (pc' := 6) rfl rfl miX7_in lnX7_138 (s_X7_in h x0 0 2 _ e3) (h_rm_of rfl) (Nat.le_of_ble_eq_true rfl) (c' := 0) (s' := 0) rfl rfl ?_
  obtain ⟨c6, hf⟩ := o_chk hf
  have hf := Option.some.inj hf; subst hf
  exact j_zret rfl rfl (zb_ok c6) (Nat.zero_le _) (Nat.zero_le _) ⟨rfl, rfl⟩
def rX7_isOrder : Room := { frames := 1, cells := 0, slots := 0, locals := 22 }
def f_X7_isOrder (μ : mS) (x1 : Int32) : Option Int32 := (f_X7_in x1 0 ((μ.1 21 0) - 1)).bind fun r8 => bif zb r8 then some r8 else none
set_option maxHeartbeats 4000000 in
set_option maxRecDepth 100000 in
theorem s_X7_isOrder (g : hH) (μ : mS) (x1 : Int32) (r : Int32) (hf : f_X7_isOrder μ x1 = some r) : SpD mX7_isOrder rX7_isOrder [.ref 5000, .int x1] (gm g μ) (some (.int r)) (gm g μ) := by
  refine sp_of miX7_isOrder (Nat.le_of_ble_eq_true rfl) ?_
  show J _ _ _ 0 0 _ 0 [(0, .ref 5000), (1, .int x1)] []
  unfold f_X7_isOrder at hf
  refine j_iload_n (pc' := 1) rfl rfl rfl ?_
  refine j_iconst (v := 0) (pc' := 2) rfl rfl (by decide) ?_
  refine j_aload_n (pc' := 3) rfl rfl rfl ?_
  refine j_get (pc' := 6) rfl rfl flX7_205 (gm_o g μ) (mF_21 μ) ?_
  refine j_iconst (v := 1) (pc' := 7) rfl rfl (by decide) ?_
  refine j_isub (pc' := 8) rfl rfl ?_
  obtain ⟨r8, e8, hf⟩ := o_bind hf
  refine j_s3 (pc' := 11) rfl rfl miX7_in lnX7_138 (s_X7_in (gm g μ) x1 0 ((μ.1 21 0) - 1) _ e8) (h_rm_of rfl) (Nat.le_of_ble_eq_true rfl) (c' := 0) (s' := 0) rfl rfl ?_
  obtain ⟨c11, hf⟩ := o_chk hf
  have hf := Option.some.inj hf; subst hf
  exact j_zret rfl rfl (zb_ok c11) (Nat.zero_le _) (Nat.zero_le _) ⟨rfl, rfl⟩
def rX7_isWeight : Room := { frames := 1, cells := 0, slots := 0, locals := 22 }
def f_X7_isWeight (μ : mS) (x1 : Int32) (x2 : Int32) (x3 : Int32) (x4 : Int32) : Option Int32 := if x1 = 3 then if x3 = 0 then (f_X7_in x4 1 100000).bind fun r14 => if r14 = 0 then some 0 else some 1 else some 0 else (f_X7_in x3 1 1000).bind fun r31 => if r31 = 0 then some 0 else if x1 = 4 then bif vin x2 8 then if x4 = (x3 * (μ.1 3 (x2).toNatClampNeg)) then some 1 else some 0 else none else if x1 = 1 then bif vin x2 8 then (f_X7_in x4 x3 (x3 * (μ.1 3 (x2).toNatClampNeg))).bind fun r95 => bif zb r95 then some r95 else none else none else if x1 = 5 then bif vin x2 8 then (f_X7_in x4 x3 (x3 * (μ.1 3 (x2).toNatClampNeg))).bind fun r95 => bif zb r95 then some r95 else none else none else bif vin x2 8 then bif vin x2 8 then (f_X7_in x4 (x3 * (μ.1 2 (x2).toNatClampNeg)) (x3 * (μ.1 3 (x2).toNatClampNeg))).bind fun r95 => bif zb r95 then some r95 else none else none else none
set_option maxHeartbeats 4000000 in
set_option maxRecDepth 100000 in
theorem s_X7_isWeight (g : hH) (μ : mS) (x1 : Int32) (x2 : Int32) (x3 : Int32) (x4 : Int32) (r : Int32) (hf : f_X7_isWeight μ x1 x2 x3 x4 = some r) : SpD mX7_isWeight rX7_isWeight [.ref 5000, .int x1, .int x2, .int x3, .int x4] (gm g μ) (some (.int r)) (gm g μ) := by
  refine sp_of miX7_isWeight (Nat.le_of_ble_eq_true rfl) ?_
  show J _ _ _ 0 0 _ 0 [(0, .ref 5000), (1, .int x1), (2, .int x2), (3, .int x3), (4, .int x4)] []
  unfold f_X7_isWeight at hf
  refine j_iload_n (pc' := 1) rfl rfl rfl ?_
  refine j_iconst (v := 3) (pc' := 2) rfl rfl (by decide) ?_
  refine j_icmp_ne (tgt := 26) (pc' := 5) rfl rfl rfl (fun c2 => ?_) (fun c2 => ?_)
  · rw [if_neg c2] at hf
    refine j_iload_n (pc' := 27) rfl rfl rfl ?_
    refine j_iconst (v := 1) (pc' := 28) rfl rfl (by decide) ?_
    refine j_sipush (v := 1000) (pc' := 31) rfl rfl (by decide) ?_
    obtain ⟨r31, e31, hf⟩ := o_bind hf
    refine j_s3 (pc' := 34) rfl rfl miX7_in lnX7_138 (s_X7_in (gm g μ) x3 1 1000 _ e31) (h_rm_of rfl) (Nat.le_of_ble_eq_true rfl) (c' := 0) (s' := 0) rfl rfl ?_
    refine j_if_ne (tgt := 39) (pc' := 37) rfl rfl rfl (fun c34 => ?_) (fun c34 => ?_)
    · rw [if_neg c34] at hf
      refine j_iload_n (pc' := 40) rfl rfl rfl ?_
      refine j_iconst (v := 4) (pc' := 41) rfl rfl (by decide) ?_
      refine j_icmp_ne (tgt := 63) (pc' := 44) rfl rfl rfl (fun c41 => ?_) (fun c41 => ?_)
      · rw [if_neg c41] at hf
        refine j_iload (pc' := 65) rfl rfl rfl ?_
        refine j_iload_n (pc' := 66) rfl rfl rfl ?_
        refine j_iconst (v := 1) (pc' := 67) rfl rfl (by decide) ?_
        refine j_icmp_eq (tgt := 75) (pc' := 70) rfl rfl rfl (fun c67 => ?_) (fun c67 => ?_)
        · rw [if_pos c67] at hf
          refine j_iload_n (pc' := 76) rfl rfl rfl ?_
          refine j_goto (tgt := 87) rfl rfl ?_
          refine j_iload_n (pc' := 88) rfl rfl rfl ?_
          refine j_aload_n (pc' := 89) rfl rfl rfl ?_
          refine j_get (pc' := 92) rfl rfl flX7_13 (gm_o g μ) (mF_3 μ) ?_
          refine j_iload_n (pc' := 93) rfl rfl rfl ?_
          obtain ⟨c93, hf⟩ := o_chk hf
          refine j_iald (pc' := 94) rfl rfl (gm_3 g μ) (vin_ok c93) ?_
          refine j_imul (pc' := 95) rfl rfl ?_
          obtain ⟨r95, e95, hf⟩ := o_bind hf
          refine j_s3 (pc' := 98) rfl rfl miX7_in lnX7_138 (s_X7_in (gm g μ) x4 x3 (x3 * (μ.1 3 (x2).toNatClampNeg)) _ e95) (h_rm_of rfl) (Nat.le_of_ble_eq_true rfl) (c' := 0) (s' := 0) rfl rfl ?_
          obtain ⟨c98, hf⟩ := o_chk hf
          have hf := Option.some.inj hf; subst hf
          exact j_zret rfl rfl (zb_ok c98) (Nat.zero_le _) (Nat.zero_le _) ⟨rfl, rfl⟩
        · rw [if_neg c67] at hf
          refine j_iload_n (pc' := 71) rfl rfl rfl ?_
          refine j_iconst (v := 5) (pc' := 72) rfl rfl (by decide) ?_
          refine j_icmp_ne (tgt := 79) (pc' := 75) rfl rfl rfl (fun c72 => ?_) (fun c72 => ?_)
          · rw [if_neg c72] at hf
            refine j_iload_n (pc' := 80) rfl rfl rfl ?_
            refine j_aload_n (pc' := 81) rfl rfl rfl ?_
            refine j_get (pc' := 84) rfl rfl flX7_7 (gm_o g μ) (mF_2 μ) ?_
            refine j_iload_n (pc' := 85) rfl rfl rfl ?_
            obtain ⟨c85, hf⟩ := o_chk hf
            refine j_iald (pc' := 86) rfl rfl (gm_2 g μ) (vin_ok c85) ?_
            refine j_imul (pc' := 87) rfl rfl ?_
            refine j_iload_n (pc' := 88) rfl rfl rfl ?_
            refine j_aload_n (pc' := 89) rfl rfl rfl ?_
            refine j_get (pc' := 92) rfl rfl flX7_13 (gm_o g μ) (mF_3 μ) ?_
            refine j_iload_n (pc' := 93) rfl rfl rfl ?_
            obtain ⟨c93, hf⟩ := o_chk hf
            refine j_iald (pc' := 94) rfl rfl (gm_3 g μ) (vin_ok c93) ?_
            refine j_imul (pc' := 95) rfl rfl ?_
            obtain ⟨r95, e95, hf⟩ := o_bind hf
            refine j_s3 (pc' := 98) rfl rfl miX7_in lnX7_138 (s_X7_in (gm g μ) x4 (x3 * (μ.1 2 (x2).toNatClampNeg)) (x3 * (μ.1 3 (x2).toNatClampNeg)) _ e95) (h_rm_of rfl) (Nat.le_of_ble_eq_true rfl) (c' := 0) (s' := 0) rfl rfl ?_
            obtain ⟨c98, hf⟩ := o_chk hf
            have hf := Option.some.inj hf; subst hf
            exact j_zret rfl rfl (zb_ok c98) (Nat.zero_le _) (Nat.zero_le _) ⟨rfl, rfl⟩
          · rw [if_pos c72] at hf
            refine j_iload_n (pc' := 76) rfl rfl rfl ?_
            refine j_goto (tgt := 87) rfl rfl ?_
            refine j_iload_n (pc' := 88) rfl rfl rfl ?_
            refine j_aload_n (pc' := 89) rfl rfl rfl ?_
            refine j_get (pc' := 92) rfl rfl flX7_13 (gm_o g μ) (mF_3 μ) ?_
            refine j_iload_n (pc' := 93) rfl rfl rfl ?_
            obtain ⟨c93, hf⟩ := o_chk hf
            refine j_iald (pc' := 94) rfl rfl (gm_3 g μ) (vin_ok c93) ?_
            refine j_imul (pc' := 95) rfl rfl ?_
            obtain ⟨r95, e95, hf⟩ := o_bind hf
            refine j_s3 (pc' := 98) rfl rfl miX7_in lnX7_138 (s_X7_in (gm g μ) x4 x3 (x3 * (μ.1 3 (x2).toNatClampNeg)) _ e95) (h_rm_of rfl) (Nat.le_of_ble_eq_true rfl) (c' := 0) (s' := 0) rfl rfl ?_
            obtain ⟨c98, hf⟩ := o_chk hf
            have hf := Option.some.inj hf; subst hf
            exact j_zret rfl rfl (zb_ok c98) (Nat.zero_le _) (Nat.zero_le _) ⟨rfl, rfl⟩
      · rw [if_pos c41] at hf
        refine j_iload (pc' := 46) rfl rfl rfl ?_
        refine j_iload_n (pc' := 47) rfl rfl rfl ?_
        refine j_aload_n (pc' := 48) rfl rfl rfl ?_
        refine j_get (pc' := 51) rfl rfl flX7_13 (gm_o g μ) (mF_3 μ) ?_
        refine j_iload_n (pc' := 52) rfl rfl rfl ?_
        obtain ⟨c52, hf⟩ := o_chk hf
        refine j_iald (pc' := 53) rfl rfl (gm_3 g μ) (vin_ok c52) ?_
        refine j_imul (pc' := 54) rfl rfl ?_
        refine j_icmp_ne (tgt := 61) (pc' := 57) rfl rfl rfl (fun c54 => ?_) (fun c54 => ?_)
        · rw [if_neg c54] at hf
          refine j_iconst (v := 0) (pc' := 62) rfl rfl (by decide) ?_
          have hf := Option.some.inj hf; subst hf
          exact j_zret rfl rfl (by decide) (Nat.zero_le _) (Nat.zero_le _) ⟨rfl, rfl⟩
        · rw [if_pos c54] at hf
          refine j_iconst (v := 1) (pc' := 58) rfl rfl (by decide) ?_
          refine j_goto (tgt := 62) rfl rfl ?_
          have hf := Option.some.inj hf; subst hf
          exact j_zret rfl rfl (by decide) (Nat.zero_le _) (Nat.zero_le _) ⟨rfl, rfl⟩
    · rw [if_pos c34] at hf
      refine j_iconst (v := 0) (pc' := 38) rfl rfl (by decide) ?_
      have hf := Option.some.inj hf; subst hf
      exact j_zret rfl rfl (by decide) (Nat.zero_le _) (Nat.zero_le _) ⟨rfl, rfl⟩
  · rw [if_pos c2] at hf
    refine j_iload_n (pc' := 6) rfl rfl rfl ?_
    refine j_if_ne (tgt := 24) (pc' := 9) rfl rfl rfl (fun c6 => ?_) (fun c6 => ?_)
    · rw [if_neg c6] at hf
      refine j_iconst (v := 0) (pc' := 25) rfl rfl (by decide) ?_
      have hf := Option.some.inj hf; subst hf
      exact j_zret rfl rfl (by decide) (Nat.zero_le _) (Nat.zero_le _) ⟨rfl, rfl⟩
    · rw [if_pos c6] at hf
      refine j_iload (pc' := 11) rfl rfl rfl ?_
      refine j_iconst (v := 1) (pc' := 12) rfl rfl (by decide) ?_
      refine j_ldc (pc' := 14) rfl rfl kcX7_100 ?_
      obtain ⟨r14, e14, hf⟩ := o_bind hf
      refine j_s3 (pc' := 17) rfl rfl miX7_in lnX7_138 (s_X7_in (gm g μ) x4 1 100000 _ e14) (h_rm_of rfl) (Nat.le_of_ble_eq_true rfl) (c' := 0) (s' := 0) rfl rfl ?_
      refine j_if_eq (tgt := 24) (pc' := 20) rfl rfl rfl (fun c17 => ?_) (fun c17 => ?_)
      · rw [if_pos c17] at hf
        refine j_iconst (v := 0) (pc' := 25) rfl rfl (by decide) ?_
        have hf := Option.some.inj hf; subst hf
        exact j_zret rfl rfl (by decide) (Nat.zero_le _) (Nat.zero_le _) ⟨rfl, rfl⟩
      · rw [if_neg c17] at hf
        refine j_iconst (v := 1) (pc' := 21) rfl rfl (by decide) ?_
        refine j_goto (tgt := 25) rfl rfl ?_
        have hf := Option.some.inj hf; subst hf
        exact j_zret rfl rfl (by decide) (Nat.zero_le _) (Nat.zero_le _) ⟨rfl, rfl⟩
def rX7_newLot : Room := { frames := 0, cells := 0, slots := 0, locals := 0 }
def f_X7_newLot (μ : mS) (x1 : Int32) (x2 : Int32) (x3 : Int32) (x4 : Int32) (x5 : Int32) (x6 : Int32) (x7 : Int32) : Option (Int32 × mS) := bif vin (μ.1 7 0) 30 then letm (seti μ 8 (va_up (μ.1 8) ((μ.1 7 0)).toNatClampNeg x1)) fun μ9 => bif vin (μ9.1 7 0) 30 then letm (seti μ9 9 (va_up (μ9.1 9) ((μ9.1 7 0)).toNatClampNeg x2)) fun μ19 => bif vin (μ19.1 7 0) 30 then letm (seti μ19 10 (va_up (μ19.1 10) ((μ19.1 7 0)).toNatClampNeg x3)) fun μ29 => bif vin (μ29.1 7 0) 30 then letm (seti μ29 11 (va_up (μ29.1 11) ((μ29.1 7 0)).toNatClampNeg x4)) fun μ40 => bif vin (μ40.1 7 0) 30 then letm (seti μ40 12 (va_up (μ40.1 12) ((μ40.1 7 0)).toNatClampNeg x5)) fun μ51 => bif vin (μ51.1 7 0) 30 then letm (seti μ51 13 (va_up (μ51.1 13) ((μ51.1 7 0)).toNatClampNeg x6)) fun μ62 => bif vin (μ62.1 7 0) 30 then letm (seti μ62 14 (va_up (μ62.1 14) ((μ62.1 7 0)).toNatClampNeg x7)) fun μ73 => bif vin (μ73.1 7 0) 30 then letm (seti μ73 15 (va_up (μ73.1 15) ((μ73.1 7 0)).toNatClampNeg (-1))) fun μ83 => letm (seti μ83 7 (fun _ => ((μ83.1 7 0) + 1))) fun μ91 => some (((μ91.1 7 0) - 1), μ91) else none else none else none else none else none else none else none else none
set_option maxHeartbeats 4000000 in
set_option maxRecDepth 100000 in
theorem s_X7_newLot (g : hH) (μ : mS) (x1 : Int32) (x2 : Int32) (x3 : Int32) (x4 : Int32) (x5 : Int32) (x6 : Int32) (x7 : Int32) (r : (Int32 × mS)) (hf : f_X7_newLot μ x1 x2 x3 x4 x5 x6 x7 = some r) : SpD mX7_newLot rX7_newLot [.ref 5000, .int x1, .int x2, .int x3, .int x4, .int x5, .int x6, .int x7] (gm g μ) (some (.int r.1)) (gm g r.2) := by
  refine sp_of miX7_newLot (Nat.le_of_ble_eq_true rfl) ?_
  show J _ _ _ 0 0 _ 0 [(0, .ref 5000), (1, .int x1), (2, .int x2), (3, .int x3), (4, .int x4), (5, .int x5), (6, .int x6), (7, .int x7)] []
  unfold f_X7_newLot at hf
  refine j_aload_n (pc' := 1) rfl rfl rfl ?_
  refine j_get (pc' := 4) rfl rfl flX7_22 (gm_o g μ) (mF_8 μ) ?_
  refine j_aload_n (pc' := 5) rfl rfl rfl ?_
  refine j_get (pc' := 8) rfl rfl flX7_142 (gm_o g μ) (mF_7 μ) ?_
  refine j_iload_n (pc' := 9) rfl rfl rfl ?_
  obtain ⟨c9, hf⟩ := o_chk hf
  obtain ⟨μ9, e9, hf⟩ := o_let hf
  refine j_iast (pc' := 10) rfl rfl (gm_8 g μ) (by decide) (vin_ok c9) ?_
  rw [gs_8]; rw [e9]
  refine j_aload_n (pc' := 11) rfl rfl rfl ?_
  refine j_get (pc' := 14) rfl rfl flX7_25 (gm_o g μ9) (mF_9 μ9) ?_
  refine j_aload_n (pc' := 15) rfl rfl rfl ?_
  refine j_get (pc' := 18) rfl rfl flX7_142 (gm_o g μ9) (mF_7 μ9) ?_
  refine j_iload_n (pc' := 19) rfl rfl rfl ?_
  obtain ⟨c19, hf⟩ := o_chk hf
  obtain ⟨μ19, e19, hf⟩ := o_let hf
  refine j_iast (pc' := 20) rfl rfl (gm_9 g μ9) (by decide) (vin_ok c19) ?_
  rw [gs_9]; rw [e19]
  refine j_aload_n (pc' := 21) rfl rfl rfl ?_
  refine j_get (pc' := 24) rfl rfl flX7_28 (gm_o g μ19) (mF_10 μ19) ?_
  refine j_aload_n (pc' := 25) rfl rfl rfl ?_
  refine j_get (pc' := 28) rfl rfl flX7_142 (gm_o g μ19) (mF_7 μ19) ?_
  refine j_iload_n (pc' := 29) rfl rfl rfl ?_
  obtain ⟨c29, hf⟩ := o_chk hf
  obtain ⟨μ29, e29, hf⟩ := o_let hf
  refine j_iast (pc' := 30) rfl rfl (gm_10 g μ19) (by decide) (vin_ok c29) ?_
  rw [gs_10]; rw [e29]
  refine j_aload_n (pc' := 31) rfl rfl rfl ?_
  refine j_get (pc' := 34) rfl rfl flX7_31 (gm_o g μ29) (mF_11 μ29) ?_
  refine j_aload_n (pc' := 35) rfl rfl rfl ?_
  refine j_get (pc' := 38) rfl rfl flX7_142 (gm_o g μ29) (mF_7 μ29) ?_
  refine j_iload (pc' := 40) rfl rfl rfl ?_
  obtain ⟨c40, hf⟩ := o_chk hf
  obtain ⟨μ40, e40, hf⟩ := o_let hf
  refine j_iast (pc' := 41) rfl rfl (gm_11 g μ29) (by decide) (vin_ok c40) ?_
  rw [gs_11]; rw [e40]
  refine j_aload_n (pc' := 42) rfl rfl rfl ?_
  refine j_get (pc' := 45) rfl rfl flX7_34 (gm_o g μ40) (mF_12 μ40) ?_
  refine j_aload_n (pc' := 46) rfl rfl rfl ?_
  refine j_get (pc' := 49) rfl rfl flX7_142 (gm_o g μ40) (mF_7 μ40) ?_
  refine j_iload (pc' := 51) rfl rfl rfl ?_
  obtain ⟨c51, hf⟩ := o_chk hf
  obtain ⟨μ51, e51, hf⟩ := o_let hf
  refine j_iast (pc' := 52) rfl rfl (gm_12 g μ40) (by decide) (vin_ok c51) ?_
  rw [gs_12]; rw [e51]
  refine j_aload_n (pc' := 53) rfl rfl rfl ?_
  refine j_get (pc' := 56) rfl rfl flX7_37 (gm_o g μ51) (mF_13 μ51) ?_
  refine j_aload_n (pc' := 57) rfl rfl rfl ?_
  refine j_get (pc' := 60) rfl rfl flX7_142 (gm_o g μ51) (mF_7 μ51) ?_
  refine j_iload (pc' := 62) rfl rfl rfl ?_
  obtain ⟨c62, hf⟩ := o_chk hf
  obtain ⟨μ62, e62, hf⟩ := o_let hf
  refine j_iast (pc' := 63) rfl rfl (gm_13 g μ51) (by decide) (vin_ok c62) ?_
  rw [gs_13]; rw [e62]
  refine j_aload_n (pc' := 64) rfl rfl rfl ?_
  refine j_get (pc' := 67) rfl rfl flX7_40 (gm_o g μ62) (mF_14 μ62) ?_
  refine j_aload_n (pc' := 68) rfl rfl rfl ?_
  refine j_get (pc' := 71) rfl rfl flX7_142 (gm_o g μ62) (mF_7 μ62) ?_
  refine j_iload (pc' := 73) rfl rfl rfl ?_
  obtain ⟨c73, hf⟩ := o_chk hf
  obtain ⟨μ73, e73, hf⟩ := o_let hf
  refine j_iast (pc' := 74) rfl rfl (gm_14 g μ62) (by decide) (vin_ok c73) ?_
  rw [gs_14]; rw [e73]
  refine j_aload_n (pc' := 75) rfl rfl rfl ?_
  refine j_get (pc' := 78) rfl rfl flX7_43 (gm_o g μ73) (mF_15 μ73) ?_
  refine j_aload_n (pc' := 79) rfl rfl rfl ?_
  refine j_get (pc' := 82) rfl rfl flX7_142 (gm_o g μ73) (mF_7 μ73) ?_
  refine j_iconst (v := (-1)) (pc' := 83) rfl rfl (by decide) ?_
  obtain ⟨c83, hf⟩ := o_chk hf
  obtain ⟨μ83, e83, hf⟩ := o_let hf
  refine j_iast (pc' := 84) rfl rfl (gm_15 g μ73) (by decide) (vin_ok c83) ?_
  rw [gs_15]; rw [e83]
  refine j_aload_n (pc' := 85) rfl rfl rfl ?_
  refine j_dup (pc' := 86) rfl rfl rfl ?_
  refine j_get (pc' := 89) rfl rfl flX7_142 (gm_o g μ83) (mF_7 μ83) ?_
  refine j_iconst (v := 1) (pc' := 90) rfl rfl (by decide) ?_
  refine j_iadd (pc' := 91) rfl rfl ?_
  obtain ⟨μ91, e91, hf⟩ := o_let hf
  refine j_put (pc' := 94) rfl rfl flX7_142 (gm_o g μ83) (by decide) (Nat.le_of_ble_eq_true rfl) rfl rfl ?_
  rw [gs_7]; rw [e91]
  refine j_aload_n (pc' := 95) rfl rfl rfl ?_
  refine j_get (pc' := 98) rfl rfl flX7_142 (gm_o g μ91) (mF_7 μ91) ?_
  refine j_iconst (v := 1) (pc' := 99) rfl rfl (by decide) ?_
  refine j_isub (pc' := 100) rfl rfl ?_
  have hf := Option.some.inj hf; subst hf
  exact j_iret rfl rfl (Nat.zero_le _) (Nat.zero_le _) ⟨rfl, rfl⟩
def rX7_fine : Room := { frames := 0, cells := 0, slots := 0, locals := 0 }
def f_X7_fine (μ : mS) (x1 : Int32) : Option Int32 := bif vin x1 30 then if (μ.1 8 (x1).toNatClampNeg) = 3 then bif vin x1 30 then some (μ.1 12 (x1).toNatClampNeg) else none else bif vin x1 30 then if (μ.1 8 (x1).toNatClampNeg) = 5 then bif vin x1 30 then some (μ.1 12 (x1).toNatClampNeg) else none else bif vin x1 30 then bif vin (μ.1 9 (x1).toNatClampNeg) 8 then some (μ.1 4 ((μ.1 9 (x1).toNatClampNeg)).toNatClampNeg) else none else none else none else none
set_option maxHeartbeats 4000000 in
set_option maxRecDepth 100000 in
theorem s_X7_fine (g : hH) (μ : mS) (x1 : Int32) (r : Int32) (hf : f_X7_fine μ x1 = some r) : SpD mX7_fine rX7_fine [.ref 5000, .int x1] (gm g μ) (some (.int r)) (gm g μ) := by
  refine sp_of miX7_fine (Nat.le_of_ble_eq_true rfl) ?_
  show J _ _ _ 0 0 _ 0 [(0, .ref 5000), (1, .int x1)] []
  unfold f_X7_fine at hf
  refine j_aload_n (pc' := 1) rfl rfl rfl ?_
  refine j_get (pc' := 4) rfl rfl flX7_22 (gm_o g μ) (mF_8 μ) ?_
  refine j_iload_n (pc' := 5) rfl rfl rfl ?_
  obtain ⟨c5, hf⟩ := o_chk hf
  refine j_iald (pc' := 6) rfl rfl (gm_8 g μ) (vin_ok c5) ?_
  refine j_iconst (v := 3) (pc' := 7) rfl rfl (by decide) ?_
  refine j_icmp_eq (tgt := 20) (pc' := 10) rfl rfl rfl (fun c7 => ?_) (fun c7 => ?_)
  · rw [if_pos c7] at hf
    refine j_aload_n (pc' := 21) rfl rfl rfl ?_
    refine j_get (pc' := 24) rfl rfl flX7_34 (gm_o g μ) (mF_12 μ) ?_
    refine j_iload_n (pc' := 25) rfl rfl rfl ?_
    obtain ⟨c25, hf⟩ := o_chk hf
    refine j_iald (pc' := 26) rfl rfl (gm_12 g μ) (vin_ok c25) ?_
    refine j_goto (tgt := 40) rfl rfl ?_
    have hf := Option.some.inj hf; subst hf
    exact j_iret rfl rfl (Nat.zero_le _) (Nat.zero_le _) ⟨rfl, rfl⟩
  · rw [if_neg c7] at hf
    refine j_aload_n (pc' := 11) rfl rfl rfl ?_
    refine j_get (pc' := 14) rfl rfl flX7_22 (gm_o g μ) (mF_8 μ) ?_
    refine j_iload_n (pc' := 15) rfl rfl rfl ?_
    obtain ⟨c15, hf⟩ := o_chk hf
    refine j_iald (pc' := 16) rfl rfl (gm_8 g μ) (vin_ok c15) ?_
    refine j_iconst (v := 5) (pc' := 17) rfl rfl (by decide) ?_
    refine j_icmp_ne (tgt := 29) (pc' := 20) rfl rfl rfl (fun c17 => ?_) (fun c17 => ?_)
    · rw [if_neg c17] at hf
      refine j_aload_n (pc' := 30) rfl rfl rfl ?_
      refine j_get (pc' := 33) rfl rfl flX7_16 (gm_o g μ) (mF_4 μ) ?_
      refine j_aload_n (pc' := 34) rfl rfl rfl ?_
      refine j_get (pc' := 37) rfl rfl flX7_25 (gm_o g μ) (mF_9 μ) ?_
      refine j_iload_n (pc' := 38) rfl rfl rfl ?_
      obtain ⟨c38, hf⟩ := o_chk hf
      refine j_iald (pc' := 39) rfl rfl (gm_9 g μ) (vin_ok c38) ?_
      obtain ⟨c39, hf⟩ := o_chk hf
      refine j_iald (pc' := 40) rfl rfl (gm_4 g μ) (vin_ok c39) ?_
      have hf := Option.some.inj hf; subst hf
      exact j_iret rfl rfl (Nat.zero_le _) (Nat.zero_le _) ⟨rfl, rfl⟩
    · rw [if_pos c17] at hf
      refine j_aload_n (pc' := 21) rfl rfl rfl ?_
      refine j_get (pc' := 24) rfl rfl flX7_34 (gm_o g μ) (mF_12 μ) ?_
      refine j_iload_n (pc' := 25) rfl rfl rfl ?_
      obtain ⟨c25, hf⟩ := o_chk hf
      refine j_iald (pc' := 26) rfl rfl (gm_12 g μ) (vin_ok c25) ?_
      refine j_goto (tgt := 40) rfl rfl ?_
      have hf := Option.some.inj hf; subst hf
      exact j_iret rfl rfl (Nat.zero_le _) (Nat.zero_le _) ⟨rfl, rfl⟩
def rX7_silverOf : Room := { frames := 1, cells := 0, slots := 0, locals := 21 }
def f_X7_silverOf (μ : mS) (x1 : Int32) : Option Int64 := bif vin x1 30 then (f_X7_fine μ x1).bind fun r9 => some (((μ.1 11 (x1).toNatClampNeg)).toInt64 * (r9).toInt64) else none
set_option maxHeartbeats 4000000 in
set_option maxRecDepth 100000 in
theorem s_X7_silverOf (g : hH) (μ : mS) (x1 : Int32) (r : Int64) (hf : f_X7_silverOf μ x1 = some r) : SpD mX7_silverOf rX7_silverOf [.ref 5000, .int x1] (gm g μ) (some (.long r)) (gm g μ) := by
  refine sp_of miX7_silverOf (Nat.le_of_ble_eq_true rfl) ?_
  show J _ _ _ 0 0 _ 0 [(0, .ref 5000), (1, .int x1)] []
  unfold f_X7_silverOf at hf
  refine j_aload_n (pc' := 1) rfl rfl rfl ?_
  refine j_get (pc' := 4) rfl rfl flX7_31 (gm_o g μ) (mF_11 μ) ?_
  refine j_iload_n (pc' := 5) rfl rfl rfl ?_
  obtain ⟨c5, hf⟩ := o_chk hf
  refine j_iald (pc' := 6) rfl rfl (gm_11 g μ) (vin_ok c5) ?_
  refine j_i2l (pc' := 7) rfl rfl ?_
  refine j_aload_n (pc' := 8) rfl rfl rfl ?_
  refine j_iload_n (pc' := 9) rfl rfl rfl ?_
  obtain ⟨r9, e9, hf⟩ := o_bind hf
  refine j_v1 (pc' := 12) rfl rfl miX7_fine lnX7_163 (gm_o g μ) rfl (s_X7_fine g μ x1 _ e9) (h_rm_of rfl) (Nat.le_of_ble_eq_true rfl) (c' := 0) (s' := 0) rfl rfl ?_
  refine j_i2l (pc' := 13) rfl rfl ?_
  refine j_lmul (pc' := 14) rfl rfl ?_
  have hf := Option.some.inj hf; subst hf
  exact j_lret rfl rfl (Nat.zero_le _) (Nat.zero_le _) ⟨rfl, rfl⟩
def rX7_isUnderWay : Room := { frames := 0, cells := 0, slots := 0, locals := 0 }
def f_X7_isUnderWay (μ : mS) (x1 : Int32) : Option Int32 := bif vin x1 30 then if (μ.1 15 (x1).toNatClampNeg) ≤ (μ.1 6 0) then some 0 else some 1 else none
set_option maxHeartbeats 4000000 in
set_option maxRecDepth 100000 in
theorem s_X7_isUnderWay (g : hH) (μ : mS) (x1 : Int32) (r : Int32) (hf : f_X7_isUnderWay μ x1 = some r) : SpD mX7_isUnderWay rX7_isUnderWay [.ref 5000, .int x1] (gm g μ) (some (.int r)) (gm g μ) := by
  refine sp_of miX7_isUnderWay (Nat.le_of_ble_eq_true rfl) ?_
  show J _ _ _ 0 0 _ 0 [(0, .ref 5000), (1, .int x1)] []
  unfold f_X7_isUnderWay at hf
  refine j_aload_n (pc' := 1) rfl rfl rfl ?_
  refine j_get (pc' := 4) rfl rfl flX7_43 (gm_o g μ) (mF_15 μ) ?_
  refine j_iload_n (pc' := 5) rfl rfl rfl ?_
  obtain ⟨c5, hf⟩ := o_chk hf
  refine j_iald (pc' := 6) rfl rfl (gm_15 g μ) (vin_ok c5) ?_
  refine j_aload_n (pc' := 7) rfl rfl rfl ?_
  refine j_get (pc' := 10) rfl rfl flX7_167 (gm_o g μ) (mF_6 μ) ?_
  refine j_icmp_le (tgt := 17) (pc' := 13) rfl rfl rfl (fun c10 => ?_) (fun c10 => ?_)
  · rw [if_pos c10] at hf
    refine j_iconst (v := 0) (pc' := 18) rfl rfl (by decide) ?_
    have hf := Option.some.inj hf; subst hf
    exact j_zret rfl rfl (by decide) (Nat.zero_le _) (Nat.zero_le _) ⟨rfl, rfl⟩
  · rw [if_neg c10] at hf
    refine j_iconst (v := 1) (pc' := 14) rfl rfl (by decide) ?_
    refine j_goto (tgt := 18) rfl rfl ?_
    have hf := Option.some.inj hf; subst hf
    exact j_zret rfl rfl (by decide) (Nat.zero_le _) (Nat.zero_le _) ⟨rfl, rfl⟩
def rX7_takes : Room := { frames := 0, cells := 0, slots := 0, locals := 0 }
def f_X7_takes (μ : mS) (x1 : Int32) : Option (Int32 × mS) := if (μ.1 26 0) = (μ.1 20 0) then some (0, μ) else bif vin (μ.1 26 0) 160 then if (μ.1 19 ((μ.1 26 0)).toNatClampNeg) = x1 then letm (seti μ 26 (fun _ => ((μ.1 26 0) + 1))) fun μ33 => some (1, μ33) else some (0, μ) else none
set_option maxHeartbeats 4000000 in
set_option maxRecDepth 100000 in
theorem s_X7_takes (g : hH) (μ : mS) (x1 : Int32) (r : (Int32 × mS)) (hf : f_X7_takes μ x1 = some r) : SpD mX7_takes rX7_takes [.ref 5000, .int x1] (gm g μ) (some (.int r.1)) (gm g r.2) := by
  refine sp_of miX7_takes (Nat.le_of_ble_eq_true rfl) ?_
  show J _ _ _ 0 0 _ 0 [(0, .ref 5000), (1, .int x1)] []
  unfold f_X7_takes at hf
  refine j_aload_n (pc' := 1) rfl rfl rfl ?_
  refine j_get (pc' := 4) rfl rfl flX7_182 (gm_o g μ) (mF_26 μ) ?_
  refine j_aload_n (pc' := 5) rfl rfl rfl ?_
  refine j_get (pc' := 8) rfl rfl flX7_179 (gm_o g μ) (mF_20 μ) ?_
  refine j_icmp_eq (tgt := 24) (pc' := 11) rfl rfl rfl (fun c8 => ?_) (fun c8 => ?_)
  · rw [if_pos c8] at hf
    refine j_iconst (v := 0) (pc' := 25) rfl rfl (by decide) ?_
    have hf := Option.some.inj hf; subst hf
    exact j_zret rfl rfl (by decide) (Nat.zero_le _) (Nat.zero_le _) ⟨rfl, rfl⟩
  · rw [if_neg c8] at hf
    refine j_aload_n (pc' := 12) rfl rfl rfl ?_
    refine j_get (pc' := 15) rfl rfl flX7_56 (gm_o g μ) (mF_19 μ) ?_
    refine j_aload_n (pc' := 16) rfl rfl rfl ?_
    refine j_get (pc' := 19) rfl rfl flX7_182 (gm_o g μ) (mF_26 μ) ?_
    obtain ⟨c19, hf⟩ := o_chk hf
    refine j_bald (pc' := 20) rfl rfl (gm_19 g μ) (vin_ok c19) ?_
    refine j_iload_n (pc' := 21) rfl rfl rfl ?_
    refine j_icmp_eq (tgt := 26) (pc' := 24) rfl rfl rfl (fun c21 => ?_) (fun c21 => ?_)
    · rw [if_pos c21] at hf
      refine j_aload_n (pc' := 27) rfl rfl rfl ?_
      refine j_dup (pc' := 28) rfl rfl rfl ?_
      refine j_get (pc' := 31) rfl rfl flX7_182 (gm_o g μ) (mF_26 μ) ?_
      refine j_iconst (v := 1) (pc' := 32) rfl rfl (by decide) ?_
      refine j_iadd (pc' := 33) rfl rfl ?_
      obtain ⟨μ33, e33, hf⟩ := o_let hf
      refine j_put (pc' := 36) rfl rfl flX7_182 (gm_o g μ) (by decide) (Nat.le_of_ble_eq_true rfl) rfl rfl ?_
      rw [gs_26]; rw [e33]
      refine j_iconst (v := 1) (pc' := 37) rfl rfl (by decide) ?_
      have hf := Option.some.inj hf; subst hf
      exact j_zret rfl rfl (by decide) (Nat.zero_le _) (Nat.zero_le _) ⟨rfl, rfl⟩
    · rw [if_neg c21] at hf
      refine j_iconst (v := 0) (pc' := 25) rfl rfl (by decide) ?_
      have hf := Option.some.inj hf; subst hf
      exact j_zret rfl rfl (by decide) (Nat.zero_le _) (Nat.zero_le _) ⟨rfl, rfl⟩
def rX7_digitAt : Room := { frames := 0, cells := 0, slots := 0, locals := 0 }
def f_X7_digitAt (μ : mS) (x1 : Int32) : Option Int32 := if (μ.1 20 0) ≤ (μ.1 26 0) then some 0 else bif vin (μ.1 26 0) 160 then if (μ.1 19 ((μ.1 26 0)).toNatClampNeg) < x1 then some 0 else bif vin (μ.1 26 0) 160 then if 57 < (μ.1 19 ((μ.1 26 0)).toNatClampNeg) then some 0 else some 1 else none else none
set_option maxHeartbeats 4000000 in
set_option maxRecDepth 100000 in
theorem s_X7_digitAt (g : hH) (μ : mS) (x1 : Int32) (r : Int32) (hf : f_X7_digitAt μ x1 = some r) : SpD mX7_digitAt rX7_digitAt [.ref 5000, .int x1] (gm g μ) (some (.int r)) (gm g μ) := by
  refine sp_of miX7_digitAt (Nat.le_of_ble_eq_true rfl) ?_
  show J _ _ _ 0 0 _ 0 [(0, .ref 5000), (1, .int x1)] []
  unfold f_X7_digitAt at hf
  refine j_aload_n (pc' := 1) rfl rfl rfl ?_
  refine j_get (pc' := 4) rfl rfl flX7_182 (gm_o g μ) (mF_26 μ) ?_
  refine j_aload_n (pc' := 5) rfl rfl rfl ?_
  refine j_get (pc' := 8) rfl rfl flX7_179 (gm_o g μ) (mF_20 μ) ?_
  refine j_icmp_ge (tgt := 42) (pc' := 11) rfl rfl rfl (fun c8 => ?_) (fun c8 => ?_)
  · rw [if_pos c8] at hf
    refine j_iconst (v := 0) (pc' := 43) rfl rfl (by decide) ?_
    have hf := Option.some.inj hf; subst hf
    exact j_zret rfl rfl (by decide) (Nat.zero_le _) (Nat.zero_le _) ⟨rfl, rfl⟩
  · rw [if_neg c8] at hf
    refine j_aload_n (pc' := 12) rfl rfl rfl ?_
    refine j_get (pc' := 15) rfl rfl flX7_56 (gm_o g μ) (mF_19 μ) ?_
    refine j_aload_n (pc' := 16) rfl rfl rfl ?_
    refine j_get (pc' := 19) rfl rfl flX7_182 (gm_o g μ) (mF_26 μ) ?_
    obtain ⟨c19, hf⟩ := o_chk hf
    refine j_bald (pc' := 20) rfl rfl (gm_19 g μ) (vin_ok c19) ?_
    refine j_iload_n (pc' := 21) rfl rfl rfl ?_
    refine j_icmp_lt (tgt := 42) (pc' := 24) rfl rfl rfl (fun c21 => ?_) (fun c21 => ?_)
    · rw [if_pos c21] at hf
      refine j_iconst (v := 0) (pc' := 43) rfl rfl (by decide) ?_
      have hf := Option.some.inj hf; subst hf
      exact j_zret rfl rfl (by decide) (Nat.zero_le _) (Nat.zero_le _) ⟨rfl, rfl⟩
    · rw [if_neg c21] at hf
      refine j_aload_n (pc' := 25) rfl rfl rfl ?_
      refine j_get (pc' := 28) rfl rfl flX7_56 (gm_o g μ) (mF_19 μ) ?_
      refine j_aload_n (pc' := 29) rfl rfl rfl ?_
      refine j_get (pc' := 32) rfl rfl flX7_182 (gm_o g μ) (mF_26 μ) ?_
      obtain ⟨c32, hf⟩ := o_chk hf
      refine j_bald (pc' := 33) rfl rfl (gm_19 g μ) (vin_ok c32) ?_
      refine j_bipush (v := 57) (pc' := 35) rfl rfl (by decide) ?_
      refine j_icmp_gt (tgt := 42) (pc' := 38) rfl rfl rfl (fun c35 => ?_) (fun c35 => ?_)
      · rw [if_pos c35] at hf
        refine j_iconst (v := 0) (pc' := 43) rfl rfl (by decide) ?_
        have hf := Option.some.inj hf; subst hf
        exact j_zret rfl rfl (by decide) (Nat.zero_le _) (Nat.zero_le _) ⟨rfl, rfl⟩
      · rw [if_neg c35] at hf
        refine j_iconst (v := 1) (pc' := 39) rfl rfl (by decide) ?_
        refine j_goto (tgt := 43) rfl rfl ?_
        have hf := Option.some.inj hf; subst hf
        exact j_zret rfl rfl (by decide) (Nat.zero_le _) (Nat.zero_le _) ⟨rfl, rfl⟩
def rX7_takesNumber : Room := { frames := 1, cells := 0, slots := 0, locals := 21 }
def f_X7_takesNumber_L17 : Nat → mS → Int32 → Int32 → Option (mS)
  | 0, _, _, _ => none
  | n + 1, μ, x1, x3 => if x1 ≤ x3 then some (μ) else (f_X7_digitAt μ 48).bind fun r25 => if r25 = 0 then some (μ) else bif vin (μ.1 26 0) 160 then letm (seti μ 27 (fun _ => (((10 * (μ.1 27 0)) + (μ.1 19 ((μ.1 26 0)).toNatClampNeg)) - 48))) fun μ52 => letm (seti μ52 26 (fun _ => ((μ52.1 26 0) + 1))) fun μ62 => f_X7_takesNumber_L17 n μ62 x1 (x3 + 1) else none
set_option maxHeartbeats 4000000 in
set_option maxRecDepth 100000 in
theorem s_X7_takesNumber_L17 {Q : Option Value → hH → Prop} (g : hH) : ∀ (n : Nat) (μ : mS) (x1 : Int32) (x3 : Int32) (r : mS), f_X7_takesNumber_L17 n μ x1 x3 = some r → (J mX7_takesNumber rX7_takesNumber Q 0 0 (gm g r) 71 [] []) → J mX7_takesNumber rX7_takesNumber Q 0 0 (gm g μ) 17 [(0, .ref 5000), (1, .int x1), (3, .int x3)] [] := by
  intro n
  induction n with
  | zero =>
    intro μ x1 x3 r hf
    cases hf
  | succ n ih =>
    intro μ x1 x3 r hf k0
    rw [f_X7_takesNumber_L17] at hf
    refine j_iload_n (pc' := 18) rfl rfl rfl ?_
    refine j_iload_n (pc' := 19) rfl rfl rfl ?_
    refine j_icmp_ge (tgt := 71) (pc' := 22) rfl rfl rfl (fun c19 => ?_) (fun c19 => ?_)
    · rw [if_pos c19] at hf
      have hf := Option.some.inj hf; subst hf
      exact j_sub (ls' := []) trivial (k0)
    · rw [if_neg c19] at hf
      refine j_aload_n (pc' := 23) rfl rfl rfl ?_
      refine j_bipush (v := 48) (pc' := 25) rfl rfl (by decide) ?_
      obtain ⟨r25, e25, hf⟩ := o_bind hf
      refine j_v1 (pc' := 28) rfl rfl miX7_digitAt lnX7_185 (gm_o g μ) rfl (s_X7_digitAt g μ 48 _ e25) (h_rm_of rfl) (Nat.le_of_ble_eq_true rfl) (c' := 0) (s' := 0) rfl rfl ?_
      refine j_if_eq (tgt := 71) (pc' := 31) rfl rfl rfl (fun c28 => ?_) (fun c28 => ?_)
      · rw [if_pos c28] at hf
        have hf := Option.some.inj hf; subst hf
        exact j_sub (ls' := []) trivial (k0)
      · rw [if_neg c28] at hf
        refine j_aload_n (pc' := 32) rfl rfl rfl ?_
        refine j_bipush (v := 10) (pc' := 34) rfl rfl (by decide) ?_
        refine j_aload_n (pc' := 35) rfl rfl rfl ?_
        refine j_get (pc' := 38) rfl rfl flX7_188 (gm_o g μ) (mF_27 μ) ?_
        refine j_imul (pc' := 39) rfl rfl ?_
        refine j_aload_n (pc' := 40) rfl rfl rfl ?_
        refine j_get (pc' := 43) rfl rfl flX7_56 (gm_o g μ) (mF_19 μ) ?_
        refine j_aload_n (pc' := 44) rfl rfl rfl ?_
        refine j_get (pc' := 47) rfl rfl flX7_182 (gm_o g μ) (mF_26 μ) ?_
        obtain ⟨c47, hf⟩ := o_chk hf
        refine j_bald (pc' := 48) rfl rfl (gm_19 g μ) (vin_ok c47) ?_
        refine j_iadd (pc' := 49) rfl rfl ?_
        refine j_bipush (v := 48) (pc' := 51) rfl rfl (by decide) ?_
        refine j_isub (pc' := 52) rfl rfl ?_
        obtain ⟨μ52, e52, hf⟩ := o_let hf
        refine j_put (pc' := 55) rfl rfl flX7_188 (gm_o g μ) (by decide) (Nat.le_of_ble_eq_true rfl) rfl rfl ?_
        rw [gs_27]; rw [e52]
        refine j_aload_n (pc' := 56) rfl rfl rfl ?_
        refine j_dup (pc' := 57) rfl rfl rfl ?_
        refine j_get (pc' := 60) rfl rfl flX7_182 (gm_o g μ52) (mF_26 μ52) ?_
        refine j_iconst (v := 1) (pc' := 61) rfl rfl (by decide) ?_
        refine j_iadd (pc' := 62) rfl rfl ?_
        obtain ⟨μ62, e62, hf⟩ := o_let hf
        refine j_put (pc' := 65) rfl rfl flX7_182 (gm_o g μ52) (by decide) (Nat.le_of_ble_eq_true rfl) rfl rfl ?_
        rw [gs_26]; rw [e62]
        refine j_iinc (pc' := 68) (d := 1) (ls' := [(3, _), (0, _), (1, _)]) rfl rfl rfl (by decide) (Nat.le_of_ble_eq_true rfl) rfl ?_
        refine j_goto (tgt := 17) rfl rfl ?_
        refine j_sub (ls' := [(0, .ref 5000), (1, .int _), (3, .int _)]) ⟨rfl, rfl, rfl, trivial⟩ ?_
        exact ih _ _ _ _ hf k0
def f_X7_takesNumber (μ : mS) (x1 : Int32) (x2 : Int32) : Option (Int32 × mS) := (f_X7_digitAt μ x2).bind fun r2 => if r2 = 0 then some (0, μ) else letm (seti μ 27 (fun _ => 0)) fun μ12 => (f_X7_takesNumber_L17 4000 μ12 x1 0).bind fun r17 => some (1, r17)
set_option maxHeartbeats 4000000 in
set_option maxRecDepth 100000 in
theorem s_X7_takesNumber (g : hH) (μ : mS) (x1 : Int32) (x2 : Int32) (r : (Int32 × mS)) (hf : f_X7_takesNumber μ x1 x2 = some r) : SpD mX7_takesNumber rX7_takesNumber [.ref 5000, .int x1, .int x2] (gm g μ) (some (.int r.1)) (gm g r.2) := by
  refine sp_of miX7_takesNumber (Nat.le_of_ble_eq_true rfl) ?_
  show J _ _ _ 0 0 _ 0 [(0, .ref 5000), (1, .int x1), (2, .int x2)] []
  unfold f_X7_takesNumber at hf
  refine j_aload_n (pc' := 1) rfl rfl rfl ?_
  refine j_iload_n (pc' := 2) rfl rfl rfl ?_
  obtain ⟨r2, e2, hf⟩ := o_bind hf
  refine j_v1 (pc' := 5) rfl rfl miX7_digitAt lnX7_185 (gm_o g μ) rfl (s_X7_digitAt g μ x2 _ e2) (h_rm_of rfl) (Nat.le_of_ble_eq_true rfl) (c' := 0) (s' := 0) rfl rfl ?_
  refine j_if_ne (tgt := 10) (pc' := 8) rfl rfl rfl (fun c5 => ?_) (fun c5 => ?_)
  · rw [if_neg c5] at hf
    refine j_aload_n (pc' := 11) rfl rfl rfl ?_
    refine j_iconst (v := 0) (pc' := 12) rfl rfl (by decide) ?_
    obtain ⟨μ12, e12, hf⟩ := o_let hf
    refine j_put (pc' := 15) rfl rfl flX7_188 (gm_o g μ) (by decide) (Nat.le_of_ble_eq_true rfl) rfl rfl ?_
    rw [gs_27]; rw [e12]
    refine j_iconst (v := 0) (pc' := 16) rfl rfl (by decide) ?_
    refine j_istore_n (pc' := 17) (ls' := [(3, _), (0, _), (1, _), (2, _)]) rfl rfl (Nat.le_of_ble_eq_true rfl) rfl ?_
    obtain ⟨r17, e17, hf⟩ := o_bind hf
    refine j_sub (ls' := [(0, .ref 5000), (1, .int x1), (3, .int 0)]) ⟨rfl, rfl, rfl, trivial⟩ ?_
    refine s_X7_takesNumber_L17 g _ _ _ _ _ e17 ?_
    refine j_iconst (v := 1) (pc' := 72) rfl rfl (by decide) ?_
    have hf := Option.some.inj hf; subst hf
    exact j_zret rfl rfl (by decide) (Nat.zero_le _) (Nat.zero_le _) ⟨rfl, rfl⟩
  · rw [if_pos c5] at hf
    refine j_iconst (v := 0) (pc' := 9) rfl rfl (by decide) ?_
    have hf := Option.some.inj hf; subst hf
    exact j_zret rfl rfl (by decide) (Nat.zero_le _) (Nat.zero_le _) ⟨rfl, rfl⟩
def rX7_takesIs : Room := { frames := 1, cells := 0, slots := 0, locals := 21 }
def f_X7_takesIs (μ : mS) : Option (Int32 × mS) := (f_X7_takes μ 32).bind fun r3 => if r3.1 = 0 then some (0, r3.2) else (f_X7_takes r3.2 105).bind fun r12 => if r12.1 = 0 then some (0, r12.2) else (f_X7_takes r12.2 115).bind fun r21 => if r21.1 = 0 then some (0, r21.2) else (f_X7_takes r21.2 32).bind fun r30 => if r30.1 = 0 then some (0, r30.2) else some (1, r30.2)
set_option maxHeartbeats 4000000 in
set_option maxRecDepth 100000 in
theorem s_X7_takesIs (g : hH) (μ : mS) (r : (Int32 × mS)) (hf : f_X7_takesIs μ = some r) : SpD mX7_takesIs rX7_takesIs [.ref 5000] (gm g μ) (some (.int r.1)) (gm g r.2) := by
  refine sp_of miX7_takesIs (Nat.le_of_ble_eq_true rfl) ?_
  show J _ _ _ 0 0 _ 0 [(0, .ref 5000)] []
  unfold f_X7_takesIs at hf
  refine j_aload_n (pc' := 1) rfl rfl rfl ?_
  refine j_bipush (v := 32) (pc' := 3) rfl rfl (by decide) ?_
  obtain ⟨r3, e3, hf⟩ := o_bind hf
  refine j_v1 (pc' := 6) rfl rfl miX7_takes lnX7_191 (gm_o g μ) rfl (s_X7_takes g μ 32 _ e3) (h_rm_of rfl) (Nat.le_of_ble_eq_true rfl) (c' := 0) (s' := 0) rfl rfl ?_
  refine j_if_eq (tgt := 40) (pc' := 9) rfl rfl rfl (fun c6 => ?_) (fun c6 => ?_)
  · rw [if_pos c6] at hf
    refine j_iconst (v := 0) (pc' := 41) rfl rfl (by decide) ?_
    have hf := Option.some.inj hf; subst hf
    exact j_zret rfl rfl (by decide) (Nat.zero_le _) (Nat.zero_le _) ⟨rfl, rfl⟩
  · rw [if_neg c6] at hf
    refine j_aload_n (pc' := 10) rfl rfl rfl ?_
    refine j_bipush (v := 105) (pc' := 12) rfl rfl (by decide) ?_
    obtain ⟨r12, e12, hf⟩ := o_bind hf
    refine j_v1 (pc' := 15) rfl rfl miX7_takes lnX7_191 (gm_o g r3.2) rfl (s_X7_takes g r3.2 105 _ e12) (h_rm_of rfl) (Nat.le_of_ble_eq_true rfl) (c' := 0) (s' := 0) rfl rfl ?_
    refine j_if_eq (tgt := 40) (pc' := 18) rfl rfl rfl (fun c15 => ?_) (fun c15 => ?_)
    · rw [if_pos c15] at hf
      refine j_iconst (v := 0) (pc' := 41) rfl rfl (by decide) ?_
      have hf := Option.some.inj hf; subst hf
      exact j_zret rfl rfl (by decide) (Nat.zero_le _) (Nat.zero_le _) ⟨rfl, rfl⟩
    · rw [if_neg c15] at hf
      refine j_aload_n (pc' := 19) rfl rfl rfl ?_
      refine j_bipush (v := 115) (pc' := 21) rfl rfl (by decide) ?_
      obtain ⟨r21, e21, hf⟩ := o_bind hf
      refine j_v1 (pc' := 24) rfl rfl miX7_takes lnX7_191 (gm_o g r12.2) rfl (s_X7_takes g r12.2 115 _ e21) (h_rm_of rfl) (Nat.le_of_ble_eq_true rfl) (c' := 0) (s' := 0) rfl rfl ?_
      refine j_if_eq (tgt := 40) (pc' := 27) rfl rfl rfl (fun c24 => ?_) (fun c24 => ?_)
      · rw [if_pos c24] at hf
        refine j_iconst (v := 0) (pc' := 41) rfl rfl (by decide) ?_
        have hf := Option.some.inj hf; subst hf
        exact j_zret rfl rfl (by decide) (Nat.zero_le _) (Nat.zero_le _) ⟨rfl, rfl⟩
      · rw [if_neg c24] at hf
        refine j_aload_n (pc' := 28) rfl rfl rfl ?_
        refine j_bipush (v := 32) (pc' := 30) rfl rfl (by decide) ?_
        obtain ⟨r30, e30, hf⟩ := o_bind hf
        refine j_v1 (pc' := 33) rfl rfl miX7_takes lnX7_191 (gm_o g r21.2) rfl (s_X7_takes g r21.2 32 _ e30) (h_rm_of rfl) (Nat.le_of_ble_eq_true rfl) (c' := 0) (s' := 0) rfl rfl ?_
        refine j_if_eq (tgt := 40) (pc' := 36) rfl rfl rfl (fun c33 => ?_) (fun c33 => ?_)
        · rw [if_pos c33] at hf
          refine j_iconst (v := 0) (pc' := 41) rfl rfl (by decide) ?_
          have hf := Option.some.inj hf; subst hf
          exact j_zret rfl rfl (by decide) (Nat.zero_le _) (Nat.zero_le _) ⟨rfl, rfl⟩
        · rw [if_neg c33] at hf
          refine j_iconst (v := 1) (pc' := 37) rfl rfl (by decide) ?_
          refine j_goto (tgt := 41) rfl rfl ?_
          have hf := Option.some.inj hf; subst hf
          exact j_zret rfl rfl (by decide) (Nat.zero_le _) (Nat.zero_le _) ⟨rfl, rfl⟩
def rX7_takesWeight : Room := { frames := 1, cells := 0, slots := 0, locals := 21 }
def f_X7_takesWeight (μ : mS) : Option (Int32 × mS) := (f_X7_takes μ 32).bind fun r3 => if r3.1 = 0 then some (0, r3.2) else (f_X7_takes r3.2 98).bind fun r12 => if r12.1 = 0 then some (0, r12.2) else (f_X7_takes r12.2 121).bind fun r21 => if r21.1 = 0 then some (0, r21.2) else (f_X7_takes r21.2 32).bind fun r30 => if r30.1 = 0 then some (0, r30.2) else (f_X7_takes r30.2 119).bind fun r39 => if r39.1 = 0 then some (0, r39.2) else (f_X7_takes r39.2 101).bind fun r48 => if r48.1 = 0 then some (0, r48.2) else (f_X7_takes r48.2 105).bind fun r57 => if r57.1 = 0 then some (0, r57.2) else (f_X7_takes r57.2 103).bind fun r66 => if r66.1 = 0 then some (0, r66.2) else (f_X7_takes r66.2 104).bind fun r75 => if r75.1 = 0 then some (0, r75.2) else (f_X7_takes r75.2 116).bind fun r84 => if r84.1 = 0 then some (0, r84.2) else (f_X7_takes r84.2 32).bind fun r93 => if r93.1 = 0 then some (0, r93.2) else some (1, r93.2)
set_option maxHeartbeats 4000000 in
set_option maxRecDepth 100000 in
theorem s_X7_takesWeight (g : hH) (μ : mS) (r : (Int32 × mS)) (hf : f_X7_takesWeight μ = some r) : SpD mX7_takesWeight rX7_takesWeight [.ref 5000] (gm g μ) (some (.int r.1)) (gm g r.2) := by
  refine sp_of miX7_takesWeight (Nat.le_of_ble_eq_true rfl) ?_
  show J _ _ _ 0 0 _ 0 [(0, .ref 5000)] []
  unfold f_X7_takesWeight at hf
  refine j_aload_n (pc' := 1) rfl rfl rfl ?_
  refine j_bipush (v := 32) (pc' := 3) rfl rfl (by decide) ?_
  obtain ⟨r3, e3, hf⟩ := o_bind hf
  refine j_v1 (pc' := 6) rfl rfl miX7_takes lnX7_191 (gm_o g μ) rfl (s_X7_takes g μ 32 _ e3) (h_rm_of rfl) (Nat.le_of_ble_eq_true rfl) (c' := 0) (s' := 0) rfl rfl ?_
  refine j_if_eq (tgt := 103) (pc' := 9) rfl rfl rfl (fun c6 => ?_) (fun c6 => ?_)
  · rw [if_pos c6] at hf
    refine j_iconst (v := 0) (pc' := 104) rfl rfl (by decide) ?_
    have hf := Option.some.inj hf; subst hf
    exact j_zret rfl rfl (by decide) (Nat.zero_le _) (Nat.zero_le _) ⟨rfl, rfl⟩
  · rw [if_neg c6] at hf
    refine j_aload_n (pc' := 10) rfl rfl rfl ?_
    refine j_bipush (v := 98) (pc' := 12) rfl rfl (by decide) ?_
    obtain ⟨r12, e12, hf⟩ := o_bind hf
    refine j_v1 (pc' := 15) rfl rfl miX7_takes lnX7_191 (gm_o g r3.2) rfl (s_X7_takes g r3.2 98 _ e12) (h_rm_of rfl) (Nat.le_of_ble_eq_true rfl) (c' := 0) (s' := 0) rfl rfl ?_
    refine j_if_eq (tgt := 103) (pc' := 18) rfl rfl rfl (fun c15 => ?_) (fun c15 => ?_)
    · rw [if_pos c15] at hf
      refine j_iconst (v := 0) (pc' := 104) rfl rfl (by decide) ?_
      have hf := Option.some.inj hf; subst hf
      exact j_zret rfl rfl (by decide) (Nat.zero_le _) (Nat.zero_le _) ⟨rfl, rfl⟩
    · rw [if_neg c15] at hf
      refine j_aload_n (pc' := 19) rfl rfl rfl ?_
      refine j_bipush (v := 121) (pc' := 21) rfl rfl (by decide) ?_
      obtain ⟨r21, e21, hf⟩ := o_bind hf
      refine j_v1 (pc' := 24) rfl rfl miX7_takes lnX7_191 (gm_o g r12.2) rfl (s_X7_takes g r12.2 121 _ e21) (h_rm_of rfl) (Nat.le_of_ble_eq_true rfl) (c' := 0) (s' := 0) rfl rfl ?_
      refine j_if_eq (tgt := 103) (pc' := 27) rfl rfl rfl (fun c24 => ?_) (fun c24 => ?_)
      · rw [if_pos c24] at hf
        refine j_iconst (v := 0) (pc' := 104) rfl rfl (by decide) ?_
        have hf := Option.some.inj hf; subst hf
        exact j_zret rfl rfl (by decide) (Nat.zero_le _) (Nat.zero_le _) ⟨rfl, rfl⟩
      · rw [if_neg c24] at hf
        refine j_aload_n (pc' := 28) rfl rfl rfl ?_
        refine j_bipush (v := 32) (pc' := 30) rfl rfl (by decide) ?_
        obtain ⟨r30, e30, hf⟩ := o_bind hf
        refine j_v1 (pc' := 33) rfl rfl miX7_takes lnX7_191 (gm_o g r21.2) rfl (s_X7_takes g r21.2 32 _ e30) (h_rm_of rfl) (Nat.le_of_ble_eq_true rfl) (c' := 0) (s' := 0) rfl rfl ?_
        refine j_if_eq (tgt := 103) (pc' := 36) rfl rfl rfl (fun c33 => ?_) (fun c33 => ?_)
        · rw [if_pos c33] at hf
          refine j_iconst (v := 0) (pc' := 104) rfl rfl (by decide) ?_
          have hf := Option.some.inj hf; subst hf
          exact j_zret rfl rfl (by decide) (Nat.zero_le _) (Nat.zero_le _) ⟨rfl, rfl⟩
        · rw [if_neg c33] at hf
          refine j_aload_n (pc' := 37) rfl rfl rfl ?_
          refine j_bipush (v := 119) (pc' := 39) rfl rfl (by decide) ?_
          obtain ⟨r39, e39, hf⟩ := o_bind hf
          refine j_v1 (pc' := 42) rfl rfl miX7_takes lnX7_191 (gm_o g r30.2) rfl (s_X7_takes g r30.2 119 _ e39) (h_rm_of rfl) (Nat.le_of_ble_eq_true rfl) (c' := 0) (s' := 0) rfl rfl ?_
          refine j_if_eq (tgt := 103) (pc' := 45) rfl rfl rfl (fun c42 => ?_) (fun c42 => ?_)
          · rw [if_pos c42] at hf
            refine j_iconst (v := 0) (pc' := 104) rfl rfl (by decide) ?_
            have hf := Option.some.inj hf; subst hf
            exact j_zret rfl rfl (by decide) (Nat.zero_le _) (Nat.zero_le _) ⟨rfl, rfl⟩
          · rw [if_neg c42] at hf
            refine j_aload_n (pc' := 46) rfl rfl rfl ?_
            refine j_bipush (v := 101) (pc' := 48) rfl rfl (by decide) ?_
            obtain ⟨r48, e48, hf⟩ := o_bind hf
            refine j_v1 (pc' := 51) rfl rfl miX7_takes lnX7_191 (gm_o g r39.2) rfl (s_X7_takes g r39.2 101 _ e48) (h_rm_of rfl) (Nat.le_of_ble_eq_true rfl) (c' := 0) (s' := 0) rfl rfl ?_
            refine j_if_eq (tgt := 103) (pc' := 54) rfl rfl rfl (fun c51 => ?_) (fun c51 => ?_)
            · rw [if_pos c51] at hf
              refine j_iconst (v := 0) (pc' := 104) rfl rfl (by decide) ?_
              have hf := Option.some.inj hf; subst hf
              exact j_zret rfl rfl (by decide) (Nat.zero_le _) (Nat.zero_le _) ⟨rfl, rfl⟩
            · rw [if_neg c51] at hf
              refine j_aload_n (pc' := 55) rfl rfl rfl ?_
              refine j_bipush (v := 105) (pc' := 57) rfl rfl (by decide) ?_
              obtain ⟨r57, e57, hf⟩ := o_bind hf
              refine j_v1 (pc' := 60) rfl rfl miX7_takes lnX7_191 (gm_o g r48.2) rfl (s_X7_takes g r48.2 105 _ e57) (h_rm_of rfl) (Nat.le_of_ble_eq_true rfl) (c' := 0) (s' := 0) rfl rfl ?_
              refine j_if_eq (tgt := 103) (pc' := 63) rfl rfl rfl (fun c60 => ?_) (fun c60 => ?_)
              · rw [if_pos c60] at hf
                refine j_iconst (v := 0) (pc' := 104) rfl rfl (by decide) ?_
                have hf := Option.some.inj hf; subst hf
                exact j_zret rfl rfl (by decide) (Nat.zero_le _) (Nat.zero_le _) ⟨rfl, rfl⟩
              · rw [if_neg c60] at hf
                refine j_aload_n (pc' := 64) rfl rfl rfl ?_
                refine j_bipush (v := 103) (pc' := 66) rfl rfl (by decide) ?_
                obtain ⟨r66, e66, hf⟩ := o_bind hf
                refine j_v1 (pc' := 69) rfl rfl miX7_takes lnX7_191 (gm_o g r57.2) rfl (s_X7_takes g r57.2 103 _ e66) (h_rm_of rfl) (Nat.le_of_ble_eq_true rfl) (c' := 0) (s' := 0) rfl rfl ?_
                refine j_if_eq (tgt := 103) (pc' := 72) rfl rfl rfl (fun c69 => ?_) (fun c69 => ?_)
                · rw [if_pos c69] at hf
                  refine j_iconst (v := 0) (pc' := 104) rfl rfl (by decide) ?_
                  have hf := Option.some.inj hf; subst hf
                  exact j_zret rfl rfl (by decide) (Nat.zero_le _) (Nat.zero_le _) ⟨rfl, rfl⟩
                · rw [if_neg c69] at hf
                  refine j_aload_n (pc' := 73) rfl rfl rfl ?_
                  refine j_bipush (v := 104) (pc' := 75) rfl rfl (by decide) ?_
                  obtain ⟨r75, e75, hf⟩ := o_bind hf
                  refine j_v1 (pc' := 78) rfl rfl miX7_takes lnX7_191 (gm_o g r66.2) rfl (s_X7_takes g r66.2 104 _ e75) (h_rm_of rfl) (Nat.le_of_ble_eq_true rfl) (c' := 0) (s' := 0) rfl rfl ?_
                  refine j_if_eq (tgt := 103) (pc' := 81) rfl rfl rfl (fun c78 => ?_) (fun c78 => ?_)
                  · rw [if_pos c78] at hf
                    refine j_iconst (v := 0) (pc' := 104) rfl rfl (by decide) ?_
                    have hf := Option.some.inj hf; subst hf
                    exact j_zret rfl rfl (by decide) (Nat.zero_le _) (Nat.zero_le _) ⟨rfl, rfl⟩
                  · rw [if_neg c78] at hf
                    refine j_aload_n (pc' := 82) rfl rfl rfl ?_
                    refine j_bipush (v := 116) (pc' := 84) rfl rfl (by decide) ?_
                    obtain ⟨r84, e84, hf⟩ := o_bind hf
                    refine j_v1 (pc' := 87) rfl rfl miX7_takes lnX7_191 (gm_o g r75.2) rfl (s_X7_takes g r75.2 116 _ e84) (h_rm_of rfl) (Nat.le_of_ble_eq_true rfl) (c' := 0) (s' := 0) rfl rfl ?_
                    refine j_if_eq (tgt := 103) (pc' := 90) rfl rfl rfl (fun c87 => ?_) (fun c87 => ?_)
                    · rw [if_pos c87] at hf
                      refine j_iconst (v := 0) (pc' := 104) rfl rfl (by decide) ?_
                      have hf := Option.some.inj hf; subst hf
                      exact j_zret rfl rfl (by decide) (Nat.zero_le _) (Nat.zero_le _) ⟨rfl, rfl⟩
                    · rw [if_neg c87] at hf
                      refine j_aload_n (pc' := 91) rfl rfl rfl ?_
                      refine j_bipush (v := 32) (pc' := 93) rfl rfl (by decide) ?_
                      obtain ⟨r93, e93, hf⟩ := o_bind hf
                      refine j_v1 (pc' := 96) rfl rfl miX7_takes lnX7_191 (gm_o g r84.2) rfl (s_X7_takes g r84.2 32 _ e93) (h_rm_of rfl) (Nat.le_of_ble_eq_true rfl) (c' := 0) (s' := 0) rfl rfl ?_
                      refine j_if_eq (tgt := 103) (pc' := 99) rfl rfl rfl (fun c96 => ?_) (fun c96 => ?_)
                      · rw [if_pos c96] at hf
                        refine j_iconst (v := 0) (pc' := 104) rfl rfl (by decide) ?_
                        have hf := Option.some.inj hf; subst hf
                        exact j_zret rfl rfl (by decide) (Nat.zero_le _) (Nat.zero_le _) ⟨rfl, rfl⟩
                      · rw [if_neg c96] at hf
                        refine j_iconst (v := 1) (pc' := 100) rfl rfl (by decide) ?_
                        refine j_goto (tgt := 104) rfl rfl ?_
                        have hf := Option.some.inj hf; subst hf
                        exact j_zret rfl rfl (by decide) (Nat.zero_le _) (Nat.zero_le _) ⟨rfl, rfl⟩
def rX7_clause : Room := { frames := 2, cells := 0, slots := 0, locals := 44 }
def f_X7_clause (μ : mS) (x1 : Int32) : Option (Int32 × mS) := if (μ.1 26 0) = (μ.1 20 0) then some (0, μ) else bif vin (μ.1 26 0) 160 then (f_X7_in (μ.1 19 ((μ.1 26 0)).toNatClampNeg) 48 55).bind fun r24 => if r24 = 0 then some (0, μ) else bif vin (μ.1 26 0) 160 then letm (((8 * x1) + (μ.1 19 ((μ.1 26 0)).toNatClampNeg)) - 48) fun y49 => bif vin y49 80 then if (μ.1 22 (y49).toNatClampNeg) = 0 then letm (seti μ 26 (fun _ => ((μ.1 26 0) + 1))) fun μ68 => (f_X7_takesIs μ68).bind fun r72 => if r72.1 = 0 then some (0, r72.2) else (f_X7_takes r72.2 111).bind fun r83 => if r83.1 = 0 then (f_X7_takesNumber r83.2 3 48).bind fun r124 => if r124.1 = 0 then some (0, r124.2) else bif vin y49 80 then letm (seti r124.2 22 (va_up (r124.2.1 22) (y49).toNatClampNeg 1)) fun μ138 => bif vin y49 80 then letm (seti μ138 23 (va_up (μ138.1 23) (y49).toNatClampNeg (μ138.1 27 0))) fun μ148 => if (μ148.1 26 0) = (μ148.1 20 0) then some (1, μ148) else bif vin (μ148.1 26 0) 160 then if (μ148.1 19 ((μ148.1 26 0)).toNatClampNeg) = 59 then some (1, μ148) else (f_X7_takesWeight μ148).bind fun r177 => if r177.1 = 0 then some (0, r177.2) else (f_X7_takesNumber r177.2 4 49).bind fun r187 => if r187.1 = 0 then some (0, r187.2) else bif vin y49 80 then letm (seti r187.2 22 (va_up (r187.2.1 22) (y49).toNatClampNeg 2)) fun μ201 => bif vin y49 80 then letm (seti μ201 24 (va_up (μ201.1 24) (y49).toNatClampNeg (μ201.1 27 0))) fun μ211 => some (1, μ211) else none else none else none else none else none else bif vin y49 80 then letm (seti r83.2 22 (va_up (r83.2.1 22) (y49).toNatClampNeg 3)) fun μ95 => (f_X7_takes μ95 117).bind fun r99 => if r99.1 = 0 then some (0, r99.2) else (f_X7_takes r99.2 116).bind fun r108 => if r108.1 = 0 then some (0, r108.2) else some (1, r108.2) else none else some (0, μ) else none else none else none
set_option maxHeartbeats 4000000 in
set_option maxRecDepth 100000 in
theorem s_X7_clause (g : hH) (μ : mS) (x1 : Int32) (r : (Int32 × mS)) (hf : f_X7_clause μ x1 = some r) : SpD mX7_clause rX7_clause [.ref 5000, .int x1] (gm g μ) (some (.int r.1)) (gm g r.2) := by
  refine sp_of miX7_clause (Nat.le_of_ble_eq_true rfl) ?_
  show J _ _ _ 0 0 _ 0 [(0, .ref 5000), (1, .int x1)] []
  unfold f_X7_clause at hf
  refine j_aload_n (pc' := 1) rfl rfl rfl ?_
  refine j_get (pc' := 4) rfl rfl flX7_182 (gm_o g μ) (mF_26 μ) ?_
  refine j_aload_n (pc' := 5) rfl rfl rfl ?_
  refine j_get (pc' := 8) rfl rfl flX7_179 (gm_o g μ) (mF_20 μ) ?_
  refine j_icmp_eq (tgt := 30) (pc' := 11) rfl rfl rfl (fun c8 => ?_) (fun c8 => ?_)
  · rw [if_pos c8] at hf
    refine j_iconst (v := 0) (pc' := 31) rfl rfl (by decide) ?_
    have hf := Option.some.inj hf; subst hf
    exact j_zret rfl rfl (by decide) (Nat.zero_le _) (Nat.zero_le _) ⟨rfl, rfl⟩
  · rw [if_neg c8] at hf
    refine j_aload_n (pc' := 12) rfl rfl rfl ?_
    refine j_get (pc' := 15) rfl rfl flX7_56 (gm_o g μ) (mF_19 μ) ?_
    refine j_aload_n (pc' := 16) rfl rfl rfl ?_
    refine j_get (pc' := 19) rfl rfl flX7_182 (gm_o g μ) (mF_26 μ) ?_
    obtain ⟨c19, hf⟩ := o_chk hf
    refine j_bald (pc' := 20) rfl rfl (gm_19 g μ) (vin_ok c19) ?_
    refine j_bipush (v := 48) (pc' := 22) rfl rfl (by decide) ?_
    refine j_bipush (v := 55) (pc' := 24) rfl rfl (by decide) ?_
    obtain ⟨r24, e24, hf⟩ := o_bind hf
    refine j_s3 (pc' := 27) rfl rfl miX7_in lnX7_138 (s_X7_in (gm g μ) (μ.1 19 ((μ.1 26 0)).toNatClampNeg) 48 55 _ e24) (h_rm_of rfl) (Nat.le_of_ble_eq_true rfl) (c' := 0) (s' := 0) rfl rfl ?_
    refine j_if_ne (tgt := 32) (pc' := 30) rfl rfl rfl (fun c27 => ?_) (fun c27 => ?_)
    · rw [if_neg c27] at hf
      refine j_bipush (v := 8) (pc' := 34) rfl rfl (by decide) ?_
      refine j_iload_n (pc' := 35) rfl rfl rfl ?_
      refine j_imul (pc' := 36) rfl rfl ?_
      refine j_aload_n (pc' := 37) rfl rfl rfl ?_
      refine j_get (pc' := 40) rfl rfl flX7_56 (gm_o g μ) (mF_19 μ) ?_
      refine j_aload_n (pc' := 41) rfl rfl rfl ?_
      refine j_get (pc' := 44) rfl rfl flX7_182 (gm_o g μ) (mF_26 μ) ?_
      obtain ⟨c44, hf⟩ := o_chk hf
      refine j_bald (pc' := 45) rfl rfl (gm_19 g μ) (vin_ok c44) ?_
      refine j_iadd (pc' := 46) rfl rfl ?_
      refine j_bipush (v := 48) (pc' := 48) rfl rfl (by decide) ?_
      refine j_isub (pc' := 49) rfl rfl ?_
      obtain ⟨y49, e49, hf⟩ := o_let hf
      rw [e49]
      refine j_istore_n (pc' := 50) (ls' := [(2, _), (0, _), (1, _)]) rfl rfl (Nat.le_of_ble_eq_true rfl) rfl ?_
      refine j_aload_n (pc' := 51) rfl rfl rfl ?_
      refine j_get (pc' := 54) rfl rfl flX7_60 (gm_o g μ) (mF_22 μ) ?_
      refine j_iload_n (pc' := 55) rfl rfl rfl ?_
      obtain ⟨c55, hf⟩ := o_chk hf
      refine j_iald (pc' := 56) rfl rfl (gm_22 g μ) (vin_ok c55) ?_
      refine j_if_eq (tgt := 61) (pc' := 59) rfl rfl rfl (fun c56 => ?_) (fun c56 => ?_)
      · rw [if_pos c56] at hf
        refine j_aload_n (pc' := 62) rfl rfl rfl ?_
        refine j_dup (pc' := 63) rfl rfl rfl ?_
        refine j_get (pc' := 66) rfl rfl flX7_182 (gm_o g μ) (mF_26 μ) ?_
        refine j_iconst (v := 1) (pc' := 67) rfl rfl (by decide) ?_
        refine j_iadd (pc' := 68) rfl rfl ?_
        obtain ⟨μ68, e68, hf⟩ := o_let hf
        refine j_put (pc' := 71) rfl rfl flX7_182 (gm_o g μ) (by decide) (Nat.le_of_ble_eq_true rfl) rfl rfl ?_
        rw [gs_26]; rw [e68]
        refine j_aload_n (pc' := 72) rfl rfl rfl ?_
        obtain ⟨r72, e72, hf⟩ := o_bind hf
        refine j_v0 (pc' := 75) rfl rfl miX7_takesIs lnX7_194 (gm_o g μ68) rfl (s_X7_takesIs g μ68 _ e72) (h_rm_of rfl) (Nat.le_of_ble_eq_true rfl) (c' := 0) (s' := 0) rfl rfl ?_
        refine j_if_ne (tgt := 80) (pc' := 78) rfl rfl rfl (fun c75 => ?_) (fun c75 => ?_)
        · rw [if_neg c75] at hf
          refine j_aload_n (pc' := 81) rfl rfl rfl ?_
          refine j_bipush (v := 111) (pc' := 83) rfl rfl (by decide) ?_
          obtain ⟨r83, e83, hf⟩ := o_bind hf
          refine j_v1 (pc' := 86) rfl rfl miX7_takes lnX7_191 (gm_o g r72.2) rfl (s_X7_takes g r72.2 111 _ e83) (h_rm_of rfl) (Nat.le_of_ble_eq_true rfl) (c' := 0) (s' := 0) rfl rfl ?_
          refine j_if_eq (tgt := 120) (pc' := 89) rfl rfl rfl (fun c86 => ?_) (fun c86 => ?_)
          · rw [if_pos c86] at hf
            refine j_aload_n (pc' := 121) rfl rfl rfl ?_
            refine j_iconst (v := 3) (pc' := 122) rfl rfl (by decide) ?_
            refine j_bipush (v := 48) (pc' := 124) rfl rfl (by decide) ?_
            obtain ⟨r124, e124, hf⟩ := o_bind hf
            refine j_v2 (pc' := 127) rfl rfl miX7_takesNumber lnX7_198 (gm_o g r83.2) rfl (s_X7_takesNumber g r83.2 3 48 _ e124) (h_rm_of rfl) (Nat.le_of_ble_eq_true rfl) (c' := 0) (s' := 0) rfl rfl ?_
            refine j_if_ne (tgt := 132) (pc' := 130) rfl rfl rfl (fun c127 => ?_) (fun c127 => ?_)
            · rw [if_neg c127] at hf
              refine j_aload_n (pc' := 133) rfl rfl rfl ?_
              refine j_get (pc' := 136) rfl rfl flX7_60 (gm_o g r124.2) (mF_22 r124.2) ?_
              refine j_iload_n (pc' := 137) rfl rfl rfl ?_
              refine j_iconst (v := 1) (pc' := 138) rfl rfl (by decide) ?_
              obtain ⟨c138, hf⟩ := o_chk hf
              obtain ⟨μ138, e138, hf⟩ := o_let hf
              refine j_iast (pc' := 139) rfl rfl (gm_22 g r124.2) (by decide) (vin_ok c138) ?_
              rw [gs_22]; rw [e138]
              refine j_aload_n (pc' := 140) rfl rfl rfl ?_
              refine j_get (pc' := 143) rfl rfl flX7_63 (gm_o g μ138) (mF_23 μ138) ?_
              refine j_iload_n (pc' := 144) rfl rfl rfl ?_
              refine j_aload_n (pc' := 145) rfl rfl rfl ?_
              refine j_get (pc' := 148) rfl rfl flX7_188 (gm_o g μ138) (mF_27 μ138) ?_
              obtain ⟨c148, hf⟩ := o_chk hf
              obtain ⟨μ148, e148, hf⟩ := o_let hf
              refine j_iast (pc' := 149) rfl rfl (gm_23 g μ138) (by decide) (vin_ok c148) ?_
              rw [gs_23]; rw [e148]
              refine j_aload_n (pc' := 150) rfl rfl rfl ?_
              refine j_get (pc' := 153) rfl rfl flX7_182 (gm_o g μ148) (mF_26 μ148) ?_
              refine j_aload_n (pc' := 154) rfl rfl rfl ?_
              refine j_get (pc' := 157) rfl rfl flX7_179 (gm_o g μ148) (mF_20 μ148) ?_
              refine j_icmp_eq (tgt := 174) (pc' := 160) rfl rfl rfl (fun c157 => ?_) (fun c157 => ?_)
              · rw [if_pos c157] at hf
                refine j_iconst (v := 1) (pc' := 175) rfl rfl (by decide) ?_
                have hf := Option.some.inj hf; subst hf
                exact j_zret rfl rfl (by decide) (Nat.zero_le _) (Nat.zero_le _) ⟨rfl, rfl⟩
              · rw [if_neg c157] at hf
                refine j_aload_n (pc' := 161) rfl rfl rfl ?_
                refine j_get (pc' := 164) rfl rfl flX7_56 (gm_o g μ148) (mF_19 μ148) ?_
                refine j_aload_n (pc' := 165) rfl rfl rfl ?_
                refine j_get (pc' := 168) rfl rfl flX7_182 (gm_o g μ148) (mF_26 μ148) ?_
                obtain ⟨c168, hf⟩ := o_chk hf
                refine j_bald (pc' := 169) rfl rfl (gm_19 g μ148) (vin_ok c168) ?_
                refine j_bipush (v := 59) (pc' := 171) rfl rfl (by decide) ?_
                refine j_icmp_ne (tgt := 176) (pc' := 174) rfl rfl rfl (fun c171 => ?_) (fun c171 => ?_)
                · rw [if_neg c171] at hf
                  refine j_aload_n (pc' := 177) rfl rfl rfl ?_
                  obtain ⟨r177, e177, hf⟩ := o_bind hf
                  refine j_v0 (pc' := 180) rfl rfl miX7_takesWeight lnX7_202 (gm_o g μ148) rfl (s_X7_takesWeight g μ148 _ e177) (h_rm_of rfl) (Nat.le_of_ble_eq_true rfl) (c' := 0) (s' := 0) rfl rfl ?_
                  refine j_if_eq (tgt := 193) (pc' := 183) rfl rfl rfl (fun c180 => ?_) (fun c180 => ?_)
                  · rw [if_pos c180] at hf
                    refine j_iconst (v := 0) (pc' := 194) rfl rfl (by decide) ?_
                    have hf := Option.some.inj hf; subst hf
                    exact j_zret rfl rfl (by decide) (Nat.zero_le _) (Nat.zero_le _) ⟨rfl, rfl⟩
                  · rw [if_neg c180] at hf
                    refine j_aload_n (pc' := 184) rfl rfl rfl ?_
                    refine j_iconst (v := 4) (pc' := 185) rfl rfl (by decide) ?_
                    refine j_bipush (v := 49) (pc' := 187) rfl rfl (by decide) ?_
                    obtain ⟨r187, e187, hf⟩ := o_bind hf
                    refine j_v2 (pc' := 190) rfl rfl miX7_takesNumber lnX7_198 (gm_o g r177.2) rfl (s_X7_takesNumber g r177.2 4 49 _ e187) (h_rm_of rfl) (Nat.le_of_ble_eq_true rfl) (c' := 0) (s' := 0) rfl rfl ?_
                    refine j_if_ne (tgt := 195) (pc' := 193) rfl rfl rfl (fun c190 => ?_) (fun c190 => ?_)
                    · rw [if_neg c190] at hf
                      refine j_aload_n (pc' := 196) rfl rfl rfl ?_
                      refine j_get (pc' := 199) rfl rfl flX7_60 (gm_o g r187.2) (mF_22 r187.2) ?_
                      refine j_iload_n (pc' := 200) rfl rfl rfl ?_
                      refine j_iconst (v := 2) (pc' := 201) rfl rfl (by decide) ?_
                      obtain ⟨c201, hf⟩ := o_chk hf
                      obtain ⟨μ201, e201, hf⟩ := o_let hf
                      refine j_iast (pc' := 202) rfl rfl (gm_22 g r187.2) (by decide) (vin_ok c201) ?_
                      rw [gs_22]; rw [e201]
                      refine j_aload_n (pc' := 203) rfl rfl rfl ?_
                      refine j_get (pc' := 206) rfl rfl flX7_66 (gm_o g μ201) (mF_24 μ201) ?_
                      refine j_iload_n (pc' := 207) rfl rfl rfl ?_
                      refine j_aload_n (pc' := 208) rfl rfl rfl ?_
                      refine j_get (pc' := 211) rfl rfl flX7_188 (gm_o g μ201) (mF_27 μ201) ?_
                      obtain ⟨c211, hf⟩ := o_chk hf
                      obtain ⟨μ211, e211, hf⟩ := o_let hf
                      refine j_iast (pc' := 212) rfl rfl (gm_24 g μ201) (by decide) (vin_ok c211) ?_
                      rw [gs_24]; rw [e211]
                      refine j_iconst (v := 1) (pc' := 213) rfl rfl (by decide) ?_
                      have hf := Option.some.inj hf; subst hf
                      exact j_zret rfl rfl (by decide) (Nat.zero_le _) (Nat.zero_le _) ⟨rfl, rfl⟩
                    · rw [if_pos c190] at hf
                      refine j_iconst (v := 0) (pc' := 194) rfl rfl (by decide) ?_
                      have hf := Option.some.inj hf; subst hf
                      exact j_zret rfl rfl (by decide) (Nat.zero_le _) (Nat.zero_le _) ⟨rfl, rfl⟩
                · rw [if_pos c171] at hf
                  refine j_iconst (v := 1) (pc' := 175) rfl rfl (by decide) ?_
                  have hf := Option.some.inj hf; subst hf
                  exact j_zret rfl rfl (by decide) (Nat.zero_le _) (Nat.zero_le _) ⟨rfl, rfl⟩
            · rw [if_pos c127] at hf
              refine j_iconst (v := 0) (pc' := 131) rfl rfl (by decide) ?_
              have hf := Option.some.inj hf; subst hf
              exact j_zret rfl rfl (by decide) (Nat.zero_le _) (Nat.zero_le _) ⟨rfl, rfl⟩
          · rw [if_neg c86] at hf
            refine j_aload_n (pc' := 90) rfl rfl rfl ?_
            refine j_get (pc' := 93) rfl rfl flX7_60 (gm_o g r83.2) (mF_22 r83.2) ?_
            refine j_iload_n (pc' := 94) rfl rfl rfl ?_
            refine j_iconst (v := 3) (pc' := 95) rfl rfl (by decide) ?_
            obtain ⟨c95, hf⟩ := o_chk hf
            obtain ⟨μ95, e95, hf⟩ := o_let hf
            refine j_iast (pc' := 96) rfl rfl (gm_22 g r83.2) (by decide) (vin_ok c95) ?_
            rw [gs_22]; rw [e95]
            refine j_aload_n (pc' := 97) rfl rfl rfl ?_
            refine j_bipush (v := 117) (pc' := 99) rfl rfl (by decide) ?_
            obtain ⟨r99, e99, hf⟩ := o_bind hf
            refine j_v1 (pc' := 102) rfl rfl miX7_takes lnX7_191 (gm_o g μ95) rfl (s_X7_takes g μ95 117 _ e99) (h_rm_of rfl) (Nat.le_of_ble_eq_true rfl) (c' := 0) (s' := 0) rfl rfl ?_
            refine j_if_eq (tgt := 118) (pc' := 105) rfl rfl rfl (fun c102 => ?_) (fun c102 => ?_)
            · rw [if_pos c102] at hf
              refine j_iconst (v := 0) (pc' := 119) rfl rfl (by decide) ?_
              have hf := Option.some.inj hf; subst hf
              exact j_zret rfl rfl (by decide) (Nat.zero_le _) (Nat.zero_le _) ⟨rfl, rfl⟩
            · rw [if_neg c102] at hf
              refine j_aload_n (pc' := 106) rfl rfl rfl ?_
              refine j_bipush (v := 116) (pc' := 108) rfl rfl (by decide) ?_
              obtain ⟨r108, e108, hf⟩ := o_bind hf
              refine j_v1 (pc' := 111) rfl rfl miX7_takes lnX7_191 (gm_o g r99.2) rfl (s_X7_takes g r99.2 116 _ e108) (h_rm_of rfl) (Nat.le_of_ble_eq_true rfl) (c' := 0) (s' := 0) rfl rfl ?_
              refine j_if_eq (tgt := 118) (pc' := 114) rfl rfl rfl (fun c111 => ?_) (fun c111 => ?_)
              · rw [if_pos c111] at hf
                refine j_iconst (v := 0) (pc' := 119) rfl rfl (by decide) ?_
                have hf := Option.some.inj hf; subst hf
                exact j_zret rfl rfl (by decide) (Nat.zero_le _) (Nat.zero_le _) ⟨rfl, rfl⟩
              · rw [if_neg c111] at hf
                refine j_iconst (v := 1) (pc' := 115) rfl rfl (by decide) ?_
                refine j_goto (tgt := 119) rfl rfl ?_
                have hf := Option.some.inj hf; subst hf
                exact j_zret rfl rfl (by decide) (Nat.zero_le _) (Nat.zero_le _) ⟨rfl, rfl⟩
        · rw [if_pos c75] at hf
          refine j_iconst (v := 0) (pc' := 79) rfl rfl (by decide) ?_
          have hf := Option.some.inj hf; subst hf
          exact j_zret rfl rfl (by decide) (Nat.zero_le _) (Nat.zero_le _) ⟨rfl, rfl⟩
      · rw [if_neg c56] at hf
        refine j_iconst (v := 0) (pc' := 60) rfl rfl (by decide) ?_
        have hf := Option.some.inj hf; subst hf
        exact j_zret rfl rfl (by decide) (Nat.zero_le _) (Nat.zero_le _) ⟨rfl, rfl⟩
    · rw [if_pos c27] at hf
      refine j_iconst (v := 0) (pc' := 31) rfl rfl (by decide) ?_
      have hf := Option.some.inj hf; subst hf
      exact j_zret rfl rfl (by decide) (Nat.zero_le _) (Nat.zero_le _) ⟨rfl, rfl⟩
end MODEL0
