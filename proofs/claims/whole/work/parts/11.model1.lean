section MODEL1
def rX7_forceIn : Room := { frames := 0, cells := 0, slots := 0, locals := 0 }
def f_X7_forceIn_L5 : Nat → mS → Int32 → Int32 → Int32 → Int32 → Option (Int32)
  | 0, _, _, _, _, _ => none
  | n + 1, μ, x1, x2, x3, x4 => if (μ.1 21 0) ≤ x4 then some (x3) else bif vin ((6 * x4) + x1) 60 then letm (μ.1 25 (((6 * x4) + x1)).toNatClampNeg) fun y26 => if y26 ≤ 0 then f_X7_forceIn_L5 n μ x1 x2 x3 (x4 + 1) else if x2 < (y26 - 1) then f_X7_forceIn_L5 n μ x1 x2 x3 (x4 + 1) else if x3 < 0 then f_X7_forceIn_L5 n μ x1 x2 x4 (x4 + 1) else bif vin ((6 * x3) + x1) 60 then if y26 < (μ.1 25 (((6 * x3) + x1)).toNatClampNeg) then f_X7_forceIn_L5 n μ x1 x2 x3 (x4 + 1) else f_X7_forceIn_L5 n μ x1 x2 x4 (x4 + 1) else none else none
set_option maxHeartbeats 4000000 in
set_option maxRecDepth 100000 in
theorem s_X7_forceIn_L5 {Q : Option Value → hH → Prop} (g : hH) : ∀ (n : Nat) (μ : mS) (x1 : Int32) (x2 : Int32) (x3 : Int32) (x4 : Int32) (r : Int32), f_X7_forceIn_L5 n μ x1 x2 x3 x4 = some r → (J mX7_forceIn rX7_forceIn Q 0 0 (gm g μ) 70 [(3, .int r)] []) → J mX7_forceIn rX7_forceIn Q 0 0 (gm g μ) 5 [(0, .ref 5000), (1, .int x1), (2, .int x2), (3, .int x3), (4, .int x4)] [] := by
  intro n
  induction n with
  | zero =>
    intro μ x1 x2 x3 x4 r hf
    cases hf
  | succ n ih =>
    intro μ x1 x2 x3 x4 r hf k0
    rw [f_X7_forceIn_L5] at hf
    refine j_iload (pc' := 7) rfl rfl rfl ?_
    refine j_aload_n (pc' := 8) rfl rfl rfl ?_
    refine j_get (pc' := 11) rfl rfl flX7_205 (gm_o g μ) (mF_21 μ) ?_
    refine j_icmp_ge (tgt := 70) (pc' := 14) rfl rfl rfl (fun c11 => ?_) (fun c11 => ?_)
    · rw [if_pos c11] at hf
      have hf := Option.some.inj hf; subst hf
      exact j_sub (ls' := [(3, .int _)]) ⟨rfl, trivial⟩ (k0)
    · rw [if_neg c11] at hf
      refine j_aload_n (pc' := 15) rfl rfl rfl ?_
      refine j_get (pc' := 18) rfl rfl flX7_69 (gm_o g μ) (mF_25 μ) ?_
      refine j_bipush (v := 6) (pc' := 20) rfl rfl (by decide) ?_
      refine j_iload (pc' := 22) rfl rfl rfl ?_
      refine j_imul (pc' := 23) rfl rfl ?_
      refine j_iload_n (pc' := 24) rfl rfl rfl ?_
      refine j_iadd (pc' := 25) rfl rfl ?_
      obtain ⟨c25, hf⟩ := o_chk hf
      refine j_iald (pc' := 26) rfl rfl (gm_25 g μ) (vin_ok c25) ?_
      obtain ⟨y26, e26, hf⟩ := o_let hf
      rw [e26]
      refine j_istore (pc' := 28) (ls' := [(5, _), (0, _), (1, _), (2, _), (3, _), (4, _)]) rfl rfl (Nat.le_of_ble_eq_true rfl) rfl ?_
      refine j_iload (pc' := 30) rfl rfl rfl ?_
      refine j_if_le (tgt := 64) (pc' := 33) rfl rfl rfl (fun c30 => ?_) (fun c30 => ?_)
      · rw [if_pos c30] at hf
        refine j_iinc (pc' := 67) (d := 1) (ls' := [(4, _), (5, _), (0, _), (1, _), (2, _), (3, _)]) rfl rfl rfl (by decide) (Nat.le_of_ble_eq_true rfl) rfl ?_
        refine j_goto (tgt := 5) rfl rfl ?_
        refine j_sub (ls' := [(0, .ref 5000), (1, .int _), (2, .int _), (3, .int _), (4, .int _)]) ⟨rfl, rfl, rfl, rfl, rfl, trivial⟩ ?_
        exact ih _ _ _ _ _ _ hf k0
      · rw [if_neg c30] at hf
        refine j_iload (pc' := 35) rfl rfl rfl ?_
        refine j_iconst (v := 1) (pc' := 36) rfl rfl (by decide) ?_
        refine j_isub (pc' := 37) rfl rfl ?_
        refine j_iload_n (pc' := 38) rfl rfl rfl ?_
        refine j_icmp_gt (tgt := 64) (pc' := 41) rfl rfl rfl (fun c38 => ?_) (fun c38 => ?_)
        · rw [if_pos c38] at hf
          refine j_iinc (pc' := 67) (d := 1) (ls' := [(4, _), (5, _), (0, _), (1, _), (2, _), (3, _)]) rfl rfl rfl (by decide) (Nat.le_of_ble_eq_true rfl) rfl ?_
          refine j_goto (tgt := 5) rfl rfl ?_
          refine j_sub (ls' := [(0, .ref 5000), (1, .int _), (2, .int _), (3, .int _), (4, .int _)]) ⟨rfl, rfl, rfl, rfl, rfl, trivial⟩ ?_
          exact ih _ _ _ _ _ _ hf k0
        · rw [if_neg c38] at hf
          refine j_iload_n (pc' := 42) rfl rfl rfl ?_
          refine j_if_lt (tgt := 61) (pc' := 45) rfl rfl rfl (fun c42 => ?_) (fun c42 => ?_)
          · rw [if_pos c42] at hf
            refine j_iload (pc' := 63) rfl rfl rfl ?_
            refine j_istore_n (pc' := 64) (ls' := [(3, _), (5, _), (0, _), (1, _), (2, _), (4, _)]) rfl rfl (Nat.le_of_ble_eq_true rfl) rfl ?_
            refine j_iinc (pc' := 67) (d := 1) (ls' := [(4, _), (3, _), (5, _), (0, _), (1, _), (2, _)]) rfl rfl rfl (by decide) (Nat.le_of_ble_eq_true rfl) rfl ?_
            refine j_goto (tgt := 5) rfl rfl ?_
            refine j_sub (ls' := [(0, .ref 5000), (1, .int _), (2, .int _), (3, .int _), (4, .int _)]) ⟨rfl, rfl, rfl, rfl, rfl, trivial⟩ ?_
            exact ih _ _ _ _ _ _ hf k0
          · rw [if_neg c42] at hf
            refine j_iload (pc' := 47) rfl rfl rfl ?_
            refine j_aload_n (pc' := 48) rfl rfl rfl ?_
            refine j_get (pc' := 51) rfl rfl flX7_69 (gm_o g μ) (mF_25 μ) ?_
            refine j_bipush (v := 6) (pc' := 53) rfl rfl (by decide) ?_
            refine j_iload_n (pc' := 54) rfl rfl rfl ?_
            refine j_imul (pc' := 55) rfl rfl ?_
            refine j_iload_n (pc' := 56) rfl rfl rfl ?_
            refine j_iadd (pc' := 57) rfl rfl ?_
            obtain ⟨c57, hf⟩ := o_chk hf
            refine j_iald (pc' := 58) rfl rfl (gm_25 g μ) (vin_ok c57) ?_
            refine j_icmp_lt (tgt := 64) (pc' := 61) rfl rfl rfl (fun c58 => ?_) (fun c58 => ?_)
            · rw [if_pos c58] at hf
              refine j_iinc (pc' := 67) (d := 1) (ls' := [(4, _), (5, _), (0, _), (1, _), (2, _), (3, _)]) rfl rfl rfl (by decide) (Nat.le_of_ble_eq_true rfl) rfl ?_
              refine j_goto (tgt := 5) rfl rfl ?_
              refine j_sub (ls' := [(0, .ref 5000), (1, .int _), (2, .int _), (3, .int _), (4, .int _)]) ⟨rfl, rfl, rfl, rfl, rfl, trivial⟩ ?_
              exact ih _ _ _ _ _ _ hf k0
            · rw [if_neg c58] at hf
              refine j_iload (pc' := 63) rfl rfl rfl ?_
              refine j_istore_n (pc' := 64) (ls' := [(3, _), (5, _), (0, _), (1, _), (2, _), (4, _)]) rfl rfl (Nat.le_of_ble_eq_true rfl) rfl ?_
              refine j_iinc (pc' := 67) (d := 1) (ls' := [(4, _), (3, _), (5, _), (0, _), (1, _), (2, _)]) rfl rfl rfl (by decide) (Nat.le_of_ble_eq_true rfl) rfl ?_
              refine j_goto (tgt := 5) rfl rfl ?_
              refine j_sub (ls' := [(0, .ref 5000), (1, .int _), (2, .int _), (3, .int _), (4, .int _)]) ⟨rfl, rfl, rfl, rfl, rfl, trivial⟩ ?_
              exact ih _ _ _ _ _ _ hf k0
def f_X7_forceIn (μ : mS) (x1 : Int32) (x2 : Int32) : Option Int32 := (f_X7_forceIn_L5 4000 μ x1 x2 (-1) 0).bind fun r5 => some r5
set_option maxHeartbeats 4000000 in
set_option maxRecDepth 100000 in
theorem s_X7_forceIn (g : hH) (μ : mS) (x1 : Int32) (x2 : Int32) (r : Int32) (hf : f_X7_forceIn μ x1 x2 = some r) : SpD mX7_forceIn rX7_forceIn [.ref 5000, .int x1, .int x2] (gm g μ) (some (.int r)) (gm g μ) := by
  refine sp_of miX7_forceIn (Nat.le_of_ble_eq_true rfl) ?_
  show J _ _ _ 0 0 _ 0 [(0, .ref 5000), (1, .int x1), (2, .int x2)] []
  unfold f_X7_forceIn at hf
  refine j_iconst (v := (-1)) (pc' := 1) rfl rfl (by decide) ?_
  refine j_istore_n (pc' := 2) (ls' := [(3, _), (0, _), (1, _), (2, _)]) rfl rfl (Nat.le_of_ble_eq_true rfl) rfl ?_
  refine j_iconst (v := 0) (pc' := 3) rfl rfl (by decide) ?_
  refine j_istore (pc' := 5) (ls' := [(4, _), (3, _), (0, _), (1, _), (2, _)]) rfl rfl (Nat.le_of_ble_eq_true rfl) rfl ?_
  obtain ⟨r5, e5, hf⟩ := o_bind hf
  refine j_sub (ls' := [(0, .ref 5000), (1, .int x1), (2, .int x2), (3, .int (-1)), (4, .int 0)]) ⟨rfl, rfl, rfl, rfl, rfl, trivial⟩ ?_
  refine s_X7_forceIn_L5 g _ _ _ _ _ _ _ e5 ?_
  refine j_iload_n (pc' := 71) rfl rfl rfl ?_
  have hf := Option.some.inj hf; subst hf
  exact j_iret rfl rfl (Nat.zero_le _) (Nat.zero_le _) ⟨rfl, rfl⟩
def rX7_passes : Room := { frames := 1, cells := 0, slots := 0, locals := 25 }
def f_X7_passes (μ : mS) (x1 : Int32) (x2 : Int32) (x3 : Int32) : Option Int32 := bif vin x1 30 then if (μ.1 8 (x1).toNatClampNeg) = 3 then some 0 else bif vin x1 30 then if (μ.1 18 (x1).toNatClampNeg) = 0 then bif vin x1 30 then if (μ.1 17 (x1).toNatClampNeg) = 0 then (f_X7_forceIn μ x2 x3).bind fun r43 => bif vin x1 30 then letm ((8 * r43) + (μ.1 9 (x1).toNatClampNeg)) fun y60 => if r43 < 0 then bif vin x1 30 then bif vin (μ.1 9 (x1).toNatClampNeg) 8 then bif vin x1 30 then some ((μ.1 5 ((μ.1 9 (x1).toNatClampNeg)).toNatClampNeg) * (μ.1 10 (x1).toNatClampNeg)) else none else none else none else bif vin y60 80 then if (μ.1 22 (y60).toNatClampNeg) = 0 then bif vin x1 30 then bif vin (μ.1 9 (x1).toNatClampNeg) 8 then bif vin x1 30 then some ((μ.1 5 ((μ.1 9 (x1).toNatClampNeg)).toNatClampNeg) * (μ.1 10 (x1).toNatClampNeg)) else none else none else none else bif vin y60 80 then if (μ.1 22 (y60).toNatClampNeg) = 3 then some 0 else bif vin y60 80 then if (μ.1 22 (y60).toNatClampNeg) = 1 then bif vin y60 80 then bif vin x1 30 then some ((μ.1 23 (y60).toNatClampNeg) * (μ.1 10 (x1).toNatClampNeg)) else none else none else bif vin y60 80 then bif vin x1 30 then bif vin y60 80 then if ((μ.1 24 (y60).toNatClampNeg)).toInt64 = 0 then none else some ((((((μ.1 23 (y60).toNatClampNeg)).toInt64 * ((μ.1 11 (x1).toNatClampNeg)).toInt64) / ((μ.1 24 (y60).toNatClampNeg)).toInt64)).toInt32) else none else none else none else none else none else none else none else bif vin x1 30 then if (μ.1 13 (x1).toNatClampNeg) = x2 then some 0 else (f_X7_forceIn μ x2 x3).bind fun r43 => bif vin x1 30 then letm ((8 * r43) + (μ.1 9 (x1).toNatClampNeg)) fun y60 => if r43 < 0 then bif vin x1 30 then bif vin (μ.1 9 (x1).toNatClampNeg) 8 then bif vin x1 30 then some ((μ.1 5 ((μ.1 9 (x1).toNatClampNeg)).toNatClampNeg) * (μ.1 10 (x1).toNatClampNeg)) else none else none else none else bif vin y60 80 then if (μ.1 22 (y60).toNatClampNeg) = 0 then bif vin x1 30 then bif vin (μ.1 9 (x1).toNatClampNeg) 8 then bif vin x1 30 then some ((μ.1 5 ((μ.1 9 (x1).toNatClampNeg)).toNatClampNeg) * (μ.1 10 (x1).toNatClampNeg)) else none else none else none else bif vin y60 80 then if (μ.1 22 (y60).toNatClampNeg) = 3 then some 0 else bif vin y60 80 then if (μ.1 22 (y60).toNatClampNeg) = 1 then bif vin y60 80 then bif vin x1 30 then some ((μ.1 23 (y60).toNatClampNeg) * (μ.1 10 (x1).toNatClampNeg)) else none else none else bif vin y60 80 then bif vin x1 30 then bif vin y60 80 then if ((μ.1 24 (y60).toNatClampNeg)).toInt64 = 0 then none else some ((((((μ.1 23 (y60).toNatClampNeg)).toInt64 * ((μ.1 11 (x1).toNatClampNeg)).toInt64) / ((μ.1 24 (y60).toNatClampNeg)).toInt64)).toInt32) else none else none else none else none else none else none else none else none else none else some 0 else none else none
set_option maxHeartbeats 4000000 in
set_option maxRecDepth 100000 in
theorem s_X7_passes (g : hH) (μ : mS) (x1 : Int32) (x2 : Int32) (x3 : Int32) (r : Int32) (hf : f_X7_passes μ x1 x2 x3 = some r) : SpD mX7_passes rX7_passes [.ref 5000, .int x1, .int x2, .int x3] (gm g μ) (some (.int r)) (gm g μ) := by
  refine sp_of miX7_passes (Nat.le_of_ble_eq_true rfl) ?_
  show J _ _ _ 0 0 _ 0 [(0, .ref 5000), (1, .int x1), (2, .int x2), (3, .int x3)] []
  unfold f_X7_passes at hf
  refine j_aload_n (pc' := 1) rfl rfl rfl ?_
  refine j_get (pc' := 4) rfl rfl flX7_22 (gm_o g μ) (mF_8 μ) ?_
  refine j_iload_n (pc' := 5) rfl rfl rfl ?_
  obtain ⟨c5, hf⟩ := o_chk hf
  refine j_iald (pc' := 6) rfl rfl (gm_8 g μ) (vin_ok c5) ?_
  refine j_iconst (v := 3) (pc' := 7) rfl rfl (by decide) ?_
  refine j_icmp_eq (tgt := 38) (pc' := 10) rfl rfl rfl (fun c7 => ?_) (fun c7 => ?_)
  · rw [if_pos c7] at hf
    refine j_iconst (v := 0) (pc' := 39) rfl rfl (by decide) ?_
    have hf := Option.some.inj hf; subst hf
    exact j_iret rfl rfl (Nat.zero_le _) (Nat.zero_le _) ⟨rfl, rfl⟩
  · rw [if_neg c7] at hf
    refine j_aload_n (pc' := 11) rfl rfl rfl ?_
    refine j_get (pc' := 14) rfl rfl flX7_53 (gm_o g μ) (mF_18 μ) ?_
    refine j_iload_n (pc' := 15) rfl rfl rfl ?_
    obtain ⟨c15, hf⟩ := o_chk hf
    refine j_zald (pc' := 16) rfl rfl (gm_18 g μ) (vin_ok c15) ?_
    refine j_if_ne (tgt := 38) (pc' := 19) rfl rfl rfl (fun c16 => ?_) (fun c16 => ?_)
    · rw [if_neg c16] at hf
      refine j_iconst (v := 0) (pc' := 39) rfl rfl (by decide) ?_
      have hf := Option.some.inj hf; subst hf
      exact j_iret rfl rfl (Nat.zero_le _) (Nat.zero_le _) ⟨rfl, rfl⟩
    · rw [if_pos c16] at hf
      refine j_aload_n (pc' := 20) rfl rfl rfl ?_
      refine j_get (pc' := 23) rfl rfl flX7_50 (gm_o g μ) (mF_17 μ) ?_
      refine j_iload_n (pc' := 24) rfl rfl rfl ?_
      obtain ⟨c24, hf⟩ := o_chk hf
      refine j_zald (pc' := 25) rfl rfl (gm_17 g μ) (vin_ok c24) ?_
      refine j_if_eq (tgt := 40) (pc' := 28) rfl rfl rfl (fun c25 => ?_) (fun c25 => ?_)
      · rw [if_pos c25] at hf
        refine j_aload_n (pc' := 41) rfl rfl rfl ?_
        refine j_iload_n (pc' := 42) rfl rfl rfl ?_
        refine j_iload_n (pc' := 43) rfl rfl rfl ?_
        obtain ⟨r43, e43, hf⟩ := o_bind hf
        refine j_v2 (pc' := 46) rfl rfl miX7_forceIn lnX7_214 (gm_o g μ) rfl (s_X7_forceIn g μ x2 x3 _ e43) (h_rm_of rfl) (Nat.le_of_ble_eq_true rfl) (c' := 0) (s' := 0) rfl rfl ?_
        refine j_istore (pc' := 48) (ls' := [(4, _), (0, _), (1, _), (2, _), (3, _)]) rfl rfl (Nat.le_of_ble_eq_true rfl) rfl ?_
        refine j_bipush (v := 8) (pc' := 50) rfl rfl (by decide) ?_
        refine j_iload (pc' := 52) rfl rfl rfl ?_
        refine j_imul (pc' := 53) rfl rfl ?_
        refine j_aload_n (pc' := 54) rfl rfl rfl ?_
        refine j_get (pc' := 57) rfl rfl flX7_25 (gm_o g μ) (mF_9 μ) ?_
        refine j_iload_n (pc' := 58) rfl rfl rfl ?_
        obtain ⟨c58, hf⟩ := o_chk hf
        refine j_iald (pc' := 59) rfl rfl (gm_9 g μ) (vin_ok c58) ?_
        refine j_iadd (pc' := 60) rfl rfl ?_
        obtain ⟨y60, e60, hf⟩ := o_let hf
        rw [e60]
        refine j_istore (pc' := 62) (ls' := [(5, _), (4, _), (0, _), (1, _), (2, _), (3, _)]) rfl rfl (Nat.le_of_ble_eq_true rfl) rfl ?_
        refine j_iload (pc' := 64) rfl rfl rfl ?_
        refine j_if_lt (tgt := 77) (pc' := 67) rfl rfl rfl (fun c64 => ?_) (fun c64 => ?_)
        · rw [if_pos c64] at hf
          refine j_aload_n (pc' := 78) rfl rfl rfl ?_
          refine j_get (pc' := 81) rfl rfl flX7_19 (gm_o g μ) (mF_5 μ) ?_
          refine j_aload_n (pc' := 82) rfl rfl rfl ?_
          refine j_get (pc' := 85) rfl rfl flX7_25 (gm_o g μ) (mF_9 μ) ?_
          refine j_iload_n (pc' := 86) rfl rfl rfl ?_
          obtain ⟨c86, hf⟩ := o_chk hf
          refine j_iald (pc' := 87) rfl rfl (gm_9 g μ) (vin_ok c86) ?_
          obtain ⟨c87, hf⟩ := o_chk hf
          refine j_iald (pc' := 88) rfl rfl (gm_5 g μ) (vin_ok c87) ?_
          refine j_aload_n (pc' := 89) rfl rfl rfl ?_
          refine j_get (pc' := 92) rfl rfl flX7_28 (gm_o g μ) (mF_10 μ) ?_
          refine j_iload_n (pc' := 93) rfl rfl rfl ?_
          obtain ⟨c93, hf⟩ := o_chk hf
          refine j_iald (pc' := 94) rfl rfl (gm_10 g μ) (vin_ok c93) ?_
          refine j_imul (pc' := 95) rfl rfl ?_
          have hf := Option.some.inj hf; subst hf
          exact j_iret rfl rfl (Nat.zero_le _) (Nat.zero_le _) ⟨rfl, rfl⟩
        · rw [if_neg c64] at hf
          refine j_aload_n (pc' := 68) rfl rfl rfl ?_
          refine j_get (pc' := 71) rfl rfl flX7_60 (gm_o g μ) (mF_22 μ) ?_
          refine j_iload (pc' := 73) rfl rfl rfl ?_
          obtain ⟨c73, hf⟩ := o_chk hf
          refine j_iald (pc' := 74) rfl rfl (gm_22 g μ) (vin_ok c73) ?_
          refine j_if_ne (tgt := 96) (pc' := 77) rfl rfl rfl (fun c74 => ?_) (fun c74 => ?_)
          · rw [if_neg c74] at hf
            refine j_aload_n (pc' := 97) rfl rfl rfl ?_
            refine j_get (pc' := 100) rfl rfl flX7_60 (gm_o g μ) (mF_22 μ) ?_
            refine j_iload (pc' := 102) rfl rfl rfl ?_
            obtain ⟨c102, hf⟩ := o_chk hf
            refine j_iald (pc' := 103) rfl rfl (gm_22 g μ) (vin_ok c102) ?_
            refine j_iconst (v := 3) (pc' := 104) rfl rfl (by decide) ?_
            refine j_icmp_ne (tgt := 111) (pc' := 107) rfl rfl rfl (fun c104 => ?_) (fun c104 => ?_)
            · rw [if_neg c104] at hf
              refine j_aload_n (pc' := 112) rfl rfl rfl ?_
              refine j_get (pc' := 115) rfl rfl flX7_60 (gm_o g μ) (mF_22 μ) ?_
              refine j_iload (pc' := 117) rfl rfl rfl ?_
              obtain ⟨c117, hf⟩ := o_chk hf
              refine j_iald (pc' := 118) rfl rfl (gm_22 g μ) (vin_ok c117) ?_
              refine j_iconst (v := 1) (pc' := 119) rfl rfl (by decide) ?_
              refine j_icmp_ne (tgt := 139) (pc' := 122) rfl rfl rfl (fun c119 => ?_) (fun c119 => ?_)
              · rw [if_neg c119] at hf
                refine j_aload_n (pc' := 140) rfl rfl rfl ?_
                refine j_get (pc' := 143) rfl rfl flX7_63 (gm_o g μ) (mF_23 μ) ?_
                refine j_iload (pc' := 145) rfl rfl rfl ?_
                obtain ⟨c145, hf⟩ := o_chk hf
                refine j_iald (pc' := 146) rfl rfl (gm_23 g μ) (vin_ok c145) ?_
                refine j_i2l (pc' := 147) rfl rfl ?_
                refine j_aload_n (pc' := 148) rfl rfl rfl ?_
                refine j_get (pc' := 151) rfl rfl flX7_31 (gm_o g μ) (mF_11 μ) ?_
                refine j_iload_n (pc' := 152) rfl rfl rfl ?_
                obtain ⟨c152, hf⟩ := o_chk hf
                refine j_iald (pc' := 153) rfl rfl (gm_11 g μ) (vin_ok c152) ?_
                refine j_i2l (pc' := 154) rfl rfl ?_
                refine j_lmul (pc' := 155) rfl rfl ?_
                refine j_aload_n (pc' := 156) rfl rfl rfl ?_
                refine j_get (pc' := 159) rfl rfl flX7_66 (gm_o g μ) (mF_24 μ) ?_
                refine j_iload (pc' := 161) rfl rfl rfl ?_
                obtain ⟨c161, hf⟩ := o_chk hf
                refine j_iald (pc' := 162) rfl rfl (gm_24 g μ) (vin_ok c161) ?_
                refine j_i2l (pc' := 163) rfl rfl ?_
                obtain ⟨c163, hf⟩ := o_nz hf
                refine j_ldiv (pc' := 164) rfl rfl c163 ?_
                refine j_l2i (pc' := 165) rfl rfl ?_
                have hf := Option.some.inj hf; subst hf
                exact j_iret rfl rfl (Nat.zero_le _) (Nat.zero_le _) ⟨rfl, rfl⟩
              · rw [if_pos c119] at hf
                refine j_aload_n (pc' := 123) rfl rfl rfl ?_
                refine j_get (pc' := 126) rfl rfl flX7_63 (gm_o g μ) (mF_23 μ) ?_
                refine j_iload (pc' := 128) rfl rfl rfl ?_
                obtain ⟨c128, hf⟩ := o_chk hf
                refine j_iald (pc' := 129) rfl rfl (gm_23 g μ) (vin_ok c128) ?_
                refine j_aload_n (pc' := 130) rfl rfl rfl ?_
                refine j_get (pc' := 133) rfl rfl flX7_28 (gm_o g μ) (mF_10 μ) ?_
                refine j_iload_n (pc' := 134) rfl rfl rfl ?_
                obtain ⟨c134, hf⟩ := o_chk hf
                refine j_iald (pc' := 135) rfl rfl (gm_10 g μ) (vin_ok c134) ?_
                refine j_imul (pc' := 136) rfl rfl ?_
                refine j_goto (tgt := 165) rfl rfl ?_
                have hf := Option.some.inj hf; subst hf
                exact j_iret rfl rfl (Nat.zero_le _) (Nat.zero_le _) ⟨rfl, rfl⟩
            · rw [if_pos c104] at hf
              refine j_iconst (v := 0) (pc' := 108) rfl rfl (by decide) ?_
              refine j_goto (tgt := 165) rfl rfl ?_
              have hf := Option.some.inj hf; subst hf
              exact j_iret rfl rfl (Nat.zero_le _) (Nat.zero_le _) ⟨rfl, rfl⟩
          · rw [if_pos c74] at hf
            refine j_aload_n (pc' := 78) rfl rfl rfl ?_
            refine j_get (pc' := 81) rfl rfl flX7_19 (gm_o g μ) (mF_5 μ) ?_
            refine j_aload_n (pc' := 82) rfl rfl rfl ?_
            refine j_get (pc' := 85) rfl rfl flX7_25 (gm_o g μ) (mF_9 μ) ?_
            refine j_iload_n (pc' := 86) rfl rfl rfl ?_
            obtain ⟨c86, hf⟩ := o_chk hf
            refine j_iald (pc' := 87) rfl rfl (gm_9 g μ) (vin_ok c86) ?_
            obtain ⟨c87, hf⟩ := o_chk hf
            refine j_iald (pc' := 88) rfl rfl (gm_5 g μ) (vin_ok c87) ?_
            refine j_aload_n (pc' := 89) rfl rfl rfl ?_
            refine j_get (pc' := 92) rfl rfl flX7_28 (gm_o g μ) (mF_10 μ) ?_
            refine j_iload_n (pc' := 93) rfl rfl rfl ?_
            obtain ⟨c93, hf⟩ := o_chk hf
            refine j_iald (pc' := 94) rfl rfl (gm_10 g μ) (vin_ok c93) ?_
            refine j_imul (pc' := 95) rfl rfl ?_
            have hf := Option.some.inj hf; subst hf
            exact j_iret rfl rfl (Nat.zero_le _) (Nat.zero_le _) ⟨rfl, rfl⟩
      · rw [if_neg c25] at hf
        refine j_aload_n (pc' := 29) rfl rfl rfl ?_
        refine j_get (pc' := 32) rfl rfl flX7_37 (gm_o g μ) (mF_13 μ) ?_
        refine j_iload_n (pc' := 33) rfl rfl rfl ?_
        obtain ⟨c33, hf⟩ := o_chk hf
        refine j_iald (pc' := 34) rfl rfl (gm_13 g μ) (vin_ok c33) ?_
        refine j_iload_n (pc' := 35) rfl rfl rfl ?_
        refine j_icmp_ne (tgt := 40) (pc' := 38) rfl rfl rfl (fun c35 => ?_) (fun c35 => ?_)
        · rw [if_neg c35] at hf
          refine j_aload_n (pc' := 41) rfl rfl rfl ?_
          refine j_iload_n (pc' := 42) rfl rfl rfl ?_
          refine j_iload_n (pc' := 43) rfl rfl rfl ?_
          obtain ⟨r43, e43, hf⟩ := o_bind hf
          refine j_v2 (pc' := 46) rfl rfl miX7_forceIn lnX7_214 (gm_o g μ) rfl (s_X7_forceIn g μ x2 x3 _ e43) (h_rm_of rfl) (Nat.le_of_ble_eq_true rfl) (c' := 0) (s' := 0) rfl rfl ?_
          refine j_istore (pc' := 48) (ls' := [(4, _), (0, _), (1, _), (2, _), (3, _)]) rfl rfl (Nat.le_of_ble_eq_true rfl) rfl ?_
          refine j_bipush (v := 8) (pc' := 50) rfl rfl (by decide) ?_
          refine j_iload (pc' := 52) rfl rfl rfl ?_
          refine j_imul (pc' := 53) rfl rfl ?_
          refine j_aload_n (pc' := 54) rfl rfl rfl ?_
          refine j_get (pc' := 57) rfl rfl flX7_25 (gm_o g μ) (mF_9 μ) ?_
          refine j_iload_n (pc' := 58) rfl rfl rfl ?_
          obtain ⟨c58, hf⟩ := o_chk hf
          refine j_iald (pc' := 59) rfl rfl (gm_9 g μ) (vin_ok c58) ?_
          refine j_iadd (pc' := 60) rfl rfl ?_
          obtain ⟨y60, e60, hf⟩ := o_let hf
          rw [e60]
          refine j_istore (pc' := 62) (ls' := [(5, _), (4, _), (0, _), (1, _), (2, _), (3, _)]) rfl rfl (Nat.le_of_ble_eq_true rfl) rfl ?_
          refine j_iload (pc' := 64) rfl rfl rfl ?_
          refine j_if_lt (tgt := 77) (pc' := 67) rfl rfl rfl (fun c64 => ?_) (fun c64 => ?_)
          · rw [if_pos c64] at hf
            refine j_aload_n (pc' := 78) rfl rfl rfl ?_
            refine j_get (pc' := 81) rfl rfl flX7_19 (gm_o g μ) (mF_5 μ) ?_
            refine j_aload_n (pc' := 82) rfl rfl rfl ?_
            refine j_get (pc' := 85) rfl rfl flX7_25 (gm_o g μ) (mF_9 μ) ?_
            refine j_iload_n (pc' := 86) rfl rfl rfl ?_
            obtain ⟨c86, hf⟩ := o_chk hf
            refine j_iald (pc' := 87) rfl rfl (gm_9 g μ) (vin_ok c86) ?_
            obtain ⟨c87, hf⟩ := o_chk hf
            refine j_iald (pc' := 88) rfl rfl (gm_5 g μ) (vin_ok c87) ?_
            refine j_aload_n (pc' := 89) rfl rfl rfl ?_
            refine j_get (pc' := 92) rfl rfl flX7_28 (gm_o g μ) (mF_10 μ) ?_
            refine j_iload_n (pc' := 93) rfl rfl rfl ?_
            obtain ⟨c93, hf⟩ := o_chk hf
            refine j_iald (pc' := 94) rfl rfl (gm_10 g μ) (vin_ok c93) ?_
            refine j_imul (pc' := 95) rfl rfl ?_
            have hf := Option.some.inj hf; subst hf
            exact j_iret rfl rfl (Nat.zero_le _) (Nat.zero_le _) ⟨rfl, rfl⟩
          · rw [if_neg c64] at hf
            refine j_aload_n (pc' := 68) rfl rfl rfl ?_
            refine j_get (pc' := 71) rfl rfl flX7_60 (gm_o g μ) (mF_22 μ) ?_
            refine j_iload (pc' := 73) rfl rfl rfl ?_
            obtain ⟨c73, hf⟩ := o_chk hf
            refine j_iald (pc' := 74) rfl rfl (gm_22 g μ) (vin_ok c73) ?_
            refine j_if_ne (tgt := 96) (pc' := 77) rfl rfl rfl (fun c74 => ?_) (fun c74 => ?_)
            · rw [if_neg c74] at hf
              refine j_aload_n (pc' := 97) rfl rfl rfl ?_
              refine j_get (pc' := 100) rfl rfl flX7_60 (gm_o g μ) (mF_22 μ) ?_
              refine j_iload (pc' := 102) rfl rfl rfl ?_
              obtain ⟨c102, hf⟩ := o_chk hf
              refine j_iald (pc' := 103) rfl rfl (gm_22 g μ) (vin_ok c102) ?_
              refine j_iconst (v := 3) (pc' := 104) rfl rfl (by decide) ?_
              refine j_icmp_ne (tgt := 111) (pc' := 107) rfl rfl rfl (fun c104 => ?_) (fun c104 => ?_)
              · rw [if_neg c104] at hf
                refine j_aload_n (pc' := 112) rfl rfl rfl ?_
                refine j_get (pc' := 115) rfl rfl flX7_60 (gm_o g μ) (mF_22 μ) ?_
                refine j_iload (pc' := 117) rfl rfl rfl ?_
                obtain ⟨c117, hf⟩ := o_chk hf
                refine j_iald (pc' := 118) rfl rfl (gm_22 g μ) (vin_ok c117) ?_
                refine j_iconst (v := 1) (pc' := 119) rfl rfl (by decide) ?_
                refine j_icmp_ne (tgt := 139) (pc' := 122) rfl rfl rfl (fun c119 => ?_) (fun c119 => ?_)
                · rw [if_neg c119] at hf
                  refine j_aload_n (pc' := 140) rfl rfl rfl ?_
                  refine j_get (pc' := 143) rfl rfl flX7_63 (gm_o g μ) (mF_23 μ) ?_
                  refine j_iload (pc' := 145) rfl rfl rfl ?_
                  obtain ⟨c145, hf⟩ := o_chk hf
                  refine j_iald (pc' := 146) rfl rfl (gm_23 g μ) (vin_ok c145) ?_
                  refine j_i2l (pc' := 147) rfl rfl ?_
                  refine j_aload_n (pc' := 148) rfl rfl rfl ?_
                  refine j_get (pc' := 151) rfl rfl flX7_31 (gm_o g μ) (mF_11 μ) ?_
                  refine j_iload_n (pc' := 152) rfl rfl rfl ?_
                  obtain ⟨c152, hf⟩ := o_chk hf
                  refine j_iald (pc' := 153) rfl rfl (gm_11 g μ) (vin_ok c152) ?_
                  refine j_i2l (pc' := 154) rfl rfl ?_
                  refine j_lmul (pc' := 155) rfl rfl ?_
                  refine j_aload_n (pc' := 156) rfl rfl rfl ?_
                  refine j_get (pc' := 159) rfl rfl flX7_66 (gm_o g μ) (mF_24 μ) ?_
                  refine j_iload (pc' := 161) rfl rfl rfl ?_
                  obtain ⟨c161, hf⟩ := o_chk hf
                  refine j_iald (pc' := 162) rfl rfl (gm_24 g μ) (vin_ok c161) ?_
                  refine j_i2l (pc' := 163) rfl rfl ?_
                  obtain ⟨c163, hf⟩ := o_nz hf
                  refine j_ldiv (pc' := 164) rfl rfl c163 ?_
                  refine j_l2i (pc' := 165) rfl rfl ?_
                  have hf := Option.some.inj hf; subst hf
                  exact j_iret rfl rfl (Nat.zero_le _) (Nat.zero_le _) ⟨rfl, rfl⟩
                · rw [if_pos c119] at hf
                  refine j_aload_n (pc' := 123) rfl rfl rfl ?_
                  refine j_get (pc' := 126) rfl rfl flX7_63 (gm_o g μ) (mF_23 μ) ?_
                  refine j_iload (pc' := 128) rfl rfl rfl ?_
                  obtain ⟨c128, hf⟩ := o_chk hf
                  refine j_iald (pc' := 129) rfl rfl (gm_23 g μ) (vin_ok c128) ?_
                  refine j_aload_n (pc' := 130) rfl rfl rfl ?_
                  refine j_get (pc' := 133) rfl rfl flX7_28 (gm_o g μ) (mF_10 μ) ?_
                  refine j_iload_n (pc' := 134) rfl rfl rfl ?_
                  obtain ⟨c134, hf⟩ := o_chk hf
                  refine j_iald (pc' := 135) rfl rfl (gm_10 g μ) (vin_ok c134) ?_
                  refine j_imul (pc' := 136) rfl rfl ?_
                  refine j_goto (tgt := 165) rfl rfl ?_
                  have hf := Option.some.inj hf; subst hf
                  exact j_iret rfl rfl (Nat.zero_le _) (Nat.zero_le _) ⟨rfl, rfl⟩
              · rw [if_pos c104] at hf
                refine j_iconst (v := 0) (pc' := 108) rfl rfl (by decide) ?_
                refine j_goto (tgt := 165) rfl rfl ?_
                have hf := Option.some.inj hf; subst hf
                exact j_iret rfl rfl (Nat.zero_le _) (Nat.zero_le _) ⟨rfl, rfl⟩
            · rw [if_pos c74] at hf
              refine j_aload_n (pc' := 78) rfl rfl rfl ?_
              refine j_get (pc' := 81) rfl rfl flX7_19 (gm_o g μ) (mF_5 μ) ?_
              refine j_aload_n (pc' := 82) rfl rfl rfl ?_
              refine j_get (pc' := 85) rfl rfl flX7_25 (gm_o g μ) (mF_9 μ) ?_
              refine j_iload_n (pc' := 86) rfl rfl rfl ?_
              obtain ⟨c86, hf⟩ := o_chk hf
              refine j_iald (pc' := 87) rfl rfl (gm_9 g μ) (vin_ok c86) ?_
              obtain ⟨c87, hf⟩ := o_chk hf
              refine j_iald (pc' := 88) rfl rfl (gm_5 g μ) (vin_ok c87) ?_
              refine j_aload_n (pc' := 89) rfl rfl rfl ?_
              refine j_get (pc' := 92) rfl rfl flX7_28 (gm_o g μ) (mF_10 μ) ?_
              refine j_iload_n (pc' := 93) rfl rfl rfl ?_
              obtain ⟨c93, hf⟩ := o_chk hf
              refine j_iald (pc' := 94) rfl rfl (gm_10 g μ) (vin_ok c93) ?_
              refine j_imul (pc' := 95) rfl rfl ?_
              have hf := Option.some.inj hf; subst hf
              exact j_iret rfl rfl (Nat.zero_le _) (Nat.zero_le _) ⟨rfl, rfl⟩
        · rw [if_pos c35] at hf
          refine j_iconst (v := 0) (pc' := 39) rfl rfl (by decide) ?_
          have hf := Option.some.inj hf; subst hf
          exact j_iret rfl rfl (Nat.zero_le _) (Nat.zero_le _) ⟨rfl, rfl⟩
def rX7_lowest : Room := { frames := 0, cells := 0, slots := 0, locals := 0 }
def f_X7_lowest (μ : mS) (x1 : Int32) : Option Int32 := bif vin x1 30 then if (μ.1 8 (x1).toNatClampNeg) = 1 then some 1 else bif vin x1 30 then if (μ.1 8 (x1).toNatClampNeg) = 5 then some 1 else bif vin x1 30 then bif vin (μ.1 9 (x1).toNatClampNeg) 8 then some (μ.1 2 ((μ.1 9 (x1).toNatClampNeg)).toNatClampNeg) else none else none else none else none
set_option maxHeartbeats 4000000 in
set_option maxRecDepth 100000 in
theorem s_X7_lowest (g : hH) (μ : mS) (x1 : Int32) (r : Int32) (hf : f_X7_lowest μ x1 = some r) : SpD mX7_lowest rX7_lowest [.ref 5000, .int x1] (gm g μ) (some (.int r)) (gm g μ) := by
  refine sp_of miX7_lowest (Nat.le_of_ble_eq_true rfl) ?_
  show J _ _ _ 0 0 _ 0 [(0, .ref 5000), (1, .int x1)] []
  unfold f_X7_lowest at hf
  refine j_aload_n (pc' := 1) rfl rfl rfl ?_
  refine j_get (pc' := 4) rfl rfl flX7_22 (gm_o g μ) (mF_8 μ) ?_
  refine j_iload_n (pc' := 5) rfl rfl rfl ?_
  obtain ⟨c5, hf⟩ := o_chk hf
  refine j_iald (pc' := 6) rfl rfl (gm_8 g μ) (vin_ok c5) ?_
  refine j_iconst (v := 1) (pc' := 7) rfl rfl (by decide) ?_
  refine j_icmp_eq (tgt := 20) (pc' := 10) rfl rfl rfl (fun c7 => ?_) (fun c7 => ?_)
  · rw [if_pos c7] at hf
    refine j_iconst (v := 1) (pc' := 21) rfl rfl (by decide) ?_
    refine j_goto (tgt := 35) rfl rfl ?_
    have hf := Option.some.inj hf; subst hf
    exact j_iret rfl rfl (Nat.zero_le _) (Nat.zero_le _) ⟨rfl, rfl⟩
  · rw [if_neg c7] at hf
    refine j_aload_n (pc' := 11) rfl rfl rfl ?_
    refine j_get (pc' := 14) rfl rfl flX7_22 (gm_o g μ) (mF_8 μ) ?_
    refine j_iload_n (pc' := 15) rfl rfl rfl ?_
    obtain ⟨c15, hf⟩ := o_chk hf
    refine j_iald (pc' := 16) rfl rfl (gm_8 g μ) (vin_ok c15) ?_
    refine j_iconst (v := 5) (pc' := 17) rfl rfl (by decide) ?_
    refine j_icmp_ne (tgt := 24) (pc' := 20) rfl rfl rfl (fun c17 => ?_) (fun c17 => ?_)
    · rw [if_neg c17] at hf
      refine j_aload_n (pc' := 25) rfl rfl rfl ?_
      refine j_get (pc' := 28) rfl rfl flX7_7 (gm_o g μ) (mF_2 μ) ?_
      refine j_aload_n (pc' := 29) rfl rfl rfl ?_
      refine j_get (pc' := 32) rfl rfl flX7_25 (gm_o g μ) (mF_9 μ) ?_
      refine j_iload_n (pc' := 33) rfl rfl rfl ?_
      obtain ⟨c33, hf⟩ := o_chk hf
      refine j_iald (pc' := 34) rfl rfl (gm_9 g μ) (vin_ok c33) ?_
      obtain ⟨c34, hf⟩ := o_chk hf
      refine j_iald (pc' := 35) rfl rfl (gm_2 g μ) (vin_ok c34) ?_
      have hf := Option.some.inj hf; subst hf
      exact j_iret rfl rfl (Nat.zero_le _) (Nat.zero_le _) ⟨rfl, rfl⟩
    · rw [if_pos c17] at hf
      refine j_iconst (v := 1) (pc' := 21) rfl rfl (by decide) ?_
      refine j_goto (tgt := 35) rfl rfl ?_
      have hf := Option.some.inj hf; subst hf
      exact j_iret rfl rfl (Nat.zero_le _) (Nat.zero_le _) ⟨rfl, rfl⟩
def rX7_isDrawn : Room := { frames := 1, cells := 0, slots := 0, locals := 22 }
def f_X7_isDrawn (μ : mS) (x1 : Int32) (x2 : Int32) (x3 : Int32) : Option Int32 := bif vin x1 30 then if (μ.1 10 (x1).toNatClampNeg) ≤ 0 then some 0 else bif vin x1 30 then (f_X7_in x2 0 (μ.1 10 (x1).toNatClampNeg)).bind fun r17 => if r17 = 0 then some 0 else (f_X7_lowest μ x1).bind fun r27 => bif vin x1 30 then bif vin (μ.1 9 (x1).toNatClampNeg) 8 then (f_X7_in x3 (x2 * r27) (x2 * (μ.1 3 ((μ.1 9 (x1).toNatClampNeg)).toNatClampNeg))).bind fun r44 => if r44 = 0 then some 0 else some 1 else none else none else none else none
set_option maxHeartbeats 4000000 in
set_option maxRecDepth 100000 in
theorem s_X7_isDrawn (g : hH) (μ : mS) (x1 : Int32) (x2 : Int32) (x3 : Int32) (r : Int32) (hf : f_X7_isDrawn μ x1 x2 x3 = some r) : SpD mX7_isDrawn rX7_isDrawn [.ref 5000, .int x1, .int x2, .int x3] (gm g μ) (some (.int r)) (gm g μ) := by
  refine sp_of miX7_isDrawn (Nat.le_of_ble_eq_true rfl) ?_
  show J _ _ _ 0 0 _ 0 [(0, .ref 5000), (1, .int x1), (2, .int x2), (3, .int x3)] []
  unfold f_X7_isDrawn at hf
  refine j_aload_n (pc' := 1) rfl rfl rfl ?_
  refine j_get (pc' := 4) rfl rfl flX7_28 (gm_o g μ) (mF_10 μ) ?_
  refine j_iload_n (pc' := 5) rfl rfl rfl ?_
  obtain ⟨c5, hf⟩ := o_chk hf
  refine j_iald (pc' := 6) rfl rfl (gm_10 g μ) (vin_ok c5) ?_
  refine j_if_le (tgt := 54) (pc' := 9) rfl rfl rfl (fun c6 => ?_) (fun c6 => ?_)
  · rw [if_pos c6] at hf
    refine j_iconst (v := 0) (pc' := 55) rfl rfl (by decide) ?_
    have hf := Option.some.inj hf; subst hf
    exact j_zret rfl rfl (by decide) (Nat.zero_le _) (Nat.zero_le _) ⟨rfl, rfl⟩
  · rw [if_neg c6] at hf
    refine j_iload_n (pc' := 10) rfl rfl rfl ?_
    refine j_iconst (v := 0) (pc' := 11) rfl rfl (by decide) ?_
    refine j_aload_n (pc' := 12) rfl rfl rfl ?_
    refine j_get (pc' := 15) rfl rfl flX7_28 (gm_o g μ) (mF_10 μ) ?_
    refine j_iload_n (pc' := 16) rfl rfl rfl ?_
    obtain ⟨c16, hf⟩ := o_chk hf
    refine j_iald (pc' := 17) rfl rfl (gm_10 g μ) (vin_ok c16) ?_
    obtain ⟨r17, e17, hf⟩ := o_bind hf
    refine j_s3 (pc' := 20) rfl rfl miX7_in lnX7_138 (s_X7_in (gm g μ) x2 0 (μ.1 10 (x1).toNatClampNeg) _ e17) (h_rm_of rfl) (Nat.le_of_ble_eq_true rfl) (c' := 0) (s' := 0) rfl rfl ?_
    refine j_if_eq (tgt := 54) (pc' := 23) rfl rfl rfl (fun c20 => ?_) (fun c20 => ?_)
    · rw [if_pos c20] at hf
      refine j_iconst (v := 0) (pc' := 55) rfl rfl (by decide) ?_
      have hf := Option.some.inj hf; subst hf
      exact j_zret rfl rfl (by decide) (Nat.zero_le _) (Nat.zero_le _) ⟨rfl, rfl⟩
    · rw [if_neg c20] at hf
      refine j_iload_n (pc' := 24) rfl rfl rfl ?_
      refine j_iload_n (pc' := 25) rfl rfl rfl ?_
      refine j_aload_n (pc' := 26) rfl rfl rfl ?_
      refine j_iload_n (pc' := 27) rfl rfl rfl ?_
      obtain ⟨r27, e27, hf⟩ := o_bind hf
      refine j_v1 (pc' := 30) rfl rfl miX7_lowest lnX7_222 (gm_o g μ) rfl (s_X7_lowest g μ x1 _ e27) (h_rm_of rfl) (Nat.le_of_ble_eq_true rfl) (c' := 0) (s' := 0) rfl rfl ?_
      refine j_imul (pc' := 31) rfl rfl ?_
      refine j_iload_n (pc' := 32) rfl rfl rfl ?_
      refine j_aload_n (pc' := 33) rfl rfl rfl ?_
      refine j_get (pc' := 36) rfl rfl flX7_13 (gm_o g μ) (mF_3 μ) ?_
      refine j_aload_n (pc' := 37) rfl rfl rfl ?_
      refine j_get (pc' := 40) rfl rfl flX7_25 (gm_o g μ) (mF_9 μ) ?_
      refine j_iload_n (pc' := 41) rfl rfl rfl ?_
      obtain ⟨c41, hf⟩ := o_chk hf
      refine j_iald (pc' := 42) rfl rfl (gm_9 g μ) (vin_ok c41) ?_
      obtain ⟨c42, hf⟩ := o_chk hf
      refine j_iald (pc' := 43) rfl rfl (gm_3 g μ) (vin_ok c42) ?_
      refine j_imul (pc' := 44) rfl rfl ?_
      obtain ⟨r44, e44, hf⟩ := o_bind hf
      refine j_s3 (pc' := 47) rfl rfl miX7_in lnX7_138 (s_X7_in (gm g μ) x3 (x2 * r27) (x2 * (μ.1 3 ((μ.1 9 (x1).toNatClampNeg)).toNatClampNeg)) _ e44) (h_rm_of rfl) (Nat.le_of_ble_eq_true rfl) (c' := 0) (s' := 0) rfl rfl ?_
      refine j_if_eq (tgt := 54) (pc' := 50) rfl rfl rfl (fun c47 => ?_) (fun c47 => ?_)
      · rw [if_pos c47] at hf
        refine j_iconst (v := 0) (pc' := 55) rfl rfl (by decide) ?_
        have hf := Option.some.inj hf; subst hf
        exact j_zret rfl rfl (by decide) (Nat.zero_le _) (Nat.zero_le _) ⟨rfl, rfl⟩
      · rw [if_neg c47] at hf
        refine j_iconst (v := 1) (pc' := 51) rfl rfl (by decide) ?_
        refine j_goto (tgt := 55) rfl rfl ?_
        have hf := Option.some.inj hf; subst hf
        exact j_zret rfl rfl (by decide) (Nat.zero_le _) (Nat.zero_le _) ⟨rfl, rfl⟩
def rX7_isThere : Room := { frames := 1, cells := 0, slots := 0, locals := 21 }
def f_X7_isThere (μ : mS) (x1 : Int32) (x2 : Int32) : Option Int32 := bif vin x1 30 then if (μ.1 13 (x1).toNatClampNeg) = x2 then (f_X7_isUnderWay μ x1).bind fun r12 => if r12 = 0 then bif vin x1 30 then if (μ.1 16 (x1).toNatClampNeg) = 0 then bif vin x1 30 then if (μ.1 17 (x1).toNatClampNeg) = 0 then some 1 else some 0 else none else some 0 else none else some 0 else some 0 else none
set_option maxHeartbeats 4000000 in
set_option maxRecDepth 100000 in
theorem s_X7_isThere (g : hH) (μ : mS) (x1 : Int32) (x2 : Int32) (r : Int32) (hf : f_X7_isThere μ x1 x2 = some r) : SpD mX7_isThere rX7_isThere [.ref 5000, .int x1, .int x2] (gm g μ) (some (.int r)) (gm g μ) := by
  refine sp_of miX7_isThere (Nat.le_of_ble_eq_true rfl) ?_
  show J _ _ _ 0 0 _ 0 [(0, .ref 5000), (1, .int x1), (2, .int x2)] []
  unfold f_X7_isThere at hf
  refine j_aload_n (pc' := 1) rfl rfl rfl ?_
  refine j_get (pc' := 4) rfl rfl flX7_37 (gm_o g μ) (mF_13 μ) ?_
  refine j_iload_n (pc' := 5) rfl rfl rfl ?_
  obtain ⟨c5, hf⟩ := o_chk hf
  refine j_iald (pc' := 6) rfl rfl (gm_13 g μ) (vin_ok c5) ?_
  refine j_iload_n (pc' := 7) rfl rfl rfl ?_
  refine j_icmp_ne (tgt := 40) (pc' := 10) rfl rfl rfl (fun c7 => ?_) (fun c7 => ?_)
  · rw [if_neg c7] at hf
    refine j_iconst (v := 0) (pc' := 41) rfl rfl (by decide) ?_
    have hf := Option.some.inj hf; subst hf
    exact j_zret rfl rfl (by decide) (Nat.zero_le _) (Nat.zero_le _) ⟨rfl, rfl⟩
  · rw [if_pos c7] at hf
    refine j_aload_n (pc' := 11) rfl rfl rfl ?_
    refine j_iload_n (pc' := 12) rfl rfl rfl ?_
    obtain ⟨r12, e12, hf⟩ := o_bind hf
    refine j_v1 (pc' := 15) rfl rfl miX7_isUnderWay lnX7_170 (gm_o g μ) rfl (s_X7_isUnderWay g μ x1 _ e12) (h_rm_of rfl) (Nat.le_of_ble_eq_true rfl) (c' := 0) (s' := 0) rfl rfl ?_
    refine j_if_ne (tgt := 40) (pc' := 18) rfl rfl rfl (fun c15 => ?_) (fun c15 => ?_)
    · rw [if_neg c15] at hf
      refine j_iconst (v := 0) (pc' := 41) rfl rfl (by decide) ?_
      have hf := Option.some.inj hf; subst hf
      exact j_zret rfl rfl (by decide) (Nat.zero_le _) (Nat.zero_le _) ⟨rfl, rfl⟩
    · rw [if_pos c15] at hf
      refine j_aload_n (pc' := 19) rfl rfl rfl ?_
      refine j_get (pc' := 22) rfl rfl flX7_46 (gm_o g μ) (mF_16 μ) ?_
      refine j_iload_n (pc' := 23) rfl rfl rfl ?_
      obtain ⟨c23, hf⟩ := o_chk hf
      refine j_zald (pc' := 24) rfl rfl (gm_16 g μ) (vin_ok c23) ?_
      refine j_if_ne (tgt := 40) (pc' := 27) rfl rfl rfl (fun c24 => ?_) (fun c24 => ?_)
      · rw [if_neg c24] at hf
        refine j_iconst (v := 0) (pc' := 41) rfl rfl (by decide) ?_
        have hf := Option.some.inj hf; subst hf
        exact j_zret rfl rfl (by decide) (Nat.zero_le _) (Nat.zero_le _) ⟨rfl, rfl⟩
      · rw [if_pos c24] at hf
        refine j_aload_n (pc' := 28) rfl rfl rfl ?_
        refine j_get (pc' := 31) rfl rfl flX7_50 (gm_o g μ) (mF_17 μ) ?_
        refine j_iload_n (pc' := 32) rfl rfl rfl ?_
        obtain ⟨c32, hf⟩ := o_chk hf
        refine j_zald (pc' := 33) rfl rfl (gm_17 g μ) (vin_ok c32) ?_
        refine j_if_ne (tgt := 40) (pc' := 36) rfl rfl rfl (fun c33 => ?_) (fun c33 => ?_)
        · rw [if_neg c33] at hf
          refine j_iconst (v := 0) (pc' := 41) rfl rfl (by decide) ?_
          have hf := Option.some.inj hf; subst hf
          exact j_zret rfl rfl (by decide) (Nat.zero_le _) (Nat.zero_le _) ⟨rfl, rfl⟩
        · rw [if_pos c33] at hf
          refine j_iconst (v := 1) (pc' := 37) rfl rfl (by decide) ?_
          refine j_goto (tgt := 41) rfl rfl ?_
          have hf := Option.some.inj hf; subst hf
          exact j_zret rfl rfl (by decide) (Nat.zero_le _) (Nat.zero_le _) ⟨rfl, rfl⟩
def rX7_isWorse : Room := { frames := 2, cells := 0, slots := 0, locals := 50 }
def f_X7_isWorse (μ : mS) (x1 : Int32) (x2 : Int32) (x3 : Int32) : Option Int32 := (f_X7_silverOf μ x1).bind fun r2 => (f_X7_passes μ x2 x3 (μ.1 6 0)).bind fun r12 => (f_X7_silverOf μ x2).bind fun r21 => (f_X7_passes μ x1 x3 (μ.1 6 0)).bind fun r31 => if (lg_cmp (r2 * (r12).toInt64) (r21 * (r31).toInt64)) < 0 then some 1 else if (lg_cmp (r2 * (r12).toInt64) (r21 * (r31).toInt64)) = 0 then if x2 ≤ x1 then some 0 else some 1 else some 0
set_option maxHeartbeats 4000000 in
set_option maxRecDepth 100000 in
theorem s_X7_isWorse (g : hH) (μ : mS) (x1 : Int32) (x2 : Int32) (x3 : Int32) (r : Int32) (hf : f_X7_isWorse μ x1 x2 x3 = some r) : SpD mX7_isWorse rX7_isWorse [.ref 5000, .int x1, .int x2, .int x3] (gm g μ) (some (.int r)) (gm g μ) := by
  refine sp_of miX7_isWorse (Nat.le_of_ble_eq_true rfl) ?_
  show J _ _ _ 0 0 _ 0 [(0, .ref 5000), (1, .int x1), (2, .int x2), (3, .int x3)] []
  unfold f_X7_isWorse at hf
  refine j_aload_n (pc' := 1) rfl rfl rfl ?_
  refine j_iload_n (pc' := 2) rfl rfl rfl ?_
  obtain ⟨r2, e2, hf⟩ := o_bind hf
  refine j_v1 (pc' := 5) rfl rfl miX7_silverOf lnX7_173 (gm_o g μ) rfl (s_X7_silverOf g μ x1 _ e2) (h_rm_of rfl) (Nat.le_of_ble_eq_true rfl) (c' := 0) (s' := 0) rfl rfl ?_
  refine j_aload_n (pc' := 6) rfl rfl rfl ?_
  refine j_iload_n (pc' := 7) rfl rfl rfl ?_
  refine j_iload_n (pc' := 8) rfl rfl rfl ?_
  refine j_aload_n (pc' := 9) rfl rfl rfl ?_
  refine j_get (pc' := 12) rfl rfl flX7_167 (gm_o g μ) (mF_6 μ) ?_
  obtain ⟨r12, e12, hf⟩ := o_bind hf
  refine j_v3 (pc' := 15) rfl rfl miX7_passes lnX7_218 (gm_o g μ) rfl (s_X7_passes g μ x2 x3 (μ.1 6 0) _ e12) (h_rm_of rfl) (Nat.le_of_ble_eq_true rfl) (c' := 0) (s' := 0) rfl rfl ?_
  refine j_i2l (pc' := 16) rfl rfl ?_
  refine j_lmul (pc' := 17) rfl rfl ?_
  refine j_lstore (pc' := 19) (ls' := [(4, _), (0, _), (1, _), (2, _), (3, _)]) rfl rfl (Nat.le_of_ble_eq_true rfl) rfl ?_
  refine j_aload_n (pc' := 20) rfl rfl rfl ?_
  refine j_iload_n (pc' := 21) rfl rfl rfl ?_
  obtain ⟨r21, e21, hf⟩ := o_bind hf
  refine j_v1 (pc' := 24) rfl rfl miX7_silverOf lnX7_173 (gm_o g μ) rfl (s_X7_silverOf g μ x2 _ e21) (h_rm_of rfl) (Nat.le_of_ble_eq_true rfl) (c' := 0) (s' := 0) rfl rfl ?_
  refine j_aload_n (pc' := 25) rfl rfl rfl ?_
  refine j_iload_n (pc' := 26) rfl rfl rfl ?_
  refine j_iload_n (pc' := 27) rfl rfl rfl ?_
  refine j_aload_n (pc' := 28) rfl rfl rfl ?_
  refine j_get (pc' := 31) rfl rfl flX7_167 (gm_o g μ) (mF_6 μ) ?_
  obtain ⟨r31, e31, hf⟩ := o_bind hf
  refine j_v3 (pc' := 34) rfl rfl miX7_passes lnX7_218 (gm_o g μ) rfl (s_X7_passes g μ x1 x3 (μ.1 6 0) _ e31) (h_rm_of rfl) (Nat.le_of_ble_eq_true rfl) (c' := 0) (s' := 0) rfl rfl ?_
  refine j_i2l (pc' := 35) rfl rfl ?_
  refine j_lmul (pc' := 36) rfl rfl ?_
  refine j_lstore (pc' := 38) (ls' := [(6, _), (4, _), (0, _), (1, _), (2, _), (3, _)]) rfl rfl (Nat.le_of_ble_eq_true rfl) rfl ?_
  refine j_lload (pc' := 40) rfl rfl rfl ?_
  refine j_lload (pc' := 42) rfl rfl rfl ?_
  refine j_lcmp (pc' := 43) rfl rfl ?_
  refine j_if_lt (tgt := 59) (pc' := 46) rfl rfl rfl (fun c43 => ?_) (fun c43 => ?_)
  · rw [if_pos c43] at hf
    refine j_iconst (v := 1) (pc' := 60) rfl rfl (by decide) ?_
    refine j_goto (tgt := 64) rfl rfl ?_
    have hf := Option.some.inj hf; subst hf
    exact j_zret rfl rfl (by decide) (Nat.zero_le _) (Nat.zero_le _) ⟨rfl, rfl⟩
  · rw [if_neg c43] at hf
    refine j_lload (pc' := 48) rfl rfl rfl ?_
    refine j_lload (pc' := 50) rfl rfl rfl ?_
    refine j_lcmp (pc' := 51) rfl rfl ?_
    refine j_if_ne (tgt := 63) (pc' := 54) rfl rfl rfl (fun c51 => ?_) (fun c51 => ?_)
    · rw [if_neg c51] at hf
      refine j_iconst (v := 0) (pc' := 64) rfl rfl (by decide) ?_
      have hf := Option.some.inj hf; subst hf
      exact j_zret rfl rfl (by decide) (Nat.zero_le _) (Nat.zero_le _) ⟨rfl, rfl⟩
    · rw [if_pos c51] at hf
      refine j_iload_n (pc' := 55) rfl rfl rfl ?_
      refine j_iload_n (pc' := 56) rfl rfl rfl ?_
      refine j_icmp_ge (tgt := 63) (pc' := 59) rfl rfl rfl (fun c56 => ?_) (fun c56 => ?_)
      · rw [if_pos c56] at hf
        refine j_iconst (v := 0) (pc' := 64) rfl rfl (by decide) ?_
        have hf := Option.some.inj hf; subst hf
        exact j_zret rfl rfl (by decide) (Nat.zero_le _) (Nat.zero_le _) ⟨rfl, rfl⟩
      · rw [if_neg c56] at hf
        refine j_iconst (v := 1) (pc' := 60) rfl rfl (by decide) ?_
        refine j_goto (tgt := 64) rfl rfl ?_
        have hf := Option.some.inj hf; subst hf
        exact j_zret rfl rfl (by decide) (Nat.zero_le _) (Nat.zero_le _) ⟨rfl, rfl⟩
def rX7_isAtMint : Room := { frames := 1, cells := 0, slots := 0, locals := 21 }
def f_X7_isAtMint (μ : mS) (x1 : Int32) : Option Int32 := bif vin x1 30 then if (μ.1 14 (x1).toNatClampNeg) < 0 then some 0 else (f_X7_isUnderWay μ x1).bind fun r11 => if r11 = 0 then bif vin x1 30 then if (μ.1 16 (x1).toNatClampNeg) = 0 then some 1 else some 0 else none else some 0 else none
set_option maxHeartbeats 4000000 in
set_option maxRecDepth 100000 in
theorem s_X7_isAtMint (g : hH) (μ : mS) (x1 : Int32) (r : Int32) (hf : f_X7_isAtMint μ x1 = some r) : SpD mX7_isAtMint rX7_isAtMint [.ref 5000, .int x1] (gm g μ) (some (.int r)) (gm g μ) := by
  refine sp_of miX7_isAtMint (Nat.le_of_ble_eq_true rfl) ?_
  show J _ _ _ 0 0 _ 0 [(0, .ref 5000), (1, .int x1)] []
  unfold f_X7_isAtMint at hf
  refine j_aload_n (pc' := 1) rfl rfl rfl ?_
  refine j_get (pc' := 4) rfl rfl flX7_40 (gm_o g μ) (mF_14 μ) ?_
  refine j_iload_n (pc' := 5) rfl rfl rfl ?_
  obtain ⟨c5, hf⟩ := o_chk hf
  refine j_iald (pc' := 6) rfl rfl (gm_14 g μ) (vin_ok c5) ?_
  refine j_if_lt (tgt := 30) (pc' := 9) rfl rfl rfl (fun c6 => ?_) (fun c6 => ?_)
  · rw [if_pos c6] at hf
    refine j_iconst (v := 0) (pc' := 31) rfl rfl (by decide) ?_
    have hf := Option.some.inj hf; subst hf
    exact j_zret rfl rfl (by decide) (Nat.zero_le _) (Nat.zero_le _) ⟨rfl, rfl⟩
  · rw [if_neg c6] at hf
    refine j_aload_n (pc' := 10) rfl rfl rfl ?_
    refine j_iload_n (pc' := 11) rfl rfl rfl ?_
    obtain ⟨r11, e11, hf⟩ := o_bind hf
    refine j_v1 (pc' := 14) rfl rfl miX7_isUnderWay lnX7_170 (gm_o g μ) rfl (s_X7_isUnderWay g μ x1 _ e11) (h_rm_of rfl) (Nat.le_of_ble_eq_true rfl) (c' := 0) (s' := 0) rfl rfl ?_
    refine j_if_ne (tgt := 30) (pc' := 17) rfl rfl rfl (fun c14 => ?_) (fun c14 => ?_)
    · rw [if_neg c14] at hf
      refine j_iconst (v := 0) (pc' := 31) rfl rfl (by decide) ?_
      have hf := Option.some.inj hf; subst hf
      exact j_zret rfl rfl (by decide) (Nat.zero_le _) (Nat.zero_le _) ⟨rfl, rfl⟩
    · rw [if_pos c14] at hf
      refine j_aload_n (pc' := 18) rfl rfl rfl ?_
      refine j_get (pc' := 21) rfl rfl flX7_46 (gm_o g μ) (mF_16 μ) ?_
      refine j_iload_n (pc' := 22) rfl rfl rfl ?_
      obtain ⟨c22, hf⟩ := o_chk hf
      refine j_zald (pc' := 23) rfl rfl (gm_16 g μ) (vin_ok c22) ?_
      refine j_if_ne (tgt := 30) (pc' := 26) rfl rfl rfl (fun c23 => ?_) (fun c23 => ?_)
      · rw [if_neg c23] at hf
        refine j_iconst (v := 0) (pc' := 31) rfl rfl (by decide) ?_
        have hf := Option.some.inj hf; subst hf
        exact j_zret rfl rfl (by decide) (Nat.zero_le _) (Nat.zero_le _) ⟨rfl, rfl⟩
      · rw [if_pos c23] at hf
        refine j_iconst (v := 1) (pc' := 27) rfl rfl (by decide) ?_
        refine j_goto (tgt := 31) rfl rfl ?_
        have hf := Option.some.inj hf; subst hf
        exact j_zret rfl rfl (by decide) (Nat.zero_le _) (Nat.zero_le _) ⟨rfl, rfl⟩
def rX7_meltedToday : Room := { frames := 0, cells := 0, slots := 0, locals := 0 }
def f_X7_meltedToday (μ : mS) (x1 : Int32) : Option Int32 := bif vin x1 3 then if (μ.1 40 (x1).toNatClampNeg) = (μ.1 6 0) then bif vin x1 3 then some (μ.1 39 (x1).toNatClampNeg) else none else some 0 else none
set_option maxHeartbeats 4000000 in
set_option maxRecDepth 100000 in
theorem s_X7_meltedToday (g : hH) (μ : mS) (x1 : Int32) (r : Int32) (hf : f_X7_meltedToday μ x1 = some r) : SpD mX7_meltedToday rX7_meltedToday [.ref 5000, .int x1] (gm g μ) (some (.int r)) (gm g μ) := by
  refine sp_of miX7_meltedToday (Nat.le_of_ble_eq_true rfl) ?_
  show J _ _ _ 0 0 _ 0 [(0, .ref 5000), (1, .int x1)] []
  unfold f_X7_meltedToday at hf
  refine j_aload_n (pc' := 1) rfl rfl rfl ?_
  refine j_get (pc' := 4) rfl rfl flX7_107 (gm_o g μ) (mF_40 μ) ?_
  refine j_iload_n (pc' := 5) rfl rfl rfl ?_
  obtain ⟨c5, hf⟩ := o_chk hf
  refine j_iald (pc' := 6) rfl rfl (gm_40 g μ) (vin_ok c5) ?_
  refine j_aload_n (pc' := 7) rfl rfl rfl ?_
  refine j_get (pc' := 10) rfl rfl flX7_167 (gm_o g μ) (mF_6 μ) ?_
  refine j_icmp_ne (tgt := 22) (pc' := 13) rfl rfl rfl (fun c10 => ?_) (fun c10 => ?_)
  · rw [if_neg c10] at hf
    refine j_iconst (v := 0) (pc' := 23) rfl rfl (by decide) ?_
    have hf := Option.some.inj hf; subst hf
    exact j_iret rfl rfl (Nat.zero_le _) (Nat.zero_le _) ⟨rfl, rfl⟩
  · rw [if_pos c10] at hf
    refine j_aload_n (pc' := 14) rfl rfl rfl ?_
    refine j_get (pc' := 17) rfl rfl flX7_104 (gm_o g μ) (mF_39 μ) ?_
    refine j_iload_n (pc' := 18) rfl rfl rfl ?_
    obtain ⟨c18, hf⟩ := o_chk hf
    refine j_iald (pc' := 19) rfl rfl (gm_39 g μ) (vin_ok c18) ?_
    refine j_goto (tgt := 23) rfl rfl ?_
    have hf := Option.some.inj hf; subst hf
    exact j_iret rfl rfl (Nat.zero_le _) (Nat.zero_le _) ⟨rfl, rfl⟩
def rX7_findFar : Room := { frames := 0, cells := 0, slots := 0, locals := 0 }
def f_X7_findFar_L2 : Nat → mS → Int32 → Option (mS)
  | 0, _, _ => none
  | n + 1, μ, x1 => if 9 ≤ x1 then some (μ) else if 3 ≤ x1 then bif vin x1 9 then letm (seti μ 47 (va_up (μ.1 47) (x1).toNatClampNeg 1000000)) fun μ33 => bif vin x1 9 then letm (seti μ33 48 (va_up (μ33.1 48) (x1).toNatClampNeg (-1))) fun μ40 => f_X7_findFar_L2 n μ40 (x1 + 1) else none else none else bif vin x1 3 then if (μ.1 45 (x1).toNatClampNeg) ≤ 0 then bif vin x1 9 then letm (seti μ 47 (va_up (μ.1 47) (x1).toNatClampNeg 1000000)) fun μ33 => bif vin x1 9 then letm (seti μ33 48 (va_up (μ33.1 48) (x1).toNatClampNeg (-1))) fun μ40 => f_X7_findFar_L2 n μ40 (x1 + 1) else none else none else bif vin x1 9 then letm (seti μ 47 (va_up (μ.1 47) (x1).toNatClampNeg 0)) fun μ33 => bif vin x1 9 then letm (seti μ33 48 (va_up (μ33.1 48) (x1).toNatClampNeg (-1))) fun μ40 => f_X7_findFar_L2 n μ40 (x1 + 1) else none else none else none
set_option maxHeartbeats 4000000 in
set_option maxRecDepth 100000 in
theorem s_X7_findFar_L2 {Q : Option Value → hH → Prop} (g : hH) : ∀ (n : Nat) (μ : mS) (x1 : Int32) (r : mS), f_X7_findFar_L2 n μ x1 = some r → (J mX7_findFar rX7_findFar Q 0 0 (gm g r) 47 [(0, .ref 5000)] []) → J mX7_findFar rX7_findFar Q 0 0 (gm g μ) 2 [(0, .ref 5000), (1, .int x1)] [] := by
  intro n
  induction n with
  | zero =>
    intro μ x1 r hf
    cases hf
  | succ n ih =>
    intro μ x1 r hf k0
    rw [f_X7_findFar_L2] at hf
    refine j_iload_n (pc' := 3) rfl rfl rfl ?_
    refine j_bipush (v := 9) (pc' := 5) rfl rfl (by decide) ?_
    refine j_icmp_ge (tgt := 47) (pc' := 8) rfl rfl rfl (fun c5 => ?_) (fun c5 => ?_)
    · rw [if_pos c5] at hf
      have hf := Option.some.inj hf; subst hf
      exact j_sub (ls' := [(0, .ref 5000)]) ⟨rfl, trivial⟩ (k0)
    · rw [if_neg c5] at hf
      refine j_aload_n (pc' := 9) rfl rfl rfl ?_
      refine j_get (pc' := 12) rfl rfl flX7_125 (gm_o g μ) (mF_47 μ) ?_
      refine j_iload_n (pc' := 13) rfl rfl rfl ?_
      refine j_iload_n (pc' := 14) rfl rfl rfl ?_
      refine j_iconst (v := 3) (pc' := 15) rfl rfl (by decide) ?_
      refine j_icmp_ge (tgt := 31) (pc' := 18) rfl rfl rfl (fun c15 => ?_) (fun c15 => ?_)
      · rw [if_pos c15] at hf
        refine j_ldc (pc' := 33) rfl rfl kcX7_228 ?_
        obtain ⟨c33, hf⟩ := o_chk hf
        obtain ⟨μ33, e33, hf⟩ := o_let hf
        refine j_iast (pc' := 34) rfl rfl (gm_47 g μ) (by decide) (vin_ok c33) ?_
        rw [gs_47]; rw [e33]
        refine j_aload_n (pc' := 35) rfl rfl rfl ?_
        refine j_get (pc' := 38) rfl rfl flX7_128 (gm_o g μ33) (mF_48 μ33) ?_
        refine j_iload_n (pc' := 39) rfl rfl rfl ?_
        refine j_iconst (v := (-1)) (pc' := 40) rfl rfl (by decide) ?_
        obtain ⟨c40, hf⟩ := o_chk hf
        obtain ⟨μ40, e40, hf⟩ := o_let hf
        refine j_iast (pc' := 41) rfl rfl (gm_48 g μ33) (by decide) (vin_ok c40) ?_
        rw [gs_48]; rw [e40]
        refine j_iinc (pc' := 44) (d := 1) (ls' := [(1, _), (0, _)]) rfl rfl rfl (by decide) (Nat.le_of_ble_eq_true rfl) rfl ?_
        refine j_goto (tgt := 2) rfl rfl ?_
        refine j_sub (ls' := [(0, .ref 5000), (1, .int _)]) ⟨rfl, rfl, trivial⟩ ?_
        exact ih _ _ _ hf k0
      · rw [if_neg c15] at hf
        refine j_aload_n (pc' := 19) rfl rfl rfl ?_
        refine j_get (pc' := 22) rfl rfl flX7_119 (gm_o g μ) (mF_45 μ) ?_
        refine j_iload_n (pc' := 23) rfl rfl rfl ?_
        obtain ⟨c23, hf⟩ := o_chk hf
        refine j_iald (pc' := 24) rfl rfl (gm_45 g μ) (vin_ok c23) ?_
        refine j_if_le (tgt := 31) (pc' := 27) rfl rfl rfl (fun c24 => ?_) (fun c24 => ?_)
        · rw [if_pos c24] at hf
          refine j_ldc (pc' := 33) rfl rfl kcX7_228 ?_
          obtain ⟨c33, hf⟩ := o_chk hf
          obtain ⟨μ33, e33, hf⟩ := o_let hf
          refine j_iast (pc' := 34) rfl rfl (gm_47 g μ) (by decide) (vin_ok c33) ?_
          rw [gs_47]; rw [e33]
          refine j_aload_n (pc' := 35) rfl rfl rfl ?_
          refine j_get (pc' := 38) rfl rfl flX7_128 (gm_o g μ33) (mF_48 μ33) ?_
          refine j_iload_n (pc' := 39) rfl rfl rfl ?_
          refine j_iconst (v := (-1)) (pc' := 40) rfl rfl (by decide) ?_
          obtain ⟨c40, hf⟩ := o_chk hf
          obtain ⟨μ40, e40, hf⟩ := o_let hf
          refine j_iast (pc' := 41) rfl rfl (gm_48 g μ33) (by decide) (vin_ok c40) ?_
          rw [gs_48]; rw [e40]
          refine j_iinc (pc' := 44) (d := 1) (ls' := [(1, _), (0, _)]) rfl rfl rfl (by decide) (Nat.le_of_ble_eq_true rfl) rfl ?_
          refine j_goto (tgt := 2) rfl rfl ?_
          refine j_sub (ls' := [(0, .ref 5000), (1, .int _)]) ⟨rfl, rfl, trivial⟩ ?_
          exact ih _ _ _ hf k0
        · rw [if_neg c24] at hf
          refine j_iconst (v := 0) (pc' := 28) rfl rfl (by decide) ?_
          refine j_goto (tgt := 33) rfl rfl ?_
          obtain ⟨c33, hf⟩ := o_chk hf
          obtain ⟨μ33, e33, hf⟩ := o_let hf
          refine j_iast (pc' := 34) rfl rfl (gm_47 g μ) (by decide) (vin_ok c33) ?_
          rw [gs_47]; rw [e33]
          refine j_aload_n (pc' := 35) rfl rfl rfl ?_
          refine j_get (pc' := 38) rfl rfl flX7_128 (gm_o g μ33) (mF_48 μ33) ?_
          refine j_iload_n (pc' := 39) rfl rfl rfl ?_
          refine j_iconst (v := (-1)) (pc' := 40) rfl rfl (by decide) ?_
          obtain ⟨c40, hf⟩ := o_chk hf
          obtain ⟨μ40, e40, hf⟩ := o_let hf
          refine j_iast (pc' := 41) rfl rfl (gm_48 g μ33) (by decide) (vin_ok c40) ?_
          rw [gs_48]; rw [e40]
          refine j_iinc (pc' := 44) (d := 1) (ls' := [(1, _), (0, _)]) rfl rfl rfl (by decide) (Nat.le_of_ble_eq_true rfl) rfl ?_
          refine j_goto (tgt := 2) rfl rfl ?_
          refine j_sub (ls' := [(0, .ref 5000), (1, .int _)]) ⟨rfl, rfl, trivial⟩ ?_
          exact ih _ _ _ hf k0
def f_X7_findFar_L65 : Nat → mS → Int32 → Int32 → Int32 → Option (mS)
  | 0, _, _, _, _ => none
  | n + 1, μ, x1, x2, x3 => if 3 ≤ x3 then some (μ) else bif vin ((3 * x2) + x3) 18 then letm (μ.1 32 (((3 * x2) + x3)).toNatClampNeg) fun y80 => bif vin x3 9 then bif vin (3 + x2) 9 then if (μ.1 47 ((3 + x2)).toNatClampNeg) ≤ ((μ.1 47 (x3).toNatClampNeg) + y80) then bif vin ((3 * x2) + x3) 18 then if (μ.1 44 (((3 * x2) + x3)).toNatClampNeg) ≤ 0 then f_X7_findFar_L65 n μ x1 x2 (x3 + 1) else bif vin (3 + x2) 9 then bif vin x3 9 then if (μ.1 47 (x3).toNatClampNeg) ≤ ((μ.1 47 ((3 + x2)).toNatClampNeg) - y80) then f_X7_findFar_L65 n μ x1 x2 (x3 + 1) else bif vin (3 + x2) 9 then bif vin x3 9 then letm (seti μ 47 (va_up (μ.1 47) (x3).toNatClampNeg ((μ.1 47 ((3 + x2)).toNatClampNeg) - y80))) fun μ177 => bif vin x3 9 then letm (seti μ177 48 (va_up (μ177.1 48) (x3).toNatClampNeg (3 + x2))) fun μ186 => f_X7_findFar_L65 n μ186 x1 x2 (x3 + 1) else none else none else none else none else none else none else bif vin x3 9 then bif vin (3 + x2) 9 then letm (seti μ 47 (va_up (μ.1 47) ((3 + x2)).toNatClampNeg ((μ.1 47 (x3).toNatClampNeg) + y80))) fun μ118 => bif vin (3 + x2) 9 then letm (seti μ118 48 (va_up (μ118.1 48) ((3 + x2)).toNatClampNeg x3)) fun μ127 => bif vin ((3 * x2) + x3) 18 then if (μ127.1 44 (((3 * x2) + x3)).toNatClampNeg) ≤ 0 then f_X7_findFar_L65 n μ127 x1 x2 (x3 + 1) else bif vin (3 + x2) 9 then bif vin x3 9 then if (μ127.1 47 (x3).toNatClampNeg) ≤ ((μ127.1 47 ((3 + x2)).toNatClampNeg) - y80) then f_X7_findFar_L65 n μ127 x1 x2 (x3 + 1) else bif vin (3 + x2) 9 then bif vin x3 9 then letm (seti μ127 47 (va_up (μ127.1 47) (x3).toNatClampNeg ((μ127.1 47 ((3 + x2)).toNatClampNeg) - y80))) fun μ177 => bif vin x3 9 then letm (seti μ177 48 (va_up (μ177.1 48) (x3).toNatClampNeg (3 + x2))) fun μ186 => f_X7_findFar_L65 n μ186 x1 x2 (x3 + 1) else none else none else none else none else none else none else none else none else none else none else none else none
set_option maxHeartbeats 4000000 in
set_option maxRecDepth 100000 in
theorem s_X7_findFar_L65 {Q : Option Value → hH → Prop} (g : hH) : ∀ (n : Nat) (μ : mS) (x1 : Int32) (x2 : Int32) (x3 : Int32) (r : mS), f_X7_findFar_L65 n μ x1 x2 x3 = some r → (J mX7_findFar rX7_findFar Q 0 0 (gm g r) 193 [(0, .ref 5000), (1, .int x1), (2, .int x2)] []) → J mX7_findFar rX7_findFar Q 0 0 (gm g μ) 65 [(0, .ref 5000), (1, .int x1), (2, .int x2), (3, .int x3)] [] := by
  intro n
  induction n with
  | zero =>
    intro μ x1 x2 x3 r hf
    cases hf
  | succ n ih =>
    intro μ x1 x2 x3 r hf k0
    rw [f_X7_findFar_L65] at hf
    refine j_iload_n (pc' := 66) rfl rfl rfl ?_
    refine j_iconst (v := 3) (pc' := 67) rfl rfl (by decide) ?_
    refine j_icmp_ge (tgt := 193) (pc' := 70) rfl rfl rfl (fun c67 => ?_) (fun c67 => ?_)
    · rw [if_pos c67] at hf
      have hf := Option.some.inj hf; subst hf
      exact j_sub (ls' := [(0, .ref 5000), (1, .int _), (2, .int _)]) ⟨rfl, rfl, rfl, trivial⟩ (k0)
    · rw [if_neg c67] at hf
      refine j_aload_n (pc' := 71) rfl rfl rfl ?_
      refine j_get (pc' := 74) rfl rfl flX7_82 (gm_o g μ) (mF_32 μ) ?_
      refine j_iconst (v := 3) (pc' := 75) rfl rfl (by decide) ?_
      refine j_iload_n (pc' := 76) rfl rfl rfl ?_
      refine j_imul (pc' := 77) rfl rfl ?_
      refine j_iload_n (pc' := 78) rfl rfl rfl ?_
      refine j_iadd (pc' := 79) rfl rfl ?_
      obtain ⟨c79, hf⟩ := o_chk hf
      refine j_iald (pc' := 80) rfl rfl (gm_32 g μ) (vin_ok c79) ?_
      obtain ⟨y80, e80, hf⟩ := o_let hf
      rw [e80]
      refine j_istore (pc' := 82) (ls' := [(4, _), (0, _), (1, _), (2, _), (3, _)]) rfl rfl (Nat.le_of_ble_eq_true rfl) rfl ?_
      refine j_aload_n (pc' := 83) rfl rfl rfl ?_
      refine j_get (pc' := 86) rfl rfl flX7_125 (gm_o g μ) (mF_47 μ) ?_
      refine j_iload_n (pc' := 87) rfl rfl rfl ?_
      obtain ⟨c87, hf⟩ := o_chk hf
      refine j_iald (pc' := 88) rfl rfl (gm_47 g μ) (vin_ok c87) ?_
      refine j_iload (pc' := 90) rfl rfl rfl ?_
      refine j_iadd (pc' := 91) rfl rfl ?_
      refine j_aload_n (pc' := 92) rfl rfl rfl ?_
      refine j_get (pc' := 95) rfl rfl flX7_125 (gm_o g μ) (mF_47 μ) ?_
      refine j_iconst (v := 3) (pc' := 96) rfl rfl (by decide) ?_
      refine j_iload_n (pc' := 97) rfl rfl rfl ?_
      refine j_iadd (pc' := 98) rfl rfl ?_
      obtain ⟨c98, hf⟩ := o_chk hf
      refine j_iald (pc' := 99) rfl rfl (gm_47 g μ) (vin_ok c98) ?_
      refine j_icmp_ge (tgt := 128) (pc' := 102) rfl rfl rfl (fun c99 => ?_) (fun c99 => ?_)
      · rw [if_pos c99] at hf
        refine j_aload_n (pc' := 129) rfl rfl rfl ?_
        refine j_get (pc' := 132) rfl rfl flX7_116 (gm_o g μ) (mF_44 μ) ?_
        refine j_iconst (v := 3) (pc' := 133) rfl rfl (by decide) ?_
        refine j_iload_n (pc' := 134) rfl rfl rfl ?_
        refine j_imul (pc' := 135) rfl rfl ?_
        refine j_iload_n (pc' := 136) rfl rfl rfl ?_
        refine j_iadd (pc' := 137) rfl rfl ?_
        obtain ⟨c137, hf⟩ := o_chk hf
        refine j_iald (pc' := 138) rfl rfl (gm_44 g μ) (vin_ok c137) ?_
        refine j_if_le (tgt := 187) (pc' := 141) rfl rfl rfl (fun c138 => ?_) (fun c138 => ?_)
        · rw [if_pos c138] at hf
          refine j_iinc (pc' := 190) (d := 1) (ls' := [(3, _), (4, _), (0, _), (1, _), (2, _)]) rfl rfl rfl (by decide) (Nat.le_of_ble_eq_true rfl) rfl ?_
          refine j_goto (tgt := 65) rfl rfl ?_
          refine j_sub (ls' := [(0, .ref 5000), (1, .int _), (2, .int _), (3, .int _)]) ⟨rfl, rfl, rfl, rfl, trivial⟩ ?_
          exact ih _ _ _ _ _ hf k0
        · rw [if_neg c138] at hf
          refine j_aload_n (pc' := 142) rfl rfl rfl ?_
          refine j_get (pc' := 145) rfl rfl flX7_125 (gm_o g μ) (mF_47 μ) ?_
          refine j_iconst (v := 3) (pc' := 146) rfl rfl (by decide) ?_
          refine j_iload_n (pc' := 147) rfl rfl rfl ?_
          refine j_iadd (pc' := 148) rfl rfl ?_
          obtain ⟨c148, hf⟩ := o_chk hf
          refine j_iald (pc' := 149) rfl rfl (gm_47 g μ) (vin_ok c148) ?_
          refine j_iload (pc' := 151) rfl rfl rfl ?_
          refine j_isub (pc' := 152) rfl rfl ?_
          refine j_aload_n (pc' := 153) rfl rfl rfl ?_
          refine j_get (pc' := 156) rfl rfl flX7_125 (gm_o g μ) (mF_47 μ) ?_
          refine j_iload_n (pc' := 157) rfl rfl rfl ?_
          obtain ⟨c157, hf⟩ := o_chk hf
          refine j_iald (pc' := 158) rfl rfl (gm_47 g μ) (vin_ok c157) ?_
          refine j_icmp_ge (tgt := 187) (pc' := 161) rfl rfl rfl (fun c158 => ?_) (fun c158 => ?_)
          · rw [if_pos c158] at hf
            refine j_iinc (pc' := 190) (d := 1) (ls' := [(3, _), (4, _), (0, _), (1, _), (2, _)]) rfl rfl rfl (by decide) (Nat.le_of_ble_eq_true rfl) rfl ?_
            refine j_goto (tgt := 65) rfl rfl ?_
            refine j_sub (ls' := [(0, .ref 5000), (1, .int _), (2, .int _), (3, .int _)]) ⟨rfl, rfl, rfl, rfl, trivial⟩ ?_
            exact ih _ _ _ _ _ hf k0
          · rw [if_neg c158] at hf
            refine j_aload_n (pc' := 162) rfl rfl rfl ?_
            refine j_get (pc' := 165) rfl rfl flX7_125 (gm_o g μ) (mF_47 μ) ?_
            refine j_iload_n (pc' := 166) rfl rfl rfl ?_
            refine j_aload_n (pc' := 167) rfl rfl rfl ?_
            refine j_get (pc' := 170) rfl rfl flX7_125 (gm_o g μ) (mF_47 μ) ?_
            refine j_iconst (v := 3) (pc' := 171) rfl rfl (by decide) ?_
            refine j_iload_n (pc' := 172) rfl rfl rfl ?_
            refine j_iadd (pc' := 173) rfl rfl ?_
            obtain ⟨c173, hf⟩ := o_chk hf
            refine j_iald (pc' := 174) rfl rfl (gm_47 g μ) (vin_ok c173) ?_
            refine j_iload (pc' := 176) rfl rfl rfl ?_
            refine j_isub (pc' := 177) rfl rfl ?_
            obtain ⟨c177, hf⟩ := o_chk hf
            obtain ⟨μ177, e177, hf⟩ := o_let hf
            refine j_iast (pc' := 178) rfl rfl (gm_47 g μ) (by decide) (vin_ok c177) ?_
            rw [gs_47]; rw [e177]
            refine j_aload_n (pc' := 179) rfl rfl rfl ?_
            refine j_get (pc' := 182) rfl rfl flX7_128 (gm_o g μ177) (mF_48 μ177) ?_
            refine j_iload_n (pc' := 183) rfl rfl rfl ?_
            refine j_iconst (v := 3) (pc' := 184) rfl rfl (by decide) ?_
            refine j_iload_n (pc' := 185) rfl rfl rfl ?_
            refine j_iadd (pc' := 186) rfl rfl ?_
            obtain ⟨c186, hf⟩ := o_chk hf
            obtain ⟨μ186, e186, hf⟩ := o_let hf
            refine j_iast (pc' := 187) rfl rfl (gm_48 g μ177) (by decide) (vin_ok c186) ?_
            rw [gs_48]; rw [e186]
            refine j_iinc (pc' := 190) (d := 1) (ls' := [(3, _), (4, _), (0, _), (1, _), (2, _)]) rfl rfl rfl (by decide) (Nat.le_of_ble_eq_true rfl) rfl ?_
            refine j_goto (tgt := 65) rfl rfl ?_
            refine j_sub (ls' := [(0, .ref 5000), (1, .int _), (2, .int _), (3, .int _)]) ⟨rfl, rfl, rfl, rfl, trivial⟩ ?_
            exact ih _ _ _ _ _ hf k0
      · rw [if_neg c99] at hf
        refine j_aload_n (pc' := 103) rfl rfl rfl ?_
        refine j_get (pc' := 106) rfl rfl flX7_125 (gm_o g μ) (mF_47 μ) ?_
        refine j_iconst (v := 3) (pc' := 107) rfl rfl (by decide) ?_
        refine j_iload_n (pc' := 108) rfl rfl rfl ?_
        refine j_iadd (pc' := 109) rfl rfl ?_
        refine j_aload_n (pc' := 110) rfl rfl rfl ?_
        refine j_get (pc' := 113) rfl rfl flX7_125 (gm_o g μ) (mF_47 μ) ?_
        refine j_iload_n (pc' := 114) rfl rfl rfl ?_
        obtain ⟨c114, hf⟩ := o_chk hf
        refine j_iald (pc' := 115) rfl rfl (gm_47 g μ) (vin_ok c114) ?_
        refine j_iload (pc' := 117) rfl rfl rfl ?_
        refine j_iadd (pc' := 118) rfl rfl ?_
        obtain ⟨c118, hf⟩ := o_chk hf
        obtain ⟨μ118, e118, hf⟩ := o_let hf
        refine j_iast (pc' := 119) rfl rfl (gm_47 g μ) (by decide) (vin_ok c118) ?_
        rw [gs_47]; rw [e118]
        refine j_aload_n (pc' := 120) rfl rfl rfl ?_
        refine j_get (pc' := 123) rfl rfl flX7_128 (gm_o g μ118) (mF_48 μ118) ?_
        refine j_iconst (v := 3) (pc' := 124) rfl rfl (by decide) ?_
        refine j_iload_n (pc' := 125) rfl rfl rfl ?_
        refine j_iadd (pc' := 126) rfl rfl ?_
        refine j_iload_n (pc' := 127) rfl rfl rfl ?_
        obtain ⟨c127, hf⟩ := o_chk hf
        obtain ⟨μ127, e127, hf⟩ := o_let hf
        refine j_iast (pc' := 128) rfl rfl (gm_48 g μ118) (by decide) (vin_ok c127) ?_
        rw [gs_48]; rw [e127]
        refine j_aload_n (pc' := 129) rfl rfl rfl ?_
        refine j_get (pc' := 132) rfl rfl flX7_116 (gm_o g μ127) (mF_44 μ127) ?_
        refine j_iconst (v := 3) (pc' := 133) rfl rfl (by decide) ?_
        refine j_iload_n (pc' := 134) rfl rfl rfl ?_
        refine j_imul (pc' := 135) rfl rfl ?_
        refine j_iload_n (pc' := 136) rfl rfl rfl ?_
        refine j_iadd (pc' := 137) rfl rfl ?_
        obtain ⟨c137, hf⟩ := o_chk hf
        refine j_iald (pc' := 138) rfl rfl (gm_44 g μ127) (vin_ok c137) ?_
        refine j_if_le (tgt := 187) (pc' := 141) rfl rfl rfl (fun c138 => ?_) (fun c138 => ?_)
        · rw [if_pos c138] at hf
          refine j_iinc (pc' := 190) (d := 1) (ls' := [(3, _), (4, _), (0, _), (1, _), (2, _)]) rfl rfl rfl (by decide) (Nat.le_of_ble_eq_true rfl) rfl ?_
          refine j_goto (tgt := 65) rfl rfl ?_
          refine j_sub (ls' := [(0, .ref 5000), (1, .int _), (2, .int _), (3, .int _)]) ⟨rfl, rfl, rfl, rfl, trivial⟩ ?_
          exact ih _ _ _ _ _ hf k0
        · rw [if_neg c138] at hf
          refine j_aload_n (pc' := 142) rfl rfl rfl ?_
          refine j_get (pc' := 145) rfl rfl flX7_125 (gm_o g μ127) (mF_47 μ127) ?_
          refine j_iconst (v := 3) (pc' := 146) rfl rfl (by decide) ?_
          refine j_iload_n (pc' := 147) rfl rfl rfl ?_
          refine j_iadd (pc' := 148) rfl rfl ?_
          obtain ⟨c148, hf⟩ := o_chk hf
          refine j_iald (pc' := 149) rfl rfl (gm_47 g μ127) (vin_ok c148) ?_
          refine j_iload (pc' := 151) rfl rfl rfl ?_
          refine j_isub (pc' := 152) rfl rfl ?_
          refine j_aload_n (pc' := 153) rfl rfl rfl ?_
          refine j_get (pc' := 156) rfl rfl flX7_125 (gm_o g μ127) (mF_47 μ127) ?_
          refine j_iload_n (pc' := 157) rfl rfl rfl ?_
          obtain ⟨c157, hf⟩ := o_chk hf
          refine j_iald (pc' := 158) rfl rfl (gm_47 g μ127) (vin_ok c157) ?_
          refine j_icmp_ge (tgt := 187) (pc' := 161) rfl rfl rfl (fun c158 => ?_) (fun c158 => ?_)
          · rw [if_pos c158] at hf
            refine j_iinc (pc' := 190) (d := 1) (ls' := [(3, _), (4, _), (0, _), (1, _), (2, _)]) rfl rfl rfl (by decide) (Nat.le_of_ble_eq_true rfl) rfl ?_
            refine j_goto (tgt := 65) rfl rfl ?_
            refine j_sub (ls' := [(0, .ref 5000), (1, .int _), (2, .int _), (3, .int _)]) ⟨rfl, rfl, rfl, rfl, trivial⟩ ?_
            exact ih _ _ _ _ _ hf k0
          · rw [if_neg c158] at hf
            refine j_aload_n (pc' := 162) rfl rfl rfl ?_
            refine j_get (pc' := 165) rfl rfl flX7_125 (gm_o g μ127) (mF_47 μ127) ?_
            refine j_iload_n (pc' := 166) rfl rfl rfl ?_
            refine j_aload_n (pc' := 167) rfl rfl rfl ?_
            refine j_get (pc' := 170) rfl rfl flX7_125 (gm_o g μ127) (mF_47 μ127) ?_
            refine j_iconst (v := 3) (pc' := 171) rfl rfl (by decide) ?_
            refine j_iload_n (pc' := 172) rfl rfl rfl ?_
            refine j_iadd (pc' := 173) rfl rfl ?_
            obtain ⟨c173, hf⟩ := o_chk hf
            refine j_iald (pc' := 174) rfl rfl (gm_47 g μ127) (vin_ok c173) ?_
            refine j_iload (pc' := 176) rfl rfl rfl ?_
            refine j_isub (pc' := 177) rfl rfl ?_
            obtain ⟨c177, hf⟩ := o_chk hf
            obtain ⟨μ177, e177, hf⟩ := o_let hf
            refine j_iast (pc' := 178) rfl rfl (gm_47 g μ127) (by decide) (vin_ok c177) ?_
            rw [gs_47]; rw [e177]
            refine j_aload_n (pc' := 179) rfl rfl rfl ?_
            refine j_get (pc' := 182) rfl rfl flX7_128 (gm_o g μ177) (mF_48 μ177) ?_
            refine j_iload_n (pc' := 183) rfl rfl rfl ?_
            refine j_iconst (v := 3) (pc' := 184) rfl rfl (by decide) ?_
            refine j_iload_n (pc' := 185) rfl rfl rfl ?_
            refine j_iadd (pc' := 186) rfl rfl ?_
            obtain ⟨c186, hf⟩ := o_chk hf
            obtain ⟨μ186, e186, hf⟩ := o_let hf
            refine j_iast (pc' := 187) rfl rfl (gm_48 g μ177) (by decide) (vin_ok c186) ?_
            rw [gs_48]; rw [e186]
            refine j_iinc (pc' := 190) (d := 1) (ls' := [(3, _), (4, _), (0, _), (1, _), (2, _)]) rfl rfl rfl (by decide) (Nat.le_of_ble_eq_true rfl) rfl ?_
            refine j_goto (tgt := 65) rfl rfl ?_
            refine j_sub (ls' := [(0, .ref 5000), (1, .int _), (2, .int _), (3, .int _)]) ⟨rfl, rfl, rfl, rfl, trivial⟩ ?_
            exact ih _ _ _ _ _ hf k0
def f_X7_findFar_L57 : Nat → mS → Int32 → Int32 → Option (mS)
  | 0, _, _, _ => none
  | n + 1, μ, x1, x2 => if 6 ≤ x2 then some (μ) else (f_X7_findFar_L65 4000 μ x1 x2 0).bind fun r65 => f_X7_findFar_L57 n r65 x1 (x2 + 1)
set_option maxHeartbeats 4000000 in
set_option maxRecDepth 100000 in
theorem s_X7_findFar_L57 {Q : Option Value → hH → Prop} (g : hH) : ∀ (n : Nat) (μ : mS) (x1 : Int32) (x2 : Int32) (r : mS), f_X7_findFar_L57 n μ x1 x2 = some r → (J mX7_findFar rX7_findFar Q 0 0 (gm g r) 199 [(0, .ref 5000), (1, .int x1)] []) → J mX7_findFar rX7_findFar Q 0 0 (gm g μ) 57 [(0, .ref 5000), (1, .int x1), (2, .int x2)] [] := by
  intro n
  induction n with
  | zero =>
    intro μ x1 x2 r hf
    cases hf
  | succ n ih =>
    intro μ x1 x2 r hf k0
    rw [f_X7_findFar_L57] at hf
    refine j_iload_n (pc' := 58) rfl rfl rfl ?_
    refine j_bipush (v := 6) (pc' := 60) rfl rfl (by decide) ?_
    refine j_icmp_ge (tgt := 199) (pc' := 63) rfl rfl rfl (fun c60 => ?_) (fun c60 => ?_)
    · rw [if_pos c60] at hf
      have hf := Option.some.inj hf; subst hf
      exact j_sub (ls' := [(0, .ref 5000), (1, .int _)]) ⟨rfl, rfl, trivial⟩ (k0)
    · rw [if_neg c60] at hf
      refine j_iconst (v := 0) (pc' := 64) rfl rfl (by decide) ?_
      refine j_istore_n (pc' := 65) (ls' := [(3, _), (0, _), (1, _), (2, _)]) rfl rfl (Nat.le_of_ble_eq_true rfl) rfl ?_
      obtain ⟨r65, e65, hf⟩ := o_bind hf
      refine j_sub (ls' := [(0, .ref 5000), (1, .int x1), (2, .int x2), (3, .int 0)]) ⟨rfl, rfl, rfl, rfl, trivial⟩ ?_
      refine s_X7_findFar_L65 g _ _ _ _ _ _ e65 ?_
      refine j_iinc (pc' := 196) (d := 1) (ls' := [(2, _), (0, _), (1, _)]) rfl rfl rfl (by decide) (Nat.le_of_ble_eq_true rfl) rfl ?_
      refine j_goto (tgt := 57) rfl rfl ?_
      refine j_sub (ls' := [(0, .ref 5000), (1, .int _), (2, .int _)]) ⟨rfl, rfl, rfl, trivial⟩ ?_
      exact ih _ _ _ _ hf k0
def f_X7_findFar_L49 : Nat → mS → Int32 → Option (mS)
  | 0, _, _ => none
  | n + 1, μ, x1 => if 9 ≤ x1 then some (μ) else (f_X7_findFar_L57 4000 μ x1 0).bind fun r57 => f_X7_findFar_L49 n r57 (x1 + 1)
set_option maxHeartbeats 4000000 in
set_option maxRecDepth 100000 in
theorem s_X7_findFar_L49 {Q : Option Value → hH → Prop} (g : hH) : ∀ (n : Nat) (μ : mS) (x1 : Int32) (r : mS), f_X7_findFar_L49 n μ x1 = some r → (J mX7_findFar rX7_findFar Q 0 0 (gm g r) 205 [] []) → J mX7_findFar rX7_findFar Q 0 0 (gm g μ) 49 [(0, .ref 5000), (1, .int x1)] [] := by
  intro n
  induction n with
  | zero =>
    intro μ x1 r hf
    cases hf
  | succ n ih =>
    intro μ x1 r hf k0
    rw [f_X7_findFar_L49] at hf
    refine j_iload_n (pc' := 50) rfl rfl rfl ?_
    refine j_bipush (v := 9) (pc' := 52) rfl rfl (by decide) ?_
    refine j_icmp_ge (tgt := 205) (pc' := 55) rfl rfl rfl (fun c52 => ?_) (fun c52 => ?_)
    · rw [if_pos c52] at hf
      have hf := Option.some.inj hf; subst hf
      exact j_sub (ls' := []) trivial (k0)
    · rw [if_neg c52] at hf
      refine j_iconst (v := 0) (pc' := 56) rfl rfl (by decide) ?_
      refine j_istore_n (pc' := 57) (ls' := [(2, _), (0, _), (1, _)]) rfl rfl (Nat.le_of_ble_eq_true rfl) rfl ?_
      obtain ⟨r57, e57, hf⟩ := o_bind hf
      refine j_sub (ls' := [(0, .ref 5000), (1, .int x1), (2, .int 0)]) ⟨rfl, rfl, rfl, trivial⟩ ?_
      refine s_X7_findFar_L57 g _ _ _ _ _ e57 ?_
      refine j_iinc (pc' := 202) (d := 1) (ls' := [(1, _), (0, _)]) rfl rfl rfl (by decide) (Nat.le_of_ble_eq_true rfl) rfl ?_
      refine j_goto (tgt := 49) rfl rfl ?_
      refine j_sub (ls' := [(0, .ref 5000), (1, .int _)]) ⟨rfl, rfl, trivial⟩ ?_
      exact ih _ _ _ hf k0
def f_X7_findFar (μ : mS) : Option mS := (f_X7_findFar_L2 4000 μ 0).bind fun r2 => (f_X7_findFar_L49 4000 r2 0).bind fun r49 => some r49
set_option maxHeartbeats 4000000 in
set_option maxRecDepth 100000 in
theorem s_X7_findFar (g : hH) (μ : mS) (r : mS) (hf : f_X7_findFar μ = some r) : SpD mX7_findFar rX7_findFar [.ref 5000] (gm g μ) (none) (gm g r) := by
  refine sp_of miX7_findFar (Nat.le_of_ble_eq_true rfl) ?_
  show J _ _ _ 0 0 _ 0 [(0, .ref 5000)] []
  unfold f_X7_findFar at hf
  refine j_iconst (v := 0) (pc' := 1) rfl rfl (by decide) ?_
  refine j_istore_n (pc' := 2) (ls' := [(1, _), (0, _)]) rfl rfl (Nat.le_of_ble_eq_true rfl) rfl ?_
  obtain ⟨r2, e2, hf⟩ := o_bind hf
  refine j_sub (ls' := [(0, .ref 5000), (1, .int 0)]) ⟨rfl, rfl, trivial⟩ ?_
  refine s_X7_findFar_L2 g _ _ _ _ e2 ?_
  refine j_iconst (v := 0) (pc' := 48) rfl rfl (by decide) ?_
  refine j_istore_n (pc' := 49) (ls' := [(1, _), (0, _)]) rfl rfl (Nat.le_of_ble_eq_true rfl) rfl ?_
  obtain ⟨r49, e49, hf⟩ := o_bind hf
  refine j_sub (ls' := [(0, .ref 5000), (1, .int 0)]) ⟨rfl, rfl, trivial⟩ ?_
  refine s_X7_findFar_L49 g _ _ _ _ e49 ?_
  have hf := Option.some.inj hf; subst hf
  exact j_vret rfl rfl (Nat.zero_le _) (Nat.zero_le _) ⟨rfl, rfl⟩
end MODEL1
