section MODEL4
def rX7_paid : Room := { frames := 1, cells := 0, slots := 0, locals := 22 }
def f_X7_paid (μ : mS) (x1 : Int32) : Option Int32 := (f_X7_in x1 0 ((μ.1 29 0) - 1)).bind fun r8 => if r8 = 0 then some (-1) else bif vin x1 30 then some (μ.1 30 (x1).toNatClampNeg) else none
set_option maxHeartbeats 4000000 in
set_option maxRecDepth 100000 in
theorem s_X7_paid (g : hH) (μ : mS) (x1 : Int32) (r : Int32) (hf : f_X7_paid μ x1 = some r) : SpD mX7_paid rX7_paid [.ref 5000, .int x1] (gm g μ) (some (.int r)) (gm g μ) := by
  refine sp_of miX7_paid (Nat.le_of_ble_eq_true rfl) ?_
  show J _ _ _ 0 0 _ 0 [(0, .ref 5000), (1, .int x1)] []
  unfold f_X7_paid at hf
  refine j_iload_n (pc' := 1) rfl rfl rfl ?_
  refine j_iconst (v := 0) (pc' := 2) rfl rfl (by decide) ?_
  refine j_aload_n (pc' := 3) rfl rfl rfl ?_
  refine j_get (pc' := 6) rfl rfl flX7_235 (gm_o g μ) (mF_29 μ) ?_
  refine j_iconst (v := 1) (pc' := 7) rfl rfl (by decide) ?_
  refine j_isub (pc' := 8) rfl rfl ?_
  obtain ⟨r8, e8, hf⟩ := o_bind hf
  refine j_s3 (pc' := 11) rfl rfl miX7_in lnX7_138 (s_X7_in (gm g μ) x1 0 ((μ.1 29 0) - 1) _ e8) (h_rm_of rfl) (Nat.le_of_ble_eq_true rfl) (c' := 0) (s' := 0) rfl rfl ?_
  refine j_if_eq (tgt := 23) (pc' := 14) rfl rfl rfl (fun c11 => ?_) (fun c11 => ?_)
  · rw [if_pos c11] at hf
    refine j_iconst (v := (-1)) (pc' := 24) rfl rfl (by decide) ?_
    have hf := Option.some.inj hf; subst hf
    exact j_iret rfl rfl (Nat.zero_le _) (Nat.zero_le _) ⟨rfl, rfl⟩
  · rw [if_neg c11] at hf
    refine j_aload_n (pc' := 15) rfl rfl rfl ?_
    refine j_get (pc' := 18) rfl rfl flX7_76 (gm_o g μ) (mF_30 μ) ?_
    refine j_iload_n (pc' := 19) rfl rfl rfl ?_
    obtain ⟨c19, hf⟩ := o_chk hf
    refine j_iald (pc' := 20) rfl rfl (gm_30 g μ) (vin_ok c19) ?_
    refine j_goto (tgt := 24) rfl rfl ?_
    have hf := Option.some.inj hf; subst hf
    exact j_iret rfl rfl (Nat.zero_le _) (Nat.zero_le _) ⟨rfl, rfl⟩
def rX7_credit : Room := { frames := 2, cells := 0, slots := 0, locals := 42 }
def f_X7_credit (μ : mS) (x1 : Int32) : Option Int64 := (f_X7_isTown x1).bind fun r1 => if r1 = 0 then some (-1) else bif vin x1 6 then some (μ.2 28 (x1).toNatClampNeg) else none
set_option maxHeartbeats 4000000 in
set_option maxRecDepth 100000 in
theorem s_X7_credit (g : hH) (μ : mS) (x1 : Int32) (r : Int64) (hf : f_X7_credit μ x1 = some r) : SpD mX7_credit rX7_credit [.ref 5000, .int x1] (gm g μ) (some (.long r)) (gm g μ) := by
  refine sp_of miX7_credit (Nat.le_of_ble_eq_true rfl) ?_
  show J _ _ _ 0 0 _ 0 [(0, .ref 5000), (1, .int x1)] []
  unfold f_X7_credit at hf
  refine j_iload_n (pc' := 1) rfl rfl rfl ?_
  obtain ⟨r1, e1, hf⟩ := o_bind hf
  refine j_s1 (pc' := 4) rfl rfl miX7_isTown lnX7_149 (s_X7_isTown (gm g μ) x1 _ e1) (h_rm_of rfl) (Nat.le_of_ble_eq_true rfl) (c' := 0) (s' := 0) rfl rfl ?_
  refine j_if_eq (tgt := 16) (pc' := 7) rfl rfl rfl (fun c4 => ?_) (fun c4 => ?_)
  · rw [if_pos c4] at hf
    refine j_ldc2 (pc' := 19) rfl rfl kcX7_177 ?_
    have hf := Option.some.inj hf; subst hf
    exact j_lret rfl rfl (Nat.zero_le _) (Nat.zero_le _) ⟨rfl, rfl⟩
  · rw [if_neg c4] at hf
    refine j_aload_n (pc' := 8) rfl rfl rfl ?_
    refine j_get (pc' := 11) rfl rfl flX7_72 (gm_o g μ) (mF_28 μ) ?_
    refine j_iload_n (pc' := 12) rfl rfl rfl ?_
    obtain ⟨c12, hf⟩ := o_chk hf
    refine j_lald (pc' := 13) rfl rfl (gm_28 g μ) (vin_ok c12) ?_
    refine j_goto (tgt := 19) rfl rfl ?_
    have hf := Option.some.inj hf; subst hf
    exact j_lret rfl rfl (Nat.zero_le _) (Nat.zero_le _) ⟨rfl, rfl⟩
def rX7_give : Room := { frames := 2, cells := 0, slots := 0, locals := 42 }
def f_X7_give_L13 : Nat → mS → Int32 → Int32 → Int32 → Option (Int32 × mS)
  | 0, _, _, _, _ => none
  | n + 1, μ, x1, x2, x3 => if (μ.1 7 0) ≤ x3 then some (x2, μ) else bif vin x3 30 then if (μ.1 17 (x3).toNatClampNeg) = 0 then f_X7_give_L13 n μ x1 x2 (x3 + 1) else bif vin x3 30 then if (μ.1 13 (x3).toNatClampNeg) = x1 then bif vin x3 30 then letm (seti μ 17 (va_up (μ.1 17) (x3).toNatClampNeg (vp_nar .boolean 0))) fun μ49 => f_X7_give_L13 n μ49 x1 (x2 + 1) (x3 + 1) else none else f_X7_give_L13 n μ x1 x2 (x3 + 1) else none else none
set_option maxHeartbeats 4000000 in
set_option maxRecDepth 100000 in
theorem s_X7_give_L13 {Q : Option Value → hH → Prop} (g : hH) : ∀ (n : Nat) (μ : mS) (x1 : Int32) (x2 : Int32) (x3 : Int32) (r : Int32 × mS), f_X7_give_L13 n μ x1 x2 x3 = some r → (J mX7_give rX7_give Q 0 0 (gm g r.2) 59 [(2, .int r.1)] []) → J mX7_give rX7_give Q 0 0 (gm g μ) 13 [(0, .ref 5000), (1, .int x1), (2, .int x2), (3, .int x3)] [] := by
  intro n
  induction n with
  | zero =>
    intro μ x1 x2 x3 r hf
    cases hf
  | succ n ih =>
    intro μ x1 x2 x3 r hf k0
    rw [f_X7_give_L13] at hf
    refine j_iload_n (pc' := 14) rfl rfl rfl ?_
    refine j_aload_n (pc' := 15) rfl rfl rfl ?_
    refine j_get (pc' := 18) rfl rfl flX7_142 (gm_o g μ) (mF_7 μ) ?_
    refine j_icmp_ge (tgt := 59) (pc' := 21) rfl rfl rfl (fun c18 => ?_) (fun c18 => ?_)
    · rw [if_pos c18] at hf
      have hf := Option.some.inj hf; subst hf
      exact j_sub (ls' := [(2, .int _)]) ⟨rfl, trivial⟩ (k0)
    · rw [if_neg c18] at hf
      refine j_aload_n (pc' := 22) rfl rfl rfl ?_
      refine j_get (pc' := 25) rfl rfl flX7_50 (gm_o g μ) (mF_17 μ) ?_
      refine j_iload_n (pc' := 26) rfl rfl rfl ?_
      obtain ⟨c26, hf⟩ := o_chk hf
      refine j_zald (pc' := 27) rfl rfl (gm_17 g μ) (vin_ok c26) ?_
      refine j_if_eq (tgt := 53) (pc' := 30) rfl rfl rfl (fun c27 => ?_) (fun c27 => ?_)
      · rw [if_pos c27] at hf
        refine j_iinc (pc' := 56) (d := 1) (ls' := [(3, _), (0, _), (1, _), (2, _)]) rfl rfl rfl (by decide) (Nat.le_of_ble_eq_true rfl) rfl ?_
        refine j_goto (tgt := 13) rfl rfl ?_
        refine j_sub (ls' := [(0, .ref 5000), (1, .int _), (2, .int _), (3, .int _)]) ⟨rfl, rfl, rfl, rfl, trivial⟩ ?_
        exact ih _ _ _ _ _ hf k0
      · rw [if_neg c27] at hf
        refine j_aload_n (pc' := 31) rfl rfl rfl ?_
        refine j_get (pc' := 34) rfl rfl flX7_37 (gm_o g μ) (mF_13 μ) ?_
        refine j_iload_n (pc' := 35) rfl rfl rfl ?_
        obtain ⟨c35, hf⟩ := o_chk hf
        refine j_iald (pc' := 36) rfl rfl (gm_13 g μ) (vin_ok c35) ?_
        refine j_iload_n (pc' := 37) rfl rfl rfl ?_
        refine j_icmp_eq (tgt := 43) (pc' := 40) rfl rfl rfl (fun c37 => ?_) (fun c37 => ?_)
        · rw [if_pos c37] at hf
          refine j_aload_n (pc' := 44) rfl rfl rfl ?_
          refine j_get (pc' := 47) rfl rfl flX7_50 (gm_o g μ) (mF_17 μ) ?_
          refine j_iload_n (pc' := 48) rfl rfl rfl ?_
          refine j_iconst (v := 0) (pc' := 49) rfl rfl (by decide) ?_
          obtain ⟨c49, hf⟩ := o_chk hf
          obtain ⟨μ49, e49, hf⟩ := o_let hf
          refine j_zast (pc' := 50) rfl rfl (gm_17 g μ) (by decide) (vin_ok c49) ?_
          rw [gs_17]; rw [e49]
          refine j_iinc (pc' := 53) (d := 1) (ls' := [(2, _), (0, _), (1, _), (3, _)]) rfl rfl rfl (by decide) (Nat.le_of_ble_eq_true rfl) rfl ?_
          refine j_iinc (pc' := 56) (d := 1) (ls' := [(3, _), (2, _), (0, _), (1, _)]) rfl rfl rfl (by decide) (Nat.le_of_ble_eq_true rfl) rfl ?_
          refine j_goto (tgt := 13) rfl rfl ?_
          refine j_sub (ls' := [(0, .ref 5000), (1, .int _), (2, .int _), (3, .int _)]) ⟨rfl, rfl, rfl, rfl, trivial⟩ ?_
          exact ih _ _ _ _ _ hf k0
        · rw [if_neg c37] at hf
          refine j_goto (tgt := 53) rfl rfl ?_
          refine j_iinc (pc' := 56) (d := 1) (ls' := [(3, _), (0, _), (1, _), (2, _)]) rfl rfl rfl (by decide) (Nat.le_of_ble_eq_true rfl) rfl ?_
          refine j_goto (tgt := 13) rfl rfl ?_
          refine j_sub (ls' := [(0, .ref 5000), (1, .int _), (2, .int _), (3, .int _)]) ⟨rfl, rfl, rfl, rfl, trivial⟩ ?_
          exact ih _ _ _ _ _ hf k0
def f_X7_give (μ : mS) (x1 : Int32) : Option (Int32 × mS) := (f_X7_isTown x1).bind fun r1 => if r1 = 0 then some ((-1), μ) else (f_X7_give_L13 4000 μ x1 0 0).bind fun r13 => some (r13.1, r13.2)
set_option maxHeartbeats 4000000 in
set_option maxRecDepth 100000 in
theorem s_X7_give (g : hH) (μ : mS) (x1 : Int32) (r : (Int32 × mS)) (hf : f_X7_give μ x1 = some r) : SpD mX7_give rX7_give [.ref 5000, .int x1] (gm g μ) (some (.int r.1)) (gm g r.2) := by
  refine sp_of miX7_give (Nat.le_of_ble_eq_true rfl) ?_
  show J _ _ _ 0 0 _ 0 [(0, .ref 5000), (1, .int x1)] []
  unfold f_X7_give at hf
  refine j_iload_n (pc' := 1) rfl rfl rfl ?_
  obtain ⟨r1, e1, hf⟩ := o_bind hf
  refine j_s1 (pc' := 4) rfl rfl miX7_isTown lnX7_149 (s_X7_isTown (gm g μ) x1 _ e1) (h_rm_of rfl) (Nat.le_of_ble_eq_true rfl) (c' := 0) (s' := 0) rfl rfl ?_
  refine j_if_ne (tgt := 9) (pc' := 7) rfl rfl rfl (fun c4 => ?_) (fun c4 => ?_)
  · rw [if_neg c4] at hf
    refine j_iconst (v := 0) (pc' := 10) rfl rfl (by decide) ?_
    refine j_istore_n (pc' := 11) (ls' := [(2, _), (0, _), (1, _)]) rfl rfl (Nat.le_of_ble_eq_true rfl) rfl ?_
    refine j_iconst (v := 0) (pc' := 12) rfl rfl (by decide) ?_
    refine j_istore_n (pc' := 13) (ls' := [(3, _), (2, _), (0, _), (1, _)]) rfl rfl (Nat.le_of_ble_eq_true rfl) rfl ?_
    obtain ⟨r13, e13, hf⟩ := o_bind hf
    refine j_sub (ls' := [(0, .ref 5000), (1, .int x1), (2, .int 0), (3, .int 0)]) ⟨rfl, rfl, rfl, rfl, trivial⟩ ?_
    refine s_X7_give_L13 g _ _ _ _ _ _ e13 ?_
    refine j_iload_n (pc' := 60) rfl rfl rfl ?_
    have hf := Option.some.inj hf; subst hf
    exact j_iret rfl rfl (Nat.zero_le _) (Nat.zero_le _) ⟨rfl, rfl⟩
  · rw [if_pos c4] at hf
    refine j_iconst (v := (-1)) (pc' := 8) rfl rfl (by decide) ?_
    have hf := Option.some.inj hf; subst hf
    exact j_iret rfl rfl (Nat.zero_le _) (Nat.zero_le _) ⟨rfl, rfl⟩
def rX7_lack : Room := { frames := 2, cells := 0, slots := 0, locals := 50 }
def f_X7_lack_L28 : Nat → mS → Int32 → Int64 → Int32 → Option (Int64)
  | 0, _, _, _, _ => none
  | n + 1, μ, x1, x3, x5 => if (μ.1 7 0) ≤ x5 then some (x3) else (f_X7_isThere μ x5 x1).bind fun r42 => if r42 = 0 then f_X7_lack_L28 n μ x1 (x3 - 0) (x5 + 1) else (f_X7_passes μ x5 x1 (μ.1 6 0)).bind fun r56 => f_X7_lack_L28 n μ x1 (x3 - (r56).toInt64) (x5 + 1)
set_option maxHeartbeats 4000000 in
set_option maxRecDepth 100000 in
theorem s_X7_lack_L28 {Q : Option Value → hH → Prop} (g : hH) : ∀ (n : Nat) (μ : mS) (x1 : Int32) (x3 : Int64) (x5 : Int32) (r : Int64), f_X7_lack_L28 n μ x1 x3 x5 = some r → (J mX7_lack rX7_lack Q 0 0 (gm g μ) 72 [(3, .long r)] []) → J mX7_lack rX7_lack Q 0 0 (gm g μ) 28 [(0, .ref 5000), (1, .int x1), (3, .long x3), (5, .int x5)] [] := by
  intro n
  induction n with
  | zero =>
    intro μ x1 x3 x5 r hf
    cases hf
  | succ n ih =>
    intro μ x1 x3 x5 r hf k0
    rw [f_X7_lack_L28] at hf
    refine j_iload (pc' := 30) rfl rfl rfl ?_
    refine j_aload_n (pc' := 31) rfl rfl rfl ?_
    refine j_get (pc' := 34) rfl rfl flX7_142 (gm_o g μ) (mF_7 μ) ?_
    refine j_icmp_ge (tgt := 72) (pc' := 37) rfl rfl rfl (fun c34 => ?_) (fun c34 => ?_)
    · rw [if_pos c34] at hf
      have hf := Option.some.inj hf; subst hf
      exact j_sub (ls' := [(3, .long _)]) ⟨rfl, trivial⟩ (k0)
    · rw [if_neg c34] at hf
      refine j_lload_n (pc' := 38) rfl rfl rfl ?_
      refine j_aload_n (pc' := 39) rfl rfl rfl ?_
      refine j_iload (pc' := 41) rfl rfl rfl ?_
      refine j_iload_n (pc' := 42) rfl rfl rfl ?_
      obtain ⟨r42, e42, hf⟩ := o_bind hf
      refine j_v2 (pc' := 45) rfl rfl miX7_isThere lnX7_229 (gm_o g μ) rfl (s_X7_isThere g μ x5 x1 _ e42) (h_rm_of rfl) (Nat.le_of_ble_eq_true rfl) (c' := 0) (s' := 0) rfl rfl ?_
      refine j_if_eq (tgt := 63) (pc' := 48) rfl rfl rfl (fun c45 => ?_) (fun c45 => ?_)
      · rw [if_pos c45] at hf
        refine j_lconst (v := 0) (pc' := 64) rfl rfl (by decide) ?_
        refine j_lsub (pc' := 65) rfl rfl ?_
        refine j_lstore_n (pc' := 66) (ls' := [(3, _), (0, _), (1, _), (5, _)]) rfl rfl (Nat.le_of_ble_eq_true rfl) rfl ?_
        refine j_iinc (pc' := 69) (d := 1) (ls' := [(5, _), (3, _), (0, _), (1, _)]) rfl rfl rfl (by decide) (Nat.le_of_ble_eq_true rfl) rfl ?_
        refine j_goto (tgt := 28) rfl rfl ?_
        refine j_sub (ls' := [(0, .ref 5000), (1, .int _), (3, .long _), (5, .int _)]) ⟨rfl, rfl, rfl, rfl, trivial⟩ ?_
        exact ih _ _ _ _ _ hf k0
      · rw [if_neg c45] at hf
        refine j_aload_n (pc' := 49) rfl rfl rfl ?_
        refine j_iload (pc' := 51) rfl rfl rfl ?_
        refine j_iload_n (pc' := 52) rfl rfl rfl ?_
        refine j_aload_n (pc' := 53) rfl rfl rfl ?_
        refine j_get (pc' := 56) rfl rfl flX7_167 (gm_o g μ) (mF_6 μ) ?_
        obtain ⟨r56, e56, hf⟩ := o_bind hf
        refine j_v3 (pc' := 59) rfl rfl miX7_passes lnX7_218 (gm_o g μ) rfl (s_X7_passes g μ x5 x1 (μ.1 6 0) _ e56) (h_rm_of rfl) (Nat.le_of_ble_eq_true rfl) (c' := 0) (s' := 0) rfl rfl ?_
        refine j_i2l (pc' := 60) rfl rfl ?_
        refine j_goto (tgt := 64) rfl rfl ?_
        refine j_lsub (pc' := 65) rfl rfl ?_
        refine j_lstore_n (pc' := 66) (ls' := [(3, _), (0, _), (1, _), (5, _)]) rfl rfl (Nat.le_of_ble_eq_true rfl) rfl ?_
        refine j_iinc (pc' := 69) (d := 1) (ls' := [(5, _), (3, _), (0, _), (1, _)]) rfl rfl rfl (by decide) (Nat.le_of_ble_eq_true rfl) rfl ?_
        refine j_goto (tgt := 28) rfl rfl ?_
        refine j_sub (ls' := [(0, .ref 5000), (1, .int _), (3, .long _), (5, .int _)]) ⟨rfl, rfl, rfl, rfl, trivial⟩ ?_
        exact ih _ _ _ _ _ hf k0
def f_X7_lack (μ : mS) (x1 : Int32) (x2 : Int32) : Option Int32 := (f_X7_isTown x1).bind fun r1 => if r1 = 0 then some (-1) else (f_X7_in x2 0 100000).bind fun r13 => if r13 = 0 then some (-2) else (f_X7_lack_L28 4000 μ x1 ((x2).toInt64) 0).bind fun r28 => if 0 ≤ (lg_cmp r28 0) then some ((r28).toInt32) else some 0
set_option maxHeartbeats 4000000 in
set_option maxRecDepth 100000 in
theorem s_X7_lack (g : hH) (μ : mS) (x1 : Int32) (x2 : Int32) (r : Int32) (hf : f_X7_lack μ x1 x2 = some r) : SpD mX7_lack rX7_lack [.ref 5000, .int x1, .int x2] (gm g μ) (some (.int r)) (gm g μ) := by
  refine sp_of miX7_lack (Nat.le_of_ble_eq_true rfl) ?_
  show J _ _ _ 0 0 _ 0 [(0, .ref 5000), (1, .int x1), (2, .int x2)] []
  unfold f_X7_lack at hf
  refine j_iload_n (pc' := 1) rfl rfl rfl ?_
  obtain ⟨r1, e1, hf⟩ := o_bind hf
  refine j_s1 (pc' := 4) rfl rfl miX7_isTown lnX7_149 (s_X7_isTown (gm g μ) x1 _ e1) (h_rm_of rfl) (Nat.le_of_ble_eq_true rfl) (c' := 0) (s' := 0) rfl rfl ?_
  refine j_if_ne (tgt := 9) (pc' := 7) rfl rfl rfl (fun c4 => ?_) (fun c4 => ?_)
  · rw [if_neg c4] at hf
    refine j_iload_n (pc' := 10) rfl rfl rfl ?_
    refine j_iconst (v := 0) (pc' := 11) rfl rfl (by decide) ?_
    refine j_ldc (pc' := 13) rfl rfl kcX7_100 ?_
    obtain ⟨r13, e13, hf⟩ := o_bind hf
    refine j_s3 (pc' := 16) rfl rfl miX7_in lnX7_138 (s_X7_in (gm g μ) x2 0 100000 _ e13) (h_rm_of rfl) (Nat.le_of_ble_eq_true rfl) (c' := 0) (s' := 0) rfl rfl ?_
    refine j_if_ne (tgt := 22) (pc' := 19) rfl rfl rfl (fun c16 => ?_) (fun c16 => ?_)
    · rw [if_neg c16] at hf
      refine j_iload_n (pc' := 23) rfl rfl rfl ?_
      refine j_i2l (pc' := 24) rfl rfl ?_
      refine j_lstore_n (pc' := 25) (ls' := [(3, _), (0, _), (1, _), (2, _)]) rfl rfl (Nat.le_of_ble_eq_true rfl) rfl ?_
      refine j_iconst (v := 0) (pc' := 26) rfl rfl (by decide) ?_
      refine j_istore (pc' := 28) (ls' := [(5, _), (3, _), (0, _), (1, _), (2, _)]) rfl rfl (Nat.le_of_ble_eq_true rfl) rfl ?_
      obtain ⟨r28, e28, hf⟩ := o_bind hf
      refine j_sub (ls' := [(0, .ref 5000), (1, .int x1), (3, .long (x2).toInt64), (5, .int 0)]) ⟨rfl, rfl, rfl, rfl, trivial⟩ ?_
      refine s_X7_lack_L28 g _ _ _ _ _ _ e28 ?_
      refine j_lload_n (pc' := 73) rfl rfl rfl ?_
      refine j_lconst (v := 0) (pc' := 74) rfl rfl (by decide) ?_
      refine j_lcmp (pc' := 75) rfl rfl ?_
      refine j_if_ge (tgt := 82) (pc' := 78) rfl rfl rfl (fun c75 => ?_) (fun c75 => ?_)
      · rw [if_pos c75] at hf
        refine j_lload_n (pc' := 83) rfl rfl rfl ?_
        refine j_l2i (pc' := 84) rfl rfl ?_
        have hf := Option.some.inj hf; subst hf
        exact j_iret rfl rfl (Nat.zero_le _) (Nat.zero_le _) ⟨rfl, rfl⟩
      · rw [if_neg c75] at hf
        refine j_iconst (v := 0) (pc' := 79) rfl rfl (by decide) ?_
        refine j_goto (tgt := 84) rfl rfl ?_
        have hf := Option.some.inj hf; subst hf
        exact j_iret rfl rfl (Nat.zero_le _) (Nat.zero_le _) ⟨rfl, rfl⟩
    · rw [if_pos c16] at hf
      refine j_bipush (v := (-2)) (pc' := 21) rfl rfl (by decide) ?_
      have hf := Option.some.inj hf; subst hf
      exact j_iret rfl rfl (Nat.zero_le _) (Nat.zero_le _) ⟨rfl, rfl⟩
  · rw [if_pos c4] at hf
    refine j_iconst (v := (-1)) (pc' := 8) rfl rfl (by decide) ?_
    have hf := Option.some.inj hf; subst hf
    exact j_iret rfl rfl (Nat.zero_le _) (Nat.zero_le _) ⟨rfl, rfl⟩
def rX7_road : Room := { frames := 2, cells := 0, slots := 0, locals := 42 }
def f_X7_road (μ : mS) (x1 : Int32) (x2 : Int32) (x3 : Int32) : Option (Int32 × mS) := (f_X7_isTown x1).bind fun r1 => if r1 = 0 then some ((-1), μ) else (f_X7_isMint x2).bind fun r8 => if r8 = 0 then some ((-1), μ) else (f_X7_in x3 1 30).bind fun r20 => if r20 = 0 then some ((-2), μ) else bif vin ((3 * x1) + x2) 18 then letm (μ.1 32 (((3 * x1) + x2)).toNatClampNeg) fun y39 => bif vin ((3 * x1) + x2) 18 then letm (seti μ 32 (va_up (μ.1 32) (((3 * x1) + x2)).toNatClampNeg x3)) fun μ51 => some (y39, μ51) else none else none
set_option maxHeartbeats 4000000 in
set_option maxRecDepth 100000 in
theorem s_X7_road (g : hH) (μ : mS) (x1 : Int32) (x2 : Int32) (x3 : Int32) (r : (Int32 × mS)) (hf : f_X7_road μ x1 x2 x3 = some r) : SpD mX7_road rX7_road [.ref 5000, .int x1, .int x2, .int x3] (gm g μ) (some (.int r.1)) (gm g r.2) := by
  refine sp_of miX7_road (Nat.le_of_ble_eq_true rfl) ?_
  show J _ _ _ 0 0 _ 0 [(0, .ref 5000), (1, .int x1), (2, .int x2), (3, .int x3)] []
  unfold f_X7_road at hf
  refine j_iload_n (pc' := 1) rfl rfl rfl ?_
  obtain ⟨r1, e1, hf⟩ := o_bind hf
  refine j_s1 (pc' := 4) rfl rfl miX7_isTown lnX7_149 (s_X7_isTown (gm g μ) x1 _ e1) (h_rm_of rfl) (Nat.le_of_ble_eq_true rfl) (c' := 0) (s' := 0) rfl rfl ?_
  refine j_if_eq (tgt := 14) (pc' := 7) rfl rfl rfl (fun c4 => ?_) (fun c4 => ?_)
  · rw [if_pos c4] at hf
    refine j_iconst (v := (-1)) (pc' := 15) rfl rfl (by decide) ?_
    have hf := Option.some.inj hf; subst hf
    exact j_iret rfl rfl (Nat.zero_le _) (Nat.zero_le _) ⟨rfl, rfl⟩
  · rw [if_neg c4] at hf
    refine j_iload_n (pc' := 8) rfl rfl rfl ?_
    obtain ⟨r8, e8, hf⟩ := o_bind hf
    refine j_s1 (pc' := 11) rfl rfl miX7_isMint lnX7_238 (s_X7_isMint (gm g μ) x2 _ e8) (h_rm_of rfl) (Nat.le_of_ble_eq_true rfl) (c' := 0) (s' := 0) rfl rfl ?_
    refine j_if_ne (tgt := 16) (pc' := 14) rfl rfl rfl (fun c11 => ?_) (fun c11 => ?_)
    · rw [if_neg c11] at hf
      refine j_iload_n (pc' := 17) rfl rfl rfl ?_
      refine j_iconst (v := 1) (pc' := 18) rfl rfl (by decide) ?_
      refine j_bipush (v := 30) (pc' := 20) rfl rfl (by decide) ?_
      obtain ⟨r20, e20, hf⟩ := o_bind hf
      refine j_s3 (pc' := 23) rfl rfl miX7_in lnX7_138 (s_X7_in (gm g μ) x3 1 30 _ e20) (h_rm_of rfl) (Nat.le_of_ble_eq_true rfl) (c' := 0) (s' := 0) rfl rfl ?_
      refine j_if_ne (tgt := 29) (pc' := 26) rfl rfl rfl (fun c23 => ?_) (fun c23 => ?_)
      · rw [if_neg c23] at hf
        refine j_aload_n (pc' := 30) rfl rfl rfl ?_
        refine j_get (pc' := 33) rfl rfl flX7_82 (gm_o g μ) (mF_32 μ) ?_
        refine j_iconst (v := 3) (pc' := 34) rfl rfl (by decide) ?_
        refine j_iload_n (pc' := 35) rfl rfl rfl ?_
        refine j_imul (pc' := 36) rfl rfl ?_
        refine j_iload_n (pc' := 37) rfl rfl rfl ?_
        refine j_iadd (pc' := 38) rfl rfl ?_
        obtain ⟨c38, hf⟩ := o_chk hf
        refine j_iald (pc' := 39) rfl rfl (gm_32 g μ) (vin_ok c38) ?_
        obtain ⟨y39, e39, hf⟩ := o_let hf
        rw [e39]
        refine j_istore (pc' := 41) (ls' := [(4, _), (0, _), (1, _), (2, _), (3, _)]) rfl rfl (Nat.le_of_ble_eq_true rfl) rfl ?_
        refine j_aload_n (pc' := 42) rfl rfl rfl ?_
        refine j_get (pc' := 45) rfl rfl flX7_82 (gm_o g μ) (mF_32 μ) ?_
        refine j_iconst (v := 3) (pc' := 46) rfl rfl (by decide) ?_
        refine j_iload_n (pc' := 47) rfl rfl rfl ?_
        refine j_imul (pc' := 48) rfl rfl ?_
        refine j_iload_n (pc' := 49) rfl rfl rfl ?_
        refine j_iadd (pc' := 50) rfl rfl ?_
        refine j_iload_n (pc' := 51) rfl rfl rfl ?_
        obtain ⟨c51, hf⟩ := o_chk hf
        obtain ⟨μ51, e51, hf⟩ := o_let hf
        refine j_iast (pc' := 52) rfl rfl (gm_32 g μ) (by decide) (vin_ok c51) ?_
        rw [gs_32]; rw [e51]
        refine j_iload (pc' := 54) rfl rfl rfl ?_
        have hf := Option.some.inj hf; subst hf
        exact j_iret rfl rfl (Nat.zero_le _) (Nat.zero_le _) ⟨rfl, rfl⟩
      · rw [if_pos c23] at hf
        refine j_bipush (v := (-2)) (pc' := 28) rfl rfl (by decide) ?_
        have hf := Option.some.inj hf; subst hf
        exact j_iret rfl rfl (Nat.zero_le _) (Nat.zero_le _) ⟨rfl, rfl⟩
    · rw [if_pos c11] at hf
      refine j_iconst (v := (-1)) (pc' := 15) rfl rfl (by decide) ?_
      have hf := Option.some.inj hf; subst hf
      exact j_iret rfl rfl (Nat.zero_le _) (Nat.zero_le _) ⟨rfl, rfl⟩
def rX7_send : Room := { frames := 2, cells := 0, slots := 0, locals := 43 }
def f_X7_send (μ : mS) (x1 : Int32) (x2 : Int32) : Option (Int32 × mS) := (f_X7_isLot μ x1).bind fun r2 => if r2 = 0 then some ((-1), μ) else (f_X7_isMint x2).bind fun r9 => if r9 = 0 then some ((-1), μ) else bif vin x1 30 then if (μ.1 13 (x1).toNatClampNeg) < 0 then some ((-3), μ) else (f_X7_isUnderWay μ x1).bind fun r28 => if r28 = 0 then bif vin x1 30 then if (μ.1 16 (x1).toNatClampNeg) = 0 then bif vin x1 30 then if (μ.1 17 (x1).toNatClampNeg) = 0 then bif vin x1 30 then bif vin ((3 * (μ.1 13 (x1).toNatClampNeg)) + x2) 18 then bif vin x1 30 then letm (seti μ 15 (va_up (μ.1 15) (x1).toNatClampNeg ((μ.1 6 0) + (μ.1 32 (((3 * (μ.1 13 (x1).toNatClampNeg)) + x2)).toNatClampNeg)))) fun μ80 => bif vin x1 30 then letm (seti μ80 13 (va_up (μ80.1 13) (x1).toNatClampNeg (-1))) fun μ87 => bif vin x1 30 then letm (seti μ87 14 (va_up (μ87.1 14) (x1).toNatClampNeg x2)) fun μ94 => bif vin x1 30 then some ((μ94.1 15 (x1).toNatClampNeg), μ94) else none else none else none else none else none else none else some ((-3), μ) else none else some ((-3), μ) else none else some ((-3), μ) else none
set_option maxHeartbeats 4000000 in
set_option maxRecDepth 100000 in
theorem s_X7_send (g : hH) (μ : mS) (x1 : Int32) (x2 : Int32) (r : (Int32 × mS)) (hf : f_X7_send μ x1 x2 = some r) : SpD mX7_send rX7_send [.ref 5000, .int x1, .int x2] (gm g μ) (some (.int r.1)) (gm g r.2) := by
  refine sp_of miX7_send (Nat.le_of_ble_eq_true rfl) ?_
  show J _ _ _ 0 0 _ 0 [(0, .ref 5000), (1, .int x1), (2, .int x2)] []
  unfold f_X7_send at hf
  refine j_aload_n (pc' := 1) rfl rfl rfl ?_
  refine j_iload_n (pc' := 2) rfl rfl rfl ?_
  obtain ⟨r2, e2, hf⟩ := o_bind hf
  refine j_v1 (pc' := 5) rfl rfl miX7_isLot lnX7_160 (gm_o g μ) rfl (s_X7_isLot g μ x1 _ e2) (h_rm_of rfl) (Nat.le_of_ble_eq_true rfl) (c' := 0) (s' := 0) rfl rfl ?_
  refine j_if_eq (tgt := 15) (pc' := 8) rfl rfl rfl (fun c5 => ?_) (fun c5 => ?_)
  · rw [if_pos c5] at hf
    refine j_iconst (v := (-1)) (pc' := 16) rfl rfl (by decide) ?_
    have hf := Option.some.inj hf; subst hf
    exact j_iret rfl rfl (Nat.zero_le _) (Nat.zero_le _) ⟨rfl, rfl⟩
  · rw [if_neg c5] at hf
    refine j_iload_n (pc' := 9) rfl rfl rfl ?_
    obtain ⟨r9, e9, hf⟩ := o_bind hf
    refine j_s1 (pc' := 12) rfl rfl miX7_isMint lnX7_238 (s_X7_isMint (gm g μ) x2 _ e9) (h_rm_of rfl) (Nat.le_of_ble_eq_true rfl) (c' := 0) (s' := 0) rfl rfl ?_
    refine j_if_ne (tgt := 17) (pc' := 15) rfl rfl rfl (fun c12 => ?_) (fun c12 => ?_)
    · rw [if_neg c12] at hf
      refine j_aload_n (pc' := 18) rfl rfl rfl ?_
      refine j_get (pc' := 21) rfl rfl flX7_37 (gm_o g μ) (mF_13 μ) ?_
      refine j_iload_n (pc' := 22) rfl rfl rfl ?_
      obtain ⟨c22, hf⟩ := o_chk hf
      refine j_iald (pc' := 23) rfl rfl (gm_13 g μ) (vin_ok c22) ?_
      refine j_if_lt (tgt := 52) (pc' := 26) rfl rfl rfl (fun c23 => ?_) (fun c23 => ?_)
      · rw [if_pos c23] at hf
        refine j_bipush (v := (-3)) (pc' := 54) rfl rfl (by decide) ?_
        have hf := Option.some.inj hf; subst hf
        exact j_iret rfl rfl (Nat.zero_le _) (Nat.zero_le _) ⟨rfl, rfl⟩
      · rw [if_neg c23] at hf
        refine j_aload_n (pc' := 27) rfl rfl rfl ?_
        refine j_iload_n (pc' := 28) rfl rfl rfl ?_
        obtain ⟨r28, e28, hf⟩ := o_bind hf
        refine j_v1 (pc' := 31) rfl rfl miX7_isUnderWay lnX7_170 (gm_o g μ) rfl (s_X7_isUnderWay g μ x1 _ e28) (h_rm_of rfl) (Nat.le_of_ble_eq_true rfl) (c' := 0) (s' := 0) rfl rfl ?_
        refine j_if_ne (tgt := 52) (pc' := 34) rfl rfl rfl (fun c31 => ?_) (fun c31 => ?_)
        · rw [if_neg c31] at hf
          refine j_bipush (v := (-3)) (pc' := 54) rfl rfl (by decide) ?_
          have hf := Option.some.inj hf; subst hf
          exact j_iret rfl rfl (Nat.zero_le _) (Nat.zero_le _) ⟨rfl, rfl⟩
        · rw [if_pos c31] at hf
          refine j_aload_n (pc' := 35) rfl rfl rfl ?_
          refine j_get (pc' := 38) rfl rfl flX7_46 (gm_o g μ) (mF_16 μ) ?_
          refine j_iload_n (pc' := 39) rfl rfl rfl ?_
          obtain ⟨c39, hf⟩ := o_chk hf
          refine j_zald (pc' := 40) rfl rfl (gm_16 g μ) (vin_ok c39) ?_
          refine j_if_ne (tgt := 52) (pc' := 43) rfl rfl rfl (fun c40 => ?_) (fun c40 => ?_)
          · rw [if_neg c40] at hf
            refine j_bipush (v := (-3)) (pc' := 54) rfl rfl (by decide) ?_
            have hf := Option.some.inj hf; subst hf
            exact j_iret rfl rfl (Nat.zero_le _) (Nat.zero_le _) ⟨rfl, rfl⟩
          · rw [if_pos c40] at hf
            refine j_aload_n (pc' := 44) rfl rfl rfl ?_
            refine j_get (pc' := 47) rfl rfl flX7_50 (gm_o g μ) (mF_17 μ) ?_
            refine j_iload_n (pc' := 48) rfl rfl rfl ?_
            obtain ⟨c48, hf⟩ := o_chk hf
            refine j_zald (pc' := 49) rfl rfl (gm_17 g μ) (vin_ok c48) ?_
            refine j_if_eq (tgt := 55) (pc' := 52) rfl rfl rfl (fun c49 => ?_) (fun c49 => ?_)
            · rw [if_pos c49] at hf
              refine j_aload_n (pc' := 56) rfl rfl rfl ?_
              refine j_get (pc' := 59) rfl rfl flX7_43 (gm_o g μ) (mF_15 μ) ?_
              refine j_iload_n (pc' := 60) rfl rfl rfl ?_
              refine j_aload_n (pc' := 61) rfl rfl rfl ?_
              refine j_get (pc' := 64) rfl rfl flX7_167 (gm_o g μ) (mF_6 μ) ?_
              refine j_aload_n (pc' := 65) rfl rfl rfl ?_
              refine j_get (pc' := 68) rfl rfl flX7_82 (gm_o g μ) (mF_32 μ) ?_
              refine j_iconst (v := 3) (pc' := 69) rfl rfl (by decide) ?_
              refine j_aload_n (pc' := 70) rfl rfl rfl ?_
              refine j_get (pc' := 73) rfl rfl flX7_37 (gm_o g μ) (mF_13 μ) ?_
              refine j_iload_n (pc' := 74) rfl rfl rfl ?_
              obtain ⟨c74, hf⟩ := o_chk hf
              refine j_iald (pc' := 75) rfl rfl (gm_13 g μ) (vin_ok c74) ?_
              refine j_imul (pc' := 76) rfl rfl ?_
              refine j_iload_n (pc' := 77) rfl rfl rfl ?_
              refine j_iadd (pc' := 78) rfl rfl ?_
              obtain ⟨c78, hf⟩ := o_chk hf
              refine j_iald (pc' := 79) rfl rfl (gm_32 g μ) (vin_ok c78) ?_
              refine j_iadd (pc' := 80) rfl rfl ?_
              obtain ⟨c80, hf⟩ := o_chk hf
              obtain ⟨μ80, e80, hf⟩ := o_let hf
              refine j_iast (pc' := 81) rfl rfl (gm_15 g μ) (by decide) (vin_ok c80) ?_
              rw [gs_15]; rw [e80]
              refine j_aload_n (pc' := 82) rfl rfl rfl ?_
              refine j_get (pc' := 85) rfl rfl flX7_37 (gm_o g μ80) (mF_13 μ80) ?_
              refine j_iload_n (pc' := 86) rfl rfl rfl ?_
              refine j_iconst (v := (-1)) (pc' := 87) rfl rfl (by decide) ?_
              obtain ⟨c87, hf⟩ := o_chk hf
              obtain ⟨μ87, e87, hf⟩ := o_let hf
              refine j_iast (pc' := 88) rfl rfl (gm_13 g μ80) (by decide) (vin_ok c87) ?_
              rw [gs_13]; rw [e87]
              refine j_aload_n (pc' := 89) rfl rfl rfl ?_
              refine j_get (pc' := 92) rfl rfl flX7_40 (gm_o g μ87) (mF_14 μ87) ?_
              refine j_iload_n (pc' := 93) rfl rfl rfl ?_
              refine j_iload_n (pc' := 94) rfl rfl rfl ?_
              obtain ⟨c94, hf⟩ := o_chk hf
              obtain ⟨μ94, e94, hf⟩ := o_let hf
              refine j_iast (pc' := 95) rfl rfl (gm_14 g μ87) (by decide) (vin_ok c94) ?_
              rw [gs_14]; rw [e94]
              refine j_aload_n (pc' := 96) rfl rfl rfl ?_
              refine j_get (pc' := 99) rfl rfl flX7_43 (gm_o g μ94) (mF_15 μ94) ?_
              refine j_iload_n (pc' := 100) rfl rfl rfl ?_
              obtain ⟨c100, hf⟩ := o_chk hf
              refine j_iald (pc' := 101) rfl rfl (gm_15 g μ94) (vin_ok c100) ?_
              have hf := Option.some.inj hf; subst hf
              exact j_iret rfl rfl (Nat.zero_le _) (Nat.zero_le _) ⟨rfl, rfl⟩
            · rw [if_neg c49] at hf
              refine j_bipush (v := (-3)) (pc' := 54) rfl rfl (by decide) ?_
              have hf := Option.some.inj hf; subst hf
              exact j_iret rfl rfl (Nat.zero_le _) (Nat.zero_le _) ⟨rfl, rfl⟩
    · rw [if_pos c12] at hf
      refine j_iconst (v := (-1)) (pc' := 16) rfl rfl (by decide) ?_
      have hf := Option.some.inj hf; subst hf
      exact j_iret rfl rfl (Nat.zero_le _) (Nat.zero_le _) ⟨rfl, rfl⟩
def rX7_bring : Room := { frames := 2, cells := 0, slots := 0, locals := 43 }
def f_X7_bring (μ : mS) (x1 : Int32) (x2 : Int32) : Option (Int32 × mS) := (f_X7_isLot μ x1).bind fun r2 => if r2 = 0 then some ((-1), μ) else (f_X7_isTown x2).bind fun r9 => if r9 = 0 then some ((-1), μ) else (f_X7_isAtMint μ x1).bind fun r19 => if r19 = 0 then some ((-3), μ) else bif vin x1 30 then bif vin ((3 * x2) + (μ.1 14 (x1).toNatClampNeg)) 18 then bif vin x1 30 then letm (seti μ 15 (va_up (μ.1 15) (x1).toNatClampNeg ((μ.1 6 0) + (μ.1 32 (((3 * x2) + (μ.1 14 (x1).toNatClampNeg))).toNatClampNeg)))) fun μ53 => bif vin x1 30 then letm (seti μ53 14 (va_up (μ53.1 14) (x1).toNatClampNeg (-1))) fun μ60 => bif vin x1 30 then letm (seti μ60 13 (va_up (μ60.1 13) (x1).toNatClampNeg x2)) fun μ67 => bif vin x1 30 then some ((μ67.1 15 (x1).toNatClampNeg), μ67) else none else none else none else none else none else none
set_option maxHeartbeats 4000000 in
set_option maxRecDepth 100000 in
theorem s_X7_bring (g : hH) (μ : mS) (x1 : Int32) (x2 : Int32) (r : (Int32 × mS)) (hf : f_X7_bring μ x1 x2 = some r) : SpD mX7_bring rX7_bring [.ref 5000, .int x1, .int x2] (gm g μ) (some (.int r.1)) (gm g r.2) := by
  refine sp_of miX7_bring (Nat.le_of_ble_eq_true rfl) ?_
  show J _ _ _ 0 0 _ 0 [(0, .ref 5000), (1, .int x1), (2, .int x2)] []
  unfold f_X7_bring at hf
  refine j_aload_n (pc' := 1) rfl rfl rfl ?_
  refine j_iload_n (pc' := 2) rfl rfl rfl ?_
  obtain ⟨r2, e2, hf⟩ := o_bind hf
  refine j_v1 (pc' := 5) rfl rfl miX7_isLot lnX7_160 (gm_o g μ) rfl (s_X7_isLot g μ x1 _ e2) (h_rm_of rfl) (Nat.le_of_ble_eq_true rfl) (c' := 0) (s' := 0) rfl rfl ?_
  refine j_if_eq (tgt := 15) (pc' := 8) rfl rfl rfl (fun c5 => ?_) (fun c5 => ?_)
  · rw [if_pos c5] at hf
    refine j_iconst (v := (-1)) (pc' := 16) rfl rfl (by decide) ?_
    have hf := Option.some.inj hf; subst hf
    exact j_iret rfl rfl (Nat.zero_le _) (Nat.zero_le _) ⟨rfl, rfl⟩
  · rw [if_neg c5] at hf
    refine j_iload_n (pc' := 9) rfl rfl rfl ?_
    obtain ⟨r9, e9, hf⟩ := o_bind hf
    refine j_s1 (pc' := 12) rfl rfl miX7_isTown lnX7_149 (s_X7_isTown (gm g μ) x2 _ e9) (h_rm_of rfl) (Nat.le_of_ble_eq_true rfl) (c' := 0) (s' := 0) rfl rfl ?_
    refine j_if_ne (tgt := 17) (pc' := 15) rfl rfl rfl (fun c12 => ?_) (fun c12 => ?_)
    · rw [if_neg c12] at hf
      refine j_aload_n (pc' := 18) rfl rfl rfl ?_
      refine j_iload_n (pc' := 19) rfl rfl rfl ?_
      obtain ⟨r19, e19, hf⟩ := o_bind hf
      refine j_v1 (pc' := 22) rfl rfl miX7_isAtMint lnX7_241 (gm_o g μ) rfl (s_X7_isAtMint g μ x1 _ e19) (h_rm_of rfl) (Nat.le_of_ble_eq_true rfl) (c' := 0) (s' := 0) rfl rfl ?_
      refine j_if_ne (tgt := 28) (pc' := 25) rfl rfl rfl (fun c22 => ?_) (fun c22 => ?_)
      · rw [if_neg c22] at hf
        refine j_aload_n (pc' := 29) rfl rfl rfl ?_
        refine j_get (pc' := 32) rfl rfl flX7_43 (gm_o g μ) (mF_15 μ) ?_
        refine j_iload_n (pc' := 33) rfl rfl rfl ?_
        refine j_aload_n (pc' := 34) rfl rfl rfl ?_
        refine j_get (pc' := 37) rfl rfl flX7_167 (gm_o g μ) (mF_6 μ) ?_
        refine j_aload_n (pc' := 38) rfl rfl rfl ?_
        refine j_get (pc' := 41) rfl rfl flX7_82 (gm_o g μ) (mF_32 μ) ?_
        refine j_iconst (v := 3) (pc' := 42) rfl rfl (by decide) ?_
        refine j_iload_n (pc' := 43) rfl rfl rfl ?_
        refine j_imul (pc' := 44) rfl rfl ?_
        refine j_aload_n (pc' := 45) rfl rfl rfl ?_
        refine j_get (pc' := 48) rfl rfl flX7_40 (gm_o g μ) (mF_14 μ) ?_
        refine j_iload_n (pc' := 49) rfl rfl rfl ?_
        obtain ⟨c49, hf⟩ := o_chk hf
        refine j_iald (pc' := 50) rfl rfl (gm_14 g μ) (vin_ok c49) ?_
        refine j_iadd (pc' := 51) rfl rfl ?_
        obtain ⟨c51, hf⟩ := o_chk hf
        refine j_iald (pc' := 52) rfl rfl (gm_32 g μ) (vin_ok c51) ?_
        refine j_iadd (pc' := 53) rfl rfl ?_
        obtain ⟨c53, hf⟩ := o_chk hf
        obtain ⟨μ53, e53, hf⟩ := o_let hf
        refine j_iast (pc' := 54) rfl rfl (gm_15 g μ) (by decide) (vin_ok c53) ?_
        rw [gs_15]; rw [e53]
        refine j_aload_n (pc' := 55) rfl rfl rfl ?_
        refine j_get (pc' := 58) rfl rfl flX7_40 (gm_o g μ53) (mF_14 μ53) ?_
        refine j_iload_n (pc' := 59) rfl rfl rfl ?_
        refine j_iconst (v := (-1)) (pc' := 60) rfl rfl (by decide) ?_
        obtain ⟨c60, hf⟩ := o_chk hf
        obtain ⟨μ60, e60, hf⟩ := o_let hf
        refine j_iast (pc' := 61) rfl rfl (gm_14 g μ53) (by decide) (vin_ok c60) ?_
        rw [gs_14]; rw [e60]
        refine j_aload_n (pc' := 62) rfl rfl rfl ?_
        refine j_get (pc' := 65) rfl rfl flX7_37 (gm_o g μ60) (mF_13 μ60) ?_
        refine j_iload_n (pc' := 66) rfl rfl rfl ?_
        refine j_iload_n (pc' := 67) rfl rfl rfl ?_
        obtain ⟨c67, hf⟩ := o_chk hf
        obtain ⟨μ67, e67, hf⟩ := o_let hf
        refine j_iast (pc' := 68) rfl rfl (gm_13 g μ60) (by decide) (vin_ok c67) ?_
        rw [gs_13]; rw [e67]
        refine j_aload_n (pc' := 69) rfl rfl rfl ?_
        refine j_get (pc' := 72) rfl rfl flX7_43 (gm_o g μ67) (mF_15 μ67) ?_
        refine j_iload_n (pc' := 73) rfl rfl rfl ?_
        obtain ⟨c73, hf⟩ := o_chk hf
        refine j_iald (pc' := 74) rfl rfl (gm_15 g μ67) (vin_ok c73) ?_
        have hf := Option.some.inj hf; subst hf
        exact j_iret rfl rfl (Nat.zero_le _) (Nat.zero_le _) ⟨rfl, rfl⟩
      · rw [if_pos c22] at hf
        refine j_bipush (v := (-3)) (pc' := 27) rfl rfl (by decide) ?_
        have hf := Option.some.inj hf; subst hf
        exact j_iret rfl rfl (Nat.zero_le _) (Nat.zero_le _) ⟨rfl, rfl⟩
    · rw [if_pos c12] at hf
      refine j_iconst (v := (-1)) (pc' := 16) rfl rfl (by decide) ?_
      have hf := Option.some.inj hf; subst hf
      exact j_iret rfl rfl (Nat.zero_le _) (Nat.zero_le _) ⟨rfl, rfl⟩
def rX7_melt : Room := { frames := 2, cells := 0, slots := 0, locals := 43 }
def f_X7_melt_L33 : Nat → mS → Int32 → Int32 → Option (mS)
  | 0, _, _, _ => none
  | n + 1, μ, x1, x2 => if (μ.1 7 0) ≤ x2 then some (μ) else bif vin x2 30 then if (μ.1 18 (x2).toNatClampNeg) = 0 then bif vin x2 30 then if (μ.1 8 (x2).toNatClampNeg) = 5 then bif vin x2 30 then bif vin x1 30 then if (μ.1 9 (x2).toNatClampNeg) = (μ.1 9 (x1).toNatClampNeg) then bif vin x2 30 then letm (seti μ 18 (va_up (μ.1 18) (x2).toNatClampNeg (vp_nar .boolean 1))) fun μ85 => f_X7_melt_L33 n μ85 x1 (x2 + 1) else none else bif vin x2 30 then letm (seti μ 18 (va_up (μ.1 18) (x2).toNatClampNeg (vp_nar .boolean 0))) fun μ85 => f_X7_melt_L33 n μ85 x1 (x2 + 1) else none else none else none else bif vin x2 30 then letm (seti μ 18 (va_up (μ.1 18) (x2).toNatClampNeg (vp_nar .boolean 0))) fun μ85 => f_X7_melt_L33 n μ85 x1 (x2 + 1) else none else none else bif vin x2 30 then letm (seti μ 18 (va_up (μ.1 18) (x2).toNatClampNeg (vp_nar .boolean 1))) fun μ85 => f_X7_melt_L33 n μ85 x1 (x2 + 1) else none else none
set_option maxHeartbeats 4000000 in
set_option maxRecDepth 100000 in
theorem s_X7_melt_L33 {Q : Option Value → hH → Prop} (g : hH) : ∀ (n : Nat) (μ : mS) (x1 : Int32) (x2 : Int32) (r : mS), f_X7_melt_L33 n μ x1 x2 = some r → (J mX7_melt rX7_melt Q 0 0 (gm g r) 92 [] []) → J mX7_melt rX7_melt Q 0 0 (gm g μ) 33 [(0, .ref 5000), (1, .int x1), (2, .int x2)] [] := by
  intro n
  induction n with
  | zero =>
    intro μ x1 x2 r hf
    cases hf
  | succ n ih =>
    intro μ x1 x2 r hf k0
    rw [f_X7_melt_L33] at hf
    refine j_iload_n (pc' := 34) rfl rfl rfl ?_
    refine j_aload_n (pc' := 35) rfl rfl rfl ?_
    refine j_get (pc' := 38) rfl rfl flX7_142 (gm_o g μ) (mF_7 μ) ?_
    refine j_icmp_ge (tgt := 92) (pc' := 41) rfl rfl rfl (fun c38 => ?_) (fun c38 => ?_)
    · rw [if_pos c38] at hf
      have hf := Option.some.inj hf; subst hf
      exact j_sub (ls' := []) trivial (k0)
    · rw [if_neg c38] at hf
      refine j_aload_n (pc' := 42) rfl rfl rfl ?_
      refine j_get (pc' := 45) rfl rfl flX7_53 (gm_o g μ) (mF_18 μ) ?_
      refine j_iload_n (pc' := 46) rfl rfl rfl ?_
      refine j_aload_n (pc' := 47) rfl rfl rfl ?_
      refine j_get (pc' := 50) rfl rfl flX7_53 (gm_o g μ) (mF_18 μ) ?_
      refine j_iload_n (pc' := 51) rfl rfl rfl ?_
      obtain ⟨c51, hf⟩ := o_chk hf
      refine j_zald (pc' := 52) rfl rfl (gm_18 g μ) (vin_ok c51) ?_
      refine j_if_ne (tgt := 80) (pc' := 55) rfl rfl rfl (fun c52 => ?_) (fun c52 => ?_)
      · rw [if_neg c52] at hf
        refine j_iconst (v := 1) (pc' := 81) rfl rfl (by decide) ?_
        refine j_goto (tgt := 85) rfl rfl ?_
        obtain ⟨c85, hf⟩ := o_chk hf
        obtain ⟨μ85, e85, hf⟩ := o_let hf
        refine j_zast (pc' := 86) rfl rfl (gm_18 g μ) (by decide) (vin_ok c85) ?_
        rw [gs_18]; rw [e85]
        refine j_iinc (pc' := 89) (d := 1) (ls' := [(2, _), (0, _), (1, _)]) rfl rfl rfl (by decide) (Nat.le_of_ble_eq_true rfl) rfl ?_
        refine j_goto (tgt := 33) rfl rfl ?_
        refine j_sub (ls' := [(0, .ref 5000), (1, .int _), (2, .int _)]) ⟨rfl, rfl, rfl, trivial⟩ ?_
        exact ih _ _ _ _ hf k0
      · rw [if_pos c52] at hf
        refine j_aload_n (pc' := 56) rfl rfl rfl ?_
        refine j_get (pc' := 59) rfl rfl flX7_22 (gm_o g μ) (mF_8 μ) ?_
        refine j_iload_n (pc' := 60) rfl rfl rfl ?_
        obtain ⟨c60, hf⟩ := o_chk hf
        refine j_iald (pc' := 61) rfl rfl (gm_8 g μ) (vin_ok c60) ?_
        refine j_iconst (v := 5) (pc' := 62) rfl rfl (by decide) ?_
        refine j_icmp_ne (tgt := 84) (pc' := 65) rfl rfl rfl (fun c62 => ?_) (fun c62 => ?_)
        · rw [if_neg c62] at hf
          refine j_iconst (v := 0) (pc' := 85) rfl rfl (by decide) ?_
          obtain ⟨c85, hf⟩ := o_chk hf
          obtain ⟨μ85, e85, hf⟩ := o_let hf
          refine j_zast (pc' := 86) rfl rfl (gm_18 g μ) (by decide) (vin_ok c85) ?_
          rw [gs_18]; rw [e85]
          refine j_iinc (pc' := 89) (d := 1) (ls' := [(2, _), (0, _), (1, _)]) rfl rfl rfl (by decide) (Nat.le_of_ble_eq_true rfl) rfl ?_
          refine j_goto (tgt := 33) rfl rfl ?_
          refine j_sub (ls' := [(0, .ref 5000), (1, .int _), (2, .int _)]) ⟨rfl, rfl, rfl, trivial⟩ ?_
          exact ih _ _ _ _ hf k0
        · rw [if_pos c62] at hf
          refine j_aload_n (pc' := 66) rfl rfl rfl ?_
          refine j_get (pc' := 69) rfl rfl flX7_25 (gm_o g μ) (mF_9 μ) ?_
          refine j_iload_n (pc' := 70) rfl rfl rfl ?_
          obtain ⟨c70, hf⟩ := o_chk hf
          refine j_iald (pc' := 71) rfl rfl (gm_9 g μ) (vin_ok c70) ?_
          refine j_aload_n (pc' := 72) rfl rfl rfl ?_
          refine j_get (pc' := 75) rfl rfl flX7_25 (gm_o g μ) (mF_9 μ) ?_
          refine j_iload_n (pc' := 76) rfl rfl rfl ?_
          obtain ⟨c76, hf⟩ := o_chk hf
          refine j_iald (pc' := 77) rfl rfl (gm_9 g μ) (vin_ok c76) ?_
          refine j_icmp_ne (tgt := 84) (pc' := 80) rfl rfl rfl (fun c77 => ?_) (fun c77 => ?_)
          · rw [if_neg c77] at hf
            refine j_iconst (v := 0) (pc' := 85) rfl rfl (by decide) ?_
            obtain ⟨c85, hf⟩ := o_chk hf
            obtain ⟨μ85, e85, hf⟩ := o_let hf
            refine j_zast (pc' := 86) rfl rfl (gm_18 g μ) (by decide) (vin_ok c85) ?_
            rw [gs_18]; rw [e85]
            refine j_iinc (pc' := 89) (d := 1) (ls' := [(2, _), (0, _), (1, _)]) rfl rfl rfl (by decide) (Nat.le_of_ble_eq_true rfl) rfl ?_
            refine j_goto (tgt := 33) rfl rfl ?_
            refine j_sub (ls' := [(0, .ref 5000), (1, .int _), (2, .int _)]) ⟨rfl, rfl, rfl, trivial⟩ ?_
            exact ih _ _ _ _ hf k0
          · rw [if_pos c77] at hf
            refine j_iconst (v := 1) (pc' := 81) rfl rfl (by decide) ?_
            refine j_goto (tgt := 85) rfl rfl ?_
            obtain ⟨c85, hf⟩ := o_chk hf
            obtain ⟨μ85, e85, hf⟩ := o_let hf
            refine j_zast (pc' := 86) rfl rfl (gm_18 g μ) (by decide) (vin_ok c85) ?_
            rw [gs_18]; rw [e85]
            refine j_iinc (pc' := 89) (d := 1) (ls' := [(2, _), (0, _), (1, _)]) rfl rfl rfl (by decide) (Nat.le_of_ble_eq_true rfl) rfl ?_
            refine j_goto (tgt := 33) rfl rfl ?_
            refine j_sub (ls' := [(0, .ref 5000), (1, .int _), (2, .int _)]) ⟨rfl, rfl, rfl, trivial⟩ ?_
            exact ih _ _ _ _ hf k0
def f_X7_melt (μ : mS) (x1 : Int32) : Option (Int32 × mS) := (f_X7_isLot μ x1).bind fun r2 => if r2 = 0 then some ((-1), μ) else (f_X7_isAtMint μ x1).bind fun r12 => if r12 = 0 then some ((-3), μ) else bif vin x1 30 then if (μ.1 8 (x1).toNatClampNeg) = 5 then (f_X7_melt_L33 4000 μ x1 0).bind fun r33 => some (0, r33) else bif vin x1 30 then (f_X7_meltedToday μ (μ.1 14 (x1).toNatClampNeg)).bind fun r103 => bif vin x1 30 then bif vin (μ.1 14 (x1).toNatClampNeg) 3 then if (r103 + (μ.1 11 (x1).toNatClampNeg)) ≤ (μ.1 38 ((μ.1 14 (x1).toNatClampNeg)).toNatClampNeg) then (f_X7_meltedToday μ (μ.1 14 (x1).toNatClampNeg)).bind fun r132 => bif vin x1 30 then bif vin (μ.1 14 (x1).toNatClampNeg) 3 then letm (seti μ 39 (va_up (μ.1 39) ((μ.1 14 (x1).toNatClampNeg)).toNatClampNeg (r132 + (μ.1 11 (x1).toNatClampNeg)))) fun μ142 => bif vin (μ.1 14 (x1).toNatClampNeg) 3 then letm (seti μ142 40 (va_up (μ142.1 40) ((μ.1 14 (x1).toNatClampNeg)).toNatClampNeg (μ142.1 6 0))) fun μ152 => bif vin (μ.1 14 (x1).toNatClampNeg) 3 then bif vin x1 30 then bif vin (μ.1 14 (x1).toNatClampNeg) 3 then letm (setl μ152 33 (va_up (μ152.2 33) ((μ.1 14 (x1).toNatClampNeg)).toNatClampNeg ((μ152.2 33 ((μ.1 14 (x1).toNatClampNeg)).toNatClampNeg) + ((μ152.1 11 (x1).toNatClampNeg)).toInt64))) fun μ168 => bif vin (μ.1 14 (x1).toNatClampNeg) 3 then (f_X7_silverOf μ168 x1).bind fun r178 => bif vin (μ.1 14 (x1).toNatClampNeg) 3 then letm (setl μ168 34 (va_up (μ168.2 34) ((μ.1 14 (x1).toNatClampNeg)).toNatClampNeg ((μ168.2 34 ((μ.1 14 (x1).toNatClampNeg)).toNatClampNeg) + r178))) fun μ182 => bif vin (μ.1 14 (x1).toNatClampNeg) 3 then letm (seti μ182 35 (va_up (μ182.1 35) ((μ.1 14 (x1).toNatClampNeg)).toNatClampNeg (vp_nar .boolean 0))) fun μ189 => bif vin x1 30 then letm (seti μ189 16 (va_up (μ189.1 16) (x1).toNatClampNeg (vp_nar .boolean 1))) fun μ196 => some (1, μ196) else none else none else none else none else none else none else none else none else none else none else some ((-4), μ) else none else none else none else none
set_option maxHeartbeats 4000000 in
set_option maxRecDepth 100000 in
theorem s_X7_melt (g : hH) (μ : mS) (x1 : Int32) (r : (Int32 × mS)) (hf : f_X7_melt μ x1 = some r) : SpD mX7_melt rX7_melt [.ref 5000, .int x1] (gm g μ) (some (.int r.1)) (gm g r.2) := by
  refine sp_of miX7_melt (Nat.le_of_ble_eq_true rfl) ?_
  show J _ _ _ 0 0 _ 0 [(0, .ref 5000), (1, .int x1)] []
  unfold f_X7_melt at hf
  refine j_aload_n (pc' := 1) rfl rfl rfl ?_
  refine j_iload_n (pc' := 2) rfl rfl rfl ?_
  obtain ⟨r2, e2, hf⟩ := o_bind hf
  refine j_v1 (pc' := 5) rfl rfl miX7_isLot lnX7_160 (gm_o g μ) rfl (s_X7_isLot g μ x1 _ e2) (h_rm_of rfl) (Nat.le_of_ble_eq_true rfl) (c' := 0) (s' := 0) rfl rfl ?_
  refine j_if_ne (tgt := 10) (pc' := 8) rfl rfl rfl (fun c5 => ?_) (fun c5 => ?_)
  · rw [if_neg c5] at hf
    refine j_aload_n (pc' := 11) rfl rfl rfl ?_
    refine j_iload_n (pc' := 12) rfl rfl rfl ?_
    obtain ⟨r12, e12, hf⟩ := o_bind hf
    refine j_v1 (pc' := 15) rfl rfl miX7_isAtMint lnX7_241 (gm_o g μ) rfl (s_X7_isAtMint g μ x1 _ e12) (h_rm_of rfl) (Nat.le_of_ble_eq_true rfl) (c' := 0) (s' := 0) rfl rfl ?_
    refine j_if_ne (tgt := 21) (pc' := 18) rfl rfl rfl (fun c15 => ?_) (fun c15 => ?_)
    · rw [if_neg c15] at hf
      refine j_aload_n (pc' := 22) rfl rfl rfl ?_
      refine j_get (pc' := 25) rfl rfl flX7_22 (gm_o g μ) (mF_8 μ) ?_
      refine j_iload_n (pc' := 26) rfl rfl rfl ?_
      obtain ⟨c26, hf⟩ := o_chk hf
      refine j_iald (pc' := 27) rfl rfl (gm_8 g μ) (vin_ok c26) ?_
      refine j_iconst (v := 5) (pc' := 28) rfl rfl (by decide) ?_
      refine j_icmp_ne (tgt := 94) (pc' := 31) rfl rfl rfl (fun c28 => ?_) (fun c28 => ?_)
      · rw [if_neg c28] at hf
        refine j_aload_n (pc' := 95) rfl rfl rfl ?_
        refine j_get (pc' := 98) rfl rfl flX7_40 (gm_o g μ) (mF_14 μ) ?_
        refine j_iload_n (pc' := 99) rfl rfl rfl ?_
        obtain ⟨c99, hf⟩ := o_chk hf
        refine j_iald (pc' := 100) rfl rfl (gm_14 g μ) (vin_ok c99) ?_
        refine j_istore_n (pc' := 101) (ls' := [(2, _), (0, _), (1, _)]) rfl rfl (Nat.le_of_ble_eq_true rfl) rfl ?_
        refine j_aload_n (pc' := 102) rfl rfl rfl ?_
        refine j_iload_n (pc' := 103) rfl rfl rfl ?_
        obtain ⟨r103, e103, hf⟩ := o_bind hf
        refine j_v1 (pc' := 106) rfl rfl miX7_meltedToday lnX7_244 (gm_o g μ) rfl (s_X7_meltedToday g μ (μ.1 14 (x1).toNatClampNeg) _ e103) (h_rm_of rfl) (Nat.le_of_ble_eq_true rfl) (c' := 0) (s' := 0) rfl rfl ?_
        refine j_aload_n (pc' := 107) rfl rfl rfl ?_
        refine j_get (pc' := 110) rfl rfl flX7_31 (gm_o g μ) (mF_11 μ) ?_
        refine j_iload_n (pc' := 111) rfl rfl rfl ?_
        obtain ⟨c111, hf⟩ := o_chk hf
        refine j_iald (pc' := 112) rfl rfl (gm_11 g μ) (vin_ok c111) ?_
        refine j_iadd (pc' := 113) rfl rfl ?_
        refine j_aload_n (pc' := 114) rfl rfl rfl ?_
        refine j_get (pc' := 117) rfl rfl flX7_101 (gm_o g μ) (mF_38 μ) ?_
        refine j_iload_n (pc' := 118) rfl rfl rfl ?_
        obtain ⟨c118, hf⟩ := o_chk hf
        refine j_iald (pc' := 119) rfl rfl (gm_38 g μ) (vin_ok c118) ?_
        refine j_icmp_le (tgt := 125) (pc' := 122) rfl rfl rfl (fun c119 => ?_) (fun c119 => ?_)
        · rw [if_pos c119] at hf
          refine j_aload_n (pc' := 126) rfl rfl rfl ?_
          refine j_get (pc' := 129) rfl rfl flX7_104 (gm_o g μ) (mF_39 μ) ?_
          refine j_iload_n (pc' := 130) rfl rfl rfl ?_
          refine j_aload_n (pc' := 131) rfl rfl rfl ?_
          refine j_iload_n (pc' := 132) rfl rfl rfl ?_
          obtain ⟨r132, e132, hf⟩ := o_bind hf
          refine j_v1 (pc' := 135) rfl rfl miX7_meltedToday lnX7_244 (gm_o g μ) rfl (s_X7_meltedToday g μ (μ.1 14 (x1).toNatClampNeg) _ e132) (h_rm_of rfl) (Nat.le_of_ble_eq_true rfl) (c' := 0) (s' := 0) rfl rfl ?_
          refine j_aload_n (pc' := 136) rfl rfl rfl ?_
          refine j_get (pc' := 139) rfl rfl flX7_31 (gm_o g μ) (mF_11 μ) ?_
          refine j_iload_n (pc' := 140) rfl rfl rfl ?_
          obtain ⟨c140, hf⟩ := o_chk hf
          refine j_iald (pc' := 141) rfl rfl (gm_11 g μ) (vin_ok c140) ?_
          refine j_iadd (pc' := 142) rfl rfl ?_
          obtain ⟨c142, hf⟩ := o_chk hf
          obtain ⟨μ142, e142, hf⟩ := o_let hf
          refine j_iast (pc' := 143) rfl rfl (gm_39 g μ) (by decide) (vin_ok c142) ?_
          rw [gs_39]; rw [e142]
          refine j_aload_n (pc' := 144) rfl rfl rfl ?_
          refine j_get (pc' := 147) rfl rfl flX7_107 (gm_o g μ142) (mF_40 μ142) ?_
          refine j_iload_n (pc' := 148) rfl rfl rfl ?_
          refine j_aload_n (pc' := 149) rfl rfl rfl ?_
          refine j_get (pc' := 152) rfl rfl flX7_167 (gm_o g μ142) (mF_6 μ142) ?_
          obtain ⟨c152, hf⟩ := o_chk hf
          obtain ⟨μ152, e152, hf⟩ := o_let hf
          refine j_iast (pc' := 153) rfl rfl (gm_40 g μ142) (by decide) (vin_ok c152) ?_
          rw [gs_40]; rw [e152]
          refine j_aload_n (pc' := 154) rfl rfl rfl ?_
          refine j_get (pc' := 157) rfl rfl flX7_85 (gm_o g μ152) (mF_33 μ152) ?_
          refine j_iload_n (pc' := 158) rfl rfl rfl ?_
          refine j_dup2_11 (pc' := 159) rfl rfl rfl rfl ?_
          obtain ⟨c159, hf⟩ := o_chk hf
          refine j_lald (pc' := 160) rfl rfl (gm_33 g μ152) (vin_ok c159) ?_
          refine j_aload_n (pc' := 161) rfl rfl rfl ?_
          refine j_get (pc' := 164) rfl rfl flX7_31 (gm_o g μ152) (mF_11 μ152) ?_
          refine j_iload_n (pc' := 165) rfl rfl rfl ?_
          obtain ⟨c165, hf⟩ := o_chk hf
          refine j_iald (pc' := 166) rfl rfl (gm_11 g μ152) (vin_ok c165) ?_
          refine j_i2l (pc' := 167) rfl rfl ?_
          refine j_ladd (pc' := 168) rfl rfl ?_
          obtain ⟨c168, hf⟩ := o_chk hf
          obtain ⟨μ168, e168, hf⟩ := o_let hf
          refine j_last (pc' := 169) rfl rfl (gm_33 g μ152) (by decide) (vin_ok c168) ?_
          rw [gs_33]; rw [e168]
          refine j_aload_n (pc' := 170) rfl rfl rfl ?_
          refine j_get (pc' := 173) rfl rfl flX7_88 (gm_o g μ168) (mF_34 μ168) ?_
          refine j_iload_n (pc' := 174) rfl rfl rfl ?_
          refine j_dup2_11 (pc' := 175) rfl rfl rfl rfl ?_
          obtain ⟨c175, hf⟩ := o_chk hf
          refine j_lald (pc' := 176) rfl rfl (gm_34 g μ168) (vin_ok c175) ?_
          refine j_aload_n (pc' := 177) rfl rfl rfl ?_
          refine j_iload_n (pc' := 178) rfl rfl rfl ?_
          obtain ⟨r178, e178, hf⟩ := o_bind hf
          refine j_v1 (pc' := 181) rfl rfl miX7_silverOf lnX7_173 (gm_o g μ168) rfl (s_X7_silverOf g μ168 x1 _ e178) (h_rm_of rfl) (Nat.le_of_ble_eq_true rfl) (c' := 0) (s' := 0) rfl rfl ?_
          refine j_ladd (pc' := 182) rfl rfl ?_
          obtain ⟨c182, hf⟩ := o_chk hf
          obtain ⟨μ182, e182, hf⟩ := o_let hf
          refine j_last (pc' := 183) rfl rfl (gm_34 g μ168) (by decide) (vin_ok c182) ?_
          rw [gs_34]; rw [e182]
          refine j_aload_n (pc' := 184) rfl rfl rfl ?_
          refine j_get (pc' := 187) rfl rfl flX7_91 (gm_o g μ182) (mF_35 μ182) ?_
          refine j_iload_n (pc' := 188) rfl rfl rfl ?_
          refine j_iconst (v := 0) (pc' := 189) rfl rfl (by decide) ?_
          obtain ⟨c189, hf⟩ := o_chk hf
          obtain ⟨μ189, e189, hf⟩ := o_let hf
          refine j_zast (pc' := 190) rfl rfl (gm_35 g μ182) (by decide) (vin_ok c189) ?_
          rw [gs_35]; rw [e189]
          refine j_aload_n (pc' := 191) rfl rfl rfl ?_
          refine j_get (pc' := 194) rfl rfl flX7_46 (gm_o g μ189) (mF_16 μ189) ?_
          refine j_iload_n (pc' := 195) rfl rfl rfl ?_
          refine j_iconst (v := 1) (pc' := 196) rfl rfl (by decide) ?_
          obtain ⟨c196, hf⟩ := o_chk hf
          obtain ⟨μ196, e196, hf⟩ := o_let hf
          refine j_zast (pc' := 197) rfl rfl (gm_16 g μ189) (by decide) (vin_ok c196) ?_
          rw [gs_16]; rw [e196]
          refine j_iconst (v := 1) (pc' := 198) rfl rfl (by decide) ?_
          have hf := Option.some.inj hf; subst hf
          exact j_iret rfl rfl (Nat.zero_le _) (Nat.zero_le _) ⟨rfl, rfl⟩
        · rw [if_neg c119] at hf
          refine j_bipush (v := (-4)) (pc' := 124) rfl rfl (by decide) ?_
          have hf := Option.some.inj hf; subst hf
          exact j_iret rfl rfl (Nat.zero_le _) (Nat.zero_le _) ⟨rfl, rfl⟩
      · rw [if_pos c28] at hf
        refine j_iconst (v := 0) (pc' := 32) rfl rfl (by decide) ?_
        refine j_istore_n (pc' := 33) (ls' := [(2, _), (0, _), (1, _)]) rfl rfl (Nat.le_of_ble_eq_true rfl) rfl ?_
        obtain ⟨r33, e33, hf⟩ := o_bind hf
        refine j_sub (ls' := [(0, .ref 5000), (1, .int x1), (2, .int 0)]) ⟨rfl, rfl, rfl, trivial⟩ ?_
        refine s_X7_melt_L33 g _ _ _ _ _ e33 ?_
        refine j_iconst (v := 0) (pc' := 93) rfl rfl (by decide) ?_
        have hf := Option.some.inj hf; subst hf
        exact j_iret rfl rfl (Nat.zero_le _) (Nat.zero_le _) ⟨rfl, rfl⟩
    · rw [if_pos c15] at hf
      refine j_bipush (v := (-3)) (pc' := 20) rfl rfl (by decide) ?_
      have hf := Option.some.inj hf; subst hf
      exact j_iret rfl rfl (Nat.zero_le _) (Nat.zero_le _) ⟨rfl, rfl⟩
  · rw [if_pos c5] at hf
    refine j_iconst (v := (-1)) (pc' := 9) rfl rfl (by decide) ?_
    have hf := Option.some.inj hf; subst hf
    exact j_iret rfl rfl (Nat.zero_le _) (Nat.zero_le _) ⟨rfl, rfl⟩
def rX7_furnace : Room := { frames := 2, cells := 0, slots := 0, locals := 42 }
def f_X7_furnace (μ : mS) (x1 : Int32) (x2 : Int32) : Option (Int32 × mS) := (f_X7_isMint x1).bind fun r1 => if r1 = 0 then some ((-1), μ) else (f_X7_in x2 1 1000000).bind fun r13 => if r13 = 0 then some ((-2), μ) else bif vin x1 3 then bif vin x1 3 then letm (seti μ 38 (va_up (μ.1 38) (x1).toNatClampNeg x2)) fun μ35 => some ((μ.1 38 (x1).toNatClampNeg), μ35) else none else none
set_option maxHeartbeats 4000000 in
set_option maxRecDepth 100000 in
theorem s_X7_furnace (g : hH) (μ : mS) (x1 : Int32) (x2 : Int32) (r : (Int32 × mS)) (hf : f_X7_furnace μ x1 x2 = some r) : SpD mX7_furnace rX7_furnace [.ref 5000, .int x1, .int x2] (gm g μ) (some (.int r.1)) (gm g r.2) := by
  refine sp_of miX7_furnace (Nat.le_of_ble_eq_true rfl) ?_
  show J _ _ _ 0 0 _ 0 [(0, .ref 5000), (1, .int x1), (2, .int x2)] []
  unfold f_X7_furnace at hf
  refine j_iload_n (pc' := 1) rfl rfl rfl ?_
  obtain ⟨r1, e1, hf⟩ := o_bind hf
  refine j_s1 (pc' := 4) rfl rfl miX7_isMint lnX7_238 (s_X7_isMint (gm g μ) x1 _ e1) (h_rm_of rfl) (Nat.le_of_ble_eq_true rfl) (c' := 0) (s' := 0) rfl rfl ?_
  refine j_if_ne (tgt := 9) (pc' := 7) rfl rfl rfl (fun c4 => ?_) (fun c4 => ?_)
  · rw [if_neg c4] at hf
    refine j_iload_n (pc' := 10) rfl rfl rfl ?_
    refine j_iconst (v := 1) (pc' := 11) rfl rfl (by decide) ?_
    refine j_ldc (pc' := 13) rfl rfl kcX7_228 ?_
    obtain ⟨r13, e13, hf⟩ := o_bind hf
    refine j_s3 (pc' := 16) rfl rfl miX7_in lnX7_138 (s_X7_in (gm g μ) x2 1 1000000 _ e13) (h_rm_of rfl) (Nat.le_of_ble_eq_true rfl) (c' := 0) (s' := 0) rfl rfl ?_
    refine j_if_ne (tgt := 22) (pc' := 19) rfl rfl rfl (fun c16 => ?_) (fun c16 => ?_)
    · rw [if_neg c16] at hf
      refine j_aload_n (pc' := 23) rfl rfl rfl ?_
      refine j_get (pc' := 26) rfl rfl flX7_101 (gm_o g μ) (mF_38 μ) ?_
      refine j_iload_n (pc' := 27) rfl rfl rfl ?_
      obtain ⟨c27, hf⟩ := o_chk hf
      refine j_iald (pc' := 28) rfl rfl (gm_38 g μ) (vin_ok c27) ?_
      refine j_istore_n (pc' := 29) (ls' := [(3, _), (0, _), (1, _), (2, _)]) rfl rfl (Nat.le_of_ble_eq_true rfl) rfl ?_
      refine j_aload_n (pc' := 30) rfl rfl rfl ?_
      refine j_get (pc' := 33) rfl rfl flX7_101 (gm_o g μ) (mF_38 μ) ?_
      refine j_iload_n (pc' := 34) rfl rfl rfl ?_
      refine j_iload_n (pc' := 35) rfl rfl rfl ?_
      obtain ⟨c35, hf⟩ := o_chk hf
      obtain ⟨μ35, e35, hf⟩ := o_let hf
      refine j_iast (pc' := 36) rfl rfl (gm_38 g μ) (by decide) (vin_ok c35) ?_
      rw [gs_38]; rw [e35]
      refine j_iload_n (pc' := 37) rfl rfl rfl ?_
      have hf := Option.some.inj hf; subst hf
      exact j_iret rfl rfl (Nat.zero_le _) (Nat.zero_le _) ⟨rfl, rfl⟩
    · rw [if_pos c16] at hf
      refine j_bipush (v := (-2)) (pc' := 21) rfl rfl (by decide) ?_
      have hf := Option.some.inj hf; subst hf
      exact j_iret rfl rfl (Nat.zero_le _) (Nat.zero_le _) ⟨rfl, rfl⟩
  · rw [if_pos c4] at hf
    refine j_iconst (v := (-1)) (pc' := 8) rfl rfl (by decide) ?_
    have hf := Option.some.inj hf; subst hf
    exact j_iret rfl rfl (Nat.zero_le _) (Nat.zero_le _) ⟨rfl, rfl⟩
def rX7_refine : Room := { frames := 2, cells := 0, slots := 0, locals := 42 }
def f_X7_refine (μ : mS) (x1 : Int32) : Option (Int32 × mS) := (f_X7_isMint x1).bind fun r1 => if r1 = 0 then some ((-1), μ) else bif vin x1 3 then if (lg_cmp (μ.2 33 (x1).toNatClampNeg) 0) = 0 then some ((-3), μ) else bif vin x1 3 then bif vin x1 3 then letm ((925 * (μ.2 33 (x1).toNatClampNeg)) - (μ.2 34 (x1).toNatClampNeg)) fun y40 => if 0 < (lg_cmp y40 0) then letm ((((y40 + 1000) - 925) - 1) / 75) fun y84 => bif vin x1 3 then bif vin x1 3 then letm (setl μ 37 (va_up (μ.2 37) (x1).toNatClampNeg ((μ.2 37 (x1).toNatClampNeg) + y84))) fun μ96 => bif vin x1 3 then bif vin x1 3 then letm (setl μ96 34 (va_up (μ96.2 34) (x1).toNatClampNeg ((μ96.2 34 (x1).toNatClampNeg) + (1000 * y84)))) fun μ111 => bif vin x1 3 then bif vin x1 3 then letm (setl μ111 33 (va_up (μ111.2 33) (x1).toNatClampNeg ((μ111.2 33 (x1).toNatClampNeg) + y84))) fun μ122 => bif vin x1 3 then bif vin x1 3 then letm (setl μ122 41 (fun _ => ((μ122.2 41 0) + ((μ122.2 34 (x1).toNatClampNeg) - (925 * (μ122.2 33 (x1).toNatClampNeg)))))) fun μ146 => bif vin x1 3 then bif vin x1 3 then letm (setl μ146 34 (va_up (μ146.2 34) (x1).toNatClampNeg (925 * (μ146.2 33 (x1).toNatClampNeg)))) fun μ164 => bif vin x1 3 then letm (seti μ164 35 (va_up (μ164.1 35) (x1).toNatClampNeg (vp_nar .boolean 1))) fun μ171 => some ((y84).toInt32, μ171) else none else none else none else none else none else none else none else none else none else none else none else bif vin x1 3 then bif vin x1 3 then letm (setl μ 36 (va_up (μ.2 36) (x1).toNatClampNeg ((μ.2 36 (x1).toNatClampNeg) + ((-y40) / 925)))) fun μ65 => bif vin x1 3 then bif vin x1 3 then letm (setl μ65 33 (va_up (μ65.2 33) (x1).toNatClampNeg ((μ65.2 33 (x1).toNatClampNeg) + ((-y40) / 925)))) fun μ122 => bif vin x1 3 then bif vin x1 3 then letm (setl μ122 41 (fun _ => ((μ122.2 41 0) + ((μ122.2 34 (x1).toNatClampNeg) - (925 * (μ122.2 33 (x1).toNatClampNeg)))))) fun μ146 => bif vin x1 3 then bif vin x1 3 then letm (setl μ146 34 (va_up (μ146.2 34) (x1).toNatClampNeg (925 * (μ146.2 33 (x1).toNatClampNeg)))) fun μ164 => bif vin x1 3 then letm (seti μ164 35 (va_up (μ164.1 35) (x1).toNatClampNeg (vp_nar .boolean 1))) fun μ171 => some ((((-y40) / 925)).toInt32, μ171) else none else none else none else none else none else none else none else none else none else none else none else none
set_option maxHeartbeats 4000000 in
set_option maxRecDepth 100000 in
theorem s_X7_refine (g : hH) (μ : mS) (x1 : Int32) (r : (Int32 × mS)) (hf : f_X7_refine μ x1 = some r) : SpD mX7_refine rX7_refine [.ref 5000, .int x1] (gm g μ) (some (.int r.1)) (gm g r.2) := by
  refine sp_of miX7_refine (Nat.le_of_ble_eq_true rfl) ?_
  show J _ _ _ 0 0 _ 0 [(0, .ref 5000), (1, .int x1)] []
  unfold f_X7_refine at hf
  refine j_iload_n (pc' := 1) rfl rfl rfl ?_
  obtain ⟨r1, e1, hf⟩ := o_bind hf
  refine j_s1 (pc' := 4) rfl rfl miX7_isMint lnX7_238 (s_X7_isMint (gm g μ) x1 _ e1) (h_rm_of rfl) (Nat.le_of_ble_eq_true rfl) (c' := 0) (s' := 0) rfl rfl ?_
  refine j_if_ne (tgt := 9) (pc' := 7) rfl rfl rfl (fun c4 => ?_) (fun c4 => ?_)
  · rw [if_neg c4] at hf
    refine j_aload_n (pc' := 10) rfl rfl rfl ?_
    refine j_get (pc' := 13) rfl rfl flX7_85 (gm_o g μ) (mF_33 μ) ?_
    refine j_iload_n (pc' := 14) rfl rfl rfl ?_
    obtain ⟨c14, hf⟩ := o_chk hf
    refine j_lald (pc' := 15) rfl rfl (gm_33 g μ) (vin_ok c14) ?_
    refine j_lconst (v := 0) (pc' := 16) rfl rfl (by decide) ?_
    refine j_lcmp (pc' := 17) rfl rfl ?_
    refine j_if_ne (tgt := 23) (pc' := 20) rfl rfl rfl (fun c17 => ?_) (fun c17 => ?_)
    · rw [if_neg c17] at hf
      refine j_ldc2 (pc' := 26) rfl rfl kcX7_247 ?_
      refine j_aload_n (pc' := 27) rfl rfl rfl ?_
      refine j_get (pc' := 30) rfl rfl flX7_85 (gm_o g μ) (mF_33 μ) ?_
      refine j_iload_n (pc' := 31) rfl rfl rfl ?_
      obtain ⟨c31, hf⟩ := o_chk hf
      refine j_lald (pc' := 32) rfl rfl (gm_33 g μ) (vin_ok c31) ?_
      refine j_lmul (pc' := 33) rfl rfl ?_
      refine j_aload_n (pc' := 34) rfl rfl rfl ?_
      refine j_get (pc' := 37) rfl rfl flX7_88 (gm_o g μ) (mF_34 μ) ?_
      refine j_iload_n (pc' := 38) rfl rfl rfl ?_
      obtain ⟨c38, hf⟩ := o_chk hf
      refine j_lald (pc' := 39) rfl rfl (gm_34 g μ) (vin_ok c38) ?_
      refine j_lsub (pc' := 40) rfl rfl ?_
      obtain ⟨y40, e40, hf⟩ := o_let hf
      rw [e40]
      refine j_lstore_n (pc' := 41) (ls' := [(2, _), (0, _), (1, _)]) rfl rfl (Nat.le_of_ble_eq_true rfl) rfl ?_
      refine j_lload_n (pc' := 42) rfl rfl rfl ?_
      refine j_lconst (v := 0) (pc' := 43) rfl rfl (by decide) ?_
      refine j_lcmp (pc' := 44) rfl rfl ?_
      refine j_if_gt (tgt := 69) (pc' := 47) rfl rfl rfl (fun c44 => ?_) (fun c44 => ?_)
      · rw [if_pos c44] at hf
        refine j_lload_n (pc' := 70) rfl rfl rfl ?_
        refine j_ldc2 (pc' := 73) rfl rfl kcX7_249 ?_
        refine j_ladd (pc' := 74) rfl rfl ?_
        refine j_ldc2 (pc' := 77) rfl rfl kcX7_247 ?_
        refine j_lsub (pc' := 78) rfl rfl ?_
        refine j_lconst (v := 1) (pc' := 79) rfl rfl (by decide) ?_
        refine j_lsub (pc' := 80) rfl rfl ?_
        refine j_ldc2 (pc' := 83) rfl rfl kcX7_251 ?_
        refine j_ldiv (pc' := 84) rfl rfl (by decide) ?_
        obtain ⟨y84, e84, hf⟩ := o_let hf
        rw [e84]
        refine j_lstore (pc' := 86) (ls' := [(4, _), (2, _), (0, _), (1, _)]) rfl rfl (Nat.le_of_ble_eq_true rfl) rfl ?_
        refine j_aload_n (pc' := 87) rfl rfl rfl ?_
        refine j_get (pc' := 90) rfl rfl flX7_97 (gm_o g μ) (mF_37 μ) ?_
        refine j_iload_n (pc' := 91) rfl rfl rfl ?_
        refine j_dup2_11 (pc' := 92) rfl rfl rfl rfl ?_
        obtain ⟨c92, hf⟩ := o_chk hf
        refine j_lald (pc' := 93) rfl rfl (gm_37 g μ) (vin_ok c92) ?_
        refine j_lload (pc' := 95) rfl rfl rfl ?_
        refine j_ladd (pc' := 96) rfl rfl ?_
        obtain ⟨c96, hf⟩ := o_chk hf
        obtain ⟨μ96, e96, hf⟩ := o_let hf
        refine j_last (pc' := 97) rfl rfl (gm_37 g μ) (by decide) (vin_ok c96) ?_
        rw [gs_37]; rw [e96]
        refine j_aload_n (pc' := 98) rfl rfl rfl ?_
        refine j_get (pc' := 101) rfl rfl flX7_88 (gm_o g μ96) (mF_34 μ96) ?_
        refine j_iload_n (pc' := 102) rfl rfl rfl ?_
        refine j_dup2_11 (pc' := 103) rfl rfl rfl rfl ?_
        obtain ⟨c103, hf⟩ := o_chk hf
        refine j_lald (pc' := 104) rfl rfl (gm_34 g μ96) (vin_ok c103) ?_
        refine j_ldc2 (pc' := 107) rfl rfl kcX7_249 ?_
        refine j_lload (pc' := 109) rfl rfl rfl ?_
        refine j_lmul (pc' := 110) rfl rfl ?_
        refine j_ladd (pc' := 111) rfl rfl ?_
        obtain ⟨c111, hf⟩ := o_chk hf
        obtain ⟨μ111, e111, hf⟩ := o_let hf
        refine j_last (pc' := 112) rfl rfl (gm_34 g μ96) (by decide) (vin_ok c111) ?_
        rw [gs_34]; rw [e111]
        refine j_aload_n (pc' := 113) rfl rfl rfl ?_
        refine j_get (pc' := 116) rfl rfl flX7_85 (gm_o g μ111) (mF_33 μ111) ?_
        refine j_iload_n (pc' := 117) rfl rfl rfl ?_
        refine j_dup2_11 (pc' := 118) rfl rfl rfl rfl ?_
        obtain ⟨c118, hf⟩ := o_chk hf
        refine j_lald (pc' := 119) rfl rfl (gm_33 g μ111) (vin_ok c118) ?_
        refine j_lload (pc' := 121) rfl rfl rfl ?_
        refine j_ladd (pc' := 122) rfl rfl ?_
        obtain ⟨c122, hf⟩ := o_chk hf
        obtain ⟨μ122, e122, hf⟩ := o_let hf
        refine j_last (pc' := 123) rfl rfl (gm_33 g μ111) (by decide) (vin_ok c122) ?_
        rw [gs_33]; rw [e122]
        refine j_aload_n (pc' := 124) rfl rfl rfl ?_
        refine j_dup (pc' := 125) rfl rfl rfl ?_
        refine j_get (pc' := 128) rfl rfl flX7_253 (gm_o g μ122) (mF_41 μ122) ?_
        refine j_aload_n (pc' := 129) rfl rfl rfl ?_
        refine j_get (pc' := 132) rfl rfl flX7_88 (gm_o g μ122) (mF_34 μ122) ?_
        refine j_iload_n (pc' := 133) rfl rfl rfl ?_
        obtain ⟨c133, hf⟩ := o_chk hf
        refine j_lald (pc' := 134) rfl rfl (gm_34 g μ122) (vin_ok c133) ?_
        refine j_ldc2 (pc' := 137) rfl rfl kcX7_247 ?_
        refine j_aload_n (pc' := 138) rfl rfl rfl ?_
        refine j_get (pc' := 141) rfl rfl flX7_85 (gm_o g μ122) (mF_33 μ122) ?_
        refine j_iload_n (pc' := 142) rfl rfl rfl ?_
        obtain ⟨c142, hf⟩ := o_chk hf
        refine j_lald (pc' := 143) rfl rfl (gm_33 g μ122) (vin_ok c142) ?_
        refine j_lmul (pc' := 144) rfl rfl ?_
        refine j_lsub (pc' := 145) rfl rfl ?_
        refine j_ladd (pc' := 146) rfl rfl ?_
        obtain ⟨μ146, e146, hf⟩ := o_let hf
        refine j_put (pc' := 149) rfl rfl flX7_253 (gm_o g μ122) (by decide) (Nat.le_of_ble_eq_true rfl) rfl rfl ?_
        rw [gs_41]; rw [e146]
        refine j_aload_n (pc' := 150) rfl rfl rfl ?_
        refine j_get (pc' := 153) rfl rfl flX7_88 (gm_o g μ146) (mF_34 μ146) ?_
        refine j_iload_n (pc' := 154) rfl rfl rfl ?_
        refine j_ldc2 (pc' := 157) rfl rfl kcX7_247 ?_
        refine j_aload_n (pc' := 158) rfl rfl rfl ?_
        refine j_get (pc' := 161) rfl rfl flX7_85 (gm_o g μ146) (mF_33 μ146) ?_
        refine j_iload_n (pc' := 162) rfl rfl rfl ?_
        obtain ⟨c162, hf⟩ := o_chk hf
        refine j_lald (pc' := 163) rfl rfl (gm_33 g μ146) (vin_ok c162) ?_
        refine j_lmul (pc' := 164) rfl rfl ?_
        obtain ⟨c164, hf⟩ := o_chk hf
        obtain ⟨μ164, e164, hf⟩ := o_let hf
        refine j_last (pc' := 165) rfl rfl (gm_34 g μ146) (by decide) (vin_ok c164) ?_
        rw [gs_34]; rw [e164]
        refine j_aload_n (pc' := 166) rfl rfl rfl ?_
        refine j_get (pc' := 169) rfl rfl flX7_91 (gm_o g μ164) (mF_35 μ164) ?_
        refine j_iload_n (pc' := 170) rfl rfl rfl ?_
        refine j_iconst (v := 1) (pc' := 171) rfl rfl (by decide) ?_
        obtain ⟨c171, hf⟩ := o_chk hf
        obtain ⟨μ171, e171, hf⟩ := o_let hf
        refine j_zast (pc' := 172) rfl rfl (gm_35 g μ164) (by decide) (vin_ok c171) ?_
        rw [gs_35]; rw [e171]
        refine j_lload (pc' := 174) rfl rfl rfl ?_
        refine j_l2i (pc' := 175) rfl rfl ?_
        have hf := Option.some.inj hf; subst hf
        exact j_iret rfl rfl (Nat.zero_le _) (Nat.zero_le _) ⟨rfl, rfl⟩
      · rw [if_neg c44] at hf
        refine j_lload_n (pc' := 48) rfl rfl rfl ?_
        refine j_lneg (pc' := 49) rfl rfl ?_
        refine j_ldc2 (pc' := 52) rfl rfl kcX7_247 ?_
        refine j_ldiv (pc' := 53) rfl rfl (by decide) ?_
        refine j_lstore (pc' := 55) (ls' := [(4, _), (2, _), (0, _), (1, _)]) rfl rfl (Nat.le_of_ble_eq_true rfl) rfl ?_
        refine j_aload_n (pc' := 56) rfl rfl rfl ?_
        refine j_get (pc' := 59) rfl rfl flX7_94 (gm_o g μ) (mF_36 μ) ?_
        refine j_iload_n (pc' := 60) rfl rfl rfl ?_
        refine j_dup2_11 (pc' := 61) rfl rfl rfl rfl ?_
        obtain ⟨c61, hf⟩ := o_chk hf
        refine j_lald (pc' := 62) rfl rfl (gm_36 g μ) (vin_ok c61) ?_
        refine j_lload (pc' := 64) rfl rfl rfl ?_
        refine j_ladd (pc' := 65) rfl rfl ?_
        obtain ⟨c65, hf⟩ := o_chk hf
        obtain ⟨μ65, e65, hf⟩ := o_let hf
        refine j_last (pc' := 66) rfl rfl (gm_36 g μ) (by decide) (vin_ok c65) ?_
        rw [gs_36]; rw [e65]
        refine j_goto (tgt := 112) rfl rfl ?_
        refine j_aload_n (pc' := 113) rfl rfl rfl ?_
        refine j_get (pc' := 116) rfl rfl flX7_85 (gm_o g μ65) (mF_33 μ65) ?_
        refine j_iload_n (pc' := 117) rfl rfl rfl ?_
        refine j_dup2_11 (pc' := 118) rfl rfl rfl rfl ?_
        obtain ⟨c118, hf⟩ := o_chk hf
        refine j_lald (pc' := 119) rfl rfl (gm_33 g μ65) (vin_ok c118) ?_
        refine j_lload (pc' := 121) rfl rfl rfl ?_
        refine j_ladd (pc' := 122) rfl rfl ?_
        obtain ⟨c122, hf⟩ := o_chk hf
        obtain ⟨μ122, e122, hf⟩ := o_let hf
        refine j_last (pc' := 123) rfl rfl (gm_33 g μ65) (by decide) (vin_ok c122) ?_
        rw [gs_33]; rw [e122]
        refine j_aload_n (pc' := 124) rfl rfl rfl ?_
        refine j_dup (pc' := 125) rfl rfl rfl ?_
        refine j_get (pc' := 128) rfl rfl flX7_253 (gm_o g μ122) (mF_41 μ122) ?_
        refine j_aload_n (pc' := 129) rfl rfl rfl ?_
        refine j_get (pc' := 132) rfl rfl flX7_88 (gm_o g μ122) (mF_34 μ122) ?_
        refine j_iload_n (pc' := 133) rfl rfl rfl ?_
        obtain ⟨c133, hf⟩ := o_chk hf
        refine j_lald (pc' := 134) rfl rfl (gm_34 g μ122) (vin_ok c133) ?_
        refine j_ldc2 (pc' := 137) rfl rfl kcX7_247 ?_
        refine j_aload_n (pc' := 138) rfl rfl rfl ?_
        refine j_get (pc' := 141) rfl rfl flX7_85 (gm_o g μ122) (mF_33 μ122) ?_
        refine j_iload_n (pc' := 142) rfl rfl rfl ?_
        obtain ⟨c142, hf⟩ := o_chk hf
        refine j_lald (pc' := 143) rfl rfl (gm_33 g μ122) (vin_ok c142) ?_
        refine j_lmul (pc' := 144) rfl rfl ?_
        refine j_lsub (pc' := 145) rfl rfl ?_
        refine j_ladd (pc' := 146) rfl rfl ?_
        obtain ⟨μ146, e146, hf⟩ := o_let hf
        refine j_put (pc' := 149) rfl rfl flX7_253 (gm_o g μ122) (by decide) (Nat.le_of_ble_eq_true rfl) rfl rfl ?_
        rw [gs_41]; rw [e146]
        refine j_aload_n (pc' := 150) rfl rfl rfl ?_
        refine j_get (pc' := 153) rfl rfl flX7_88 (gm_o g μ146) (mF_34 μ146) ?_
        refine j_iload_n (pc' := 154) rfl rfl rfl ?_
        refine j_ldc2 (pc' := 157) rfl rfl kcX7_247 ?_
        refine j_aload_n (pc' := 158) rfl rfl rfl ?_
        refine j_get (pc' := 161) rfl rfl flX7_85 (gm_o g μ146) (mF_33 μ146) ?_
        refine j_iload_n (pc' := 162) rfl rfl rfl ?_
        obtain ⟨c162, hf⟩ := o_chk hf
        refine j_lald (pc' := 163) rfl rfl (gm_33 g μ146) (vin_ok c162) ?_
        refine j_lmul (pc' := 164) rfl rfl ?_
        obtain ⟨c164, hf⟩ := o_chk hf
        obtain ⟨μ164, e164, hf⟩ := o_let hf
        refine j_last (pc' := 165) rfl rfl (gm_34 g μ146) (by decide) (vin_ok c164) ?_
        rw [gs_34]; rw [e164]
        refine j_aload_n (pc' := 166) rfl rfl rfl ?_
        refine j_get (pc' := 169) rfl rfl flX7_91 (gm_o g μ164) (mF_35 μ164) ?_
        refine j_iload_n (pc' := 170) rfl rfl rfl ?_
        refine j_iconst (v := 1) (pc' := 171) rfl rfl (by decide) ?_
        obtain ⟨c171, hf⟩ := o_chk hf
        obtain ⟨μ171, e171, hf⟩ := o_let hf
        refine j_zast (pc' := 172) rfl rfl (gm_35 g μ164) (by decide) (vin_ok c171) ?_
        rw [gs_35]; rw [e171]
        refine j_lload (pc' := 174) rfl rfl rfl ?_
        refine j_l2i (pc' := 175) rfl rfl ?_
        have hf := Option.some.inj hf; subst hf
        exact j_iret rfl rfl (Nat.zero_le _) (Nat.zero_le _) ⟨rfl, rfl⟩
    · rw [if_pos c17] at hf
      refine j_bipush (v := (-3)) (pc' := 22) rfl rfl (by decide) ?_
      have hf := Option.some.inj hf; subst hf
      exact j_iret rfl rfl (Nat.zero_le _) (Nat.zero_le _) ⟨rfl, rfl⟩
  · rw [if_pos c4] at hf
    refine j_iconst (v := (-1)) (pc' := 8) rfl rfl (by decide) ?_
    have hf := Option.some.inj hf; subst hf
    exact j_iret rfl rfl (Nat.zero_le _) (Nat.zero_le _) ⟨rfl, rfl⟩
end MODEL4
