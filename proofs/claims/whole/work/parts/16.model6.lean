section MODEL6
def rX7_count : Room := { frames := 1, cells := 0, slots := 0, locals := 21 }
def f_X7_count_L70 : Nat → mS → Int32 → Int32 → Option (Int32)
  | 0, _, _, _ => none
  | n + 1, μ, x2, x3 => if (μ.1 7 0) ≤ x3 then some (x2) else bif vin x3 30 then if (μ.1 16 (x3).toNatClampNeg) = 0 then f_X7_count_L70 n μ (x2 + 0) (x3 + 1) else f_X7_count_L70 n μ (x2 + 1) (x3 + 1) else none
set_option maxHeartbeats 4000000 in
set_option maxRecDepth 100000 in
theorem s_X7_count_L70 {Q : Option Value → hH → Prop} (g : hH) : ∀ (n : Nat) (μ : mS) (x2 : Int32) (x3 : Int32) (r : Int32), f_X7_count_L70 n μ x2 x3 = some r → (J mX7_count rX7_count Q 0 0 (gm g μ) 101 [(2, .int r)] []) → J mX7_count rX7_count Q 0 0 (gm g μ) 70 [(0, .ref 5000), (2, .int x2), (3, .int x3)] [] := by
  intro n
  induction n with
  | zero =>
    intro μ x2 x3 r hf
    cases hf
  | succ n ih =>
    intro μ x2 x3 r hf k0
    rw [f_X7_count_L70] at hf
    refine j_iload_n (pc' := 71) rfl rfl rfl ?_
    refine j_aload_n (pc' := 72) rfl rfl rfl ?_
    refine j_get (pc' := 75) rfl rfl flX7_142 (gm_o g μ) (mF_7 μ) ?_
    refine j_icmp_ge (tgt := 101) (pc' := 78) rfl rfl rfl (fun c75 => ?_) (fun c75 => ?_)
    · rw [if_pos c75] at hf
      have hf := Option.some.inj hf; subst hf
      exact j_sub (ls' := [(2, .int _)]) ⟨rfl, trivial⟩ (k0)
    · rw [if_neg c75] at hf
      refine j_iload_n (pc' := 79) rfl rfl rfl ?_
      refine j_aload_n (pc' := 80) rfl rfl rfl ?_
      refine j_get (pc' := 83) rfl rfl flX7_46 (gm_o g μ) (mF_16 μ) ?_
      refine j_iload_n (pc' := 84) rfl rfl rfl ?_
      obtain ⟨c84, hf⟩ := o_chk hf
      refine j_zald (pc' := 85) rfl rfl (gm_16 g μ) (vin_ok c84) ?_
      refine j_if_eq (tgt := 92) (pc' := 88) rfl rfl rfl (fun c85 => ?_) (fun c85 => ?_)
      · rw [if_pos c85] at hf
        refine j_iconst (v := 0) (pc' := 93) rfl rfl (by decide) ?_
        refine j_iadd (pc' := 94) rfl rfl ?_
        refine j_istore_n (pc' := 95) (ls' := [(2, _), (0, _), (3, _)]) rfl rfl (Nat.le_of_ble_eq_true rfl) rfl ?_
        refine j_iinc (pc' := 98) (d := 1) (ls' := [(3, _), (2, _), (0, _)]) rfl rfl rfl (by decide) (Nat.le_of_ble_eq_true rfl) rfl ?_
        refine j_goto (tgt := 70) rfl rfl ?_
        refine j_sub (ls' := [(0, .ref 5000), (2, .int _), (3, .int _)]) ⟨rfl, rfl, rfl, trivial⟩ ?_
        exact ih _ _ _ _ hf k0
      · rw [if_neg c85] at hf
        refine j_iconst (v := 1) (pc' := 89) rfl rfl (by decide) ?_
        refine j_goto (tgt := 93) rfl rfl ?_
        refine j_iadd (pc' := 94) rfl rfl ?_
        refine j_istore_n (pc' := 95) (ls' := [(2, _), (0, _), (3, _)]) rfl rfl (Nat.le_of_ble_eq_true rfl) rfl ?_
        refine j_iinc (pc' := 98) (d := 1) (ls' := [(3, _), (2, _), (0, _)]) rfl rfl rfl (by decide) (Nat.le_of_ble_eq_true rfl) rfl ?_
        refine j_goto (tgt := 70) rfl rfl ?_
        refine j_sub (ls' := [(0, .ref 5000), (2, .int _), (3, .int _)]) ⟨rfl, rfl, rfl, trivial⟩ ?_
        exact ih _ _ _ _ hf k0
def f_X7_count_L105 : Nat → mS → Int32 → Int32 → Option (Int32)
  | 0, _, _, _ => none
  | n + 1, μ, x2, x3 => if (μ.1 7 0) ≤ x3 then some (x2) else bif vin x3 30 then if (μ.1 16 (x3).toNatClampNeg) = 0 then (f_X7_isUnderWay μ x3).bind fun r125 => if r125 = 0 then f_X7_count_L105 n μ (x2 + 0) (x3 + 1) else f_X7_count_L105 n μ (x2 + 1) (x3 + 1) else f_X7_count_L105 n μ (x2 + 0) (x3 + 1) else none
set_option maxHeartbeats 4000000 in
set_option maxRecDepth 100000 in
theorem s_X7_count_L105 {Q : Option Value → hH → Prop} (g : hH) : ∀ (n : Nat) (μ : mS) (x2 : Int32) (x3 : Int32) (r : Int32), f_X7_count_L105 n μ x2 x3 = some r → (J mX7_count rX7_count Q 0 0 (gm g μ) 144 [(2, .int r)] []) → J mX7_count rX7_count Q 0 0 (gm g μ) 105 [(0, .ref 5000), (2, .int x2), (3, .int x3)] [] := by
  intro n
  induction n with
  | zero =>
    intro μ x2 x3 r hf
    cases hf
  | succ n ih =>
    intro μ x2 x3 r hf k0
    rw [f_X7_count_L105] at hf
    refine j_iload_n (pc' := 106) rfl rfl rfl ?_
    refine j_aload_n (pc' := 107) rfl rfl rfl ?_
    refine j_get (pc' := 110) rfl rfl flX7_142 (gm_o g μ) (mF_7 μ) ?_
    refine j_icmp_ge (tgt := 144) (pc' := 113) rfl rfl rfl (fun c110 => ?_) (fun c110 => ?_)
    · rw [if_pos c110] at hf
      have hf := Option.some.inj hf; subst hf
      exact j_sub (ls' := [(2, .int _)]) ⟨rfl, trivial⟩ (k0)
    · rw [if_neg c110] at hf
      refine j_iload_n (pc' := 114) rfl rfl rfl ?_
      refine j_aload_n (pc' := 115) rfl rfl rfl ?_
      refine j_get (pc' := 118) rfl rfl flX7_46 (gm_o g μ) (mF_16 μ) ?_
      refine j_iload_n (pc' := 119) rfl rfl rfl ?_
      obtain ⟨c119, hf⟩ := o_chk hf
      refine j_zald (pc' := 120) rfl rfl (gm_16 g μ) (vin_ok c119) ?_
      refine j_if_ne (tgt := 135) (pc' := 123) rfl rfl rfl (fun c120 => ?_) (fun c120 => ?_)
      · rw [if_neg c120] at hf
        refine j_iconst (v := 0) (pc' := 136) rfl rfl (by decide) ?_
        refine j_iadd (pc' := 137) rfl rfl ?_
        refine j_istore_n (pc' := 138) (ls' := [(2, _), (0, _), (3, _)]) rfl rfl (Nat.le_of_ble_eq_true rfl) rfl ?_
        refine j_iinc (pc' := 141) (d := 1) (ls' := [(3, _), (2, _), (0, _)]) rfl rfl rfl (by decide) (Nat.le_of_ble_eq_true rfl) rfl ?_
        refine j_goto (tgt := 105) rfl rfl ?_
        refine j_sub (ls' := [(0, .ref 5000), (2, .int _), (3, .int _)]) ⟨rfl, rfl, rfl, trivial⟩ ?_
        exact ih _ _ _ _ hf k0
      · rw [if_pos c120] at hf
        refine j_aload_n (pc' := 124) rfl rfl rfl ?_
        refine j_iload_n (pc' := 125) rfl rfl rfl ?_
        obtain ⟨r125, e125, hf⟩ := o_bind hf
        refine j_v1 (pc' := 128) rfl rfl miX7_isUnderWay lnX7_170 (gm_o g μ) rfl (s_X7_isUnderWay g μ x3 _ e125) (h_rm_of rfl) (Nat.le_of_ble_eq_true rfl) (c' := 0) (s' := 0) rfl rfl ?_
        refine j_if_eq (tgt := 135) (pc' := 131) rfl rfl rfl (fun c128 => ?_) (fun c128 => ?_)
        · rw [if_pos c128] at hf
          refine j_iconst (v := 0) (pc' := 136) rfl rfl (by decide) ?_
          refine j_iadd (pc' := 137) rfl rfl ?_
          refine j_istore_n (pc' := 138) (ls' := [(2, _), (0, _), (3, _)]) rfl rfl (Nat.le_of_ble_eq_true rfl) rfl ?_
          refine j_iinc (pc' := 141) (d := 1) (ls' := [(3, _), (2, _), (0, _)]) rfl rfl rfl (by decide) (Nat.le_of_ble_eq_true rfl) rfl ?_
          refine j_goto (tgt := 105) rfl rfl ?_
          refine j_sub (ls' := [(0, .ref 5000), (2, .int _), (3, .int _)]) ⟨rfl, rfl, rfl, trivial⟩ ?_
          exact ih _ _ _ _ hf k0
        · rw [if_neg c128] at hf
          refine j_iconst (v := 1) (pc' := 132) rfl rfl (by decide) ?_
          refine j_goto (tgt := 136) rfl rfl ?_
          refine j_iadd (pc' := 137) rfl rfl ?_
          refine j_istore_n (pc' := 138) (ls' := [(2, _), (0, _), (3, _)]) rfl rfl (Nat.le_of_ble_eq_true rfl) rfl ?_
          refine j_iinc (pc' := 141) (d := 1) (ls' := [(3, _), (2, _), (0, _)]) rfl rfl rfl (by decide) (Nat.le_of_ble_eq_true rfl) rfl ?_
          refine j_goto (tgt := 105) rfl rfl ?_
          refine j_sub (ls' := [(0, .ref 5000), (2, .int _), (3, .int _)]) ⟨rfl, rfl, rfl, trivial⟩ ?_
          exact ih _ _ _ _ hf k0
def f_X7_count_L148 : Nat → mS → Int32 → Int32 → Option (Int32)
  | 0, _, _, _ => none
  | n + 1, μ, x2, x3 => if (μ.1 7 0) ≤ x3 then some (x2) else bif vin x3 30 then if (μ.1 17 (x3).toNatClampNeg) = 0 then f_X7_count_L148 n μ (x2 + 0) (x3 + 1) else f_X7_count_L148 n μ (x2 + 1) (x3 + 1) else none
set_option maxHeartbeats 4000000 in
set_option maxRecDepth 100000 in
theorem s_X7_count_L148 {Q : Option Value → hH → Prop} (g : hH) : ∀ (n : Nat) (μ : mS) (x2 : Int32) (x3 : Int32) (r : Int32), f_X7_count_L148 n μ x2 x3 = some r → (J mX7_count rX7_count Q 0 0 (gm g μ) 179 [(2, .int r)] []) → J mX7_count rX7_count Q 0 0 (gm g μ) 148 [(0, .ref 5000), (2, .int x2), (3, .int x3)] [] := by
  intro n
  induction n with
  | zero =>
    intro μ x2 x3 r hf
    cases hf
  | succ n ih =>
    intro μ x2 x3 r hf k0
    rw [f_X7_count_L148] at hf
    refine j_iload_n (pc' := 149) rfl rfl rfl ?_
    refine j_aload_n (pc' := 150) rfl rfl rfl ?_
    refine j_get (pc' := 153) rfl rfl flX7_142 (gm_o g μ) (mF_7 μ) ?_
    refine j_icmp_ge (tgt := 179) (pc' := 156) rfl rfl rfl (fun c153 => ?_) (fun c153 => ?_)
    · rw [if_pos c153] at hf
      have hf := Option.some.inj hf; subst hf
      exact j_sub (ls' := [(2, .int _)]) ⟨rfl, trivial⟩ (k0)
    · rw [if_neg c153] at hf
      refine j_iload_n (pc' := 157) rfl rfl rfl ?_
      refine j_aload_n (pc' := 158) rfl rfl rfl ?_
      refine j_get (pc' := 161) rfl rfl flX7_50 (gm_o g μ) (mF_17 μ) ?_
      refine j_iload_n (pc' := 162) rfl rfl rfl ?_
      obtain ⟨c162, hf⟩ := o_chk hf
      refine j_zald (pc' := 163) rfl rfl (gm_17 g μ) (vin_ok c162) ?_
      refine j_if_eq (tgt := 170) (pc' := 166) rfl rfl rfl (fun c163 => ?_) (fun c163 => ?_)
      · rw [if_pos c163] at hf
        refine j_iconst (v := 0) (pc' := 171) rfl rfl (by decide) ?_
        refine j_iadd (pc' := 172) rfl rfl ?_
        refine j_istore_n (pc' := 173) (ls' := [(2, _), (0, _), (3, _)]) rfl rfl (Nat.le_of_ble_eq_true rfl) rfl ?_
        refine j_iinc (pc' := 176) (d := 1) (ls' := [(3, _), (2, _), (0, _)]) rfl rfl rfl (by decide) (Nat.le_of_ble_eq_true rfl) rfl ?_
        refine j_goto (tgt := 148) rfl rfl ?_
        refine j_sub (ls' := [(0, .ref 5000), (2, .int _), (3, .int _)]) ⟨rfl, rfl, rfl, trivial⟩ ?_
        exact ih _ _ _ _ hf k0
      · rw [if_neg c163] at hf
        refine j_iconst (v := 1) (pc' := 167) rfl rfl (by decide) ?_
        refine j_goto (tgt := 171) rfl rfl ?_
        refine j_iadd (pc' := 172) rfl rfl ?_
        refine j_istore_n (pc' := 173) (ls' := [(2, _), (0, _), (3, _)]) rfl rfl (Nat.le_of_ble_eq_true rfl) rfl ?_
        refine j_iinc (pc' := 176) (d := 1) (ls' := [(3, _), (2, _), (0, _)]) rfl rfl rfl (by decide) (Nat.le_of_ble_eq_true rfl) rfl ?_
        refine j_goto (tgt := 148) rfl rfl ?_
        refine j_sub (ls' := [(0, .ref 5000), (2, .int _), (3, .int _)]) ⟨rfl, rfl, rfl, trivial⟩ ?_
        exact ih _ _ _ _ hf k0
def f_X7_count (μ : mS) (x1 : Int32) : Option Int32 := if x1 = 0 then some (μ.1 1 0) else if x1 = 1 then some (μ.1 7 0) else if x1 = 2 then some (μ.1 21 0) else if x1 = 3 then some (μ.1 6 0) else if x1 = 4 then (f_X7_count_L70 4000 μ 0 0).bind fun r70 => some r70 else if x1 = 5 then (f_X7_count_L105 4000 μ 0 0).bind fun r105 => some r105 else if x1 = 6 then (f_X7_count_L148 4000 μ 0 0).bind fun r148 => some r148 else if x1 = 7 then some (μ.1 20 0) else some (-1)
set_option maxHeartbeats 4000000 in
set_option maxRecDepth 100000 in
theorem s_X7_count (g : hH) (μ : mS) (x1 : Int32) (r : Int32) (hf : f_X7_count μ x1 = some r) : SpD mX7_count rX7_count [.ref 5000, .int x1] (gm g μ) (some (.int r)) (gm g μ) := by
  refine sp_of miX7_count (Nat.le_of_ble_eq_true rfl) ?_
  show J _ _ _ 0 0 _ 0 [(0, .ref 5000), (1, .int x1)] []
  unfold f_X7_count at hf
  refine j_iconst (v := 0) (pc' := 1) rfl rfl (by decide) ?_
  refine j_istore_n (pc' := 2) (ls' := [(2, _), (0, _), (1, _)]) rfl rfl (Nat.le_of_ble_eq_true rfl) rfl ?_
  refine j_iload_n (pc' := 3) rfl rfl rfl ?_
  by_cases w3_0 : x1 = 0
  · rw [if_pos w3_0] at hf
    rw [w3_0]
    refine j_tableIn (tgt := 48) rfl (by decide) (by decide) rfl rfl ?_
    refine j_aload_n (pc' := 49) rfl rfl rfl ?_
    refine j_get (pc' := 52) rfl rfl flX7_135 (gm_o g μ) (mF_1 μ) ?_
    have hf := Option.some.inj hf; subst hf
    exact j_iret rfl rfl (Nat.zero_le _) (Nat.zero_le _) ⟨rfl, rfl⟩
  rw [if_neg w3_0] at hf
  by_cases w3_1 : x1 = 1
  · rw [if_pos w3_1] at hf
    rw [w3_1]
    refine j_tableIn (tgt := 53) rfl (by decide) (by decide) rfl rfl ?_
    refine j_aload_n (pc' := 54) rfl rfl rfl ?_
    refine j_get (pc' := 57) rfl rfl flX7_142 (gm_o g μ) (mF_7 μ) ?_
    have hf := Option.some.inj hf; subst hf
    exact j_iret rfl rfl (Nat.zero_le _) (Nat.zero_le _) ⟨rfl, rfl⟩
  rw [if_neg w3_1] at hf
  by_cases w3_2 : x1 = 2
  · rw [if_pos w3_2] at hf
    rw [w3_2]
    refine j_tableIn (tgt := 58) rfl (by decide) (by decide) rfl rfl ?_
    refine j_aload_n (pc' := 59) rfl rfl rfl ?_
    refine j_get (pc' := 62) rfl rfl flX7_205 (gm_o g μ) (mF_21 μ) ?_
    have hf := Option.some.inj hf; subst hf
    exact j_iret rfl rfl (Nat.zero_le _) (Nat.zero_le _) ⟨rfl, rfl⟩
  rw [if_neg w3_2] at hf
  by_cases w3_3 : x1 = 3
  · rw [if_pos w3_3] at hf
    rw [w3_3]
    refine j_tableIn (tgt := 63) rfl (by decide) (by decide) rfl rfl ?_
    refine j_aload_n (pc' := 64) rfl rfl rfl ?_
    refine j_get (pc' := 67) rfl rfl flX7_167 (gm_o g μ) (mF_6 μ) ?_
    have hf := Option.some.inj hf; subst hf
    exact j_iret rfl rfl (Nat.zero_le _) (Nat.zero_le _) ⟨rfl, rfl⟩
  rw [if_neg w3_3] at hf
  by_cases w3_4 : x1 = 4
  · rw [if_pos w3_4] at hf
    rw [w3_4]
    refine j_tableIn (tgt := 68) rfl (by decide) (by decide) rfl rfl ?_
    refine j_iconst (v := 0) (pc' := 69) rfl rfl (by decide) ?_
    refine j_istore_n (pc' := 70) (ls' := [(3, _), (2, _), (0, _), (1, _)]) rfl rfl (Nat.le_of_ble_eq_true rfl) rfl ?_
    obtain ⟨r70, e70, hf⟩ := o_bind hf
    refine j_sub (ls' := [(0, .ref 5000), (2, .int 0), (3, .int 0)]) ⟨rfl, rfl, rfl, trivial⟩ ?_
    refine s_X7_count_L70 g _ _ _ _ _ e70 ?_
    refine j_iload_n (pc' := 102) rfl rfl rfl ?_
    have hf := Option.some.inj hf; subst hf
    exact j_iret rfl rfl (Nat.zero_le _) (Nat.zero_le _) ⟨rfl, rfl⟩
  rw [if_neg w3_4] at hf
  by_cases w3_5 : x1 = 5
  · rw [if_pos w3_5] at hf
    rw [w3_5]
    refine j_tableIn (tgt := 103) rfl (by decide) (by decide) rfl rfl ?_
    refine j_iconst (v := 0) (pc' := 104) rfl rfl (by decide) ?_
    refine j_istore_n (pc' := 105) (ls' := [(3, _), (2, _), (0, _), (1, _)]) rfl rfl (Nat.le_of_ble_eq_true rfl) rfl ?_
    obtain ⟨r105, e105, hf⟩ := o_bind hf
    refine j_sub (ls' := [(0, .ref 5000), (2, .int 0), (3, .int 0)]) ⟨rfl, rfl, rfl, trivial⟩ ?_
    refine s_X7_count_L105 g _ _ _ _ _ e105 ?_
    refine j_iload_n (pc' := 145) rfl rfl rfl ?_
    have hf := Option.some.inj hf; subst hf
    exact j_iret rfl rfl (Nat.zero_le _) (Nat.zero_le _) ⟨rfl, rfl⟩
  rw [if_neg w3_5] at hf
  by_cases w3_6 : x1 = 6
  · rw [if_pos w3_6] at hf
    rw [w3_6]
    refine j_tableIn (tgt := 146) rfl (by decide) (by decide) rfl rfl ?_
    refine j_iconst (v := 0) (pc' := 147) rfl rfl (by decide) ?_
    refine j_istore_n (pc' := 148) (ls' := [(3, _), (2, _), (0, _), (1, _)]) rfl rfl (Nat.le_of_ble_eq_true rfl) rfl ?_
    obtain ⟨r148, e148, hf⟩ := o_bind hf
    refine j_sub (ls' := [(0, .ref 5000), (2, .int 0), (3, .int 0)]) ⟨rfl, rfl, rfl, trivial⟩ ?_
    refine s_X7_count_L148 g _ _ _ _ _ e148 ?_
    refine j_iload_n (pc' := 180) rfl rfl rfl ?_
    have hf := Option.some.inj hf; subst hf
    exact j_iret rfl rfl (Nat.zero_le _) (Nat.zero_le _) ⟨rfl, rfl⟩
  rw [if_neg w3_6] at hf
  by_cases w3_7 : x1 = 7
  · rw [if_pos w3_7] at hf
    rw [w3_7]
    refine j_tableIn (tgt := 181) rfl (by decide) (by decide) rfl rfl ?_
    refine j_aload_n (pc' := 182) rfl rfl rfl ?_
    refine j_get (pc' := 185) rfl rfl flX7_179 (gm_o g μ) (mF_20 μ) ?_
    have hf := Option.some.inj hf; subst hf
    exact j_iret rfl rfl (Nat.zero_le _) (Nat.zero_le _) ⟨rfl, rfl⟩
  rw [if_neg w3_7] at hf
  refine j_tableOut (tgt := 186) rfl (sw_out (n := 7) (by decide) (fun v hv => by
    have : v = 0 ∨ v = 1 ∨ v = 2 ∨ v = 3 ∨ v = 4 ∨ v = 5 ∨ v = 6 ∨ v = 7 := by omega
    rcases this with rfl | rfl | rfl | rfl | rfl | rfl | rfl | rfl
    · exact w3_0
    · exact w3_1
    · exact w3_2
    · exact w3_3
    · exact w3_4
    · exact w3_5
    · exact w3_6
    · exact w3_7)) rfl ?_
  refine j_iconst (v := (-1)) (pc' := 187) rfl rfl (by decide) ?_
  have hf := Option.some.inj hf; subst hf
  exact j_iret rfl rfl (Nat.zero_le _) (Nat.zero_le _) ⟨rfl, rfl⟩
end MODEL6
