section MODEL2
def rX7_sendOne : Room := { frames := 1, cells := 0, slots := 0, locals := 24 }
def f_X7_sendOne_L8 : Nat → mS → Int32 → Int32 → Option (Int32)
  | 0, _, _, _ => none
  | n + 1, μ, x1, x2 => if 6 ≤ x2 then some (x1) else bif vin x2 6 then if (μ.1 46 (x2).toNatClampNeg) ≤ 0 then f_X7_sendOne_L8 n μ x1 (x2 + 1) else bif vin (3 + x2) 9 then if 1000000 ≤ (μ.1 47 ((3 + x2)).toNatClampNeg) then f_X7_sendOne_L8 n μ x1 (x2 + 1) else if x1 < 0 then f_X7_sendOne_L8 n μ x2 (x2 + 1) else bif vin (3 + x2) 9 then bif vin (3 + x1) 9 then if (μ.1 47 ((3 + x1)).toNatClampNeg) ≤ (μ.1 47 ((3 + x2)).toNatClampNeg) then f_X7_sendOne_L8 n μ x1 (x2 + 1) else f_X7_sendOne_L8 n μ x2 (x2 + 1) else none else none else none else none
set_option maxHeartbeats 4000000 in
set_option maxRecDepth 100000 in
theorem s_X7_sendOne_L8 {Q : Option Value → hH → Prop} (g : hH) : ∀ (n : Nat) (μ : mS) (x1 : Int32) (x2 : Int32) (r : Int32), f_X7_sendOne_L8 n μ x1 x2 = some r → (J mX7_sendOne rX7_sendOne Q 0 0 (gm g μ) 67 [(0, .ref 5000), (1, .int r)] []) → J mX7_sendOne rX7_sendOne Q 0 0 (gm g μ) 8 [(0, .ref 5000), (1, .int x1), (2, .int x2)] [] := by
  intro n
  induction n with
  | zero =>
    intro μ x1 x2 r hf
    cases hf
  | succ n ih =>
    intro μ x1 x2 r hf k0
    rw [f_X7_sendOne_L8] at hf
    refine j_iload_n (pc' := 9) rfl rfl rfl ?_
    refine j_bipush (v := 6) (pc' := 11) rfl rfl (by decide) ?_
    refine j_icmp_ge (tgt := 67) (pc' := 14) rfl rfl rfl (fun c11 => ?_) (fun c11 => ?_)
    · rw [if_pos c11] at hf
      have hf := Option.some.inj hf; subst hf
      exact j_sub (ls' := [(0, .ref 5000), (1, .int _)]) ⟨rfl, rfl, trivial⟩ (k0)
    · rw [if_neg c11] at hf
      refine j_aload_n (pc' := 15) rfl rfl rfl ?_
      refine j_get (pc' := 18) rfl rfl flX7_122 (gm_o g μ) (mF_46 μ) ?_
      refine j_iload_n (pc' := 19) rfl rfl rfl ?_
      obtain ⟨c19, hf⟩ := o_chk hf
      refine j_iald (pc' := 20) rfl rfl (gm_46 g μ) (vin_ok c19) ?_
      refine j_if_le (tgt := 61) (pc' := 23) rfl rfl rfl (fun c20 => ?_) (fun c20 => ?_)
      · rw [if_pos c20] at hf
        refine j_iinc (pc' := 64) (d := 1) (ls' := [(2, _), (0, _), (1, _)]) rfl rfl rfl (by decide) (Nat.le_of_ble_eq_true rfl) rfl ?_
        refine j_goto (tgt := 8) rfl rfl ?_
        refine j_sub (ls' := [(0, .ref 5000), (1, .int _), (2, .int _)]) ⟨rfl, rfl, rfl, trivial⟩ ?_
        exact ih _ _ _ _ hf k0
      · rw [if_neg c20] at hf
        refine j_aload_n (pc' := 24) rfl rfl rfl ?_
        refine j_get (pc' := 27) rfl rfl flX7_125 (gm_o g μ) (mF_47 μ) ?_
        refine j_iconst (v := 3) (pc' := 28) rfl rfl (by decide) ?_
        refine j_iload_n (pc' := 29) rfl rfl rfl ?_
        refine j_iadd (pc' := 30) rfl rfl ?_
        obtain ⟨c30, hf⟩ := o_chk hf
        refine j_iald (pc' := 31) rfl rfl (gm_47 g μ) (vin_ok c30) ?_
        refine j_ldc (pc' := 33) rfl rfl kcX7_228 ?_
        refine j_icmp_ge (tgt := 61) (pc' := 36) rfl rfl rfl (fun c33 => ?_) (fun c33 => ?_)
        · rw [if_pos c33] at hf
          refine j_iinc (pc' := 64) (d := 1) (ls' := [(2, _), (0, _), (1, _)]) rfl rfl rfl (by decide) (Nat.le_of_ble_eq_true rfl) rfl ?_
          refine j_goto (tgt := 8) rfl rfl ?_
          refine j_sub (ls' := [(0, .ref 5000), (1, .int _), (2, .int _)]) ⟨rfl, rfl, rfl, trivial⟩ ?_
          exact ih _ _ _ _ hf k0
        · rw [if_neg c33] at hf
          refine j_iload_n (pc' := 37) rfl rfl rfl ?_
          refine j_if_lt (tgt := 59) (pc' := 40) rfl rfl rfl (fun c37 => ?_) (fun c37 => ?_)
          · rw [if_pos c37] at hf
            refine j_iload_n (pc' := 60) rfl rfl rfl ?_
            refine j_istore_n (pc' := 61) (ls' := [(1, _), (0, _), (2, _)]) rfl rfl (Nat.le_of_ble_eq_true rfl) rfl ?_
            refine j_iinc (pc' := 64) (d := 1) (ls' := [(2, _), (1, _), (0, _)]) rfl rfl rfl (by decide) (Nat.le_of_ble_eq_true rfl) rfl ?_
            refine j_goto (tgt := 8) rfl rfl ?_
            refine j_sub (ls' := [(0, .ref 5000), (1, .int _), (2, .int _)]) ⟨rfl, rfl, rfl, trivial⟩ ?_
            exact ih _ _ _ _ hf k0
          · rw [if_neg c37] at hf
            refine j_aload_n (pc' := 41) rfl rfl rfl ?_
            refine j_get (pc' := 44) rfl rfl flX7_125 (gm_o g μ) (mF_47 μ) ?_
            refine j_iconst (v := 3) (pc' := 45) rfl rfl (by decide) ?_
            refine j_iload_n (pc' := 46) rfl rfl rfl ?_
            refine j_iadd (pc' := 47) rfl rfl ?_
            obtain ⟨c47, hf⟩ := o_chk hf
            refine j_iald (pc' := 48) rfl rfl (gm_47 g μ) (vin_ok c47) ?_
            refine j_aload_n (pc' := 49) rfl rfl rfl ?_
            refine j_get (pc' := 52) rfl rfl flX7_125 (gm_o g μ) (mF_47 μ) ?_
            refine j_iconst (v := 3) (pc' := 53) rfl rfl (by decide) ?_
            refine j_iload_n (pc' := 54) rfl rfl rfl ?_
            refine j_iadd (pc' := 55) rfl rfl ?_
            obtain ⟨c55, hf⟩ := o_chk hf
            refine j_iald (pc' := 56) rfl rfl (gm_47 g μ) (vin_ok c55) ?_
            refine j_icmp_ge (tgt := 61) (pc' := 59) rfl rfl rfl (fun c56 => ?_) (fun c56 => ?_)
            · rw [if_pos c56] at hf
              refine j_iinc (pc' := 64) (d := 1) (ls' := [(2, _), (0, _), (1, _)]) rfl rfl rfl (by decide) (Nat.le_of_ble_eq_true rfl) rfl ?_
              refine j_goto (tgt := 8) rfl rfl ?_
              refine j_sub (ls' := [(0, .ref 5000), (1, .int _), (2, .int _)]) ⟨rfl, rfl, rfl, trivial⟩ ?_
              exact ih _ _ _ _ hf k0
            · rw [if_neg c56] at hf
              refine j_iload_n (pc' := 60) rfl rfl rfl ?_
              refine j_istore_n (pc' := 61) (ls' := [(1, _), (0, _), (2, _)]) rfl rfl (Nat.le_of_ble_eq_true rfl) rfl ?_
              refine j_iinc (pc' := 64) (d := 1) (ls' := [(2, _), (1, _), (0, _)]) rfl rfl rfl (by decide) (Nat.le_of_ble_eq_true rfl) rfl ?_
              refine j_goto (tgt := 8) rfl rfl ?_
              refine j_sub (ls' := [(0, .ref 5000), (1, .int _), (2, .int _)]) ⟨rfl, rfl, rfl, trivial⟩ ?_
              exact ih _ _ _ _ hf k0
def f_X7_sendOne_L87 : Nat → mS → Int32 → Int32 → Option (Int32 × mS)
  | 0, _, _, _ => none
  | n + 1, μ, x1, x2 => bif vin x2 9 then if (μ.1 48 (x2).toNatClampNeg) < 0 then some (x2, μ) else bif vin x2 9 then if 3 ≤ (μ.1 48 (x2).toNatClampNeg) then bif vin ((3 * ((μ.1 48 (x2).toNatClampNeg) - 3)) + x2) 18 then bif vin ((3 * ((μ.1 48 (x2).toNatClampNeg) - 3)) + x2) 18 then letm (seti μ 44 (va_up (μ.1 44) (((3 * ((μ.1 48 (x2).toNatClampNeg) - 3)) + x2)).toNatClampNeg ((μ.1 44 (((3 * ((μ.1 48 (x2).toNatClampNeg) - 3)) + x2)).toNatClampNeg) - 1))) fun μ142 => f_X7_sendOne_L87 n μ142 x1 (μ.1 48 (x2).toNatClampNeg) else none else none else bif vin ((3 * (x2 - 3)) + (μ.1 48 (x2).toNatClampNeg)) 18 then bif vin ((3 * (x2 - 3)) + (μ.1 48 (x2).toNatClampNeg)) 18 then letm (seti μ 44 (va_up (μ.1 44) (((3 * (x2 - 3)) + (μ.1 48 (x2).toNatClampNeg))).toNatClampNeg ((μ.1 44 (((3 * (x2 - 3)) + (μ.1 48 (x2).toNatClampNeg))).toNatClampNeg) + 1))) fun μ123 => f_X7_sendOne_L87 n μ123 x1 (μ.1 48 (x2).toNatClampNeg) else none else none else none else none
set_option maxHeartbeats 4000000 in
set_option maxRecDepth 100000 in
theorem s_X7_sendOne_L87 {Q : Option Value → hH → Prop} (g : hH) : ∀ (n : Nat) (μ : mS) (x1 : Int32) (x2 : Int32) (r : Int32 × mS), f_X7_sendOne_L87 n μ x1 x2 = some r → (J mX7_sendOne rX7_sendOne Q 0 0 (gm g r.2) 148 [(0, .ref 5000), (1, .int x1), (2, .int r.1)] []) → J mX7_sendOne rX7_sendOne Q 0 0 (gm g μ) 87 [(0, .ref 5000), (1, .int x1), (2, .int x2)] [] := by
  intro n
  induction n with
  | zero =>
    intro μ x1 x2 r hf
    cases hf
  | succ n ih =>
    intro μ x1 x2 r hf k0
    rw [f_X7_sendOne_L87] at hf
    refine j_aload_n (pc' := 88) rfl rfl rfl ?_
    refine j_get (pc' := 91) rfl rfl flX7_128 (gm_o g μ) (mF_48 μ) ?_
    refine j_iload_n (pc' := 92) rfl rfl rfl ?_
    obtain ⟨c92, hf⟩ := o_chk hf
    refine j_iald (pc' := 93) rfl rfl (gm_48 g μ) (vin_ok c92) ?_
    refine j_if_lt (tgt := 148) (pc' := 96) rfl rfl rfl (fun c93 => ?_) (fun c93 => ?_)
    · rw [if_pos c93] at hf
      have hf := Option.some.inj hf; subst hf
      exact j_sub (ls' := [(0, .ref 5000), (1, .int _), (2, .int _)]) ⟨rfl, rfl, rfl, trivial⟩ (k0)
    · rw [if_neg c93] at hf
      refine j_aload_n (pc' := 97) rfl rfl rfl ?_
      refine j_get (pc' := 100) rfl rfl flX7_128 (gm_o g μ) (mF_48 μ) ?_
      refine j_iload_n (pc' := 101) rfl rfl rfl ?_
      obtain ⟨c101, hf⟩ := o_chk hf
      refine j_iald (pc' := 102) rfl rfl (gm_48 g μ) (vin_ok c101) ?_
      refine j_istore_n (pc' := 103) (ls' := [(3, _), (0, _), (1, _), (2, _)]) rfl rfl (Nat.le_of_ble_eq_true rfl) rfl ?_
      refine j_iload_n (pc' := 104) rfl rfl rfl ?_
      refine j_iconst (v := 3) (pc' := 105) rfl rfl (by decide) ?_
      refine j_icmp_ge (tgt := 127) (pc' := 108) rfl rfl rfl (fun c105 => ?_) (fun c105 => ?_)
      · rw [if_pos c105] at hf
        refine j_aload_n (pc' := 128) rfl rfl rfl ?_
        refine j_get (pc' := 131) rfl rfl flX7_116 (gm_o g μ) (mF_44 μ) ?_
        refine j_iconst (v := 3) (pc' := 132) rfl rfl (by decide) ?_
        refine j_iload_n (pc' := 133) rfl rfl rfl ?_
        refine j_iconst (v := 3) (pc' := 134) rfl rfl (by decide) ?_
        refine j_isub (pc' := 135) rfl rfl ?_
        refine j_imul (pc' := 136) rfl rfl ?_
        refine j_iload_n (pc' := 137) rfl rfl rfl ?_
        refine j_iadd (pc' := 138) rfl rfl ?_
        refine j_dup2_11 (pc' := 139) rfl rfl rfl rfl ?_
        obtain ⟨c139, hf⟩ := o_chk hf
        refine j_iald (pc' := 140) rfl rfl (gm_44 g μ) (vin_ok c139) ?_
        refine j_iconst (v := 1) (pc' := 141) rfl rfl (by decide) ?_
        refine j_isub (pc' := 142) rfl rfl ?_
        obtain ⟨c142, hf⟩ := o_chk hf
        obtain ⟨μ142, e142, hf⟩ := o_let hf
        refine j_iast (pc' := 143) rfl rfl (gm_44 g μ) (by decide) (vin_ok c142) ?_
        rw [gs_44]; rw [e142]
        refine j_iload_n (pc' := 144) rfl rfl rfl ?_
        refine j_istore_n (pc' := 145) (ls' := [(2, _), (3, _), (0, _), (1, _)]) rfl rfl (Nat.le_of_ble_eq_true rfl) rfl ?_
        refine j_goto (tgt := 87) rfl rfl ?_
        refine j_sub (ls' := [(0, .ref 5000), (1, .int _), (2, .int _)]) ⟨rfl, rfl, rfl, trivial⟩ ?_
        exact ih _ _ _ _ hf k0
      · rw [if_neg c105] at hf
        refine j_aload_n (pc' := 109) rfl rfl rfl ?_
        refine j_get (pc' := 112) rfl rfl flX7_116 (gm_o g μ) (mF_44 μ) ?_
        refine j_iconst (v := 3) (pc' := 113) rfl rfl (by decide) ?_
        refine j_iload_n (pc' := 114) rfl rfl rfl ?_
        refine j_iconst (v := 3) (pc' := 115) rfl rfl (by decide) ?_
        refine j_isub (pc' := 116) rfl rfl ?_
        refine j_imul (pc' := 117) rfl rfl ?_
        refine j_iload_n (pc' := 118) rfl rfl rfl ?_
        refine j_iadd (pc' := 119) rfl rfl ?_
        refine j_dup2_11 (pc' := 120) rfl rfl rfl rfl ?_
        obtain ⟨c120, hf⟩ := o_chk hf
        refine j_iald (pc' := 121) rfl rfl (gm_44 g μ) (vin_ok c120) ?_
        refine j_iconst (v := 1) (pc' := 122) rfl rfl (by decide) ?_
        refine j_iadd (pc' := 123) rfl rfl ?_
        obtain ⟨c123, hf⟩ := o_chk hf
        obtain ⟨μ123, e123, hf⟩ := o_let hf
        refine j_iast (pc' := 124) rfl rfl (gm_44 g μ) (by decide) (vin_ok c123) ?_
        rw [gs_44]; rw [e123]
        refine j_goto (tgt := 143) rfl rfl ?_
        refine j_iload_n (pc' := 144) rfl rfl rfl ?_
        refine j_istore_n (pc' := 145) (ls' := [(2, _), (3, _), (0, _), (1, _)]) rfl rfl (Nat.le_of_ble_eq_true rfl) rfl ?_
        refine j_goto (tgt := 87) rfl rfl ?_
        refine j_sub (ls' := [(0, .ref 5000), (1, .int _), (2, .int _)]) ⟨rfl, rfl, rfl, trivial⟩ ?_
        exact ih _ _ _ _ hf k0
def f_X7_sendOne (μ : mS) : Option (Int32 × mS) := (f_X7_findFar μ).bind fun r1 => (f_X7_sendOne_L8 4000 r1 (-1) 0).bind fun r8 => if 0 ≤ r8 then bif vin r8 6 then bif vin r8 6 then letm (seti r1 46 (va_up (r1.1 46) (r8).toNatClampNeg ((r1.1 46 (r8).toNatClampNeg) - 1))) fun μ82 => (f_X7_sendOne_L87 4000 μ82 r8 (3 + r8)).bind fun r87 => bif vin r87.1 3 then bif vin r87.1 3 then letm (seti r87.2 45 (va_up (r87.2.1 45) (r87.1).toNatClampNeg ((r87.2.1 45 (r87.1).toNatClampNeg) - 1))) fun μ157 => bif vin (3 + r8) 9 then some ((μ157.1 47 ((3 + r8)).toNatClampNeg), μ157) else none else none else none else none else none else some ((-1), r1)
set_option maxHeartbeats 4000000 in
set_option maxRecDepth 100000 in
theorem s_X7_sendOne (g : hH) (μ : mS) (r : (Int32 × mS)) (hf : f_X7_sendOne μ = some r) : SpD mX7_sendOne rX7_sendOne [.ref 5000] (gm g μ) (some (.int r.1)) (gm g r.2) := by
  refine sp_of miX7_sendOne (Nat.le_of_ble_eq_true rfl) ?_
  show J _ _ _ 0 0 _ 0 [(0, .ref 5000)] []
  unfold f_X7_sendOne at hf
  refine j_aload_n (pc' := 1) rfl rfl rfl ?_
  obtain ⟨r1, e1, hf⟩ := o_bind hf
  refine j_vw0 (pc' := 4) rfl rfl miX7_findFar lnX7_257 (gm_o g μ) rfl (s_X7_findFar g μ _ e1) (h_rm_of rfl) (Nat.le_of_ble_eq_true rfl) (c' := 0) (s' := 0) rfl rfl ?_
  refine j_iconst (v := (-1)) (pc' := 5) rfl rfl (by decide) ?_
  refine j_istore_n (pc' := 6) (ls' := [(1, _), (0, _)]) rfl rfl (Nat.le_of_ble_eq_true rfl) rfl ?_
  refine j_iconst (v := 0) (pc' := 7) rfl rfl (by decide) ?_
  refine j_istore_n (pc' := 8) (ls' := [(2, _), (1, _), (0, _)]) rfl rfl (Nat.le_of_ble_eq_true rfl) rfl ?_
  obtain ⟨r8, e8, hf⟩ := o_bind hf
  refine j_sub (ls' := [(0, .ref 5000), (1, .int (-1)), (2, .int 0)]) ⟨rfl, rfl, rfl, trivial⟩ ?_
  refine s_X7_sendOne_L8 g _ _ _ _ _ e8 ?_
  refine j_iload_n (pc' := 68) rfl rfl rfl ?_
  refine j_if_ge (tgt := 73) (pc' := 71) rfl rfl rfl (fun c68 => ?_) (fun c68 => ?_)
  · rw [if_pos c68] at hf
    refine j_aload_n (pc' := 74) rfl rfl rfl ?_
    refine j_get (pc' := 77) rfl rfl flX7_122 (gm_o g r1) (mF_46 r1) ?_
    refine j_iload_n (pc' := 78) rfl rfl rfl ?_
    refine j_dup2_11 (pc' := 79) rfl rfl rfl rfl ?_
    obtain ⟨c79, hf⟩ := o_chk hf
    refine j_iald (pc' := 80) rfl rfl (gm_46 g r1) (vin_ok c79) ?_
    refine j_iconst (v := 1) (pc' := 81) rfl rfl (by decide) ?_
    refine j_isub (pc' := 82) rfl rfl ?_
    obtain ⟨c82, hf⟩ := o_chk hf
    obtain ⟨μ82, e82, hf⟩ := o_let hf
    refine j_iast (pc' := 83) rfl rfl (gm_46 g r1) (by decide) (vin_ok c82) ?_
    rw [gs_46]; rw [e82]
    refine j_iconst (v := 3) (pc' := 84) rfl rfl (by decide) ?_
    refine j_iload_n (pc' := 85) rfl rfl rfl ?_
    refine j_iadd (pc' := 86) rfl rfl ?_
    refine j_istore_n (pc' := 87) (ls' := [(2, _), (0, _), (1, _)]) rfl rfl (Nat.le_of_ble_eq_true rfl) rfl ?_
    obtain ⟨r87, e87, hf⟩ := o_bind hf
    refine j_sub (ls' := [(0, .ref 5000), (1, .int r8), (2, .int (3 + r8))]) ⟨rfl, rfl, rfl, trivial⟩ ?_
    refine s_X7_sendOne_L87 g _ _ _ _ _ e87 ?_
    refine j_aload_n (pc' := 149) rfl rfl rfl ?_
    refine j_get (pc' := 152) rfl rfl flX7_119 (gm_o g r87.2) (mF_45 r87.2) ?_
    refine j_iload_n (pc' := 153) rfl rfl rfl ?_
    refine j_dup2_11 (pc' := 154) rfl rfl rfl rfl ?_
    obtain ⟨c154, hf⟩ := o_chk hf
    refine j_iald (pc' := 155) rfl rfl (gm_45 g r87.2) (vin_ok c154) ?_
    refine j_iconst (v := 1) (pc' := 156) rfl rfl (by decide) ?_
    refine j_isub (pc' := 157) rfl rfl ?_
    obtain ⟨c157, hf⟩ := o_chk hf
    obtain ⟨μ157, e157, hf⟩ := o_let hf
    refine j_iast (pc' := 158) rfl rfl (gm_45 g r87.2) (by decide) (vin_ok c157) ?_
    rw [gs_45]; rw [e157]
    refine j_aload_n (pc' := 159) rfl rfl rfl ?_
    refine j_get (pc' := 162) rfl rfl flX7_125 (gm_o g μ157) (mF_47 μ157) ?_
    refine j_iconst (v := 3) (pc' := 163) rfl rfl (by decide) ?_
    refine j_iload_n (pc' := 164) rfl rfl rfl ?_
    refine j_iadd (pc' := 165) rfl rfl ?_
    obtain ⟨c165, hf⟩ := o_chk hf
    refine j_iald (pc' := 166) rfl rfl (gm_47 g μ157) (vin_ok c165) ?_
    have hf := Option.some.inj hf; subst hf
    exact j_iret rfl rfl (Nat.zero_le _) (Nat.zero_le _) ⟨rfl, rfl⟩
  · rw [if_neg c68] at hf
    refine j_iconst (v := (-1)) (pc' := 72) rfl rfl (by decide) ?_
    have hf := Option.some.inj hf; subst hf
    exact j_iret rfl rfl (Nat.zero_le _) (Nat.zero_le _) ⟨rfl, rfl⟩
def rX7_sort : Room := { frames := 1, cells := 0, slots := 0, locals := 22 }
def f_X7_sort (μ : mS) (x1 : Int32) (x2 : Int32) (x3 : Int32) (x4 : Int32) : Option (Int32 × mS) := (f_X7_in x1 1 500).bind fun r5 => if r5 = 0 then some ((-2), μ) else (f_X7_in x2 x1 500).bind fun r16 => if r16 = 0 then some ((-2), μ) else (f_X7_in x3 0 1000).bind fun r27 => if r27 = 0 then some ((-2), μ) else (f_X7_in x4 1 240).bind fun r39 => if r39 = 0 then some ((-2), μ) else if (μ.1 1 0) = 8 then some ((-4), μ) else bif vin (μ.1 1 0) 8 then letm (seti μ 2 (va_up (μ.1 2) ((μ.1 1 0)).toNatClampNeg x1)) fun μ69 => bif vin (μ69.1 1 0) 8 then letm (seti μ69 3 (va_up (μ69.1 3) ((μ69.1 1 0)).toNatClampNeg x2)) fun μ79 => bif vin (μ79.1 1 0) 8 then letm (seti μ79 4 (va_up (μ79.1 4) ((μ79.1 1 0)).toNatClampNeg x3)) fun μ89 => bif vin (μ89.1 1 0) 8 then letm (seti μ89 5 (va_up (μ89.1 5) ((μ89.1 1 0)).toNatClampNeg x4)) fun μ100 => letm (seti μ100 1 (fun _ => ((μ100.1 1 0) + 1))) fun μ108 => some (((μ108.1 1 0) - 1), μ108) else none else none else none else none
set_option maxHeartbeats 4000000 in
set_option maxRecDepth 100000 in
theorem s_X7_sort (g : hH) (μ : mS) (x1 : Int32) (x2 : Int32) (x3 : Int32) (x4 : Int32) (r : (Int32 × mS)) (hf : f_X7_sort μ x1 x2 x3 x4 = some r) : SpD mX7_sort rX7_sort [.ref 5000, .int x1, .int x2, .int x3, .int x4] (gm g μ) (some (.int r.1)) (gm g r.2) := by
  refine sp_of miX7_sort (Nat.le_of_ble_eq_true rfl) ?_
  show J _ _ _ 0 0 _ 0 [(0, .ref 5000), (1, .int x1), (2, .int x2), (3, .int x3), (4, .int x4)] []
  unfold f_X7_sort at hf
  refine j_iload_n (pc' := 1) rfl rfl rfl ?_
  refine j_iconst (v := 1) (pc' := 2) rfl rfl (by decide) ?_
  refine j_sipush (v := 500) (pc' := 5) rfl rfl (by decide) ?_
  obtain ⟨r5, e5, hf⟩ := o_bind hf
  refine j_s3 (pc' := 8) rfl rfl miX7_in lnX7_138 (s_X7_in (gm g μ) x1 1 500 _ e5) (h_rm_of rfl) (Nat.le_of_ble_eq_true rfl) (c' := 0) (s' := 0) rfl rfl ?_
  refine j_if_eq (tgt := 45) (pc' := 11) rfl rfl rfl (fun c8 => ?_) (fun c8 => ?_)
  · rw [if_pos c8] at hf
    refine j_bipush (v := (-2)) (pc' := 47) rfl rfl (by decide) ?_
    have hf := Option.some.inj hf; subst hf
    exact j_iret rfl rfl (Nat.zero_le _) (Nat.zero_le _) ⟨rfl, rfl⟩
  · rw [if_neg c8] at hf
    refine j_iload_n (pc' := 12) rfl rfl rfl ?_
    refine j_iload_n (pc' := 13) rfl rfl rfl ?_
    refine j_sipush (v := 500) (pc' := 16) rfl rfl (by decide) ?_
    obtain ⟨r16, e16, hf⟩ := o_bind hf
    refine j_s3 (pc' := 19) rfl rfl miX7_in lnX7_138 (s_X7_in (gm g μ) x2 x1 500 _ e16) (h_rm_of rfl) (Nat.le_of_ble_eq_true rfl) (c' := 0) (s' := 0) rfl rfl ?_
    refine j_if_eq (tgt := 45) (pc' := 22) rfl rfl rfl (fun c19 => ?_) (fun c19 => ?_)
    · rw [if_pos c19] at hf
      refine j_bipush (v := (-2)) (pc' := 47) rfl rfl (by decide) ?_
      have hf := Option.some.inj hf; subst hf
      exact j_iret rfl rfl (Nat.zero_le _) (Nat.zero_le _) ⟨rfl, rfl⟩
    · rw [if_neg c19] at hf
      refine j_iload_n (pc' := 23) rfl rfl rfl ?_
      refine j_iconst (v := 0) (pc' := 24) rfl rfl (by decide) ?_
      refine j_sipush (v := 1000) (pc' := 27) rfl rfl (by decide) ?_
      obtain ⟨r27, e27, hf⟩ := o_bind hf
      refine j_s3 (pc' := 30) rfl rfl miX7_in lnX7_138 (s_X7_in (gm g μ) x3 0 1000 _ e27) (h_rm_of rfl) (Nat.le_of_ble_eq_true rfl) (c' := 0) (s' := 0) rfl rfl ?_
      refine j_if_eq (tgt := 45) (pc' := 33) rfl rfl rfl (fun c30 => ?_) (fun c30 => ?_)
      · rw [if_pos c30] at hf
        refine j_bipush (v := (-2)) (pc' := 47) rfl rfl (by decide) ?_
        have hf := Option.some.inj hf; subst hf
        exact j_iret rfl rfl (Nat.zero_le _) (Nat.zero_le _) ⟨rfl, rfl⟩
      · rw [if_neg c30] at hf
        refine j_iload (pc' := 35) rfl rfl rfl ?_
        refine j_iconst (v := 1) (pc' := 36) rfl rfl (by decide) ?_
        refine j_sipush (v := 240) (pc' := 39) rfl rfl (by decide) ?_
        obtain ⟨r39, e39, hf⟩ := o_bind hf
        refine j_s3 (pc' := 42) rfl rfl miX7_in lnX7_138 (s_X7_in (gm g μ) x4 1 240 _ e39) (h_rm_of rfl) (Nat.le_of_ble_eq_true rfl) (c' := 0) (s' := 0) rfl rfl ?_
        refine j_if_ne (tgt := 48) (pc' := 45) rfl rfl rfl (fun c42 => ?_) (fun c42 => ?_)
        · rw [if_neg c42] at hf
          refine j_aload_n (pc' := 49) rfl rfl rfl ?_
          refine j_get (pc' := 52) rfl rfl flX7_135 (gm_o g μ) (mF_1 μ) ?_
          refine j_bipush (v := 8) (pc' := 54) rfl rfl (by decide) ?_
          refine j_icmp_ne (tgt := 60) (pc' := 57) rfl rfl rfl (fun c54 => ?_) (fun c54 => ?_)
          · rw [if_neg c54] at hf
            refine j_aload_n (pc' := 61) rfl rfl rfl ?_
            refine j_get (pc' := 64) rfl rfl flX7_7 (gm_o g μ) (mF_2 μ) ?_
            refine j_aload_n (pc' := 65) rfl rfl rfl ?_
            refine j_get (pc' := 68) rfl rfl flX7_135 (gm_o g μ) (mF_1 μ) ?_
            refine j_iload_n (pc' := 69) rfl rfl rfl ?_
            obtain ⟨c69, hf⟩ := o_chk hf
            obtain ⟨μ69, e69, hf⟩ := o_let hf
            refine j_iast (pc' := 70) rfl rfl (gm_2 g μ) (by decide) (vin_ok c69) ?_
            rw [gs_2]; rw [e69]
            refine j_aload_n (pc' := 71) rfl rfl rfl ?_
            refine j_get (pc' := 74) rfl rfl flX7_13 (gm_o g μ69) (mF_3 μ69) ?_
            refine j_aload_n (pc' := 75) rfl rfl rfl ?_
            refine j_get (pc' := 78) rfl rfl flX7_135 (gm_o g μ69) (mF_1 μ69) ?_
            refine j_iload_n (pc' := 79) rfl rfl rfl ?_
            obtain ⟨c79, hf⟩ := o_chk hf
            obtain ⟨μ79, e79, hf⟩ := o_let hf
            refine j_iast (pc' := 80) rfl rfl (gm_3 g μ69) (by decide) (vin_ok c79) ?_
            rw [gs_3]; rw [e79]
            refine j_aload_n (pc' := 81) rfl rfl rfl ?_
            refine j_get (pc' := 84) rfl rfl flX7_16 (gm_o g μ79) (mF_4 μ79) ?_
            refine j_aload_n (pc' := 85) rfl rfl rfl ?_
            refine j_get (pc' := 88) rfl rfl flX7_135 (gm_o g μ79) (mF_1 μ79) ?_
            refine j_iload_n (pc' := 89) rfl rfl rfl ?_
            obtain ⟨c89, hf⟩ := o_chk hf
            obtain ⟨μ89, e89, hf⟩ := o_let hf
            refine j_iast (pc' := 90) rfl rfl (gm_4 g μ79) (by decide) (vin_ok c89) ?_
            rw [gs_4]; rw [e89]
            refine j_aload_n (pc' := 91) rfl rfl rfl ?_
            refine j_get (pc' := 94) rfl rfl flX7_19 (gm_o g μ89) (mF_5 μ89) ?_
            refine j_aload_n (pc' := 95) rfl rfl rfl ?_
            refine j_get (pc' := 98) rfl rfl flX7_135 (gm_o g μ89) (mF_1 μ89) ?_
            refine j_iload (pc' := 100) rfl rfl rfl ?_
            obtain ⟨c100, hf⟩ := o_chk hf
            obtain ⟨μ100, e100, hf⟩ := o_let hf
            refine j_iast (pc' := 101) rfl rfl (gm_5 g μ89) (by decide) (vin_ok c100) ?_
            rw [gs_5]; rw [e100]
            refine j_aload_n (pc' := 102) rfl rfl rfl ?_
            refine j_dup (pc' := 103) rfl rfl rfl ?_
            refine j_get (pc' := 106) rfl rfl flX7_135 (gm_o g μ100) (mF_1 μ100) ?_
            refine j_iconst (v := 1) (pc' := 107) rfl rfl (by decide) ?_
            refine j_iadd (pc' := 108) rfl rfl ?_
            obtain ⟨μ108, e108, hf⟩ := o_let hf
            refine j_put (pc' := 111) rfl rfl flX7_135 (gm_o g μ100) (by decide) (Nat.le_of_ble_eq_true rfl) rfl rfl ?_
            rw [gs_1]; rw [e108]
            refine j_aload_n (pc' := 112) rfl rfl rfl ?_
            refine j_get (pc' := 115) rfl rfl flX7_135 (gm_o g μ108) (mF_1 μ108) ?_
            refine j_iconst (v := 1) (pc' := 116) rfl rfl (by decide) ?_
            refine j_isub (pc' := 117) rfl rfl ?_
            have hf := Option.some.inj hf; subst hf
            exact j_iret rfl rfl (Nat.zero_le _) (Nat.zero_le _) ⟨rfl, rfl⟩
          · rw [if_pos c54] at hf
            refine j_bipush (v := (-4)) (pc' := 59) rfl rfl (by decide) ?_
            have hf := Option.some.inj hf; subst hf
            exact j_iret rfl rfl (Nat.zero_le _) (Nat.zero_le _) ⟨rfl, rfl⟩
        · rw [if_pos c42] at hf
          refine j_bipush (v := (-2)) (pc' := 47) rfl rfl (by decide) ?_
          have hf := Option.some.inj hf; subst hf
          exact j_iret rfl rfl (Nat.zero_le _) (Nat.zero_le _) ⟨rfl, rfl⟩
def rX7_lot : Room := { frames := 2, cells := 0, slots := 0, locals := 46 }
def f_X7_lot (μ : mS) (x1 : Int32) (x2 : Int32) (x3 : Int32) (x4 : Int32) (x5 : Int32) (x6 : Int32) : Option (Int32 × mS) := (f_X7_isSort μ x2).bind fun r2 => if r2 = 0 then some ((-1), μ) else (f_X7_isTown x6).bind fun r10 => if r10 = 0 then some ((-1), μ) else if x1 = 3 then (f_X7_in x1 0 5).bind fun r38 => if r38 = 0 then some ((-2), μ) else (f_X7_isWeight μ x1 x2 x3 x4).bind fun r50 => if r50 = 0 then some ((-2), μ) else (f_X7_in x5 0 1000).bind fun r67 => if r67 = 0 then some ((-2), μ) else if (μ.1 7 0) = 30 then some ((-4), μ) else (f_X7_newLot μ x1 x2 x3 x4 x5 x6 (-1)).bind fun r109 => some (r109.1, r109.2) else if x1 = 5 then (f_X7_in x1 0 5).bind fun r38 => if r38 = 0 then some ((-2), μ) else (f_X7_isWeight μ x1 x2 x3 x4).bind fun r50 => if r50 = 0 then some ((-2), μ) else (f_X7_in x5 0 1000).bind fun r67 => if r67 = 0 then some ((-2), μ) else if (μ.1 7 0) = 30 then some ((-4), μ) else (f_X7_newLot μ x1 x2 x3 x4 x5 x6 (-1)).bind fun r109 => some (r109.1, r109.2) else (f_X7_in x1 0 5).bind fun r38 => if r38 = 0 then some ((-2), μ) else (f_X7_isWeight μ x1 x2 x3 x4).bind fun r50 => if r50 = 0 then some ((-2), μ) else if x5 = 0 then if (μ.1 7 0) = 30 then some ((-4), μ) else (f_X7_newLot μ x1 x2 x3 x4 x5 x6 (-1)).bind fun r109 => some (r109.1, r109.2) else some ((-2), μ)
set_option maxHeartbeats 4000000 in
set_option maxRecDepth 100000 in
theorem s_X7_lot (g : hH) (μ : mS) (x1 : Int32) (x2 : Int32) (x3 : Int32) (x4 : Int32) (x5 : Int32) (x6 : Int32) (r : (Int32 × mS)) (hf : f_X7_lot μ x1 x2 x3 x4 x5 x6 = some r) : SpD mX7_lot rX7_lot [.ref 5000, .int x1, .int x2, .int x3, .int x4, .int x5, .int x6] (gm g μ) (some (.int r.1)) (gm g r.2) := by
  refine sp_of miX7_lot (Nat.le_of_ble_eq_true rfl) ?_
  show J _ _ _ 0 0 _ 0 [(0, .ref 5000), (1, .int x1), (2, .int x2), (3, .int x3), (4, .int x4), (5, .int x5), (6, .int x6)] []
  unfold f_X7_lot at hf
  refine j_aload_n (pc' := 1) rfl rfl rfl ?_
  refine j_iload_n (pc' := 2) rfl rfl rfl ?_
  obtain ⟨r2, e2, hf⟩ := o_bind hf
  refine j_v1 (pc' := 5) rfl rfl miX7_isSort lnX7_145 (gm_o g μ) rfl (s_X7_isSort g μ x2 _ e2) (h_rm_of rfl) (Nat.le_of_ble_eq_true rfl) (c' := 0) (s' := 0) rfl rfl ?_
  refine j_if_eq (tgt := 16) (pc' := 8) rfl rfl rfl (fun c5 => ?_) (fun c5 => ?_)
  · rw [if_pos c5] at hf
    refine j_iconst (v := (-1)) (pc' := 17) rfl rfl (by decide) ?_
    have hf := Option.some.inj hf; subst hf
    exact j_iret rfl rfl (Nat.zero_le _) (Nat.zero_le _) ⟨rfl, rfl⟩
  · rw [if_neg c5] at hf
    refine j_iload (pc' := 10) rfl rfl rfl ?_
    obtain ⟨r10, e10, hf⟩ := o_bind hf
    refine j_s1 (pc' := 13) rfl rfl miX7_isTown lnX7_149 (s_X7_isTown (gm g μ) x6 _ e10) (h_rm_of rfl) (Nat.le_of_ble_eq_true rfl) (c' := 0) (s' := 0) rfl rfl ?_
    refine j_if_ne (tgt := 18) (pc' := 16) rfl rfl rfl (fun c13 => ?_) (fun c13 => ?_)
    · rw [if_neg c13] at hf
      refine j_iload_n (pc' := 19) rfl rfl rfl ?_
      refine j_iconst (v := 3) (pc' := 20) rfl rfl (by decide) ?_
      refine j_icmp_eq (tgt := 28) (pc' := 23) rfl rfl rfl (fun c20 => ?_) (fun c20 => ?_)
      · rw [if_pos c20] at hf
        refine j_iconst (v := 1) (pc' := 29) rfl rfl (by decide) ?_
        refine j_goto (tgt := 33) rfl rfl ?_
        refine j_istore (pc' := 35) (ls' := [(7, _), (0, _), (1, _), (2, _), (3, _), (4, _), (5, _), (6, _)]) rfl rfl (Nat.le_of_ble_eq_true rfl) rfl ?_
        refine j_iload_n (pc' := 36) rfl rfl rfl ?_
        refine j_iconst (v := 0) (pc' := 37) rfl rfl (by decide) ?_
        refine j_iconst (v := 5) (pc' := 38) rfl rfl (by decide) ?_
        obtain ⟨r38, e38, hf⟩ := o_bind hf
        refine j_s3 (pc' := 41) rfl rfl miX7_in lnX7_138 (s_X7_in (gm g μ) x1 0 5 _ e38) (h_rm_of rfl) (Nat.le_of_ble_eq_true rfl) (c' := 0) (s' := 0) rfl rfl ?_
        refine j_if_eq (tgt := 81) (pc' := 44) rfl rfl rfl (fun c41 => ?_) (fun c41 => ?_)
        · rw [if_pos c41] at hf
          refine j_bipush (v := (-2)) (pc' := 83) rfl rfl (by decide) ?_
          have hf := Option.some.inj hf; subst hf
          exact j_iret rfl rfl (Nat.zero_le _) (Nat.zero_le _) ⟨rfl, rfl⟩
        · rw [if_neg c41] at hf
          refine j_aload_n (pc' := 45) rfl rfl rfl ?_
          refine j_iload_n (pc' := 46) rfl rfl rfl ?_
          refine j_iload_n (pc' := 47) rfl rfl rfl ?_
          refine j_iload_n (pc' := 48) rfl rfl rfl ?_
          refine j_iload (pc' := 50) rfl rfl rfl ?_
          obtain ⟨r50, e50, hf⟩ := o_bind hf
          refine j_v4 (pc' := 53) rfl rfl miX7_isWeight lnX7_152 (gm_o g μ) rfl (s_X7_isWeight g μ x1 x2 x3 x4 _ e50) (h_rm_of rfl) (Nat.le_of_ble_eq_true rfl) (c' := 0) (s' := 0) rfl rfl ?_
          refine j_if_eq (tgt := 81) (pc' := 56) rfl rfl rfl (fun c53 => ?_) (fun c53 => ?_)
          · rw [if_pos c53] at hf
            refine j_bipush (v := (-2)) (pc' := 83) rfl rfl (by decide) ?_
            have hf := Option.some.inj hf; subst hf
            exact j_iret rfl rfl (Nat.zero_le _) (Nat.zero_le _) ⟨rfl, rfl⟩
          · rw [if_neg c53] at hf
            refine j_iload (pc' := 58) rfl rfl rfl ?_
            refine j_if_eq (tgt := 76) (pc' := 61) rfl rfl rfl (fun c58 => absurd c58 (by decide)) (fun _ => ?_)
            refine j_iload (pc' := 63) rfl rfl rfl ?_
            refine j_iconst (v := 0) (pc' := 64) rfl rfl (by decide) ?_
            refine j_sipush (v := 1000) (pc' := 67) rfl rfl (by decide) ?_
            obtain ⟨r67, e67, hf⟩ := o_bind hf
            refine j_s3 (pc' := 70) rfl rfl miX7_in lnX7_138 (s_X7_in (gm g μ) x5 0 1000 _ e67) (h_rm_of rfl) (Nat.le_of_ble_eq_true rfl) (c' := 0) (s' := 0) rfl rfl ?_
            refine j_if_ne (tgt := 84) (pc' := 73) rfl rfl rfl (fun c70 => ?_) (fun c70 => ?_)
            · rw [if_neg c70] at hf
              refine j_aload_n (pc' := 85) rfl rfl rfl ?_
              refine j_get (pc' := 88) rfl rfl flX7_142 (gm_o g μ) (mF_7 μ) ?_
              refine j_bipush (v := 30) (pc' := 90) rfl rfl (by decide) ?_
              refine j_icmp_ne (tgt := 98) (pc' := 93) rfl rfl rfl (fun c90 => ?_) (fun c90 => ?_)
              · rw [if_neg c90] at hf
                refine j_aload_n (pc' := 99) rfl rfl rfl ?_
                refine j_iload_n (pc' := 100) rfl rfl rfl ?_
                refine j_iload_n (pc' := 101) rfl rfl rfl ?_
                refine j_iload_n (pc' := 102) rfl rfl rfl ?_
                refine j_iload (pc' := 104) rfl rfl rfl ?_
                refine j_iload (pc' := 106) rfl rfl rfl ?_
                refine j_iload (pc' := 108) rfl rfl rfl ?_
                refine j_iconst (v := (-1)) (pc' := 109) rfl rfl (by decide) ?_
                obtain ⟨r109, e109, hf⟩ := o_bind hf
                refine j_v7 (pc' := 112) rfl rfl miX7_newLot lnX7_156 (gm_o g μ) rfl (s_X7_newLot g μ x1 x2 x3 x4 x5 x6 (-1) _ e109) (h_rm_of rfl) (Nat.le_of_ble_eq_true rfl) (c' := 0) (s' := 0) rfl rfl ?_
                have hf := Option.some.inj hf; subst hf
                exact j_iret rfl rfl (Nat.zero_le _) (Nat.zero_le _) ⟨rfl, rfl⟩
              · rw [if_pos c90] at hf
                refine j_bipush (v := (-4)) (pc' := 95) rfl rfl (by decide) ?_
                refine j_goto (tgt := 112) rfl rfl ?_
                have hf := Option.some.inj hf; subst hf
                exact j_iret rfl rfl (Nat.zero_le _) (Nat.zero_le _) ⟨rfl, rfl⟩
            · rw [if_pos c70] at hf
              refine j_goto (tgt := 81) rfl rfl ?_
              refine j_bipush (v := (-2)) (pc' := 83) rfl rfl (by decide) ?_
              have hf := Option.some.inj hf; subst hf
              exact j_iret rfl rfl (Nat.zero_le _) (Nat.zero_le _) ⟨rfl, rfl⟩
      · rw [if_neg c20] at hf
        refine j_iload_n (pc' := 24) rfl rfl rfl ?_
        refine j_iconst (v := 5) (pc' := 25) rfl rfl (by decide) ?_
        refine j_icmp_ne (tgt := 32) (pc' := 28) rfl rfl rfl (fun c25 => ?_) (fun c25 => ?_)
        · rw [if_neg c25] at hf
          refine j_iconst (v := 0) (pc' := 33) rfl rfl (by decide) ?_
          refine j_istore (pc' := 35) (ls' := [(7, _), (0, _), (1, _), (2, _), (3, _), (4, _), (5, _), (6, _)]) rfl rfl (Nat.le_of_ble_eq_true rfl) rfl ?_
          refine j_iload_n (pc' := 36) rfl rfl rfl ?_
          refine j_iconst (v := 0) (pc' := 37) rfl rfl (by decide) ?_
          refine j_iconst (v := 5) (pc' := 38) rfl rfl (by decide) ?_
          obtain ⟨r38, e38, hf⟩ := o_bind hf
          refine j_s3 (pc' := 41) rfl rfl miX7_in lnX7_138 (s_X7_in (gm g μ) x1 0 5 _ e38) (h_rm_of rfl) (Nat.le_of_ble_eq_true rfl) (c' := 0) (s' := 0) rfl rfl ?_
          refine j_if_eq (tgt := 81) (pc' := 44) rfl rfl rfl (fun c41 => ?_) (fun c41 => ?_)
          · rw [if_pos c41] at hf
            refine j_bipush (v := (-2)) (pc' := 83) rfl rfl (by decide) ?_
            have hf := Option.some.inj hf; subst hf
            exact j_iret rfl rfl (Nat.zero_le _) (Nat.zero_le _) ⟨rfl, rfl⟩
          · rw [if_neg c41] at hf
            refine j_aload_n (pc' := 45) rfl rfl rfl ?_
            refine j_iload_n (pc' := 46) rfl rfl rfl ?_
            refine j_iload_n (pc' := 47) rfl rfl rfl ?_
            refine j_iload_n (pc' := 48) rfl rfl rfl ?_
            refine j_iload (pc' := 50) rfl rfl rfl ?_
            obtain ⟨r50, e50, hf⟩ := o_bind hf
            refine j_v4 (pc' := 53) rfl rfl miX7_isWeight lnX7_152 (gm_o g μ) rfl (s_X7_isWeight g μ x1 x2 x3 x4 _ e50) (h_rm_of rfl) (Nat.le_of_ble_eq_true rfl) (c' := 0) (s' := 0) rfl rfl ?_
            refine j_if_eq (tgt := 81) (pc' := 56) rfl rfl rfl (fun c53 => ?_) (fun c53 => ?_)
            · rw [if_pos c53] at hf
              refine j_bipush (v := (-2)) (pc' := 83) rfl rfl (by decide) ?_
              have hf := Option.some.inj hf; subst hf
              exact j_iret rfl rfl (Nat.zero_le _) (Nat.zero_le _) ⟨rfl, rfl⟩
            · rw [if_neg c53] at hf
              refine j_iload (pc' := 58) rfl rfl rfl ?_
              refine j_if_eq (tgt := 76) (pc' := 61) rfl rfl rfl (fun _ => ?_) (fun c58 => absurd c58 (by decide))
              refine j_iload (pc' := 78) rfl rfl rfl ?_
              refine j_if_eq (tgt := 84) (pc' := 81) rfl rfl rfl (fun c78 => ?_) (fun c78 => ?_)
              · rw [if_pos c78] at hf
                refine j_aload_n (pc' := 85) rfl rfl rfl ?_
                refine j_get (pc' := 88) rfl rfl flX7_142 (gm_o g μ) (mF_7 μ) ?_
                refine j_bipush (v := 30) (pc' := 90) rfl rfl (by decide) ?_
                refine j_icmp_ne (tgt := 98) (pc' := 93) rfl rfl rfl (fun c90 => ?_) (fun c90 => ?_)
                · rw [if_neg c90] at hf
                  refine j_aload_n (pc' := 99) rfl rfl rfl ?_
                  refine j_iload_n (pc' := 100) rfl rfl rfl ?_
                  refine j_iload_n (pc' := 101) rfl rfl rfl ?_
                  refine j_iload_n (pc' := 102) rfl rfl rfl ?_
                  refine j_iload (pc' := 104) rfl rfl rfl ?_
                  refine j_iload (pc' := 106) rfl rfl rfl ?_
                  refine j_iload (pc' := 108) rfl rfl rfl ?_
                  refine j_iconst (v := (-1)) (pc' := 109) rfl rfl (by decide) ?_
                  obtain ⟨r109, e109, hf⟩ := o_bind hf
                  refine j_v7 (pc' := 112) rfl rfl miX7_newLot lnX7_156 (gm_o g μ) rfl (s_X7_newLot g μ x1 x2 x3 x4 x5 x6 (-1) _ e109) (h_rm_of rfl) (Nat.le_of_ble_eq_true rfl) (c' := 0) (s' := 0) rfl rfl ?_
                  have hf := Option.some.inj hf; subst hf
                  exact j_iret rfl rfl (Nat.zero_le _) (Nat.zero_le _) ⟨rfl, rfl⟩
                · rw [if_pos c90] at hf
                  refine j_bipush (v := (-4)) (pc' := 95) rfl rfl (by decide) ?_
                  refine j_goto (tgt := 112) rfl rfl ?_
                  have hf := Option.some.inj hf; subst hf
                  exact j_iret rfl rfl (Nat.zero_le _) (Nat.zero_le _) ⟨rfl, rfl⟩
              · rw [if_neg c78] at hf
                refine j_bipush (v := (-2)) (pc' := 83) rfl rfl (by decide) ?_
                have hf := Option.some.inj hf; subst hf
                exact j_iret rfl rfl (Nat.zero_le _) (Nat.zero_le _) ⟨rfl, rfl⟩
        · rw [if_pos c25] at hf
          refine j_iconst (v := 1) (pc' := 29) rfl rfl (by decide) ?_
          refine j_goto (tgt := 33) rfl rfl ?_
          refine j_istore (pc' := 35) (ls' := [(7, _), (0, _), (1, _), (2, _), (3, _), (4, _), (5, _), (6, _)]) rfl rfl (Nat.le_of_ble_eq_true rfl) rfl ?_
          refine j_iload_n (pc' := 36) rfl rfl rfl ?_
          refine j_iconst (v := 0) (pc' := 37) rfl rfl (by decide) ?_
          refine j_iconst (v := 5) (pc' := 38) rfl rfl (by decide) ?_
          obtain ⟨r38, e38, hf⟩ := o_bind hf
          refine j_s3 (pc' := 41) rfl rfl miX7_in lnX7_138 (s_X7_in (gm g μ) x1 0 5 _ e38) (h_rm_of rfl) (Nat.le_of_ble_eq_true rfl) (c' := 0) (s' := 0) rfl rfl ?_
          refine j_if_eq (tgt := 81) (pc' := 44) rfl rfl rfl (fun c41 => ?_) (fun c41 => ?_)
          · rw [if_pos c41] at hf
            refine j_bipush (v := (-2)) (pc' := 83) rfl rfl (by decide) ?_
            have hf := Option.some.inj hf; subst hf
            exact j_iret rfl rfl (Nat.zero_le _) (Nat.zero_le _) ⟨rfl, rfl⟩
          · rw [if_neg c41] at hf
            refine j_aload_n (pc' := 45) rfl rfl rfl ?_
            refine j_iload_n (pc' := 46) rfl rfl rfl ?_
            refine j_iload_n (pc' := 47) rfl rfl rfl ?_
            refine j_iload_n (pc' := 48) rfl rfl rfl ?_
            refine j_iload (pc' := 50) rfl rfl rfl ?_
            obtain ⟨r50, e50, hf⟩ := o_bind hf
            refine j_v4 (pc' := 53) rfl rfl miX7_isWeight lnX7_152 (gm_o g μ) rfl (s_X7_isWeight g μ x1 x2 x3 x4 _ e50) (h_rm_of rfl) (Nat.le_of_ble_eq_true rfl) (c' := 0) (s' := 0) rfl rfl ?_
            refine j_if_eq (tgt := 81) (pc' := 56) rfl rfl rfl (fun c53 => ?_) (fun c53 => ?_)
            · rw [if_pos c53] at hf
              refine j_bipush (v := (-2)) (pc' := 83) rfl rfl (by decide) ?_
              have hf := Option.some.inj hf; subst hf
              exact j_iret rfl rfl (Nat.zero_le _) (Nat.zero_le _) ⟨rfl, rfl⟩
            · rw [if_neg c53] at hf
              refine j_iload (pc' := 58) rfl rfl rfl ?_
              refine j_if_eq (tgt := 76) (pc' := 61) rfl rfl rfl (fun c58 => absurd c58 (by decide)) (fun _ => ?_)
              refine j_iload (pc' := 63) rfl rfl rfl ?_
              refine j_iconst (v := 0) (pc' := 64) rfl rfl (by decide) ?_
              refine j_sipush (v := 1000) (pc' := 67) rfl rfl (by decide) ?_
              obtain ⟨r67, e67, hf⟩ := o_bind hf
              refine j_s3 (pc' := 70) rfl rfl miX7_in lnX7_138 (s_X7_in (gm g μ) x5 0 1000 _ e67) (h_rm_of rfl) (Nat.le_of_ble_eq_true rfl) (c' := 0) (s' := 0) rfl rfl ?_
              refine j_if_ne (tgt := 84) (pc' := 73) rfl rfl rfl (fun c70 => ?_) (fun c70 => ?_)
              · rw [if_neg c70] at hf
                refine j_aload_n (pc' := 85) rfl rfl rfl ?_
                refine j_get (pc' := 88) rfl rfl flX7_142 (gm_o g μ) (mF_7 μ) ?_
                refine j_bipush (v := 30) (pc' := 90) rfl rfl (by decide) ?_
                refine j_icmp_ne (tgt := 98) (pc' := 93) rfl rfl rfl (fun c90 => ?_) (fun c90 => ?_)
                · rw [if_neg c90] at hf
                  refine j_aload_n (pc' := 99) rfl rfl rfl ?_
                  refine j_iload_n (pc' := 100) rfl rfl rfl ?_
                  refine j_iload_n (pc' := 101) rfl rfl rfl ?_
                  refine j_iload_n (pc' := 102) rfl rfl rfl ?_
                  refine j_iload (pc' := 104) rfl rfl rfl ?_
                  refine j_iload (pc' := 106) rfl rfl rfl ?_
                  refine j_iload (pc' := 108) rfl rfl rfl ?_
                  refine j_iconst (v := (-1)) (pc' := 109) rfl rfl (by decide) ?_
                  obtain ⟨r109, e109, hf⟩ := o_bind hf
                  refine j_v7 (pc' := 112) rfl rfl miX7_newLot lnX7_156 (gm_o g μ) rfl (s_X7_newLot g μ x1 x2 x3 x4 x5 x6 (-1) _ e109) (h_rm_of rfl) (Nat.le_of_ble_eq_true rfl) (c' := 0) (s' := 0) rfl rfl ?_
                  have hf := Option.some.inj hf; subst hf
                  exact j_iret rfl rfl (Nat.zero_le _) (Nat.zero_le _) ⟨rfl, rfl⟩
                · rw [if_pos c90] at hf
                  refine j_bipush (v := (-4)) (pc' := 95) rfl rfl (by decide) ?_
                  refine j_goto (tgt := 112) rfl rfl ?_
                  have hf := Option.some.inj hf; subst hf
                  exact j_iret rfl rfl (Nat.zero_le _) (Nat.zero_le _) ⟨rfl, rfl⟩
              · rw [if_pos c70] at hf
                refine j_goto (tgt := 81) rfl rfl ?_
                refine j_bipush (v := (-2)) (pc' := 83) rfl rfl (by decide) ?_
                have hf := Option.some.inj hf; subst hf
                exact j_iret rfl rfl (Nat.zero_le _) (Nat.zero_le _) ⟨rfl, rfl⟩
    · rw [if_pos c13] at hf
      refine j_iconst (v := (-1)) (pc' := 17) rfl rfl (by decide) ?_
      have hf := Option.some.inj hf; subst hf
      exact j_iret rfl rfl (Nat.zero_le _) (Nat.zero_le _) ⟨rfl, rfl⟩
def rX7_open : Room := { frames := 2, cells := 0, slots := 0, locals := 43 }
def f_X7_open (μ : mS) (x1 : Int32) (x2 : Int32) : Option (Int32 × mS) := (f_X7_isLot μ x1).bind fun r2 => if r2 = 0 then some ((-1), μ) else bif vin x1 30 then bif vin x1 30 then bif vin x1 30 then bif vin (μ.1 9 (x1).toNatClampNeg) 8 then (f_X7_in x2 (μ.1 10 (x1).toNatClampNeg) ((μ.1 10 (x1).toNatClampNeg) * (μ.1 3 ((μ.1 9 (x1).toNatClampNeg)).toNatClampNeg))).bind fun r35 => if r35 = 0 then some ((-2), μ) else bif vin x1 30 then if (μ.1 8 (x1).toNatClampNeg) = 2 then bif vin x1 30 then if (μ.1 16 (x1).toNatClampNeg) = 0 then bif vin x1 30 then letm (seti μ 11 (va_up (μ.1 11) (x1).toNatClampNeg x2)) fun μ72 => bif vin x1 30 then bif vin x1 30 then bif vin (μ72.1 9 (x1).toNatClampNeg) 8 then if ((μ72.1 10 (x1).toNatClampNeg) * (μ72.1 2 ((μ72.1 9 (x1).toNatClampNeg)).toNatClampNeg)) ≤ x2 then bif vin x1 30 then letm (seti μ72 8 (va_up (μ72.1 8) (x1).toNatClampNeg 0)) fun μ105 => bif vin x1 30 then if (μ105.1 8 (x1).toNatClampNeg) = 1 then some (1, μ105) else some (0, μ105) else none else none else bif vin x1 30 then letm (seti μ72 8 (va_up (μ72.1 8) (x1).toNatClampNeg 1)) fun μ105 => bif vin x1 30 then if (μ105.1 8 (x1).toNatClampNeg) = 1 then some (1, μ105) else some (0, μ105) else none else none else none else none else none else none else some ((-3), μ) else none else some ((-3), μ) else none else none else none else none else none
set_option maxHeartbeats 4000000 in
set_option maxRecDepth 100000 in
theorem s_X7_open (g : hH) (μ : mS) (x1 : Int32) (x2 : Int32) (r : (Int32 × mS)) (hf : f_X7_open μ x1 x2 = some r) : SpD mX7_open rX7_open [.ref 5000, .int x1, .int x2] (gm g μ) (some (.int r.1)) (gm g r.2) := by
  refine sp_of miX7_open (Nat.le_of_ble_eq_true rfl) ?_
  show J _ _ _ 0 0 _ 0 [(0, .ref 5000), (1, .int x1), (2, .int x2)] []
  unfold f_X7_open at hf
  refine j_aload_n (pc' := 1) rfl rfl rfl ?_
  refine j_iload_n (pc' := 2) rfl rfl rfl ?_
  obtain ⟨r2, e2, hf⟩ := o_bind hf
  refine j_v1 (pc' := 5) rfl rfl miX7_isLot lnX7_160 (gm_o g μ) rfl (s_X7_isLot g μ x1 _ e2) (h_rm_of rfl) (Nat.le_of_ble_eq_true rfl) (c' := 0) (s' := 0) rfl rfl ?_
  refine j_if_ne (tgt := 10) (pc' := 8) rfl rfl rfl (fun c5 => ?_) (fun c5 => ?_)
  · rw [if_neg c5] at hf
    refine j_iload_n (pc' := 11) rfl rfl rfl ?_
    refine j_aload_n (pc' := 12) rfl rfl rfl ?_
    refine j_get (pc' := 15) rfl rfl flX7_28 (gm_o g μ) (mF_10 μ) ?_
    refine j_iload_n (pc' := 16) rfl rfl rfl ?_
    obtain ⟨c16, hf⟩ := o_chk hf
    refine j_iald (pc' := 17) rfl rfl (gm_10 g μ) (vin_ok c16) ?_
    refine j_aload_n (pc' := 18) rfl rfl rfl ?_
    refine j_get (pc' := 21) rfl rfl flX7_28 (gm_o g μ) (mF_10 μ) ?_
    refine j_iload_n (pc' := 22) rfl rfl rfl ?_
    obtain ⟨c22, hf⟩ := o_chk hf
    refine j_iald (pc' := 23) rfl rfl (gm_10 g μ) (vin_ok c22) ?_
    refine j_aload_n (pc' := 24) rfl rfl rfl ?_
    refine j_get (pc' := 27) rfl rfl flX7_13 (gm_o g μ) (mF_3 μ) ?_
    refine j_aload_n (pc' := 28) rfl rfl rfl ?_
    refine j_get (pc' := 31) rfl rfl flX7_25 (gm_o g μ) (mF_9 μ) ?_
    refine j_iload_n (pc' := 32) rfl rfl rfl ?_
    obtain ⟨c32, hf⟩ := o_chk hf
    refine j_iald (pc' := 33) rfl rfl (gm_9 g μ) (vin_ok c32) ?_
    obtain ⟨c33, hf⟩ := o_chk hf
    refine j_iald (pc' := 34) rfl rfl (gm_3 g μ) (vin_ok c33) ?_
    refine j_imul (pc' := 35) rfl rfl ?_
    obtain ⟨r35, e35, hf⟩ := o_bind hf
    refine j_s3 (pc' := 38) rfl rfl miX7_in lnX7_138 (s_X7_in (gm g μ) x2 (μ.1 10 (x1).toNatClampNeg) ((μ.1 10 (x1).toNatClampNeg) * (μ.1 3 ((μ.1 9 (x1).toNatClampNeg)).toNatClampNeg)) _ e35) (h_rm_of rfl) (Nat.le_of_ble_eq_true rfl) (c' := 0) (s' := 0) rfl rfl ?_
    refine j_if_ne (tgt := 44) (pc' := 41) rfl rfl rfl (fun c38 => ?_) (fun c38 => ?_)
    · rw [if_neg c38] at hf
      refine j_aload_n (pc' := 45) rfl rfl rfl ?_
      refine j_get (pc' := 48) rfl rfl flX7_22 (gm_o g μ) (mF_8 μ) ?_
      refine j_iload_n (pc' := 49) rfl rfl rfl ?_
      obtain ⟨c49, hf⟩ := o_chk hf
      refine j_iald (pc' := 50) rfl rfl (gm_8 g μ) (vin_ok c49) ?_
      refine j_iconst (v := 2) (pc' := 51) rfl rfl (by decide) ?_
      refine j_icmp_ne (tgt := 63) (pc' := 54) rfl rfl rfl (fun c51 => ?_) (fun c51 => ?_)
      · rw [if_neg c51] at hf
        refine j_bipush (v := (-3)) (pc' := 65) rfl rfl (by decide) ?_
        have hf := Option.some.inj hf; subst hf
        exact j_iret rfl rfl (Nat.zero_le _) (Nat.zero_le _) ⟨rfl, rfl⟩
      · rw [if_pos c51] at hf
        refine j_aload_n (pc' := 55) rfl rfl rfl ?_
        refine j_get (pc' := 58) rfl rfl flX7_46 (gm_o g μ) (mF_16 μ) ?_
        refine j_iload_n (pc' := 59) rfl rfl rfl ?_
        obtain ⟨c59, hf⟩ := o_chk hf
        refine j_zald (pc' := 60) rfl rfl (gm_16 g μ) (vin_ok c59) ?_
        refine j_if_eq (tgt := 66) (pc' := 63) rfl rfl rfl (fun c60 => ?_) (fun c60 => ?_)
        · rw [if_pos c60] at hf
          refine j_aload_n (pc' := 67) rfl rfl rfl ?_
          refine j_get (pc' := 70) rfl rfl flX7_31 (gm_o g μ) (mF_11 μ) ?_
          refine j_iload_n (pc' := 71) rfl rfl rfl ?_
          refine j_iload_n (pc' := 72) rfl rfl rfl ?_
          obtain ⟨c72, hf⟩ := o_chk hf
          obtain ⟨μ72, e72, hf⟩ := o_let hf
          refine j_iast (pc' := 73) rfl rfl (gm_11 g μ) (by decide) (vin_ok c72) ?_
          rw [gs_11]; rw [e72]
          refine j_aload_n (pc' := 74) rfl rfl rfl ?_
          refine j_get (pc' := 77) rfl rfl flX7_22 (gm_o g μ72) (mF_8 μ72) ?_
          refine j_iload_n (pc' := 78) rfl rfl rfl ?_
          refine j_iload_n (pc' := 79) rfl rfl rfl ?_
          refine j_aload_n (pc' := 80) rfl rfl rfl ?_
          refine j_get (pc' := 83) rfl rfl flX7_28 (gm_o g μ72) (mF_10 μ72) ?_
          refine j_iload_n (pc' := 84) rfl rfl rfl ?_
          obtain ⟨c84, hf⟩ := o_chk hf
          refine j_iald (pc' := 85) rfl rfl (gm_10 g μ72) (vin_ok c84) ?_
          refine j_aload_n (pc' := 86) rfl rfl rfl ?_
          refine j_get (pc' := 89) rfl rfl flX7_7 (gm_o g μ72) (mF_2 μ72) ?_
          refine j_aload_n (pc' := 90) rfl rfl rfl ?_
          refine j_get (pc' := 93) rfl rfl flX7_25 (gm_o g μ72) (mF_9 μ72) ?_
          refine j_iload_n (pc' := 94) rfl rfl rfl ?_
          obtain ⟨c94, hf⟩ := o_chk hf
          refine j_iald (pc' := 95) rfl rfl (gm_9 g μ72) (vin_ok c94) ?_
          obtain ⟨c95, hf⟩ := o_chk hf
          refine j_iald (pc' := 96) rfl rfl (gm_2 g μ72) (vin_ok c95) ?_
          refine j_imul (pc' := 97) rfl rfl ?_
          refine j_icmp_ge (tgt := 104) (pc' := 100) rfl rfl rfl (fun c97 => ?_) (fun c97 => ?_)
          · rw [if_pos c97] at hf
            refine j_iconst (v := 0) (pc' := 105) rfl rfl (by decide) ?_
            obtain ⟨c105, hf⟩ := o_chk hf
            obtain ⟨μ105, e105, hf⟩ := o_let hf
            refine j_iast (pc' := 106) rfl rfl (gm_8 g μ72) (by decide) (vin_ok c105) ?_
            rw [gs_8]; rw [e105]
            refine j_aload_n (pc' := 107) rfl rfl rfl ?_
            refine j_get (pc' := 110) rfl rfl flX7_22 (gm_o g μ105) (mF_8 μ105) ?_
            refine j_iload_n (pc' := 111) rfl rfl rfl ?_
            obtain ⟨c111, hf⟩ := o_chk hf
            refine j_iald (pc' := 112) rfl rfl (gm_8 g μ105) (vin_ok c111) ?_
            refine j_iconst (v := 1) (pc' := 113) rfl rfl (by decide) ?_
            refine j_icmp_ne (tgt := 120) (pc' := 116) rfl rfl rfl (fun c113 => ?_) (fun c113 => ?_)
            · rw [if_neg c113] at hf
              refine j_iconst (v := 0) (pc' := 121) rfl rfl (by decide) ?_
              have hf := Option.some.inj hf; subst hf
              exact j_iret rfl rfl (Nat.zero_le _) (Nat.zero_le _) ⟨rfl, rfl⟩
            · rw [if_pos c113] at hf
              refine j_iconst (v := 1) (pc' := 117) rfl rfl (by decide) ?_
              refine j_goto (tgt := 121) rfl rfl ?_
              have hf := Option.some.inj hf; subst hf
              exact j_iret rfl rfl (Nat.zero_le _) (Nat.zero_le _) ⟨rfl, rfl⟩
          · rw [if_neg c97] at hf
            refine j_iconst (v := 1) (pc' := 101) rfl rfl (by decide) ?_
            refine j_goto (tgt := 105) rfl rfl ?_
            obtain ⟨c105, hf⟩ := o_chk hf
            obtain ⟨μ105, e105, hf⟩ := o_let hf
            refine j_iast (pc' := 106) rfl rfl (gm_8 g μ72) (by decide) (vin_ok c105) ?_
            rw [gs_8]; rw [e105]
            refine j_aload_n (pc' := 107) rfl rfl rfl ?_
            refine j_get (pc' := 110) rfl rfl flX7_22 (gm_o g μ105) (mF_8 μ105) ?_
            refine j_iload_n (pc' := 111) rfl rfl rfl ?_
            obtain ⟨c111, hf⟩ := o_chk hf
            refine j_iald (pc' := 112) rfl rfl (gm_8 g μ105) (vin_ok c111) ?_
            refine j_iconst (v := 1) (pc' := 113) rfl rfl (by decide) ?_
            refine j_icmp_ne (tgt := 120) (pc' := 116) rfl rfl rfl (fun c113 => ?_) (fun c113 => ?_)
            · rw [if_neg c113] at hf
              refine j_iconst (v := 0) (pc' := 121) rfl rfl (by decide) ?_
              have hf := Option.some.inj hf; subst hf
              exact j_iret rfl rfl (Nat.zero_le _) (Nat.zero_le _) ⟨rfl, rfl⟩
            · rw [if_pos c113] at hf
              refine j_iconst (v := 1) (pc' := 117) rfl rfl (by decide) ?_
              refine j_goto (tgt := 121) rfl rfl ?_
              have hf := Option.some.inj hf; subst hf
              exact j_iret rfl rfl (Nat.zero_le _) (Nat.zero_le _) ⟨rfl, rfl⟩
        · rw [if_neg c60] at hf
          refine j_bipush (v := (-3)) (pc' := 65) rfl rfl (by decide) ?_
          have hf := Option.some.inj hf; subst hf
          exact j_iret rfl rfl (Nat.zero_le _) (Nat.zero_le _) ⟨rfl, rfl⟩
    · rw [if_pos c38] at hf
      refine j_bipush (v := (-2)) (pc' := 43) rfl rfl (by decide) ?_
      have hf := Option.some.inj hf; subst hf
      exact j_iret rfl rfl (Nat.zero_le _) (Nat.zero_le _) ⟨rfl, rfl⟩
  · rw [if_pos c5] at hf
    refine j_iconst (v := (-1)) (pc' := 9) rfl rfl (by decide) ?_
    have hf := Option.some.inj hf; subst hf
    exact j_iret rfl rfl (Nat.zero_le _) (Nat.zero_le _) ⟨rfl, rfl⟩
def rX7_about : Room := { frames := 2, cells := 0, slots := 0, locals := 43 }
def f_X7_about (μ : mS) (x1 : Int32) (x2 : Int32) : Option Int32 := (f_X7_isLot μ x1).bind fun r2 => if r2 = 0 then some (-1) else if x2 = 0 then bif vin x1 30 then some (μ.1 8 (x1).toNatClampNeg) else none else if x2 = 1 then bif vin x1 30 then some (μ.1 9 (x1).toNatClampNeg) else none else if x2 = 2 then bif vin x1 30 then some (μ.1 10 (x1).toNatClampNeg) else none else if x2 = 3 then bif vin x1 30 then some (μ.1 11 (x1).toNatClampNeg) else none else if x2 = 4 then (f_X7_fine μ x1).bind fun r98 => some r98 else if x2 = 5 then bif vin x1 30 then if (μ.1 16 (x1).toNatClampNeg) = 0 then bif vin x1 30 then some (μ.1 13 (x1).toNatClampNeg) else none else some (-1) else none else if x2 = 6 then bif vin x1 30 then if (μ.1 16 (x1).toNatClampNeg) = 0 then bif vin x1 30 then some (μ.1 14 (x1).toNatClampNeg) else none else some (-1) else none else if x2 = 7 then bif vin x1 30 then if (μ.1 16 (x1).toNatClampNeg) = 0 then (f_X7_isUnderWay μ x1).bind fun r153 => if r153 = 0 then some (-1) else bif vin x1 30 then some (μ.1 15 (x1).toNatClampNeg) else none else some (-1) else none else if x2 = 8 then bif vin x1 30 then if (μ.1 16 (x1).toNatClampNeg) = 0 then some 0 else some 1 else none else if x2 = 9 then bif vin x1 30 then if (μ.1 17 (x1).toNatClampNeg) = 0 then some 0 else some 1 else none else if x2 = 10 then bif vin x1 30 then if (μ.1 18 (x1).toNatClampNeg) = 0 then some 0 else some 1 else none else some (-1)
set_option maxHeartbeats 4000000 in
set_option maxRecDepth 100000 in
theorem s_X7_about (g : hH) (μ : mS) (x1 : Int32) (x2 : Int32) (r : Int32) (hf : f_X7_about μ x1 x2 = some r) : SpD mX7_about rX7_about [.ref 5000, .int x1, .int x2] (gm g μ) (some (.int r)) (gm g μ) := by
  refine sp_of miX7_about (Nat.le_of_ble_eq_true rfl) ?_
  show J _ _ _ 0 0 _ 0 [(0, .ref 5000), (1, .int x1), (2, .int x2)] []
  unfold f_X7_about at hf
  refine j_aload_n (pc' := 1) rfl rfl rfl ?_
  refine j_iload_n (pc' := 2) rfl rfl rfl ?_
  obtain ⟨r2, e2, hf⟩ := o_bind hf
  refine j_v1 (pc' := 5) rfl rfl miX7_isLot lnX7_160 (gm_o g μ) rfl (s_X7_isLot g μ x1 _ e2) (h_rm_of rfl) (Nat.le_of_ble_eq_true rfl) (c' := 0) (s' := 0) rfl rfl ?_
  refine j_if_ne (tgt := 10) (pc' := 8) rfl rfl rfl (fun c5 => ?_) (fun c5 => ?_)
  · rw [if_neg c5] at hf
    refine j_iload_n (pc' := 11) rfl rfl rfl ?_
    by_cases w11_0 : x2 = 0
    · rw [if_pos w11_0] at hf
      rw [w11_0]
      refine j_tableIn (tgt := 68) rfl (by decide) (by decide) rfl rfl ?_
      refine j_aload_n (pc' := 69) rfl rfl rfl ?_
      refine j_get (pc' := 72) rfl rfl flX7_22 (gm_o g μ) (mF_8 μ) ?_
      refine j_iload_n (pc' := 73) rfl rfl rfl ?_
      obtain ⟨c73, hf⟩ := o_chk hf
      refine j_iald (pc' := 74) rfl rfl (gm_8 g μ) (vin_ok c73) ?_
      have hf := Option.some.inj hf; subst hf
      exact j_iret rfl rfl (Nat.zero_le _) (Nat.zero_le _) ⟨rfl, rfl⟩
    rw [if_neg w11_0] at hf
    by_cases w11_1 : x2 = 1
    · rw [if_pos w11_1] at hf
      rw [w11_1]
      refine j_tableIn (tgt := 75) rfl (by decide) (by decide) rfl rfl ?_
      refine j_aload_n (pc' := 76) rfl rfl rfl ?_
      refine j_get (pc' := 79) rfl rfl flX7_25 (gm_o g μ) (mF_9 μ) ?_
      refine j_iload_n (pc' := 80) rfl rfl rfl ?_
      obtain ⟨c80, hf⟩ := o_chk hf
      refine j_iald (pc' := 81) rfl rfl (gm_9 g μ) (vin_ok c80) ?_
      have hf := Option.some.inj hf; subst hf
      exact j_iret rfl rfl (Nat.zero_le _) (Nat.zero_le _) ⟨rfl, rfl⟩
    rw [if_neg w11_1] at hf
    by_cases w11_2 : x2 = 2
    · rw [if_pos w11_2] at hf
      rw [w11_2]
      refine j_tableIn (tgt := 82) rfl (by decide) (by decide) rfl rfl ?_
      refine j_aload_n (pc' := 83) rfl rfl rfl ?_
      refine j_get (pc' := 86) rfl rfl flX7_28 (gm_o g μ) (mF_10 μ) ?_
      refine j_iload_n (pc' := 87) rfl rfl rfl ?_
      obtain ⟨c87, hf⟩ := o_chk hf
      refine j_iald (pc' := 88) rfl rfl (gm_10 g μ) (vin_ok c87) ?_
      have hf := Option.some.inj hf; subst hf
      exact j_iret rfl rfl (Nat.zero_le _) (Nat.zero_le _) ⟨rfl, rfl⟩
    rw [if_neg w11_2] at hf
    by_cases w11_3 : x2 = 3
    · rw [if_pos w11_3] at hf
      rw [w11_3]
      refine j_tableIn (tgt := 89) rfl (by decide) (by decide) rfl rfl ?_
      refine j_aload_n (pc' := 90) rfl rfl rfl ?_
      refine j_get (pc' := 93) rfl rfl flX7_31 (gm_o g μ) (mF_11 μ) ?_
      refine j_iload_n (pc' := 94) rfl rfl rfl ?_
      obtain ⟨c94, hf⟩ := o_chk hf
      refine j_iald (pc' := 95) rfl rfl (gm_11 g μ) (vin_ok c94) ?_
      have hf := Option.some.inj hf; subst hf
      exact j_iret rfl rfl (Nat.zero_le _) (Nat.zero_le _) ⟨rfl, rfl⟩
    rw [if_neg w11_3] at hf
    by_cases w11_4 : x2 = 4
    · rw [if_pos w11_4] at hf
      rw [w11_4]
      refine j_tableIn (tgt := 96) rfl (by decide) (by decide) rfl rfl ?_
      refine j_aload_n (pc' := 97) rfl rfl rfl ?_
      refine j_iload_n (pc' := 98) rfl rfl rfl ?_
      obtain ⟨r98, e98, hf⟩ := o_bind hf
      refine j_v1 (pc' := 101) rfl rfl miX7_fine lnX7_163 (gm_o g μ) rfl (s_X7_fine g μ x1 _ e98) (h_rm_of rfl) (Nat.le_of_ble_eq_true rfl) (c' := 0) (s' := 0) rfl rfl ?_
      have hf := Option.some.inj hf; subst hf
      exact j_iret rfl rfl (Nat.zero_le _) (Nat.zero_le _) ⟨rfl, rfl⟩
    rw [if_neg w11_4] at hf
    by_cases w11_5 : x2 = 5
    · rw [if_pos w11_5] at hf
      rw [w11_5]
      refine j_tableIn (tgt := 102) rfl (by decide) (by decide) rfl rfl ?_
      refine j_aload_n (pc' := 103) rfl rfl rfl ?_
      refine j_get (pc' := 106) rfl rfl flX7_46 (gm_o g μ) (mF_16 μ) ?_
      refine j_iload_n (pc' := 107) rfl rfl rfl ?_
      obtain ⟨c107, hf⟩ := o_chk hf
      refine j_zald (pc' := 108) rfl rfl (gm_16 g μ) (vin_ok c107) ?_
      refine j_if_eq (tgt := 115) (pc' := 111) rfl rfl rfl (fun c108 => ?_) (fun c108 => ?_)
      · rw [if_pos c108] at hf
        refine j_aload_n (pc' := 116) rfl rfl rfl ?_
        refine j_get (pc' := 119) rfl rfl flX7_37 (gm_o g μ) (mF_13 μ) ?_
        refine j_iload_n (pc' := 120) rfl rfl rfl ?_
        obtain ⟨c120, hf⟩ := o_chk hf
        refine j_iald (pc' := 121) rfl rfl (gm_13 g μ) (vin_ok c120) ?_
        have hf := Option.some.inj hf; subst hf
        exact j_iret rfl rfl (Nat.zero_le _) (Nat.zero_le _) ⟨rfl, rfl⟩
      · rw [if_neg c108] at hf
        refine j_iconst (v := (-1)) (pc' := 112) rfl rfl (by decide) ?_
        refine j_goto (tgt := 121) rfl rfl ?_
        have hf := Option.some.inj hf; subst hf
        exact j_iret rfl rfl (Nat.zero_le _) (Nat.zero_le _) ⟨rfl, rfl⟩
    rw [if_neg w11_5] at hf
    by_cases w11_6 : x2 = 6
    · rw [if_pos w11_6] at hf
      rw [w11_6]
      refine j_tableIn (tgt := 122) rfl (by decide) (by decide) rfl rfl ?_
      refine j_aload_n (pc' := 123) rfl rfl rfl ?_
      refine j_get (pc' := 126) rfl rfl flX7_46 (gm_o g μ) (mF_16 μ) ?_
      refine j_iload_n (pc' := 127) rfl rfl rfl ?_
      obtain ⟨c127, hf⟩ := o_chk hf
      refine j_zald (pc' := 128) rfl rfl (gm_16 g μ) (vin_ok c127) ?_
      refine j_if_eq (tgt := 135) (pc' := 131) rfl rfl rfl (fun c128 => ?_) (fun c128 => ?_)
      · rw [if_pos c128] at hf
        refine j_aload_n (pc' := 136) rfl rfl rfl ?_
        refine j_get (pc' := 139) rfl rfl flX7_40 (gm_o g μ) (mF_14 μ) ?_
        refine j_iload_n (pc' := 140) rfl rfl rfl ?_
        obtain ⟨c140, hf⟩ := o_chk hf
        refine j_iald (pc' := 141) rfl rfl (gm_14 g μ) (vin_ok c140) ?_
        have hf := Option.some.inj hf; subst hf
        exact j_iret rfl rfl (Nat.zero_le _) (Nat.zero_le _) ⟨rfl, rfl⟩
      · rw [if_neg c128] at hf
        refine j_iconst (v := (-1)) (pc' := 132) rfl rfl (by decide) ?_
        refine j_goto (tgt := 141) rfl rfl ?_
        have hf := Option.some.inj hf; subst hf
        exact j_iret rfl rfl (Nat.zero_le _) (Nat.zero_le _) ⟨rfl, rfl⟩
    rw [if_neg w11_6] at hf
    by_cases w11_7 : x2 = 7
    · rw [if_pos w11_7] at hf
      rw [w11_7]
      refine j_tableIn (tgt := 142) rfl (by decide) (by decide) rfl rfl ?_
      refine j_aload_n (pc' := 143) rfl rfl rfl ?_
      refine j_get (pc' := 146) rfl rfl flX7_46 (gm_o g μ) (mF_16 μ) ?_
      refine j_iload_n (pc' := 147) rfl rfl rfl ?_
      obtain ⟨c147, hf⟩ := o_chk hf
      refine j_zald (pc' := 148) rfl rfl (gm_16 g μ) (vin_ok c147) ?_
      refine j_if_ne (tgt := 168) (pc' := 151) rfl rfl rfl (fun c148 => ?_) (fun c148 => ?_)
      · rw [if_neg c148] at hf
        refine j_iconst (v := (-1)) (pc' := 169) rfl rfl (by decide) ?_
        have hf := Option.some.inj hf; subst hf
        exact j_iret rfl rfl (Nat.zero_le _) (Nat.zero_le _) ⟨rfl, rfl⟩
      · rw [if_pos c148] at hf
        refine j_aload_n (pc' := 152) rfl rfl rfl ?_
        refine j_iload_n (pc' := 153) rfl rfl rfl ?_
        obtain ⟨r153, e153, hf⟩ := o_bind hf
        refine j_v1 (pc' := 156) rfl rfl miX7_isUnderWay lnX7_170 (gm_o g μ) rfl (s_X7_isUnderWay g μ x1 _ e153) (h_rm_of rfl) (Nat.le_of_ble_eq_true rfl) (c' := 0) (s' := 0) rfl rfl ?_
        refine j_if_eq (tgt := 168) (pc' := 159) rfl rfl rfl (fun c156 => ?_) (fun c156 => ?_)
        · rw [if_pos c156] at hf
          refine j_iconst (v := (-1)) (pc' := 169) rfl rfl (by decide) ?_
          have hf := Option.some.inj hf; subst hf
          exact j_iret rfl rfl (Nat.zero_le _) (Nat.zero_le _) ⟨rfl, rfl⟩
        · rw [if_neg c156] at hf
          refine j_aload_n (pc' := 160) rfl rfl rfl ?_
          refine j_get (pc' := 163) rfl rfl flX7_43 (gm_o g μ) (mF_15 μ) ?_
          refine j_iload_n (pc' := 164) rfl rfl rfl ?_
          obtain ⟨c164, hf⟩ := o_chk hf
          refine j_iald (pc' := 165) rfl rfl (gm_15 g μ) (vin_ok c164) ?_
          refine j_goto (tgt := 169) rfl rfl ?_
          have hf := Option.some.inj hf; subst hf
          exact j_iret rfl rfl (Nat.zero_le _) (Nat.zero_le _) ⟨rfl, rfl⟩
    rw [if_neg w11_7] at hf
    by_cases w11_8 : x2 = 8
    · rw [if_pos w11_8] at hf
      rw [w11_8]
      refine j_tableIn (tgt := 170) rfl (by decide) (by decide) rfl rfl ?_
      refine j_aload_n (pc' := 171) rfl rfl rfl ?_
      refine j_get (pc' := 174) rfl rfl flX7_46 (gm_o g μ) (mF_16 μ) ?_
      refine j_iload_n (pc' := 175) rfl rfl rfl ?_
      obtain ⟨c175, hf⟩ := o_chk hf
      refine j_zald (pc' := 176) rfl rfl (gm_16 g μ) (vin_ok c175) ?_
      refine j_if_eq (tgt := 183) (pc' := 179) rfl rfl rfl (fun c176 => ?_) (fun c176 => ?_)
      · rw [if_pos c176] at hf
        refine j_iconst (v := 0) (pc' := 184) rfl rfl (by decide) ?_
        have hf := Option.some.inj hf; subst hf
        exact j_iret rfl rfl (Nat.zero_le _) (Nat.zero_le _) ⟨rfl, rfl⟩
      · rw [if_neg c176] at hf
        refine j_iconst (v := 1) (pc' := 180) rfl rfl (by decide) ?_
        refine j_goto (tgt := 184) rfl rfl ?_
        have hf := Option.some.inj hf; subst hf
        exact j_iret rfl rfl (Nat.zero_le _) (Nat.zero_le _) ⟨rfl, rfl⟩
    rw [if_neg w11_8] at hf
    by_cases w11_9 : x2 = 9
    · rw [if_pos w11_9] at hf
      rw [w11_9]
      refine j_tableIn (tgt := 185) rfl (by decide) (by decide) rfl rfl ?_
      refine j_aload_n (pc' := 186) rfl rfl rfl ?_
      refine j_get (pc' := 189) rfl rfl flX7_50 (gm_o g μ) (mF_17 μ) ?_
      refine j_iload_n (pc' := 190) rfl rfl rfl ?_
      obtain ⟨c190, hf⟩ := o_chk hf
      refine j_zald (pc' := 191) rfl rfl (gm_17 g μ) (vin_ok c190) ?_
      refine j_if_eq (tgt := 198) (pc' := 194) rfl rfl rfl (fun c191 => ?_) (fun c191 => ?_)
      · rw [if_pos c191] at hf
        refine j_iconst (v := 0) (pc' := 199) rfl rfl (by decide) ?_
        have hf := Option.some.inj hf; subst hf
        exact j_iret rfl rfl (Nat.zero_le _) (Nat.zero_le _) ⟨rfl, rfl⟩
      · rw [if_neg c191] at hf
        refine j_iconst (v := 1) (pc' := 195) rfl rfl (by decide) ?_
        refine j_goto (tgt := 199) rfl rfl ?_
        have hf := Option.some.inj hf; subst hf
        exact j_iret rfl rfl (Nat.zero_le _) (Nat.zero_le _) ⟨rfl, rfl⟩
    rw [if_neg w11_9] at hf
    by_cases w11_10 : x2 = 10
    · rw [if_pos w11_10] at hf
      rw [w11_10]
      refine j_tableIn (tgt := 200) rfl (by decide) (by decide) rfl rfl ?_
      refine j_aload_n (pc' := 201) rfl rfl rfl ?_
      refine j_get (pc' := 204) rfl rfl flX7_53 (gm_o g μ) (mF_18 μ) ?_
      refine j_iload_n (pc' := 205) rfl rfl rfl ?_
      obtain ⟨c205, hf⟩ := o_chk hf
      refine j_zald (pc' := 206) rfl rfl (gm_18 g μ) (vin_ok c205) ?_
      refine j_if_eq (tgt := 213) (pc' := 209) rfl rfl rfl (fun c206 => ?_) (fun c206 => ?_)
      · rw [if_pos c206] at hf
        refine j_iconst (v := 0) (pc' := 214) rfl rfl (by decide) ?_
        have hf := Option.some.inj hf; subst hf
        exact j_iret rfl rfl (Nat.zero_le _) (Nat.zero_le _) ⟨rfl, rfl⟩
      · rw [if_neg c206] at hf
        refine j_iconst (v := 1) (pc' := 210) rfl rfl (by decide) ?_
        refine j_goto (tgt := 214) rfl rfl ?_
        have hf := Option.some.inj hf; subst hf
        exact j_iret rfl rfl (Nat.zero_le _) (Nat.zero_le _) ⟨rfl, rfl⟩
    rw [if_neg w11_10] at hf
    refine j_tableOut (tgt := 215) rfl (sw_out (n := 10) (by decide) (fun v hv => by
      have : v = 0 ∨ v = 1 ∨ v = 2 ∨ v = 3 ∨ v = 4 ∨ v = 5 ∨ v = 6 ∨ v = 7 ∨ v = 8 ∨ v = 9 ∨ v = 10 := by omega
      rcases this with rfl | rfl | rfl | rfl | rfl | rfl | rfl | rfl | rfl | rfl | rfl
      · exact w11_0
      · exact w11_1
      · exact w11_2
      · exact w11_3
      · exact w11_4
      · exact w11_5
      · exact w11_6
      · exact w11_7
      · exact w11_8
      · exact w11_9
      · exact w11_10)) rfl ?_
    refine j_iconst (v := (-1)) (pc' := 216) rfl rfl (by decide) ?_
    have hf := Option.some.inj hf; subst hf
    exact j_iret rfl rfl (Nat.zero_le _) (Nat.zero_le _) ⟨rfl, rfl⟩
  · rw [if_pos c5] at hf
    refine j_iconst (v := (-1)) (pc' := 9) rfl rfl (by decide) ?_
    have hf := Option.some.inj hf; subst hf
    exact j_iret rfl rfl (Nat.zero_le _) (Nat.zero_le _) ⟨rfl, rfl⟩
end MODEL2
