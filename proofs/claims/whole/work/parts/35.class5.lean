section CLASS5
def rX0_takeBack__5 : Room := { frames := 0, cells := 0, slots := 0, locals := 0 }
def f_X0_takeBack__5_L5 : Nat → xS → Int32 → Int32 → Int32 → Option (Int32 × xS)
  | 0, _, _, _, _ => none
  | n + 1, σ, x1, x3, x4 => if 3 ≤ x4 then some (x3, σ) else bif vin x1 6 then bif vin ((x1 * 3) + x4) 18 then letm ((σ.1 44 (x1).toNatClampNeg) - (σ.1 8 (((x1 * 3) + x4)).toNatClampNeg)) fun y26 => bif vin ((x1 * 3) + x4) 18 then if (σ.1 42 (((x1 * 3) + x4)).toNatClampNeg) ≤ 0 then f_X0_takeBack__5_L5 n σ x1 x3 (x4 + 1) else bif vin x1 6 then if 1000000 ≤ (σ.1 44 (x1).toNatClampNeg) then f_X0_takeBack__5_L5 n σ x1 x3 (x4 + 1) else bif vin x4 3 then if (σ.1 43 (x4).toNatClampNeg) ≤ y26 then f_X0_takeBack__5_L5 n σ x1 x3 (x4 + 1) else bif vin x4 3 then letm (xi σ 43 (va_up (σ.1 43) (x4).toNatClampNeg y26)) fun σ73 => bif vin x4 3 then letm (xi σ73 45 (va_up (σ73.1 45) (x4).toNatClampNeg x1)) fun σ81 => f_X0_takeBack__5_L5 n σ81 x1 1 (x4 + 1) else none else none else none else none else none else none else none
set_option maxHeartbeats 4000000 in
set_option maxRecDepth 100000 in
theorem s_X0_takeBack__5_L5 {Q : Option Value → hH → Prop} (g : hH) : ∀ (n : Nat) (σ : xS) (x1 : Int32) (x3 : Int32) (x4 : Int32) (r : Int32 × xS), f_X0_takeBack__5_L5 n σ x1 x3 x4 = some r → (J mX0_takeBack rX0_takeBack__5 Q 0 0 (gx g r.2) 90 [(3, .int r.1)] []) → J mX0_takeBack rX0_takeBack__5 Q 0 0 (gx g σ) 5 [(0, .ref 15), (1, .int x1), (2, .ref 5), (3, .int x3), (4, .int x4)] [] := by
  intro n
  induction n with
  | zero =>
    intro σ x1 x3 x4 r hf
    cases hf
  | succ n ih =>
    intro σ x1 x3 x4 r hf k0
    rw [f_X0_takeBack__5_L5] at hf
    refine j_iload (pc' := 7) rfl rfl rfl ?_
    refine j_iconst (v := 3) (pc' := 8) rfl rfl (by decide) ?_
    refine j_icmp_ge (tgt := 90) (pc' := 11) rfl rfl rfl (fun c8 => ?_) (fun c8 => ?_)
    · rw [if_pos c8] at hf
      have hf := Option.some.inj hf; subst hf
      exact j_sub (ls' := [(3, .int _)]) ⟨rfl, trivial⟩ (k0)
    · rw [if_neg c8] at hf
      refine j_aload_n (pc' := 12) rfl rfl rfl ?_
      refine j_get (pc' := 15) rfl rfl flX0_24 (gxk_15 g σ) (crF_4 σ) ?_
      refine j_iload_n (pc' := 16) rfl rfl rfl ?_
      obtain ⟨c16, hf⟩ := o_chk hf
      refine j_iald (pc' := 17) rfl rfl (gxk_20 g σ) (vin_ok c16) ?_
      refine j_aload_n (pc' := 18) rfl rfl rfl ?_
      refine j_iload_n (pc' := 19) rfl rfl rfl ?_
      refine j_iconst (v := 3) (pc' := 20) rfl rfl (by decide) ?_
      refine j_imul (pc' := 21) rfl rfl ?_
      refine j_iload (pc' := 23) rfl rfl rfl ?_
      refine j_iadd (pc' := 24) rfl rfl ?_
      obtain ⟨c24, hf⟩ := o_chk hf
      refine j_iald (pc' := 25) rfl rfl (gxk_5 g σ) (vin_ok c24) ?_
      refine j_isub (pc' := 26) rfl rfl ?_
      obtain ⟨y26, e26, hf⟩ := o_let hf
      rw [e26]
      refine j_istore (pc' := 28) (ls' := [(5, _), (0, _), (1, _), (2, _), (3, _), (4, _)]) rfl rfl (Nat.le_of_ble_eq_true rfl) rfl ?_
      refine j_aload_n (pc' := 29) rfl rfl rfl ?_
      refine j_get (pc' := 32) rfl rfl flX0_18 (gxk_15 g σ) (crF_2 σ) ?_
      refine j_iload_n (pc' := 33) rfl rfl rfl ?_
      refine j_iconst (v := 3) (pc' := 34) rfl rfl (by decide) ?_
      refine j_imul (pc' := 35) rfl rfl ?_
      refine j_iload (pc' := 37) rfl rfl rfl ?_
      refine j_iadd (pc' := 38) rfl rfl ?_
      obtain ⟨c38, hf⟩ := o_chk hf
      refine j_iald (pc' := 39) rfl rfl (gxk_18 g σ) (vin_ok c38) ?_
      refine j_if_le (tgt := 84) (pc' := 42) rfl rfl rfl (fun c39 => ?_) (fun c39 => ?_)
      · rw [if_pos c39] at hf
        refine j_iinc (pc' := 87) (d := 1) (ls' := [(4, _), (5, _), (0, _), (1, _), (2, _), (3, _)]) rfl rfl rfl (by decide) (Nat.le_of_ble_eq_true rfl) rfl ?_
        refine j_goto (tgt := 5) rfl rfl ?_
        refine j_sub (ls' := [(0, .ref 15), (1, .int _), (2, .ref 5), (3, .int _), (4, .int _)]) ⟨rfl, rfl, rfl, rfl, rfl, trivial⟩ ?_
        exact ih _ _ _ _ _ hf k0
      · rw [if_neg c39] at hf
        refine j_aload_n (pc' := 43) rfl rfl rfl ?_
        refine j_get (pc' := 46) rfl rfl flX0_24 (gxk_15 g σ) (crF_4 σ) ?_
        refine j_iload_n (pc' := 47) rfl rfl rfl ?_
        obtain ⟨c47, hf⟩ := o_chk hf
        refine j_iald (pc' := 48) rfl rfl (gxk_20 g σ) (vin_ok c47) ?_
        refine j_ldc (pc' := 50) rfl rfl kcX0_61 ?_
        refine j_icmp_ge (tgt := 84) (pc' := 53) rfl rfl rfl (fun c50 => ?_) (fun c50 => ?_)
        · rw [if_pos c50] at hf
          refine j_iinc (pc' := 87) (d := 1) (ls' := [(4, _), (5, _), (0, _), (1, _), (2, _), (3, _)]) rfl rfl rfl (by decide) (Nat.le_of_ble_eq_true rfl) rfl ?_
          refine j_goto (tgt := 5) rfl rfl ?_
          refine j_sub (ls' := [(0, .ref 15), (1, .int _), (2, .ref 5), (3, .int _), (4, .int _)]) ⟨rfl, rfl, rfl, rfl, rfl, trivial⟩ ?_
          exact ih _ _ _ _ _ hf k0
        · rw [if_neg c50] at hf
          refine j_iload (pc' := 55) rfl rfl rfl ?_
          refine j_aload_n (pc' := 56) rfl rfl rfl ?_
          refine j_get (pc' := 59) rfl rfl flX0_21 (gxk_15 g σ) (crF_3 σ) ?_
          refine j_iload (pc' := 61) rfl rfl rfl ?_
          obtain ⟨c61, hf⟩ := o_chk hf
          refine j_iald (pc' := 62) rfl rfl (gxk_19 g σ) (vin_ok c61) ?_
          refine j_icmp_ge (tgt := 84) (pc' := 65) rfl rfl rfl (fun c62 => ?_) (fun c62 => ?_)
          · rw [if_pos c62] at hf
            refine j_iinc (pc' := 87) (d := 1) (ls' := [(4, _), (5, _), (0, _), (1, _), (2, _), (3, _)]) rfl rfl rfl (by decide) (Nat.le_of_ble_eq_true rfl) rfl ?_
            refine j_goto (tgt := 5) rfl rfl ?_
            refine j_sub (ls' := [(0, .ref 15), (1, .int _), (2, .ref 5), (3, .int _), (4, .int _)]) ⟨rfl, rfl, rfl, rfl, rfl, trivial⟩ ?_
            exact ih _ _ _ _ _ hf k0
          · rw [if_neg c62] at hf
            refine j_aload_n (pc' := 66) rfl rfl rfl ?_
            refine j_get (pc' := 69) rfl rfl flX0_21 (gxk_15 g σ) (crF_3 σ) ?_
            refine j_iload (pc' := 71) rfl rfl rfl ?_
            refine j_iload (pc' := 73) rfl rfl rfl ?_
            obtain ⟨c73, hf⟩ := o_chk hf
            obtain ⟨σ73, e73, hf⟩ := o_let hf
            refine j_iast (pc' := 74) rfl rfl (gxk_19 g σ) (by decide) (vin_ok c73) ?_
            rw [gxs_19]; rw [e73]
            refine j_aload_n (pc' := 75) rfl rfl rfl ?_
            refine j_get (pc' := 78) rfl rfl flX0_27 (gxk_15 g σ73) (crF_5 σ73) ?_
            refine j_iload (pc' := 80) rfl rfl rfl ?_
            refine j_iload_n (pc' := 81) rfl rfl rfl ?_
            obtain ⟨c81, hf⟩ := o_chk hf
            obtain ⟨σ81, e81, hf⟩ := o_let hf
            refine j_iast (pc' := 82) rfl rfl (gxk_21 g σ73) (by decide) (vin_ok c81) ?_
            rw [gxs_21]; rw [e81]
            refine j_iconst (v := 1) (pc' := 83) rfl rfl (by decide) ?_
            refine j_istore_n (pc' := 84) (ls' := [(3, _), (5, _), (0, _), (1, _), (2, _), (4, _)]) rfl rfl (Nat.le_of_ble_eq_true rfl) rfl ?_
            refine j_iinc (pc' := 87) (d := 1) (ls' := [(4, _), (3, _), (5, _), (0, _), (1, _), (2, _)]) rfl rfl rfl (by decide) (Nat.le_of_ble_eq_true rfl) rfl ?_
            refine j_goto (tgt := 5) rfl rfl ?_
            refine j_sub (ls' := [(0, .ref 15), (1, .int _), (2, .ref 5), (3, .int _), (4, .int _)]) ⟨rfl, rfl, rfl, rfl, rfl, trivial⟩ ?_
            exact ih _ _ _ _ _ hf k0
def f_X0_takeBack__5 (σ : xS) (x1 : Int32) : Option (Int32 × xS) := (f_X0_takeBack__5_L5 4000 σ x1 0 0).bind fun r5 => bif zb r5.1 then some (r5.1, r5.2) else none
set_option maxHeartbeats 4000000 in
set_option maxRecDepth 100000 in
theorem s_X0_takeBack__5 (g : hH) (σ : xS) (x1 : Int32) (r : (Int32 × xS)) (hf : f_X0_takeBack__5 σ x1 = some r) : SpD mX0_takeBack rX0_takeBack__5 [.ref 15, .int x1, .ref 5] (gx g σ) (some (.int r.1)) (gx g r.2) := by
  refine sp_of miX0_takeBack (Nat.le_of_ble_eq_true rfl) ?_
  show J _ _ _ 0 0 _ 0 [(0, .ref 15), (1, .int x1), (2, .ref 5)] []
  unfold f_X0_takeBack__5 at hf
  refine j_iconst (v := 0) (pc' := 1) rfl rfl (by decide) ?_
  refine j_istore_n (pc' := 2) (ls' := [(3, _), (0, _), (1, _), (2, _)]) rfl rfl (Nat.le_of_ble_eq_true rfl) rfl ?_
  refine j_iconst (v := 0) (pc' := 3) rfl rfl (by decide) ?_
  refine j_istore (pc' := 5) (ls' := [(4, _), (3, _), (0, _), (1, _), (2, _)]) rfl rfl (Nat.le_of_ble_eq_true rfl) rfl ?_
  obtain ⟨r5, e5, hf⟩ := o_bind hf
  refine j_sub (ls' := [(0, .ref 15), (1, .int _), (2, .ref 5), (3, .int _), (4, .int _)]) ⟨rfl, rfl, rfl, rfl, rfl, trivial⟩ ?_
  refine s_X0_takeBack__5_L5 g _ _ _ _ _ _ e5 ?_
  refine j_iload_n (pc' := 91) rfl rfl rfl ?_
  obtain ⟨c91, hf⟩ := o_chk hf
  have hf := Option.some.inj hf; subst hf
  exact j_zret rfl rfl (zb_ok c91) (Nat.le_of_ble_eq_true rfl) (Nat.le_of_ble_eq_true rfl) ⟨rfl, rfl⟩
def rX0_findWays__5 : Room := { frames := 1, cells := 0, slots := 0, locals := 25 }
def f_X0_findWays__5_L2 : Nat → xS → Int32 → Option (xS)
  | 0, _, _ => none
  | n + 1, σ, x2 => if 3 ≤ x2 then some (σ) else bif vin x2 3 then if (σ.1 40 (x2).toNatClampNeg) ≤ 0 then bif vin x2 3 then letm (xi σ 43 (va_up (σ.1 43) (x2).toNatClampNeg 1000000)) fun σ27 => f_X0_findWays__5_L2 n σ27 (x2 + 1) else none else bif vin x2 3 then letm (xi σ 43 (va_up (σ.1 43) (x2).toNatClampNeg 0)) fun σ27 => f_X0_findWays__5_L2 n σ27 (x2 + 1) else none else none
set_option maxHeartbeats 4000000 in
set_option maxRecDepth 100000 in
theorem s_X0_findWays__5_L2 {Q : Option Value → hH → Prop} (g : hH) : ∀ (n : Nat) (σ : xS) (x2 : Int32) (r : xS), f_X0_findWays__5_L2 n σ x2 = some r → (J mX0_findWays rX0_findWays__5 Q 0 0 (gx g r) 34 [(0, .ref 15), (1, .ref 5)] []) → J mX0_findWays rX0_findWays__5 Q 0 0 (gx g σ) 2 [(0, .ref 15), (1, .ref 5), (2, .int x2)] [] := by
  intro n
  induction n with
  | zero =>
    intro σ x2 r hf
    cases hf
  | succ n ih =>
    intro σ x2 r hf k0
    rw [f_X0_findWays__5_L2] at hf
    refine j_iload_n (pc' := 3) rfl rfl rfl ?_
    refine j_iconst (v := 3) (pc' := 4) rfl rfl (by decide) ?_
    refine j_icmp_ge (tgt := 34) (pc' := 7) rfl rfl rfl (fun c4 => ?_) (fun c4 => ?_)
    · rw [if_pos c4] at hf
      have hf := Option.some.inj hf; subst hf
      exact j_sub (ls' := [(0, .ref 15), (1, .ref 5)]) ⟨rfl, rfl, trivial⟩ (k0)
    · rw [if_neg c4] at hf
      refine j_aload_n (pc' := 8) rfl rfl rfl ?_
      refine j_get (pc' := 11) rfl rfl flX0_21 (gxk_15 g σ) (crF_3 σ) ?_
      refine j_iload_n (pc' := 12) rfl rfl rfl ?_
      refine j_aload_n (pc' := 13) rfl rfl rfl ?_
      refine j_get (pc' := 16) rfl rfl flX0_9 (gxk_15 g σ) (crF_0 σ) ?_
      refine j_iload_n (pc' := 17) rfl rfl rfl ?_
      obtain ⟨c17, hf⟩ := o_chk hf
      refine j_iald (pc' := 18) rfl rfl (gxk_16 g σ) (vin_ok c17) ?_
      refine j_if_le (tgt := 25) (pc' := 21) rfl rfl rfl (fun c18 => ?_) (fun c18 => ?_)
      · rw [if_pos c18] at hf
        refine j_ldc (pc' := 27) rfl rfl kcX0_61 ?_
        obtain ⟨c27, hf⟩ := o_chk hf
        obtain ⟨σ27, e27, hf⟩ := o_let hf
        refine j_iast (pc' := 28) rfl rfl (gxk_19 g σ) (by decide) (vin_ok c27) ?_
        rw [gxs_19]; rw [e27]
        refine j_iinc (pc' := 31) (d := 1) (ls' := [(2, _), (0, _), (1, _)]) rfl rfl rfl (by decide) (Nat.le_of_ble_eq_true rfl) rfl ?_
        refine j_goto (tgt := 2) rfl rfl ?_
        refine j_sub (ls' := [(0, .ref 15), (1, .ref 5), (2, .int _)]) ⟨rfl, rfl, rfl, trivial⟩ ?_
        exact ih _ _ _ hf k0
      · rw [if_neg c18] at hf
        refine j_iconst (v := 0) (pc' := 22) rfl rfl (by decide) ?_
        refine j_goto (tgt := 27) rfl rfl ?_
        obtain ⟨c27, hf⟩ := o_chk hf
        obtain ⟨σ27, e27, hf⟩ := o_let hf
        refine j_iast (pc' := 28) rfl rfl (gxk_19 g σ) (by decide) (vin_ok c27) ?_
        rw [gxs_19]; rw [e27]
        refine j_iinc (pc' := 31) (d := 1) (ls' := [(2, _), (0, _), (1, _)]) rfl rfl rfl (by decide) (Nat.le_of_ble_eq_true rfl) rfl ?_
        refine j_goto (tgt := 2) rfl rfl ?_
        refine j_sub (ls' := [(0, .ref 15), (1, .ref 5), (2, .int _)]) ⟨rfl, rfl, rfl, trivial⟩ ?_
        exact ih _ _ _ hf k0
def f_X0_findWays__5_L78 : Nat → xS → Int32 → Int32 → Int32 → Option (Int32 × xS)
  | 0, _, _, _, _ => none
  | n + 1, σ, x2, x3, x4 => if 6 ≤ x4 then some (x2, σ) else (f_X0_goOn__5 σ x4).bind fun r89 => (f_X0_takeBack__5 r89 x4).bind fun r96 => if r96.1 = 0 then if x2 = 0 then f_X0_findWays__5_L78 n r96.2 0 x3 (x4 + 1) else f_X0_findWays__5_L78 n r96.2 1 x3 (x4 + 1) else f_X0_findWays__5_L78 n r96.2 1 x3 (x4 + 1)
set_option maxHeartbeats 4000000 in
set_option maxRecDepth 100000 in
theorem s_X0_findWays__5_L78 {Q : Option Value → hH → Prop} (g : hH) : ∀ (n : Nat) (σ : xS) (x2 : Int32) (x3 : Int32) (x4 : Int32) (r : Int32 × xS), f_X0_findWays__5_L78 n σ x2 x3 x4 = some r → (J mX0_findWays rX0_findWays__5 Q 0 0 (gx g r.2) 118 [(0, .ref 15), (1, .ref 5), (2, .int r.1), (3, .int x3)] []) → J mX0_findWays rX0_findWays__5 Q 0 0 (gx g σ) 78 [(0, .ref 15), (1, .ref 5), (2, .int x2), (3, .int x3), (4, .int x4)] [] := by
  intro n
  induction n with
  | zero =>
    intro σ x2 x3 x4 r hf
    cases hf
  | succ n ih =>
    intro σ x2 x3 x4 r hf k0
    rw [f_X0_findWays__5_L78] at hf
    refine j_iload (pc' := 80) rfl rfl rfl ?_
    refine j_bipush (v := 6) (pc' := 82) rfl rfl (by decide) ?_
    refine j_icmp_ge (tgt := 118) (pc' := 85) rfl rfl rfl (fun c82 => ?_) (fun c82 => ?_)
    · rw [if_pos c82] at hf
      have hf := Option.some.inj hf; subst hf
      exact j_sub (ls' := [(0, .ref 15), (1, .ref 5), (2, .int _), (3, .int _)]) ⟨rfl, rfl, rfl, rfl, trivial⟩ (k0)
    · rw [if_neg c82] at hf
      refine j_aload_n (pc' := 86) rfl rfl rfl ?_
      refine j_iload (pc' := 88) rfl rfl rfl ?_
      refine j_aload_n (pc' := 89) rfl rfl rfl ?_
      obtain ⟨r89, e89, hf⟩ := o_bind hf
      refine j_vw2 (pc' := 92) rfl rfl miX0_goOn lnX0_62 (gxk_15 g σ) rfl (s_X0_goOn__5 g σ x4 _ e89) (h_rm_of rfl) (Nat.le_of_ble_eq_true rfl) (c' := 0) (s' := 0) rfl rfl ?_
      refine j_aload_n (pc' := 93) rfl rfl rfl ?_
      refine j_iload (pc' := 95) rfl rfl rfl ?_
      refine j_aload_n (pc' := 96) rfl rfl rfl ?_
      obtain ⟨r96, e96, hf⟩ := o_bind hf
      refine j_v2 (pc' := 99) rfl rfl miX0_takeBack lnX0_66 (gxk_15 g r89) rfl (s_X0_takeBack__5 g r89 x4 _ e96) (h_rm_of rfl) (Nat.le_of_ble_eq_true rfl) (c' := 0) (s' := 0) rfl rfl ?_
      refine j_if_ne (tgt := 106) (pc' := 102) rfl rfl rfl (fun c99 => ?_) (fun c99 => ?_)
      · rw [if_neg c99] at hf
        refine j_iconst (v := 1) (pc' := 107) rfl rfl (by decide) ?_
        refine j_goto (tgt := 111) rfl rfl ?_
        refine j_istore_n (pc' := 112) (ls' := [(2, _), (0, _), (1, _), (3, _), (4, _)]) rfl rfl (Nat.le_of_ble_eq_true rfl) rfl ?_
        refine j_iinc (pc' := 115) (d := 1) (ls' := [(4, _), (2, _), (0, _), (1, _), (3, _)]) rfl rfl rfl (by decide) (Nat.le_of_ble_eq_true rfl) rfl ?_
        refine j_goto (tgt := 78) rfl rfl ?_
        refine j_sub (ls' := [(0, .ref 15), (1, .ref 5), (2, .int _), (3, .int _), (4, .int _)]) ⟨rfl, rfl, rfl, rfl, rfl, trivial⟩ ?_
        exact ih _ _ _ _ _ hf k0
      · rw [if_pos c99] at hf
        refine j_iload_n (pc' := 103) rfl rfl rfl ?_
        refine j_if_eq (tgt := 110) (pc' := 106) rfl rfl rfl (fun c103 => ?_) (fun c103 => ?_)
        · rw [if_pos c103] at hf
          refine j_iconst (v := 0) (pc' := 111) rfl rfl (by decide) ?_
          refine j_istore_n (pc' := 112) (ls' := [(2, _), (0, _), (1, _), (3, _), (4, _)]) rfl rfl (Nat.le_of_ble_eq_true rfl) rfl ?_
          refine j_iinc (pc' := 115) (d := 1) (ls' := [(4, _), (2, _), (0, _), (1, _), (3, _)]) rfl rfl rfl (by decide) (Nat.le_of_ble_eq_true rfl) rfl ?_
          refine j_goto (tgt := 78) rfl rfl ?_
          refine j_sub (ls' := [(0, .ref 15), (1, .ref 5), (2, .int _), (3, .int _), (4, .int _)]) ⟨rfl, rfl, rfl, rfl, rfl, trivial⟩ ?_
          exact ih _ _ _ _ _ hf k0
        · rw [if_neg c103] at hf
          refine j_iconst (v := 1) (pc' := 107) rfl rfl (by decide) ?_
          refine j_goto (tgt := 111) rfl rfl ?_
          refine j_istore_n (pc' := 112) (ls' := [(2, _), (0, _), (1, _), (3, _), (4, _)]) rfl rfl (Nat.le_of_ble_eq_true rfl) rfl ?_
          refine j_iinc (pc' := 115) (d := 1) (ls' := [(4, _), (2, _), (0, _), (1, _), (3, _)]) rfl rfl rfl (by decide) (Nat.le_of_ble_eq_true rfl) rfl ?_
          refine j_goto (tgt := 78) rfl rfl ?_
          refine j_sub (ls' := [(0, .ref 15), (1, .ref 5), (2, .int _), (3, .int _), (4, .int _)]) ⟨rfl, rfl, rfl, rfl, rfl, trivial⟩ ?_
          exact ih _ _ _ _ _ hf k0
def f_X0_findWays__5_L63 : Nat → xS → Int32 → Int32 → Option (xS)
  | 0, _, _, _ => none
  | n + 1, σ, x2, x3 => if 9 ≤ x3 then some (σ) else if x2 = 0 then some (σ) else (f_X0_findWays__5_L78 4000 σ 0 x3 0).bind fun r78 => f_X0_findWays__5_L63 n r78.2 r78.1 (x3 + 1)
set_option maxHeartbeats 4000000 in
set_option maxRecDepth 100000 in
theorem s_X0_findWays__5_L63 {Q : Option Value → hH → Prop} (g : hH) : ∀ (n : Nat) (σ : xS) (x2 : Int32) (x3 : Int32) (r : xS), f_X0_findWays__5_L63 n σ x2 x3 = some r → (J mX0_findWays rX0_findWays__5 Q 0 0 (gx g r) 124 [] []) → J mX0_findWays rX0_findWays__5 Q 0 0 (gx g σ) 63 [(0, .ref 15), (1, .ref 5), (2, .int x2), (3, .int x3)] [] := by
  intro n
  induction n with
  | zero =>
    intro σ x2 x3 r hf
    cases hf
  | succ n ih =>
    intro σ x2 x3 r hf k0
    rw [f_X0_findWays__5_L63] at hf
    refine j_iload_n (pc' := 64) rfl rfl rfl ?_
    refine j_bipush (v := 9) (pc' := 66) rfl rfl (by decide) ?_
    refine j_icmp_ge (tgt := 124) (pc' := 69) rfl rfl rfl (fun c66 => ?_) (fun c66 => ?_)
    · rw [if_pos c66] at hf
      have hf := Option.some.inj hf; subst hf
      exact j_sub (ls' := []) trivial (k0)
    · rw [if_neg c66] at hf
      refine j_iload_n (pc' := 70) rfl rfl rfl ?_
      refine j_if_eq (tgt := 124) (pc' := 73) rfl rfl rfl (fun c70 => ?_) (fun c70 => ?_)
      · rw [if_pos c70] at hf
        have hf := Option.some.inj hf; subst hf
        exact j_sub (ls' := []) trivial (k0)
      · rw [if_neg c70] at hf
        refine j_iconst (v := 0) (pc' := 74) rfl rfl (by decide) ?_
        refine j_istore_n (pc' := 75) (ls' := [(2, _), (0, _), (1, _), (3, _)]) rfl rfl (Nat.le_of_ble_eq_true rfl) rfl ?_
        refine j_iconst (v := 0) (pc' := 76) rfl rfl (by decide) ?_
        refine j_istore (pc' := 78) (ls' := [(4, _), (2, _), (0, _), (1, _), (3, _)]) rfl rfl (Nat.le_of_ble_eq_true rfl) rfl ?_
        obtain ⟨r78, e78, hf⟩ := o_bind hf
        refine j_sub (ls' := [(0, .ref 15), (1, .ref 5), (2, .int _), (3, .int _), (4, .int _)]) ⟨rfl, rfl, rfl, rfl, rfl, trivial⟩ ?_
        refine s_X0_findWays__5_L78 g _ _ _ _ _ _ e78 ?_
        refine j_iinc (pc' := 121) (d := 1) (ls' := [(3, _), (0, _), (1, _), (2, _)]) rfl rfl rfl (by decide) (Nat.le_of_ble_eq_true rfl) rfl ?_
        refine j_goto (tgt := 63) rfl rfl ?_
        refine j_sub (ls' := [(0, .ref 15), (1, .ref 5), (2, .int _), (3, .int _)]) ⟨rfl, rfl, rfl, rfl, trivial⟩ ?_
        exact ih _ _ _ _ hf k0
def f_X0_findWays__5 (σ : xS) : Option xS := (f_X0_findWays__5_L2 4000 σ 0).bind fun r2 => letm (xi r2 44 (fillf 6 1000000 (r2.1 44))) fun σ40 => letm (xi σ40 45 (fillf 3 (-1) (σ40.1 45))) fun σ48 => letm (xi σ48 46 (fillf 6 (-1) (σ48.1 46))) fun σ56 => (f_X0_findWays__5_L63 4000 σ56 1 0).bind fun r63 => some r63
set_option maxHeartbeats 4000000 in
set_option maxRecDepth 100000 in
theorem s_X0_findWays__5 (g : hH) (σ : xS) (r : xS) (hf : f_X0_findWays__5 σ = some r) : SpD mX0_findWays rX0_findWays__5 [.ref 15, .ref 5] (gx g σ) (none) (gx g r) := by
  refine sp_of miX0_findWays (Nat.le_of_ble_eq_true rfl) ?_
  show J _ _ _ 0 0 _ 0 [(0, .ref 15), (1, .ref 5)] []
  unfold f_X0_findWays__5 at hf
  refine j_iconst (v := 0) (pc' := 1) rfl rfl (by decide) ?_
  refine j_istore_n (pc' := 2) (ls' := [(2, _), (0, _), (1, _)]) rfl rfl (Nat.le_of_ble_eq_true rfl) rfl ?_
  obtain ⟨r2, e2, hf⟩ := o_bind hf
  refine j_sub (ls' := [(0, .ref 15), (1, .ref 5), (2, .int _)]) ⟨rfl, rfl, rfl, trivial⟩ ?_
  refine s_X0_findWays__5_L2 g _ _ _ _ e2 ?_
  refine j_aload_n (pc' := 35) rfl rfl rfl ?_
  refine j_get (pc' := 38) rfl rfl flX0_24 (gxk_15 g r2) (crF_4 r2) ?_
  refine j_ldc (pc' := 40) rfl rfl kcX0_61 ?_
  obtain ⟨σ40, e40, hf⟩ := o_let hf
  refine j_sw2 (pc' := 43) rfl rfl miJ7_fill_53178 lnX0_39 (s_fill (gxk_20 g r2) (by decide) (by decide) 1000000) (h_rm_of rfl) (Nat.le_of_ble_eq_true rfl) (c' := 0) (s' := 0) rfl rfl ?_
  rw [gxs_20]; rw [e40]
  refine j_aload_n (pc' := 44) rfl rfl rfl ?_
  refine j_get (pc' := 47) rfl rfl flX0_27 (gxk_15 g σ40) (crF_5 σ40) ?_
  refine j_iconst (v := (-1)) (pc' := 48) rfl rfl (by decide) ?_
  obtain ⟨σ48, e48, hf⟩ := o_let hf
  refine j_sw2 (pc' := 51) rfl rfl miJ7_fill_53178 lnX0_39 (s_fill (gxk_21 g σ40) (by decide) (by decide) (-1)) (h_rm_of rfl) (Nat.le_of_ble_eq_true rfl) (c' := 0) (s' := 0) rfl rfl ?_
  rw [gxs_21]; rw [e48]
  refine j_aload_n (pc' := 52) rfl rfl rfl ?_
  refine j_get (pc' := 55) rfl rfl flX0_30 (gxk_15 g σ48) (crF_6 σ48) ?_
  refine j_iconst (v := (-1)) (pc' := 56) rfl rfl (by decide) ?_
  obtain ⟨σ56, e56, hf⟩ := o_let hf
  refine j_sw2 (pc' := 59) rfl rfl miJ7_fill_53178 lnX0_39 (s_fill (gxk_22 g σ48) (by decide) (by decide) (-1)) (h_rm_of rfl) (Nat.le_of_ble_eq_true rfl) (c' := 0) (s' := 0) rfl rfl ?_
  rw [gxs_22]; rw [e56]
  refine j_iconst (v := 1) (pc' := 60) rfl rfl (by decide) ?_
  refine j_istore_n (pc' := 61) (ls' := [(2, _), (0, _), (1, _)]) rfl rfl (Nat.le_of_ble_eq_true rfl) rfl ?_
  refine j_iconst (v := 0) (pc' := 62) rfl rfl (by decide) ?_
  refine j_istore_n (pc' := 63) (ls' := [(3, _), (2, _), (0, _), (1, _)]) rfl rfl (Nat.le_of_ble_eq_true rfl) rfl ?_
  obtain ⟨r63, e63, hf⟩ := o_bind hf
  refine j_sub (ls' := [(0, .ref 15), (1, .ref 5), (2, .int _), (3, .int _)]) ⟨rfl, rfl, rfl, rfl, trivial⟩ ?_
  refine s_X0_findWays__5_L63 g _ _ _ _ _ e63 ?_
  have hf := Option.some.inj hf; subst hf
  exact j_vret rfl rfl (Nat.le_of_ble_eq_true rfl) (Nat.le_of_ble_eq_true rfl) ⟨rfl, rfl⟩
def rX0_cheapestTown : Room := { frames := 0, cells := 0, slots := 0, locals := 0 }
def f_X0_cheapestTown_L4 : Nat → xS → Int32 → Int32 → Option (Int32)
  | 0, _, _, _ => none
  | n + 1, σ, x1, x2 => if 6 ≤ x2 then some (x1) else bif vin x2 6 then if (σ.1 41 (x2).toNatClampNeg) ≤ 0 then f_X0_cheapestTown_L4 n σ x1 (x2 + 1) else bif vin x2 6 then if 1000000 ≤ (σ.1 44 (x2).toNatClampNeg) then f_X0_cheapestTown_L4 n σ x1 (x2 + 1) else if x1 = (-1) then f_X0_cheapestTown_L4 n σ x2 (x2 + 1) else bif vin x2 6 then bif vin x1 6 then if (σ.1 44 (x1).toNatClampNeg) ≤ (σ.1 44 (x2).toNatClampNeg) then f_X0_cheapestTown_L4 n σ x1 (x2 + 1) else f_X0_cheapestTown_L4 n σ x2 (x2 + 1) else none else none else none else none
set_option maxHeartbeats 4000000 in
set_option maxRecDepth 100000 in
theorem s_X0_cheapestTown_L4 {Q : Option Value → hH → Prop} (g : hH) : ∀ (n : Nat) (σ : xS) (x1 : Int32) (x2 : Int32) (r : Int32), f_X0_cheapestTown_L4 n σ x1 x2 = some r → (J mX0_cheapestTown rX0_cheapestTown Q 0 0 (gx g σ) 68 [(1, .int r)] []) → J mX0_cheapestTown rX0_cheapestTown Q 0 0 (gx g σ) 4 [(0, .ref 15), (1, .int x1), (2, .int x2)] [] := by
  intro n
  induction n with
  | zero =>
    intro σ x1 x2 r hf
    cases hf
  | succ n ih =>
    intro σ x1 x2 r hf k0
    rw [f_X0_cheapestTown_L4] at hf
    refine j_iload_n (pc' := 5) rfl rfl rfl ?_
    refine j_bipush (v := 6) (pc' := 7) rfl rfl (by decide) ?_
    refine j_icmp_ge (tgt := 68) (pc' := 10) rfl rfl rfl (fun c7 => ?_) (fun c7 => ?_)
    · rw [if_pos c7] at hf
      have hf := Option.some.inj hf; subst hf
      exact j_sub (ls' := [(1, .int _)]) ⟨rfl, trivial⟩ (k0)
    · rw [if_neg c7] at hf
      refine j_aload_n (pc' := 11) rfl rfl rfl ?_
      refine j_get (pc' := 14) rfl rfl flX0_15 (gxk_15 g σ) (crF_1 σ) ?_
      refine j_iload_n (pc' := 15) rfl rfl rfl ?_
      obtain ⟨c15, hf⟩ := o_chk hf
      refine j_iald (pc' := 16) rfl rfl (gxk_17 g σ) (vin_ok c15) ?_
      refine j_if_le (tgt := 34) (pc' := 19) rfl rfl rfl (fun c16 => ?_) (fun c16 => ?_)
      · rw [if_pos c16] at hf
        refine j_iconst (v := 0) (pc' := 35) rfl rfl (by decide) ?_
        refine j_istore_n (pc' := 36) (ls' := [(3, _), (0, _), (1, _), (2, _)]) rfl rfl (Nat.le_of_ble_eq_true rfl) rfl ?_
        refine j_iload_n (pc' := 37) rfl rfl rfl ?_
        refine j_if_eq (tgt := 62) (pc' := 40) rfl rfl rfl (fun _ => ?_) (fun c37 => absurd c37 (by decide))
        refine j_iinc (pc' := 65) (d := 1) (ls' := [(2, _), (3, _), (0, _), (1, _)]) rfl rfl rfl (by decide) (Nat.le_of_ble_eq_true rfl) rfl ?_
        refine j_goto (tgt := 4) rfl rfl ?_
        refine j_sub (ls' := [(0, .ref 15), (1, .int _), (2, .int _)]) ⟨rfl, rfl, rfl, trivial⟩ ?_
        exact ih _ _ _ _ hf k0
      · rw [if_neg c16] at hf
        refine j_aload_n (pc' := 20) rfl rfl rfl ?_
        refine j_get (pc' := 23) rfl rfl flX0_24 (gxk_15 g σ) (crF_4 σ) ?_
        refine j_iload_n (pc' := 24) rfl rfl rfl ?_
        obtain ⟨c24, hf⟩ := o_chk hf
        refine j_iald (pc' := 25) rfl rfl (gxk_20 g σ) (vin_ok c24) ?_
        refine j_ldc (pc' := 27) rfl rfl kcX0_61 ?_
        refine j_icmp_ge (tgt := 34) (pc' := 30) rfl rfl rfl (fun c27 => ?_) (fun c27 => ?_)
        · rw [if_pos c27] at hf
          refine j_iconst (v := 0) (pc' := 35) rfl rfl (by decide) ?_
          refine j_istore_n (pc' := 36) (ls' := [(3, _), (0, _), (1, _), (2, _)]) rfl rfl (Nat.le_of_ble_eq_true rfl) rfl ?_
          refine j_iload_n (pc' := 37) rfl rfl rfl ?_
          refine j_if_eq (tgt := 62) (pc' := 40) rfl rfl rfl (fun _ => ?_) (fun c37 => absurd c37 (by decide))
          refine j_iinc (pc' := 65) (d := 1) (ls' := [(2, _), (3, _), (0, _), (1, _)]) rfl rfl rfl (by decide) (Nat.le_of_ble_eq_true rfl) rfl ?_
          refine j_goto (tgt := 4) rfl rfl ?_
          refine j_sub (ls' := [(0, .ref 15), (1, .int _), (2, .int _)]) ⟨rfl, rfl, rfl, trivial⟩ ?_
          exact ih _ _ _ _ hf k0
        · rw [if_neg c27] at hf
          refine j_iconst (v := 1) (pc' := 31) rfl rfl (by decide) ?_
          refine j_goto (tgt := 35) rfl rfl ?_
          refine j_istore_n (pc' := 36) (ls' := [(3, _), (0, _), (1, _), (2, _)]) rfl rfl (Nat.le_of_ble_eq_true rfl) rfl ?_
          refine j_iload_n (pc' := 37) rfl rfl rfl ?_
          refine j_if_eq (tgt := 62) (pc' := 40) rfl rfl rfl (fun c37 => absurd c37 (by decide)) (fun _ => ?_)
          refine j_iload_n (pc' := 41) rfl rfl rfl ?_
          refine j_iconst (v := (-1)) (pc' := 42) rfl rfl (by decide) ?_
          refine j_icmp_eq (tgt := 60) (pc' := 45) rfl rfl rfl (fun c42 => ?_) (fun c42 => ?_)
          · rw [if_pos c42] at hf
            refine j_iload_n (pc' := 61) rfl rfl rfl ?_
            refine j_istore_n (pc' := 62) (ls' := [(1, _), (3, _), (0, _), (2, _)]) rfl rfl (Nat.le_of_ble_eq_true rfl) rfl ?_
            refine j_iinc (pc' := 65) (d := 1) (ls' := [(2, _), (1, _), (3, _), (0, _)]) rfl rfl rfl (by decide) (Nat.le_of_ble_eq_true rfl) rfl ?_
            refine j_goto (tgt := 4) rfl rfl ?_
            refine j_sub (ls' := [(0, .ref 15), (1, .int _), (2, .int _)]) ⟨rfl, rfl, rfl, trivial⟩ ?_
            exact ih _ _ _ _ hf k0
          · rw [if_neg c42] at hf
            refine j_aload_n (pc' := 46) rfl rfl rfl ?_
            refine j_get (pc' := 49) rfl rfl flX0_24 (gxk_15 g σ) (crF_4 σ) ?_
            refine j_iload_n (pc' := 50) rfl rfl rfl ?_
            obtain ⟨c50, hf⟩ := o_chk hf
            refine j_iald (pc' := 51) rfl rfl (gxk_20 g σ) (vin_ok c50) ?_
            refine j_aload_n (pc' := 52) rfl rfl rfl ?_
            refine j_get (pc' := 55) rfl rfl flX0_24 (gxk_15 g σ) (crF_4 σ) ?_
            refine j_iload_n (pc' := 56) rfl rfl rfl ?_
            obtain ⟨c56, hf⟩ := o_chk hf
            refine j_iald (pc' := 57) rfl rfl (gxk_20 g σ) (vin_ok c56) ?_
            refine j_icmp_ge (tgt := 62) (pc' := 60) rfl rfl rfl (fun c57 => ?_) (fun c57 => ?_)
            · rw [if_pos c57] at hf
              refine j_iinc (pc' := 65) (d := 1) (ls' := [(2, _), (3, _), (0, _), (1, _)]) rfl rfl rfl (by decide) (Nat.le_of_ble_eq_true rfl) rfl ?_
              refine j_goto (tgt := 4) rfl rfl ?_
              refine j_sub (ls' := [(0, .ref 15), (1, .int _), (2, .int _)]) ⟨rfl, rfl, rfl, trivial⟩ ?_
              exact ih _ _ _ _ hf k0
            · rw [if_neg c57] at hf
              refine j_iload_n (pc' := 61) rfl rfl rfl ?_
              refine j_istore_n (pc' := 62) (ls' := [(1, _), (3, _), (0, _), (2, _)]) rfl rfl (Nat.le_of_ble_eq_true rfl) rfl ?_
              refine j_iinc (pc' := 65) (d := 1) (ls' := [(2, _), (1, _), (3, _), (0, _)]) rfl rfl rfl (by decide) (Nat.le_of_ble_eq_true rfl) rfl ?_
              refine j_goto (tgt := 4) rfl rfl ?_
              refine j_sub (ls' := [(0, .ref 15), (1, .int _), (2, .int _)]) ⟨rfl, rfl, rfl, trivial⟩ ?_
              exact ih _ _ _ _ hf k0
def f_X0_cheapestTown (σ : xS) : Option Int32 := (f_X0_cheapestTown_L4 4000 σ (-1) 0).bind fun r4 => some r4
set_option maxHeartbeats 4000000 in
set_option maxRecDepth 100000 in
theorem s_X0_cheapestTown (g : hH) (σ : xS) (r : Int32) (hf : f_X0_cheapestTown σ = some r) : SpD mX0_cheapestTown rX0_cheapestTown [.ref 15] (gx g σ) (some (.int r)) (gx g σ) := by
  refine sp_of miX0_cheapestTown (Nat.le_of_ble_eq_true rfl) ?_
  show J _ _ _ 0 0 _ 0 [(0, .ref 15)] []
  unfold f_X0_cheapestTown at hf
  refine j_iconst (v := (-1)) (pc' := 1) rfl rfl (by decide) ?_
  refine j_istore_n (pc' := 2) (ls' := [(1, _), (0, _)]) rfl rfl (Nat.le_of_ble_eq_true rfl) rfl ?_
  refine j_iconst (v := 0) (pc' := 3) rfl rfl (by decide) ?_
  refine j_istore_n (pc' := 4) (ls' := [(2, _), (1, _), (0, _)]) rfl rfl (Nat.le_of_ble_eq_true rfl) rfl ?_
  obtain ⟨r4, e4, hf⟩ := o_bind hf
  refine j_sub (ls' := [(0, .ref 15), (1, .int _), (2, .int _)]) ⟨rfl, rfl, rfl, trivial⟩ ?_
  refine s_X0_cheapestTown_L4 g _ _ _ _ _ e4 ?_
  refine j_iload_n (pc' := 69) rfl rfl rfl ?_
  have hf := Option.some.inj hf; subst hf
  exact j_iret rfl rfl (Nat.le_of_ble_eq_true rfl) (Nat.le_of_ble_eq_true rfl) ⟨rfl, rfl⟩
def rX0_roomOfWay : Room := { frames := 2, cells := 0, slots := 0, locals := 42 }
def f_X0_roomOfWay_L12 : Nat → xS → Int32 → Int32 → Int32 → Option (Nat × Int32 × Int32)
  | 0, _, _, _, _ => none
  | n + 1, σ, x2, x3, x4 => if 3 ≤ x4 then some (0, x2, 0) else bif vin x3 6 then (f_X6_isMint (σ.1 46 (x3).toNatClampNeg)).bind fun r28 => if r28 = 0 then some (1, x2, (σ.1 46 (x3).toNatClampNeg)) else bif vin (σ.1 46 (x3).toNatClampNeg) 3 then (f_X6_isTown (σ.1 45 ((σ.1 46 (x3).toNatClampNeg)).toNatClampNeg)).bind fun r43 => if r43 = 0 then some (2, x2, (σ.1 46 (x3).toNatClampNeg)) else bif vin (σ.1 46 (x3).toNatClampNeg) 3 then letm (σ.1 45 ((σ.1 46 (x3).toNatClampNeg)).toNatClampNeg) fun y68 => bif vin ((y68 * 3) + (σ.1 46 (x3).toNatClampNeg)) 18 then letm (if (σ.1 42 (((y68 * 3) + (σ.1 46 (x3).toNatClampNeg))).toNatClampNeg) < x2 then (σ.1 42 (((y68 * 3) + (σ.1 46 (x3).toNatClampNeg))).toNatClampNeg) else x2) fun y84 => f_X0_roomOfWay_L12 n σ y84 y68 (x4 + 1) else none else none else none else none
set_option maxHeartbeats 4000000 in
set_option maxRecDepth 100000 in
theorem s_X0_roomOfWay_L12 {Q : Option Value → hH → Prop} (g : hH) : ∀ (n : Nat) (σ : xS) (x2 : Int32) (x3 : Int32) (x4 : Int32) (r : Nat × Int32 × Int32), f_X0_roomOfWay_L12 n σ x2 x3 x4 = some r → (r.1 = 0 → J mX0_roomOfWay rX0_roomOfWay Q 0 0 (gx g σ) 91 [] []) → (r.1 = 1 → J mX0_roomOfWay rX0_roomOfWay Q 0 0 (gx g σ) 34 [] []) → (r.1 = 2 → J mX0_roomOfWay rX0_roomOfWay Q 0 0 (gx g σ) 49 [(0, .ref 15), (2, .int r.2.1), (5, .int r.2.2)] []) → J mX0_roomOfWay rX0_roomOfWay Q 0 0 (gx g σ) 12 [(0, .ref 15), (2, .int x2), (3, .int x3), (4, .int x4)] [] := by
  intro n
  induction n with
  | zero =>
    intro σ x2 x3 x4 r hf
    cases hf
  | succ n ih =>
    intro σ x2 x3 x4 r hf k0 k1 k2
    rw [f_X0_roomOfWay_L12] at hf
    refine j_iload (pc' := 14) rfl rfl rfl ?_
    refine j_iconst (v := 3) (pc' := 15) rfl rfl (by decide) ?_
    refine j_icmp_ge (tgt := 91) (pc' := 18) rfl rfl rfl (fun c15 => ?_) (fun c15 => ?_)
    · rw [if_pos c15] at hf
      have hf := Option.some.inj hf; subst hf
      exact j_sub (ls' := []) trivial (k0 rfl)
    · rw [if_neg c15] at hf
      refine j_aload_n (pc' := 19) rfl rfl rfl ?_
      refine j_get (pc' := 22) rfl rfl flX0_30 (gxk_15 g σ) (crF_6 σ) ?_
      refine j_iload_n (pc' := 23) rfl rfl rfl ?_
      obtain ⟨c23, hf⟩ := o_chk hf
      refine j_iald (pc' := 24) rfl rfl (gxk_22 g σ) (vin_ok c23) ?_
      refine j_istore (pc' := 26) (ls' := [(5, _), (0, _), (2, _), (3, _), (4, _)]) rfl rfl (Nat.le_of_ble_eq_true rfl) rfl ?_
      refine j_iload (pc' := 28) rfl rfl rfl ?_
      obtain ⟨r28, e28, hf⟩ := o_bind hf
      refine j_sn1 (pc' := 31) rfl rfl miX6_isMint lnX0_70 (s_X6_isMint (gx g σ) (σ.1 46 (x3).toNatClampNeg) _ e28) (h_rm_of rfl) (Nat.le_of_ble_eq_true rfl) (c' := 0) (s' := 0) rfl rfl ?_
      refine j_if_ne (tgt := 36) (pc' := 34) rfl rfl rfl (fun c31 => ?_) (fun c31 => ?_)
      · rw [if_neg c31] at hf
        refine j_aload_n (pc' := 37) rfl rfl rfl ?_
        refine j_get (pc' := 40) rfl rfl flX0_27 (gxk_15 g σ) (crF_5 σ) ?_
        refine j_iload (pc' := 42) rfl rfl rfl ?_
        obtain ⟨c42, hf⟩ := o_chk hf
        refine j_iald (pc' := 43) rfl rfl (gxk_21 g σ) (vin_ok c42) ?_
        obtain ⟨r43, e43, hf⟩ := o_bind hf
        refine j_sn1 (pc' := 46) rfl rfl miX6_isTown lnX0_74 (s_X6_isTown (gx g σ) (σ.1 45 ((σ.1 46 (x3).toNatClampNeg)).toNatClampNeg) _ e43) (h_rm_of rfl) (Nat.le_of_ble_eq_true rfl) (c' := 0) (s' := 0) rfl rfl ?_
        refine j_if_ne (tgt := 61) (pc' := 49) rfl rfl rfl (fun c46 => ?_) (fun c46 => ?_)
        · rw [if_neg c46] at hf
          refine j_aload_n (pc' := 62) rfl rfl rfl ?_
          refine j_get (pc' := 65) rfl rfl flX0_27 (gxk_15 g σ) (crF_5 σ) ?_
          refine j_iload (pc' := 67) rfl rfl rfl ?_
          obtain ⟨c67, hf⟩ := o_chk hf
          refine j_iald (pc' := 68) rfl rfl (gxk_21 g σ) (vin_ok c67) ?_
          obtain ⟨y68, e68, hf⟩ := o_let hf
          rw [e68]
          refine j_istore_n (pc' := 69) (ls' := [(3, _), (5, _), (0, _), (2, _), (4, _)]) rfl rfl (Nat.le_of_ble_eq_true rfl) rfl ?_
          refine j_iload_n (pc' := 70) rfl rfl rfl ?_
          refine j_aload_n (pc' := 71) rfl rfl rfl ?_
          refine j_get (pc' := 74) rfl rfl flX0_18 (gxk_15 g σ) (crF_2 σ) ?_
          refine j_iload_n (pc' := 75) rfl rfl rfl ?_
          refine j_iconst (v := 3) (pc' := 76) rfl rfl (by decide) ?_
          refine j_imul (pc' := 77) rfl rfl ?_
          refine j_iload (pc' := 79) rfl rfl rfl ?_
          refine j_iadd (pc' := 80) rfl rfl ?_
          obtain ⟨c80, hf⟩ := o_chk hf
          refine j_iald (pc' := 81) rfl rfl (gxk_18 g σ) (vin_ok c80) ?_
          refine j_mmin (pc' := 84) rfl rfl kjX0_77 kj_min_s kj_math kj_min_c ⟨(Nat.le_of_ble_eq_true rfl), (Nat.le_of_ble_eq_true rfl)⟩ (Nat.le_of_ble_eq_true rfl) (Nat.le_of_ble_eq_true rfl) ?_
          obtain ⟨y84, e84, hf⟩ := o_let hf
          rw [e84]
          refine j_istore_n (pc' := 85) (ls' := [(2, _), (3, _), (5, _), (0, _), (4, _)]) rfl rfl (Nat.le_of_ble_eq_true rfl) rfl ?_
          refine j_iinc (pc' := 88) (d := 1) (ls' := [(4, _), (2, _), (3, _), (5, _), (0, _)]) rfl rfl rfl (by decide) (Nat.le_of_ble_eq_true rfl) rfl ?_
          refine j_goto (tgt := 12) rfl rfl ?_
          refine j_sub (ls' := [(0, .ref 15), (2, .int _), (3, .int _), (4, .int _)]) ⟨rfl, rfl, rfl, rfl, trivial⟩ ?_
          exact ih _ _ _ _ _ hf k0 k1 k2
        · rw [if_pos c46] at hf
          have hf := Option.some.inj hf; subst hf
          exact j_sub (ls' := [(0, .ref 15), (2, .int _), (5, .int _)]) ⟨rfl, rfl, rfl, trivial⟩ (k2 rfl)
      · rw [if_pos c31] at hf
        have hf := Option.some.inj hf; subst hf
        exact j_sub (ls' := []) trivial (k1 rfl)
def f_X0_roomOfWay (σ : xS) (x1 : Int32) : Option Int32 := bif vin x1 6 then (f_X0_roomOfWay_L12 4000 σ (σ.1 41 (x1).toNatClampNeg) x1 0).bind fun r12 => if r12.1 = 0 then some 0 else if r12.1 = 1 then some 0 else if r12.1 = 2 then bif vin r12.2.2 3 then some (if (σ.1 40 (r12.2.2).toNatClampNeg) < r12.2.1 then (σ.1 40 (r12.2.2).toNatClampNeg) else r12.2.1) else none else none else none
set_option maxHeartbeats 4000000 in
set_option maxRecDepth 100000 in
theorem s_X0_roomOfWay (g : hH) (σ : xS) (x1 : Int32) (r : Int32) (hf : f_X0_roomOfWay σ x1 = some r) : SpD mX0_roomOfWay rX0_roomOfWay [.ref 15, .int x1] (gx g σ) (some (.int r)) (gx g σ) := by
  refine sp_of miX0_roomOfWay (Nat.le_of_ble_eq_true rfl) ?_
  show J _ _ _ 0 0 _ 0 [(0, .ref 15), (1, .int x1)] []
  unfold f_X0_roomOfWay at hf
  refine j_aload_n (pc' := 1) rfl rfl rfl ?_
  refine j_get (pc' := 4) rfl rfl flX0_15 (gxk_15 g σ) (crF_1 σ) ?_
  refine j_iload_n (pc' := 5) rfl rfl rfl ?_
  obtain ⟨c5, hf⟩ := o_chk hf
  refine j_iald (pc' := 6) rfl rfl (gxk_17 g σ) (vin_ok c5) ?_
  refine j_istore_n (pc' := 7) (ls' := [(2, _), (0, _), (1, _)]) rfl rfl (Nat.le_of_ble_eq_true rfl) rfl ?_
  refine j_iload_n (pc' := 8) rfl rfl rfl ?_
  refine j_istore_n (pc' := 9) (ls' := [(3, _), (2, _), (0, _), (1, _)]) rfl rfl (Nat.le_of_ble_eq_true rfl) rfl ?_
  refine j_iconst (v := 0) (pc' := 10) rfl rfl (by decide) ?_
  refine j_istore (pc' := 12) (ls' := [(4, _), (3, _), (2, _), (0, _), (1, _)]) rfl rfl (Nat.le_of_ble_eq_true rfl) rfl ?_
  obtain ⟨r12, e12, hf⟩ := o_bind hf
  refine j_sub (ls' := [(0, .ref 15), (2, .int _), (3, .int _), (4, .int _)]) ⟨rfl, rfl, rfl, rfl, trivial⟩ ?_
  refine s_X0_roomOfWay_L12 g _ _ _ _ _ _ e12 (fun t12 => ?_) (fun t12 => ?_) (fun t12 => ?_)
  · rw [if_pos t12] at hf
    refine j_iconst (v := 0) (pc' := 92) rfl rfl (by decide) ?_
    have hf := Option.some.inj hf; subst hf
    exact j_iret rfl rfl (Nat.le_of_ble_eq_true rfl) (Nat.le_of_ble_eq_true rfl) ⟨rfl, rfl⟩
  · rw [if_neg (by rw [t12]; decide)] at hf
    rw [if_pos t12] at hf
    refine j_iconst (v := 0) (pc' := 35) rfl rfl (by decide) ?_
    have hf := Option.some.inj hf; subst hf
    exact j_iret rfl rfl (Nat.le_of_ble_eq_true rfl) (Nat.le_of_ble_eq_true rfl) ⟨rfl, rfl⟩
  · rw [if_neg (by rw [t12]; decide)] at hf
    rw [if_neg (by rw [t12]; decide)] at hf
    rw [if_pos t12] at hf
    refine j_iload_n (pc' := 50) rfl rfl rfl ?_
    refine j_aload_n (pc' := 51) rfl rfl rfl ?_
    refine j_get (pc' := 54) rfl rfl flX0_9 (gxk_15 g σ) (crF_0 σ) ?_
    refine j_iload (pc' := 56) rfl rfl rfl ?_
    obtain ⟨c56, hf⟩ := o_chk hf
    refine j_iald (pc' := 57) rfl rfl (gxk_16 g σ) (vin_ok c56) ?_
    refine j_mmin (pc' := 60) rfl rfl kjX0_77 kj_min_s kj_math kj_min_c ⟨(Nat.le_of_ble_eq_true rfl), (Nat.le_of_ble_eq_true rfl)⟩ (Nat.le_of_ble_eq_true rfl) (Nat.le_of_ble_eq_true rfl) ?_
    have hf := Option.some.inj hf; subst hf
    exact j_iret rfl rfl (Nat.le_of_ble_eq_true rfl) (Nat.le_of_ble_eq_true rfl) ⟨rfl, rfl⟩
def rX0_carry : Room := { frames := 2, cells := 0, slots := 0, locals := 42 }
def f_X0_carry_L15 : Nat → xS → Int32 → Int32 → Int32 → Option (Nat × Int32 × xS)
  | 0, _, _, _, _ => none
  | n + 1, σ, x2, x3, x4 => if 3 ≤ x4 then some (0, 0, σ) else bif vin x3 6 then (f_X6_isMint (σ.1 46 (x3).toNatClampNeg)).bind fun r31 => if r31 = 0 then some (1, (σ.1 46 (x3).toNatClampNeg), σ) else bif vin ((x3 * 3) + (σ.1 46 (x3).toNatClampNeg)) 18 then bif vin ((x3 * 3) + (σ.1 46 (x3).toNatClampNeg)) 18 then letm (xi σ 42 (va_up (σ.1 42) (((x3 * 3) + (σ.1 46 (x3).toNatClampNeg))).toNatClampNeg ((σ.1 42 (((x3 * 3) + (σ.1 46 (x3).toNatClampNeg))).toNatClampNeg) + x2))) fun σ52 => bif vin (σ.1 46 (x3).toNatClampNeg) 3 then (f_X6_isTown (σ52.1 45 ((σ.1 46 (x3).toNatClampNeg)).toNatClampNeg)).bind fun r60 => if r60 = 0 then some (2, (σ.1 46 (x3).toNatClampNeg), σ52) else bif vin (σ.1 46 (x3).toNatClampNeg) 3 then letm (σ52.1 45 ((σ.1 46 (x3).toNatClampNeg)).toNatClampNeg) fun y85 => bif vin ((y85 * 3) + (σ.1 46 (x3).toNatClampNeg)) 18 then bif vin ((y85 * 3) + (σ.1 46 (x3).toNatClampNeg)) 18 then letm (xi σ52 42 (va_up (σ52.1 42) (((y85 * 3) + (σ.1 46 (x3).toNatClampNeg))).toNatClampNeg ((σ52.1 42 (((y85 * 3) + (σ.1 46 (x3).toNatClampNeg))).toNatClampNeg) - x2))) fun σ100 => f_X0_carry_L15 n σ100 x2 y85 (x4 + 1) else none else none else none else none else none else none else none
set_option maxHeartbeats 4000000 in
set_option maxRecDepth 100000 in
theorem s_X0_carry_L15 {Q : Option Value → hH → Prop} (g : hH) : ∀ (n : Nat) (σ : xS) (x2 : Int32) (x3 : Int32) (x4 : Int32) (r : Nat × Int32 × xS), f_X0_carry_L15 n σ x2 x3 x4 = some r → (r.1 = 0 → J mX0_carry rX0_carry Q 0 0 (gx g r.2.2) 107 [] []) → (r.1 = 1 → J mX0_carry rX0_carry Q 0 0 (gx g r.2.2) 37 [] []) → (r.1 = 2 → J mX0_carry rX0_carry Q 0 0 (gx g r.2.2) 66 [(0, .ref 15), (2, .int x2), (5, .int r.2.1)] []) → J mX0_carry rX0_carry Q 0 0 (gx g σ) 15 [(0, .ref 15), (2, .int x2), (3, .int x3), (4, .int x4)] [] := by
  intro n
  induction n with
  | zero =>
    intro σ x2 x3 x4 r hf
    cases hf
  | succ n ih =>
    intro σ x2 x3 x4 r hf k0 k1 k2
    rw [f_X0_carry_L15] at hf
    refine j_iload (pc' := 17) rfl rfl rfl ?_
    refine j_iconst (v := 3) (pc' := 18) rfl rfl (by decide) ?_
    refine j_icmp_ge (tgt := 107) (pc' := 21) rfl rfl rfl (fun c18 => ?_) (fun c18 => ?_)
    · rw [if_pos c18] at hf
      have hf := Option.some.inj hf; subst hf
      exact j_sub (ls' := []) trivial (k0 rfl)
    · rw [if_neg c18] at hf
      refine j_aload_n (pc' := 22) rfl rfl rfl ?_
      refine j_get (pc' := 25) rfl rfl flX0_30 (gxk_15 g σ) (crF_6 σ) ?_
      refine j_iload_n (pc' := 26) rfl rfl rfl ?_
      obtain ⟨c26, hf⟩ := o_chk hf
      refine j_iald (pc' := 27) rfl rfl (gxk_22 g σ) (vin_ok c26) ?_
      refine j_istore (pc' := 29) (ls' := [(5, _), (0, _), (2, _), (3, _), (4, _)]) rfl rfl (Nat.le_of_ble_eq_true rfl) rfl ?_
      refine j_iload (pc' := 31) rfl rfl rfl ?_
      obtain ⟨r31, e31, hf⟩ := o_bind hf
      refine j_sn1 (pc' := 34) rfl rfl miX6_isMint lnX0_70 (s_X6_isMint (gx g σ) (σ.1 46 (x3).toNatClampNeg) _ e31) (h_rm_of rfl) (Nat.le_of_ble_eq_true rfl) (c' := 0) (s' := 0) rfl rfl ?_
      refine j_if_ne (tgt := 38) (pc' := 37) rfl rfl rfl (fun c34 => ?_) (fun c34 => ?_)
      · rw [if_neg c34] at hf
        refine j_aload_n (pc' := 39) rfl rfl rfl ?_
        refine j_get (pc' := 42) rfl rfl flX0_18 (gxk_15 g σ) (crF_2 σ) ?_
        refine j_iload_n (pc' := 43) rfl rfl rfl ?_
        refine j_iconst (v := 3) (pc' := 44) rfl rfl (by decide) ?_
        refine j_imul (pc' := 45) rfl rfl ?_
        refine j_iload (pc' := 47) rfl rfl rfl ?_
        refine j_iadd (pc' := 48) rfl rfl ?_
        refine j_dup2_11 (pc' := 49) rfl rfl rfl rfl ?_
        obtain ⟨c49, hf⟩ := o_chk hf
        refine j_iald (pc' := 50) rfl rfl (gxk_18 g σ) (vin_ok c49) ?_
        refine j_iload_n (pc' := 51) rfl rfl rfl ?_
        refine j_iadd (pc' := 52) rfl rfl ?_
        obtain ⟨c52, hf⟩ := o_chk hf
        obtain ⟨σ52, e52, hf⟩ := o_let hf
        refine j_iast (pc' := 53) rfl rfl (gxk_18 g σ) (by decide) (vin_ok c52) ?_
        rw [gxs_18]; rw [e52]
        refine j_aload_n (pc' := 54) rfl rfl rfl ?_
        refine j_get (pc' := 57) rfl rfl flX0_27 (gxk_15 g σ52) (crF_5 σ52) ?_
        refine j_iload (pc' := 59) rfl rfl rfl ?_
        obtain ⟨c59, hf⟩ := o_chk hf
        refine j_iald (pc' := 60) rfl rfl (gxk_21 g σ52) (vin_ok c59) ?_
        obtain ⟨r60, e60, hf⟩ := o_bind hf
        refine j_sn1 (pc' := 63) rfl rfl miX6_isTown lnX0_74 (s_X6_isTown (gx g σ52) (σ52.1 45 ((σ.1 46 (x3).toNatClampNeg)).toNatClampNeg) _ e60) (h_rm_of rfl) (Nat.le_of_ble_eq_true rfl) (c' := 0) (s' := 0) rfl rfl ?_
        refine j_if_ne (tgt := 78) (pc' := 66) rfl rfl rfl (fun c63 => ?_) (fun c63 => ?_)
        · rw [if_neg c63] at hf
          refine j_aload_n (pc' := 79) rfl rfl rfl ?_
          refine j_get (pc' := 82) rfl rfl flX0_27 (gxk_15 g σ52) (crF_5 σ52) ?_
          refine j_iload (pc' := 84) rfl rfl rfl ?_
          obtain ⟨c84, hf⟩ := o_chk hf
          refine j_iald (pc' := 85) rfl rfl (gxk_21 g σ52) (vin_ok c84) ?_
          obtain ⟨y85, e85, hf⟩ := o_let hf
          rw [e85]
          refine j_istore_n (pc' := 86) (ls' := [(3, _), (5, _), (0, _), (2, _), (4, _)]) rfl rfl (Nat.le_of_ble_eq_true rfl) rfl ?_
          refine j_aload_n (pc' := 87) rfl rfl rfl ?_
          refine j_get (pc' := 90) rfl rfl flX0_18 (gxk_15 g σ52) (crF_2 σ52) ?_
          refine j_iload_n (pc' := 91) rfl rfl rfl ?_
          refine j_iconst (v := 3) (pc' := 92) rfl rfl (by decide) ?_
          refine j_imul (pc' := 93) rfl rfl ?_
          refine j_iload (pc' := 95) rfl rfl rfl ?_
          refine j_iadd (pc' := 96) rfl rfl ?_
          refine j_dup2_11 (pc' := 97) rfl rfl rfl rfl ?_
          obtain ⟨c97, hf⟩ := o_chk hf
          refine j_iald (pc' := 98) rfl rfl (gxk_18 g σ52) (vin_ok c97) ?_
          refine j_iload_n (pc' := 99) rfl rfl rfl ?_
          refine j_isub (pc' := 100) rfl rfl ?_
          obtain ⟨c100, hf⟩ := o_chk hf
          obtain ⟨σ100, e100, hf⟩ := o_let hf
          refine j_iast (pc' := 101) rfl rfl (gxk_18 g σ52) (by decide) (vin_ok c100) ?_
          rw [gxs_18]; rw [e100]
          refine j_iinc (pc' := 104) (d := 1) (ls' := [(4, _), (3, _), (5, _), (0, _), (2, _)]) rfl rfl rfl (by decide) (Nat.le_of_ble_eq_true rfl) rfl ?_
          refine j_goto (tgt := 15) rfl rfl ?_
          refine j_sub (ls' := [(0, .ref 15), (2, .int _), (3, .int _), (4, .int _)]) ⟨rfl, rfl, rfl, rfl, trivial⟩ ?_
          exact ih _ _ _ _ _ hf k0 k1 k2
        · rw [if_pos c63] at hf
          have hf := Option.some.inj hf; subst hf
          exact j_sub (ls' := [(0, .ref 15), (2, .int _), (5, .int _)]) ⟨rfl, rfl, rfl, trivial⟩ (k2 rfl)
      · rw [if_pos c34] at hf
        have hf := Option.some.inj hf; subst hf
        exact j_sub (ls' := []) trivial (k1 rfl)
def f_X0_carry (σ : xS) (x1 : Int32) (x2 : Int32) : Option xS := bif vin x1 6 then bif vin x1 6 then letm (xi σ 41 (va_up (σ.1 41) (x1).toNatClampNeg ((σ.1 41 (x1).toNatClampNeg) - x2))) fun σ9 => (f_X0_carry_L15 4000 σ9 x2 x1 0).bind fun r15 => if r15.1 = 0 then some r15.2.2 else if r15.1 = 1 then some r15.2.2 else if r15.1 = 2 then bif vin r15.2.1 3 then bif vin r15.2.1 3 then letm (xi r15.2.2 40 (va_up (r15.2.2.1 40) (r15.2.1).toNatClampNeg ((r15.2.2.1 40 (r15.2.1).toNatClampNeg) - x2))) fun σ76 => some σ76 else none else none else none else none else none
set_option maxHeartbeats 4000000 in
set_option maxRecDepth 100000 in
theorem s_X0_carry (g : hH) (σ : xS) (x1 : Int32) (x2 : Int32) (r : xS) (hf : f_X0_carry σ x1 x2 = some r) : SpD mX0_carry rX0_carry [.ref 15, .int x1, .int x2] (gx g σ) (none) (gx g r) := by
  refine sp_of miX0_carry (Nat.le_of_ble_eq_true rfl) ?_
  show J _ _ _ 0 0 _ 0 [(0, .ref 15), (1, .int x1), (2, .int x2)] []
  unfold f_X0_carry at hf
  refine j_aload_n (pc' := 1) rfl rfl rfl ?_
  refine j_get (pc' := 4) rfl rfl flX0_15 (gxk_15 g σ) (crF_1 σ) ?_
  refine j_iload_n (pc' := 5) rfl rfl rfl ?_
  refine j_dup2_11 (pc' := 6) rfl rfl rfl rfl ?_
  obtain ⟨c6, hf⟩ := o_chk hf
  refine j_iald (pc' := 7) rfl rfl (gxk_17 g σ) (vin_ok c6) ?_
  refine j_iload_n (pc' := 8) rfl rfl rfl ?_
  refine j_isub (pc' := 9) rfl rfl ?_
  obtain ⟨c9, hf⟩ := o_chk hf
  obtain ⟨σ9, e9, hf⟩ := o_let hf
  refine j_iast (pc' := 10) rfl rfl (gxk_17 g σ) (by decide) (vin_ok c9) ?_
  rw [gxs_17]; rw [e9]
  refine j_iload_n (pc' := 11) rfl rfl rfl ?_
  refine j_istore_n (pc' := 12) (ls' := [(3, _), (0, _), (1, _), (2, _)]) rfl rfl (Nat.le_of_ble_eq_true rfl) rfl ?_
  refine j_iconst (v := 0) (pc' := 13) rfl rfl (by decide) ?_
  refine j_istore (pc' := 15) (ls' := [(4, _), (3, _), (0, _), (1, _), (2, _)]) rfl rfl (Nat.le_of_ble_eq_true rfl) rfl ?_
  obtain ⟨r15, e15, hf⟩ := o_bind hf
  refine j_sub (ls' := [(0, .ref 15), (2, .int _), (3, .int _), (4, .int _)]) ⟨rfl, rfl, rfl, rfl, trivial⟩ ?_
  refine s_X0_carry_L15 g _ _ _ _ _ _ e15 (fun t15 => ?_) (fun t15 => ?_) (fun t15 => ?_)
  · rw [if_pos t15] at hf
    have hf := Option.some.inj hf; subst hf
    exact j_vret rfl rfl (Nat.le_of_ble_eq_true rfl) (Nat.le_of_ble_eq_true rfl) ⟨rfl, rfl⟩
  · rw [if_neg (by rw [t15]; decide)] at hf
    rw [if_pos t15] at hf
    have hf := Option.some.inj hf; subst hf
    exact j_vret rfl rfl (Nat.le_of_ble_eq_true rfl) (Nat.le_of_ble_eq_true rfl) ⟨rfl, rfl⟩
  · rw [if_neg (by rw [t15]; decide)] at hf
    rw [if_neg (by rw [t15]; decide)] at hf
    rw [if_pos t15] at hf
    refine j_aload_n (pc' := 67) rfl rfl rfl ?_
    refine j_get (pc' := 70) rfl rfl flX0_9 (gxk_15 g r15.2.2) (crF_0 r15.2.2) ?_
    refine j_iload (pc' := 72) rfl rfl rfl ?_
    refine j_dup2_11 (pc' := 73) rfl rfl rfl rfl ?_
    obtain ⟨c73, hf⟩ := o_chk hf
    refine j_iald (pc' := 74) rfl rfl (gxk_16 g r15.2.2) (vin_ok c73) ?_
    refine j_iload_n (pc' := 75) rfl rfl rfl ?_
    refine j_isub (pc' := 76) rfl rfl ?_
    obtain ⟨c76, hf⟩ := o_chk hf
    obtain ⟨σ76, e76, hf⟩ := o_let hf
    refine j_iast (pc' := 77) rfl rfl (gxk_16 g r15.2.2) (by decide) (vin_ok c76) ?_
    rw [gxs_16]; rw [e76]
    have hf := Option.some.inj hf; subst hf
    exact j_vret rfl rfl (Nat.le_of_ble_eq_true rfl) (Nat.le_of_ble_eq_true rfl) ⟨rfl, rfl⟩
def rX0_leastCost__9_10_5 : Room := { frames := 3, cells := 0, slots := 0, locals := 67 }
def f_X0_leastCost__9_10_5_L37 : Nat → xS → Int32 → Int32 → Option (Nat × Int32 × xS)
  | 0, _, _, _ => none
  | n + 1, σ, x4, x5 => if 3000 ≤ x5 then some (0, x4, σ) else (f_X0_findWays__5 σ).bind fun r47 => (f_X0_cheapestTown r47).bind fun r51 => if r51 = (-1) then some (1, x4, r47) else (f_X0_roomOfWay r47 r51).bind fun r68 => bif vin r51 6 then letm (x4 + (r68 * (r47.1 44 (r51).toNatClampNeg))) fun y86 => (f_X0_carry r47 r51 r68).bind fun r93 => f_X0_leastCost__9_10_5_L37 n r93 y86 (x5 + 1) else none
set_option maxHeartbeats 4000000 in
set_option maxRecDepth 100000 in
theorem s_X0_leastCost__9_10_5_L37 {Q : Option Value → hH → Prop} (g : hH) : ∀ (n : Nat) (σ : xS) (x4 : Int32) (x5 : Int32) (r : Nat × Int32 × xS), f_X0_leastCost__9_10_5_L37 n σ x4 x5 = some r → (r.1 = 0 → J mX0_leastCost rX0_leastCost__9_10_5 Q 0 0 (gx g r.2.2) 102 [(4, .int r.2.1)] []) → (r.1 = 1 → J mX0_leastCost rX0_leastCost__9_10_5 Q 0 0 (gx g r.2.2) 62 [(4, .int r.2.1)] []) → J mX0_leastCost rX0_leastCost__9_10_5 Q 0 0 (gx g σ) 37 [(0, .ref 15), (3, .ref 5), (4, .int x4), (5, .int x5)] [] := by
  intro n
  induction n with
  | zero =>
    intro σ x4 x5 r hf
    cases hf
  | succ n ih =>
    intro σ x4 x5 r hf k0 k1
    rw [f_X0_leastCost__9_10_5_L37] at hf
    refine j_iload (pc' := 39) rfl rfl rfl ?_
    refine j_sipush (v := 3000) (pc' := 42) rfl rfl (by decide) ?_
    refine j_icmp_ge (tgt := 102) (pc' := 45) rfl rfl rfl (fun c42 => ?_) (fun c42 => ?_)
    · rw [if_pos c42] at hf
      have hf := Option.some.inj hf; subst hf
      exact j_sub (ls' := [(4, .int _)]) ⟨rfl, trivial⟩ (k0 rfl)
    · rw [if_neg c42] at hf
      refine j_aload_n (pc' := 46) rfl rfl rfl ?_
      refine j_aload_n (pc' := 47) rfl rfl rfl ?_
      obtain ⟨r47, e47, hf⟩ := o_bind hf
      refine j_vw1 (pc' := 50) rfl rfl miX0_findWays lnX0_45 (gxk_15 g σ) rfl (s_X0_findWays__5 g σ _ e47) (h_rm_of rfl) (Nat.le_of_ble_eq_true rfl) (c' := 0) (s' := 0) rfl rfl ?_
      refine j_aload_n (pc' := 51) rfl rfl rfl ?_
      obtain ⟨r51, e51, hf⟩ := o_bind hf
      refine j_v0 (pc' := 54) rfl rfl miX0_cheapestTown lnX0_49 (gxk_15 g r47) rfl (s_X0_cheapestTown g r47 _ e51) (h_rm_of rfl) (Nat.le_of_ble_eq_true rfl) (c' := 0) (s' := 0) rfl rfl ?_
      refine j_istore (pc' := 56) (ls' := [(6, _), (0, _), (3, _), (4, _), (5, _)]) rfl rfl (Nat.le_of_ble_eq_true rfl) rfl ?_
      refine j_iload (pc' := 58) rfl rfl rfl ?_
      refine j_iconst (v := (-1)) (pc' := 59) rfl rfl (by decide) ?_
      refine j_icmp_ne (tgt := 65) (pc' := 62) rfl rfl rfl (fun c59 => ?_) (fun c59 => ?_)
      · rw [if_neg c59] at hf
        refine j_aload_n (pc' := 66) rfl rfl rfl ?_
        refine j_iload (pc' := 68) rfl rfl rfl ?_
        obtain ⟨r68, e68, hf⟩ := o_bind hf
        refine j_v1 (pc' := 71) rfl rfl miX0_roomOfWay lnX0_53 (gxk_15 g r47) rfl (s_X0_roomOfWay g r47 r51 _ e68) (h_rm_of rfl) (Nat.le_of_ble_eq_true rfl) (c' := 0) (s' := 0) rfl rfl ?_
        refine j_istore (pc' := 73) (ls' := [(7, _), (6, _), (0, _), (3, _), (4, _), (5, _)]) rfl rfl (Nat.le_of_ble_eq_true rfl) rfl ?_
        refine j_iload (pc' := 75) rfl rfl rfl ?_
        refine j_iload (pc' := 77) rfl rfl rfl ?_
        refine j_aload_n (pc' := 78) rfl rfl rfl ?_
        refine j_get (pc' := 81) rfl rfl flX0_24 (gxk_15 g r47) (crF_4 r47) ?_
        refine j_iload (pc' := 83) rfl rfl rfl ?_
        obtain ⟨c83, hf⟩ := o_chk hf
        refine j_iald (pc' := 84) rfl rfl (gxk_20 g r47) (vin_ok c83) ?_
        refine j_imul (pc' := 85) rfl rfl ?_
        refine j_iadd (pc' := 86) rfl rfl ?_
        obtain ⟨y86, e86, hf⟩ := o_let hf
        rw [e86]
        refine j_istore (pc' := 88) (ls' := [(4, _), (7, _), (6, _), (0, _), (3, _), (5, _)]) rfl rfl (Nat.le_of_ble_eq_true rfl) rfl ?_
        refine j_aload_n (pc' := 89) rfl rfl rfl ?_
        refine j_iload (pc' := 91) rfl rfl rfl ?_
        refine j_iload (pc' := 93) rfl rfl rfl ?_
        obtain ⟨r93, e93, hf⟩ := o_bind hf
        refine j_vw2 (pc' := 96) rfl rfl miX0_carry lnX0_57 (gxk_15 g r47) rfl (s_X0_carry g r47 r51 r68 _ e93) (h_rm_of rfl) (Nat.le_of_ble_eq_true rfl) (c' := 0) (s' := 0) rfl rfl ?_
        refine j_iinc (pc' := 99) (d := 1) (ls' := [(5, _), (4, _), (7, _), (6, _), (0, _), (3, _)]) rfl rfl rfl (by decide) (Nat.le_of_ble_eq_true rfl) rfl ?_
        refine j_goto (tgt := 37) rfl rfl ?_
        refine j_sub (ls' := [(0, .ref 15), (3, .ref 5), (4, .int _), (5, .int _)]) ⟨rfl, rfl, rfl, rfl, trivial⟩ ?_
        exact ih _ _ _ _ hf k0 k1
      · rw [if_pos c59] at hf
        have hf := Option.some.inj hf; subst hf
        exact j_sub (ls' := [(4, .int _)]) ⟨rfl, trivial⟩ (k1 rfl)
def f_X0_leastCost__9_10_5 (σ : xS) : Option (Int32 × xS) := letm (xi σ 40 (va_cpy (σ.1 13) (σ.1 40) 0 0 3)) fun σ8 => letm (xi σ8 41 (va_cpy (σ8.1 14) (σ8.1 41) 0 0 6)) fun σ20 => letm (xi σ20 42 (fillf 18 0 (σ20.1 42))) fun σ28 => (f_X0_leastCost__9_10_5_L37 4000 σ28 0 0).bind fun r37 => if r37.1 = 0 then some (r37.2.1, r37.2.2) else if r37.1 = 1 then some (r37.2.1, r37.2.2) else none
set_option maxHeartbeats 4000000 in
set_option maxRecDepth 100000 in
theorem s_X0_leastCost__9_10_5 (g : hH) (σ : xS) (r : (Int32 × xS)) (hf : f_X0_leastCost__9_10_5 σ = some r) : SpD mX0_leastCost rX0_leastCost__9_10_5 [.ref 15, .ref 9, .ref 10, .ref 5] (gx g σ) (some (.int r.1)) (gx g r.2) := by
  refine sp_of miX0_leastCost (Nat.le_of_ble_eq_true rfl) ?_
  show J _ _ _ 0 0 _ 0 [(0, .ref 15), (1, .ref 9), (2, .ref 10), (3, .ref 5)] []
  unfold f_X0_leastCost__9_10_5 at hf
  refine j_aload_n (pc' := 1) rfl rfl rfl ?_
  refine j_iconst (v := 0) (pc' := 2) rfl rfl (by decide) ?_
  refine j_aload_n (pc' := 3) rfl rfl rfl ?_
  refine j_get (pc' := 6) rfl rfl flX0_9 (gxk_15 g σ) (crF_0 σ) ?_
  refine j_iconst (v := 0) (pc' := 7) rfl rfl (by decide) ?_
  refine j_iconst (v := 3) (pc' := 8) rfl rfl (by decide) ?_
  obtain ⟨σ8, e8, hf⟩ := o_let hf
  refine j_copyi (pc' := 11) rfl rfl kjX0_33 kj_cp_n kj_cp_s kj_sys (gxk_9 g σ) (gxk_16 g σ) (by decide) (by decide) (by decide) (by decide) (by decide) (by decide) ⟨(Nat.le_of_ble_eq_true rfl), (Nat.le_of_ble_eq_true rfl)⟩ ?_
  rw [show (0 : Int32).toNatClampNeg = 0 from rfl, show (3 : Int32).toNatClampNeg = 3 from rfl, gxs_16]; rw [e8]
  refine j_aload_n (pc' := 12) rfl rfl rfl ?_
  refine j_iconst (v := 0) (pc' := 13) rfl rfl (by decide) ?_
  refine j_aload_n (pc' := 14) rfl rfl rfl ?_
  refine j_get (pc' := 17) rfl rfl flX0_15 (gxk_15 g σ8) (crF_1 σ8) ?_
  refine j_iconst (v := 0) (pc' := 18) rfl rfl (by decide) ?_
  refine j_bipush (v := 6) (pc' := 20) rfl rfl (by decide) ?_
  obtain ⟨σ20, e20, hf⟩ := o_let hf
  refine j_copyi (pc' := 23) rfl rfl kjX0_33 kj_cp_n kj_cp_s kj_sys (gxk_10 g σ8) (gxk_17 g σ8) (by decide) (by decide) (by decide) (by decide) (by decide) (by decide) ⟨(Nat.le_of_ble_eq_true rfl), (Nat.le_of_ble_eq_true rfl)⟩ ?_
  rw [show (0 : Int32).toNatClampNeg = 0 from rfl, show (6 : Int32).toNatClampNeg = 6 from rfl, gxs_17]; rw [e20]
  refine j_aload_n (pc' := 24) rfl rfl rfl ?_
  refine j_get (pc' := 27) rfl rfl flX0_18 (gxk_15 g σ20) (crF_2 σ20) ?_
  refine j_iconst (v := 0) (pc' := 28) rfl rfl (by decide) ?_
  obtain ⟨σ28, e28, hf⟩ := o_let hf
  refine j_sw2 (pc' := 31) rfl rfl miJ7_fill_53178 lnX0_39 (s_fill (gxk_18 g σ20) (by decide) (by decide) 0) (h_rm_of rfl) (Nat.le_of_ble_eq_true rfl) (c' := 0) (s' := 0) rfl rfl ?_
  rw [gxs_18]; rw [e28]
  refine j_iconst (v := 0) (pc' := 32) rfl rfl (by decide) ?_
  refine j_istore (pc' := 34) (ls' := [(4, _), (0, _), (1, _), (2, _), (3, _)]) rfl rfl (Nat.le_of_ble_eq_true rfl) rfl ?_
  refine j_iconst (v := 0) (pc' := 35) rfl rfl (by decide) ?_
  refine j_istore (pc' := 37) (ls' := [(5, _), (4, _), (0, _), (1, _), (2, _), (3, _)]) rfl rfl (Nat.le_of_ble_eq_true rfl) rfl ?_
  obtain ⟨r37, e37, hf⟩ := o_bind hf
  refine j_sub (ls' := [(0, .ref 15), (3, .ref 5), (4, .int _), (5, .int _)]) ⟨rfl, rfl, rfl, rfl, trivial⟩ ?_
  refine s_X0_leastCost__9_10_5_L37 g _ _ _ _ _ e37 (fun t37 => ?_) (fun t37 => ?_)
  · rw [if_pos t37] at hf
    refine j_iload (pc' := 104) rfl rfl rfl ?_
    have hf := Option.some.inj hf; subst hf
    exact j_iret rfl rfl (Nat.le_of_ble_eq_true rfl) (Nat.le_of_ble_eq_true rfl) ⟨rfl, rfl⟩
  · rw [if_neg (by rw [t37]; decide)] at hf
    rw [if_pos t37] at hf
    refine j_iload (pc' := 64) rfl rfl rfl ?_
    have hf := Option.some.inj hf; subst hf
    exact j_iret rfl rfl (Nat.le_of_ble_eq_true rfl) (Nat.le_of_ble_eq_true rfl) ⟨rfl, rfl⟩
def rX6_flow : Room := { frames := 4, cells := 0, slots := 0, locals := 94 }
def f_X6_flow (σ : xS) : Option (Int32 × xS) := (f_X0_leastCost__9_10_5 σ).bind fun r16 => some (r16.1, r16.2)
set_option maxHeartbeats 4000000 in
set_option maxRecDepth 100000 in
theorem s_X6_flow (g : hH) (σ : xS) (r : (Int32 × xS)) (hf : f_X6_flow σ = some r) : SpD mX6_flow rX6_flow [.ref 0] (gx g σ) (some (.int r.1)) (gx g r.2) := by
  refine sp_of miX6_flow (Nat.le_of_ble_eq_true rfl) ?_
  show J _ _ _ 0 0 _ 0 [(0, .ref 0)] []
  unfold f_X6_flow at hf
  refine j_aload_n (pc' := 1) rfl rfl rfl ?_
  refine j_get (pc' := 4) rfl rfl flX6_63 (gxk_0 g σ) (nsF_15 σ) ?_
  refine j_aload_n (pc' := 5) rfl rfl rfl ?_
  refine j_get (pc' := 8) rfl rfl flX6_54 (gxk_0 g σ) (nsF_13 σ) ?_
  refine j_aload_n (pc' := 9) rfl rfl rfl ?_
  refine j_get (pc' := 12) rfl rfl flX6_57 (gxk_0 g σ) (nsF_14 σ) ?_
  refine j_aload_n (pc' := 13) rfl rfl rfl ?_
  refine j_get (pc' := 16) rfl rfl flX6_40 (gxk_0 g σ) (nsF_8 σ) ?_
  obtain ⟨r16, e16, hf⟩ := o_bind hf
  refine j_v3 (pc' := 19) rfl rfl miX0_leastCost lnX6_297 (gxk_15 g σ) rfl (s_X0_leastCost__9_10_5 g σ _ e16) (h_rm_of rfl) (Nat.le_of_ble_eq_true rfl) (c' := 0) (s' := 0) rfl rfl ?_
  have hf := Option.some.inj hf; subst hf
  exact j_iret rfl rfl (Nat.le_of_ble_eq_true rfl) (Nat.le_of_ble_eq_true rfl) ⟨rfl, rfl⟩
def rX6_sumOf__9 : Room := { frames := 0, cells := 0, slots := 0, locals := 0 }
def f_X6_sumOf__9_L10 : Nat → xS → Int32 → Int32 → Int32 → Option (Int32)
  | 0, _, _, _, _ => none
  | n + 1, σ, x1, x3, x4 => if x3 ≤ x4 then some (x1) else bif vin x4 3 then letm (x1 + (σ.1 13 (x4).toNatClampNeg)) fun y26 => f_X6_sumOf__9_L10 n σ y26 x3 (x4 + 1) else none
set_option maxHeartbeats 4000000 in
set_option maxRecDepth 100000 in
theorem s_X6_sumOf__9_L10 {Q : Option Value → hH → Prop} (g : hH) : ∀ (n : Nat) (σ : xS) (x1 : Int32) (x3 : Int32) (x4 : Int32) (r : Int32), f_X6_sumOf__9_L10 n σ x1 x3 x4 = some r → (J mX6_sumOf rX6_sumOf__9 Q 0 0 (gx g σ) 33 [(1, .int r)] []) → J mX6_sumOf rX6_sumOf__9 Q 0 0 (gx g σ) 10 [(1, .int x1), (2, .ref 9), (3, .int x3), (4, .int x4)] [] := by
  intro n
  induction n with
  | zero =>
    intro σ x1 x3 x4 r hf
    cases hf
  | succ n ih =>
    intro σ x1 x3 x4 r hf k0
    rw [f_X6_sumOf__9_L10] at hf
    refine j_iload (pc' := 12) rfl rfl rfl ?_
    refine j_iload_n (pc' := 13) rfl rfl rfl ?_
    refine j_icmp_ge (tgt := 33) (pc' := 16) rfl rfl rfl (fun c13 => ?_) (fun c13 => ?_)
    · rw [if_pos c13] at hf
      have hf := Option.some.inj hf; subst hf
      exact j_sub (ls' := [(1, .int _)]) ⟨rfl, trivial⟩ (k0)
    · rw [if_neg c13] at hf
      refine j_aload_n (pc' := 17) rfl rfl rfl ?_
      refine j_iload (pc' := 19) rfl rfl rfl ?_
      obtain ⟨c19, hf⟩ := o_chk hf
      refine j_iald (pc' := 20) rfl rfl (gxk_9 g σ) (vin_ok c19) ?_
      refine j_istore (pc' := 22) (ls' := [(5, _), (1, _), (2, _), (3, _), (4, _)]) rfl rfl (Nat.le_of_ble_eq_true rfl) rfl ?_
      refine j_iload_n (pc' := 23) rfl rfl rfl ?_
      refine j_iload (pc' := 25) rfl rfl rfl ?_
      refine j_iadd (pc' := 26) rfl rfl ?_
      obtain ⟨y26, e26, hf⟩ := o_let hf
      rw [e26]
      refine j_istore_n (pc' := 27) (ls' := [(1, _), (5, _), (2, _), (3, _), (4, _)]) rfl rfl (Nat.le_of_ble_eq_true rfl) rfl ?_
      refine j_iinc (pc' := 30) (d := 1) (ls' := [(4, _), (1, _), (5, _), (2, _), (3, _)]) rfl rfl rfl (by decide) (Nat.le_of_ble_eq_true rfl) rfl ?_
      refine j_goto (tgt := 10) rfl rfl ?_
      refine j_sub (ls' := [(1, .int _), (2, .ref 9), (3, .int _), (4, .int _)]) ⟨rfl, rfl, rfl, rfl, trivial⟩ ?_
      exact ih _ _ _ _ _ hf k0
def f_X6_sumOf__9 (σ : xS) : Option Int32 := (f_X6_sumOf__9_L10 4000 σ 0 3 0).bind fun r10 => some r10
set_option maxHeartbeats 4000000 in
set_option maxRecDepth 100000 in
theorem s_X6_sumOf__9 (g : hH) (σ : xS) (r : Int32) (hf : f_X6_sumOf__9 σ = some r) : SpD mX6_sumOf rX6_sumOf__9 [.ref 9] (gx g σ) (some (.int r)) (gx g σ) := by
  refine sp_of miX6_sumOf (Nat.le_of_ble_eq_true rfl) ?_
  show J _ _ _ 0 0 _ 0 [(0, .ref 9)] []
  unfold f_X6_sumOf__9 at hf
  refine j_iconst (v := 0) (pc' := 1) rfl rfl (by decide) ?_
  refine j_istore_n (pc' := 2) (ls' := [(1, _), (0, _)]) rfl rfl (Nat.le_of_ble_eq_true rfl) rfl ?_
  refine j_aload_n (pc' := 3) rfl rfl rfl ?_
  refine j_astore_n (pc' := 4) (ls' := [(2, _), (1, _), (0, _)]) rfl rfl (Nat.le_of_ble_eq_true rfl) rfl ?_
  refine j_aload_n (pc' := 5) rfl rfl rfl ?_
  refine j_alen (pc' := 6) (v := 3) (t0 := 0) rfl rfl (gxk_9 g σ) (fun _ => rfl) (show Int32.ofNat 3 = 3 by decide) ?_
  refine j_istore_n (pc' := 7) (ls' := [(3, _), (2, _), (1, _), (0, _)]) rfl rfl (Nat.le_of_ble_eq_true rfl) rfl ?_
  refine j_iconst (v := 0) (pc' := 8) rfl rfl (by decide) ?_
  refine j_istore (pc' := 10) (ls' := [(4, _), (3, _), (2, _), (1, _), (0, _)]) rfl rfl (Nat.le_of_ble_eq_true rfl) rfl ?_
  obtain ⟨r10, e10, hf⟩ := o_bind hf
  refine j_sub (ls' := [(1, .int _), (2, .ref 9), (3, .int _), (4, .int _)]) ⟨rfl, rfl, rfl, rfl, trivial⟩ ?_
  refine s_X6_sumOf__9_L10 g _ _ _ _ _ _ e10 ?_
  refine j_iload_n (pc' := 34) rfl rfl rfl ?_
  have hf := Option.some.inj hf; subst hf
  exact j_iret rfl rfl (Nat.le_of_ble_eq_true rfl) (Nat.le_of_ble_eq_true rfl) ⟨rfl, rfl⟩
def rX6_sumOf__10 : Room := { frames := 0, cells := 0, slots := 0, locals := 0 }
def f_X6_sumOf__10_L10 : Nat → xS → Int32 → Int32 → Int32 → Option (Int32)
  | 0, _, _, _, _ => none
  | n + 1, σ, x1, x3, x4 => if x3 ≤ x4 then some (x1) else bif vin x4 6 then letm (x1 + (σ.1 14 (x4).toNatClampNeg)) fun y26 => f_X6_sumOf__10_L10 n σ y26 x3 (x4 + 1) else none
set_option maxHeartbeats 4000000 in
set_option maxRecDepth 100000 in
theorem s_X6_sumOf__10_L10 {Q : Option Value → hH → Prop} (g : hH) : ∀ (n : Nat) (σ : xS) (x1 : Int32) (x3 : Int32) (x4 : Int32) (r : Int32), f_X6_sumOf__10_L10 n σ x1 x3 x4 = some r → (J mX6_sumOf rX6_sumOf__10 Q 0 0 (gx g σ) 33 [(1, .int r)] []) → J mX6_sumOf rX6_sumOf__10 Q 0 0 (gx g σ) 10 [(1, .int x1), (2, .ref 10), (3, .int x3), (4, .int x4)] [] := by
  intro n
  induction n with
  | zero =>
    intro σ x1 x3 x4 r hf
    cases hf
  | succ n ih =>
    intro σ x1 x3 x4 r hf k0
    rw [f_X6_sumOf__10_L10] at hf
    refine j_iload (pc' := 12) rfl rfl rfl ?_
    refine j_iload_n (pc' := 13) rfl rfl rfl ?_
    refine j_icmp_ge (tgt := 33) (pc' := 16) rfl rfl rfl (fun c13 => ?_) (fun c13 => ?_)
    · rw [if_pos c13] at hf
      have hf := Option.some.inj hf; subst hf
      exact j_sub (ls' := [(1, .int _)]) ⟨rfl, trivial⟩ (k0)
    · rw [if_neg c13] at hf
      refine j_aload_n (pc' := 17) rfl rfl rfl ?_
      refine j_iload (pc' := 19) rfl rfl rfl ?_
      obtain ⟨c19, hf⟩ := o_chk hf
      refine j_iald (pc' := 20) rfl rfl (gxk_10 g σ) (vin_ok c19) ?_
      refine j_istore (pc' := 22) (ls' := [(5, _), (1, _), (2, _), (3, _), (4, _)]) rfl rfl (Nat.le_of_ble_eq_true rfl) rfl ?_
      refine j_iload_n (pc' := 23) rfl rfl rfl ?_
      refine j_iload (pc' := 25) rfl rfl rfl ?_
      refine j_iadd (pc' := 26) rfl rfl ?_
      obtain ⟨y26, e26, hf⟩ := o_let hf
      rw [e26]
      refine j_istore_n (pc' := 27) (ls' := [(1, _), (5, _), (2, _), (3, _), (4, _)]) rfl rfl (Nat.le_of_ble_eq_true rfl) rfl ?_
      refine j_iinc (pc' := 30) (d := 1) (ls' := [(4, _), (1, _), (5, _), (2, _), (3, _)]) rfl rfl rfl (by decide) (Nat.le_of_ble_eq_true rfl) rfl ?_
      refine j_goto (tgt := 10) rfl rfl ?_
      refine j_sub (ls' := [(1, .int _), (2, .ref 10), (3, .int _), (4, .int _)]) ⟨rfl, rfl, rfl, rfl, trivial⟩ ?_
      exact ih _ _ _ _ _ hf k0
def f_X6_sumOf__10 (σ : xS) : Option Int32 := (f_X6_sumOf__10_L10 4000 σ 0 6 0).bind fun r10 => some r10
set_option maxHeartbeats 4000000 in
set_option maxRecDepth 100000 in
theorem s_X6_sumOf__10 (g : hH) (σ : xS) (r : Int32) (hf : f_X6_sumOf__10 σ = some r) : SpD mX6_sumOf rX6_sumOf__10 [.ref 10] (gx g σ) (some (.int r)) (gx g σ) := by
  refine sp_of miX6_sumOf (Nat.le_of_ble_eq_true rfl) ?_
  show J _ _ _ 0 0 _ 0 [(0, .ref 10)] []
  unfold f_X6_sumOf__10 at hf
  refine j_iconst (v := 0) (pc' := 1) rfl rfl (by decide) ?_
  refine j_istore_n (pc' := 2) (ls' := [(1, _), (0, _)]) rfl rfl (Nat.le_of_ble_eq_true rfl) rfl ?_
  refine j_aload_n (pc' := 3) rfl rfl rfl ?_
  refine j_astore_n (pc' := 4) (ls' := [(2, _), (1, _), (0, _)]) rfl rfl (Nat.le_of_ble_eq_true rfl) rfl ?_
  refine j_aload_n (pc' := 5) rfl rfl rfl ?_
  refine j_alen (pc' := 6) (v := 6) (t0 := 0) rfl rfl (gxk_10 g σ) (fun _ => rfl) (show Int32.ofNat 6 = 6 by decide) ?_
  refine j_istore_n (pc' := 7) (ls' := [(3, _), (2, _), (1, _), (0, _)]) rfl rfl (Nat.le_of_ble_eq_true rfl) rfl ?_
  refine j_iconst (v := 0) (pc' := 8) rfl rfl (by decide) ?_
  refine j_istore (pc' := 10) (ls' := [(4, _), (3, _), (2, _), (1, _), (0, _)]) rfl rfl (Nat.le_of_ble_eq_true rfl) rfl ?_
  obtain ⟨r10, e10, hf⟩ := o_bind hf
  refine j_sub (ls' := [(1, .int _), (2, .ref 10), (3, .int _), (4, .int _)]) ⟨rfl, rfl, rfl, rfl, trivial⟩ ?_
  refine s_X6_sumOf__10_L10 g _ _ _ _ _ _ e10 ?_
  refine j_iload_n (pc' := 34) rfl rfl rfl ?_
  have hf := Option.some.inj hf; subst hf
  exact j_iret rfl rfl (Nat.le_of_ble_eq_true rfl) (Nat.le_of_ble_eq_true rfl) ⟨rfl, rfl⟩
end CLASS5
