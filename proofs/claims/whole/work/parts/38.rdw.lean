/-! Tape.readWord on the Tape's constants -/
section XRDW
def rdw : List Int32 → xS → Option (Int32 × xS)
  | [], σ => some (1, σ)
  | b :: l, σ => (f_X5_isHere σ b).bind fun r => if r = 0 then some (0, σ) else letm (xi σ 21 (fun _ => σ.1 21 0 + 1)) fun τ => rdw l τ
def rX5_readWord : Room := { frames := 4, cells := 0, slots := 0, locals := 85 }
theorem str_l : ∀ i : Nat, i < 4 → (h_byt.getD i []).length = h_len.getD i 0 ∧ h_len.getD i 0 < 100 := by decide +kernel
set_option maxHeartbeats 4000000 in
set_option maxRecDepth 100000 in
theorem s_rdw_loop {Q : Option Value → hH → Prop} (g : hH) {i : Nat} (hi : i < 4) : ∀ (m j : Nat) (σ : xS) (r : Int32 × xS), j + m = h_len.getD i 0 → rdw ((h_byt.getD i []).drop j) σ = some r → Q (some (.int r.1)) (gx g r.2) → J mX5_readWord rX5_readWord Q 0 0 (gx g σ) 2 [(2, .int (Int32.ofNat j)), (0, .ref 11), (1, .ref (9001 + i))] [] := by
  obtain ⟨hlen, hl100⟩ := str_l i hi
  intro m
  induction m with
  | zero =>
    intro j σ r hj hf q
    have ej : j = h_len.getD i 0 := by omega
    rw [ej, ← hlen, List.drop_length] at hf
    have hf := Option.some.inj hf; subst hf
    refine j_iload_n (pc' := 3) rfl rfl rfl ?_
    refine j_aload_n (pc' := 4) rfl rfl rfl ?_
    refine j_callVS (As := []) (pc' := 7) rfl rfl miJ0_length_8abf5 lnX5_74 hi rfl rfl (h_rm_of rfl) (Nat.le_of_ble_eq_true rfl) (s_length hi _) (c' := 0) (s' := 0) rfl rfl ?_
    refine j_icmp_ge (tgt := 40) (pc' := 10) rfl rfl rfl (fun _ => ?_) (fun c => absurd (by rw [ej]; exact Int32.le_refl _) c)
    refine j_iconst (v := 1) (pc' := 41) rfl rfl (by decide) ?_
    exact j_zret rfl rfl (by decide) (Nat.zero_le _) (Nat.zero_le _) q
  | succ m ih =>
    intro j σ r hj hf q
    have hjl : j < h_len.getD i 0 := by omega
    have hti : (Int32.ofNat j).toInt = (j : Int) := Int32.toInt_ofNat_of_lt (by omega)
    have htn : (Int32.ofNat (h_len.getD i 0)).toInt = ((h_len.getD i 0 : Nat) : Int) := Int32.toInt_ofNat_of_lt (by omega)
    rw [List.drop_eq_getElem_cons (by omega), rdw] at hf
    obtain ⟨r1, e1, hf⟩ := o_bind hf
    have eb : (h_byt.getD i [])[j]'(by omega) = (h_byt.getD i []).getD j 0 := (List.getElem_eq_getD 0)
    rw [eb] at e1
    refine j_iload_n (pc' := 3) rfl rfl rfl ?_
    refine j_aload_n (pc' := 4) rfl rfl rfl ?_
    refine j_callVS (As := []) (pc' := 7) rfl rfl miJ0_length_8abf5 lnX5_74 hi rfl rfl (h_rm_of rfl) (Nat.le_of_ble_eq_true rfl) (s_length hi _) (c' := 0) (s' := 0) rfl rfl ?_
    refine j_icmp_ge (tgt := 40) (pc' := 10) rfl rfl rfl (fun c => absurd (Int32.le_iff_toInt_le.mp c) (by omega)) (fun _ => ?_)
    refine j_aload_n (pc' := 11) rfl rfl rfl ?_
    refine j_aload_n (pc' := 12) rfl rfl rfl ?_
    refine j_iload_n (pc' := 13) rfl rfl rfl ?_
    refine j_callVS (As := [.int (Int32.ofNat j)]) (pc' := 16) rfl rfl miJ0_charAt_5068e lnX5_78 hi rfl rfl (h_rm_of rfl) (Nat.le_of_ble_eq_true rfl) (s_charAt hi hjl _) (c' := 0) (s' := 0) rfl rfl ?_
    refine j_v1 (pc' := 19) rfl rfl miX5_isHere lnX5_58 (gxk_11 g σ) rfl (s_X5_isHere g σ _ _ e1) (h_rm_of rfl) (Nat.le_of_ble_eq_true rfl) (c' := 0) (s' := 0) rfl rfl ?_
    refine j_if_ne (tgt := 24) (pc' := 22) rfl rfl rfl (fun c => ?_) (fun c => ?_)
    · rw [if_neg c] at hf
      obtain ⟨τ, et, hf⟩ := o_let hf
      refine j_aload_n (pc' := 25) rfl rfl rfl ?_
      refine j_dup (pc' := 26) rfl rfl rfl ?_
      refine j_get (pc' := 29) rfl rfl flX5_26 (gxk_11 g σ) (tpF_4 σ) ?_
      refine j_iconst (v := 1) (pc' := 30) rfl rfl (by decide) ?_
      refine j_iadd (pc' := 31) rfl rfl ?_
      refine j_put (pc' := 34) rfl rfl flX5_26 (gxk_11 g σ) (by decide) (Nat.le_of_ble_eq_true rfl) rfl rfl ?_
      rw [tps_4]; rw [et]
      refine j_iinc (pc' := 37) (d := 1) (ls' := [(2, _), (0, _), (1, _)]) rfl rfl rfl (by decide) (Nat.le_of_ble_eq_true rfl) rfl ?_
      refine j_goto (tgt := 2) rfl rfl ?_
      rw [show Int32.ofNat j + 1 = Int32.ofNat (j + 1) by rw [Int32.ofNat_add]; rfl]
      exact ih (j + 1) τ r (by omega) hf q
    · rw [if_pos c] at hf
      have hf := Option.some.inj hf; subst hf
      refine j_iconst (v := 0) (pc' := 23) rfl rfl (by decide) ?_
      exact j_zret rfl rfl (by decide) (Nat.zero_le _) (Nat.zero_le _) q
theorem s_X5_readWord (g : hH) (σ : xS) (i : Nat) (hi : i < 4) (r : Int32 × xS) (hf : rdw (h_byt.getD i []) σ = some r) : SpD mX5_readWord rX5_readWord [.ref 11, .ref (9001 + i)] (gx g σ) (some (.int r.1)) (gx g r.2) := by
  refine sp_of miX5_readWord (Nat.le_of_ble_eq_true rfl) ?_
  show J _ _ _ 0 0 _ 0 [(0, .ref 11), (1, .ref (9001 + i))] []
  refine j_iconst (v := 0) (pc' := 1) rfl rfl (by decide) ?_
  refine j_istore_n (pc' := 2) (ls' := [(2, _), (0, _), (1, _)]) rfl rfl (Nat.le_of_ble_eq_true rfl) rfl ?_
  exact s_rdw_loop g hi (h_len.getD i 0) 0 σ r (by omega) hf ⟨rfl, rfl⟩
end XRDW
