/-! String.length and String.charAt on the Tape's constants; Arrays.copyOf of the same length -/
section XSTRM
theorem kS_38 : Cond.fieldLink RJ0 38 "java/lang/String" "COMPACT_STRINGS" "Z" ∈ lw_tbl := List.mem_of_getElem? (i := 411) (by decide +kernel)
theorem kS_1053 : Cond.fieldLink RJ0 1053 "jdk/internal/util/Preconditions" "SIOOBE_FORMATTER" "Ljava/util/function/BiFunction;" ∈ lw_tbl := List.mem_of_getElem? (i := 427) (by decide +kernel)
theorem kS_9 : Cond.fieldLink RJ0 9 "java/lang/String" "value" "[B" ∈ lw_tbl := List.mem_of_getElem? (i := 1119) (by decide +kernel)
theorem kS_15 : Cond.fieldLink RJ0 15 "java/lang/String" "coder" "B" ∈ lw_tbl := List.mem_of_getElem? (i := 1120) (by decide +kernel)
def rS0 : Room := { frames := 0, cells := 0, slots := 0, locals := 0 }
def rS_len : Room := { frames := 1, cells := 0, slots := 0, locals := 20 }
def rS_chk : Room := { frames := 1, cells := 0, slots := 0, locals := 22 }
def rS_lch : Room := { frames := 2, cells := 0, slots := 0, locals := 43 }
def rS_cha : Room := { frames := 3, cells := 0, slots := 0, locals := 64 }
theorem s_coder {i : Nat} (hi : i < 4) (h : hH) : SpD mJ0_coder_7d493 rS0 [.ref (9001 + i)] h (some (.int 0)) h := by
  refine sp_of miJ0_coder_7d493 (Nat.le_of_ble_eq_true rfl) ?_
  show J _ _ _ 0 0 _ 0 [(0, .ref (9001 + i))] []
  refine j_getsC (pc' := 3) rfl rfl kS_38 ?_
  refine j_if_eq (tgt := 13) (pc' := 6) rfl rfl rfl (fun c => absurd c (by decide)) (fun _ => ?_)
  refine j_aload_n (pc' := 7) rfl rfl rfl ?_
  refine j_getSc (pc' := 10) rfl rfl hi kS_15 ?_
  refine j_goto (tgt := 14) rfl rfl ?_
  exact j_tret rfl rfl (by decide) (Nat.zero_le _) (Nat.zero_le _) ⟨rfl, rfl⟩
theorem s_isLatin1 {i : Nat} (hi : i < 4) (h : hH) : SpD mJ0_isLatin1_aae02 rS0 [.ref (9001 + i)] h (some (.int 1)) h := by
  refine sp_of miJ0_isLatin1_aae02 (Nat.le_of_ble_eq_true rfl) ?_
  show J _ _ _ 0 0 _ 0 [(0, .ref (9001 + i))] []
  refine j_getsC (pc' := 3) rfl rfl kS_38 ?_
  refine j_if_eq (tgt := 17) (pc' := 6) rfl rfl rfl (fun c => absurd c (by decide)) (fun _ => ?_)
  refine j_aload_n (pc' := 7) rfl rfl rfl ?_
  refine j_getSc (pc' := 10) rfl rfl hi kS_15 ?_
  refine j_if_ne (tgt := 17) (pc' := 13) rfl rfl rfl (fun c => absurd rfl c) (fun _ => ?_)
  refine j_iconst (v := 1) (pc' := 14) rfl rfl (by decide) ?_
  refine j_goto (tgt := 18) rfl rfl ?_
  exact j_tret rfl rfl (by decide) (Nat.zero_le _) (Nat.zero_le _) ⟨rfl, rfl⟩
theorem str_len : ∀ i : Nat, i < 4 → Int32.ofNat (h_len.getD i 0) >>> ((0 : Int32) &&& 31) = Int32.ofNat (h_len.getD i 0) := by decide +kernel
theorem s_length {i : Nat} (hi : i < 4) (h : hH) : SpD mJ0_length_8abf5 rS_len [.ref (9001 + i)] h (some (.int (Int32.ofNat (h_len.getD i 0)))) h := by
  refine sp_of miJ0_length_8abf5 (Nat.le_of_ble_eq_true rfl) ?_
  show J _ _ _ 0 0 _ 0 [(0, .ref (9001 + i))] []
  refine j_aload_n (pc' := 1) rfl rfl rfl ?_
  refine j_getSv (pc' := 4) rfl rfl hi kS_9 ?_
  refine j_alenS (pc' := 5) rfl rfl hi rfl ?_
  refine j_aload_n (pc' := 6) rfl rfl rfl ?_
  refine j_callVS (As := []) (pc' := 9) rfl rfl miJ0_coder_7d493 lnJ0_335 hi rfl rfl (h_rm_of rfl) (Nat.le_of_ble_eq_true rfl) (s_coder hi h) (c' := 0) (s' := 0) rfl rfl ?_
  refine j_ishr (pc' := 10) rfl rfl ?_
  rw [str_len i hi]
  exact j_iret rfl rfl (Nat.zero_le _) (Nat.zero_le _) ⟨rfl, rfl⟩
theorem s_pchk {j n : Int32} (h1 : ¬ j < 0) (h2 : j < n) {v : Value} (hv : v = .null ∨ v = .ref (9001 + 20)) (h : hH) : SpD mJ3_checkIndex_8e157 rS0 [.int j, .int n, v] h (some (.int j)) h := by
  rcases hv with rfl | rfl
  · refine sp_of miJ3_checkIndex_8e157 (Nat.le_of_ble_eq_true rfl) ?_
    show J _ _ _ 0 0 _ 0 [(0, .int j), (1, .int n), (2, .null)] []
    refine j_iload_n (pc' := 1) rfl rfl rfl ?_
    refine j_if_lt (tgt := 9) (pc' := 4) rfl rfl rfl (fun c => absurd c h1) (fun _ => ?_)
    refine j_iload_n (pc' := 5) rfl rfl rfl ?_
    refine j_iload_n (pc' := 6) rfl rfl rfl ?_
    refine j_icmp_lt (tgt := 16) (pc' := 9) rfl rfl rfl (fun _ => ?_) (fun c => absurd h2 c)
    refine j_iload_n (pc' := 17) rfl rfl rfl ?_
    exact j_iret rfl rfl (Nat.zero_le _) (Nat.zero_le _) ⟨rfl, rfl⟩
  · refine sp_of miJ3_checkIndex_8e157 (Nat.le_of_ble_eq_true rfl) ?_
    show J _ _ _ 0 0 _ 0 [(0, .int j), (1, .int n), (2, .ref (9001 + 20))] []
    refine j_iload_n (pc' := 1) rfl rfl rfl ?_
    refine j_if_lt (tgt := 9) (pc' := 4) rfl rfl rfl (fun c => absurd c h1) (fun _ => ?_)
    refine j_iload_n (pc' := 5) rfl rfl rfl ?_
    refine j_iload_n (pc' := 6) rfl rfl rfl ?_
    refine j_icmp_lt (tgt := 16) (pc' := 9) rfl rfl rfl (fun _ => ?_) (fun c => absurd h2 c)
    refine j_iload_n (pc' := 17) rfl rfl rfl ?_
    exact j_iret rfl rfl (Nat.zero_le _) (Nat.zero_le _) ⟨rfl, rfl⟩
theorem s_schk {j n : Int32} (h1 : ¬ j < 0) (h2 : j < n) (h : hH) : SpD mJ0_checkIndex_df160 rS_chk [.int j, .int n] h none h := by
  refine sp_of miJ0_checkIndex_df160 (Nat.le_of_ble_eq_true rfl) ?_
  show J _ _ _ 0 0 _ 0 [(0, .int j), (1, .int n)] []
  refine j_iload_n (pc' := 1) rfl rfl rfl ?_
  refine j_iload_n (pc' := 2) rfl rfl rfl ?_
  refine j_getsF (pc' := 5) rfl rfl kS_1053 ?_ ?_
  · refine j_s3 (pc' := 8) rfl rfl miJ3_checkIndex_8e157 lnJ0_1059 (s_pchk h1 h2 (Or.inl rfl) h) (h_rm_of rfl) (Nat.le_of_ble_eq_true rfl) (c' := 0) (s' := 0) rfl rfl ?_
    refine j_pop (pc' := 9) rfl rfl rfl ?_
    exact j_vret rfl rfl (Nat.zero_le _) (Nat.zero_le _) ⟨rfl, rfl⟩
  · refine j_s3 (pc' := 8) rfl rfl miJ3_checkIndex_8e157 lnJ0_1059 (s_pchk h1 h2 (Or.inr rfl) h) (h_rm_of rfl) (Nat.le_of_ble_eq_true rfl) (c' := 0) (s' := 0) rfl rfl ?_
    refine j_pop (pc' := 9) rfl rfl rfl ?_
    exact j_vret rfl rfl (Nat.zero_le _) (Nat.zero_le _) ⟨rfl, rfl⟩
theorem str_b : ∀ i : Nat, i < 4 → ∀ j : Nat, j < h_len.getD i 0 → ((((h_byt.getD i []).getD j 0 &&& 255).toUInt32 % 65536).toInt32 = (h_byt.getD i []).getD j 0 ∧ narrow .char (.int ((h_byt.getD i []).getD j 0)) = .int ((h_byt.getD i []).getD j 0)) ∧ (¬ Int32.ofNat j < 0 ∧ Int32.ofNat j < Int32.ofNat (h_len.getD i 0)) ∧ (Int32.ofNat j).toNatClampNeg = j := by decide +kernel
theorem s_lchar {i j : Nat} (hi : i < 4) (hj : j < h_len.getD i 0) (h : hH) : SpD mJ1_charAt_3b067 rS_lch [.ref (9001 + (10 + i)), .int (Int32.ofNat j)] h (some (.int ((h_byt.getD i []).getD j 0))) h := by
  obtain ⟨⟨b1, b2⟩, ⟨b3, b4⟩, b5⟩ := str_b i hi j hj
  refine sp_of miJ1_charAt_3b067 (Nat.le_of_ble_eq_true rfl) ?_
  show J _ _ _ 0 0 _ 0 [(0, .ref (9001 + (10 + i))), (1, .int (Int32.ofNat j))] []
  refine j_iload_n (pc' := 1) rfl rfl rfl ?_
  refine j_aload_n (pc' := 2) rfl rfl rfl ?_
  refine j_alenS (pc' := 3) rfl rfl hi rfl ?_
  refine j_sw2 (pc' := 6) rfl rfl miJ0_checkIndex_df160 lnJ1_9 (s_schk b3 b4 h) (h_rm_of rfl) (Nat.le_of_ble_eq_true rfl) (c' := 0) (s' := 0) rfl rfl ?_
  refine j_aload_n (pc' := 7) rfl rfl rfl ?_
  refine j_iload_n (pc' := 8) rfl rfl rfl ?_
  refine j_baldS (pc' := 9) (v := (h_byt.getD i []).getD j 0) rfl rfl hi (fun z => by
    rcases z with z | z
    · exact b3 z
    · rw [b5] at z; omega) (by rw [b5]) ?_
  refine j_sipush (v := 255) (pc' := 12) rfl rfl (by decide) ?_
  refine j_iand (pc' := 13) rfl rfl ?_
  refine j_i2c (pc' := 14) rfl rfl ?_
  rw [b1]
  exact j_tret rfl rfl b2 (Nat.zero_le _) (Nat.zero_le _) ⟨rfl, rfl⟩
theorem s_charAt {i j : Nat} (hi : i < 4) (hj : j < h_len.getD i 0) (h : hH) : SpD mJ0_charAt_5068e rS_cha [.ref (9001 + i), .int (Int32.ofNat j)] h (some (.int ((h_byt.getD i []).getD j 0))) h := by
  obtain ⟨⟨b1, b2⟩, ⟨b3, b4⟩, b5⟩ := str_b i hi j hj
  refine sp_of miJ0_charAt_5068e (Nat.le_of_ble_eq_true rfl) ?_
  show J _ _ _ 0 0 _ 0 [(0, .ref (9001 + i)), (1, .int (Int32.ofNat j))] []
  refine j_aload_n (pc' := 1) rfl rfl rfl ?_
  refine j_callVS (As := []) (pc' := 4) rfl rfl miJ0_isLatin1_aae02 lnJ0_492 hi rfl rfl (h_rm_of rfl) (Nat.le_of_ble_eq_true rfl) (s_isLatin1 hi h) (c' := 0) (s' := 0) rfl rfl ?_
  refine j_if_eq (tgt := 16) (pc' := 7) rfl rfl rfl (fun c => absurd c (by decide)) (fun _ => ?_)
  refine j_aload_n (pc' := 8) rfl rfl rfl ?_
  refine j_getSv (pc' := 11) rfl rfl hi kS_9 ?_
  refine j_iload_n (pc' := 12) rfl rfl rfl ?_
  refine j_s2 (pc' := 15) rfl rfl miJ1_charAt_3b067 lnJ0_495 (s_lchar hi hj h) (h_rm_of rfl) (Nat.le_of_ble_eq_true rfl) (c' := 0) (s' := 0) rfl rfl ?_
  exact j_tret rfl rfl b2 (Nat.zero_le _) (Nat.zero_le _) ⟨rfl, rfl⟩
end XSTRM
