/-! String.charAt on the reference's two words -/
def sx_c (i j : Nat) : Nat := ((on_sxb.getD i []).getD j 0).toBitVec.toNat
theorem sx_ok : ∀ i, i < 2 → ∀ j, j < on_sxl.getD i 0 → ((((on_sxb.getD i []).getD j 0 &&& 255).toUInt32 % 65536).toInt32 = nI (sx_c i j) ∧ sx_c i j < 256 ∧ on_sxl.getD i 0 < 2 ^ 31) := by decide +kernel
theorem sx_nar {c : Nat} (h : c < 256) : narrow .char (.int (nI c)) = .int (nI c) := by
  have : ∀ c, c < 256 → narrow .char (.int (nI c)) = .int (nI c) := by decide +kernel
  exact this c h
section MSR
variable {G : on_G} {i j sz bc bs : Nat} {h : on_H} {Q : Option Value → on_H → Nat → Prop}
theorem c_pre_check {r : Option Nat} {j n : Nat} (hj : j < n) (hn : n < 2 ^ 31) : on_Ct G M_Preconditions_checkIndex [.int (nI j), .int (nI n), va_rf r] h sz 0 0 (fun x h1 z => x = some (.int (nI j)) ∧ z = sz ∧ h1 = h) := by
  refine on_Ct.of (by decide) v_Preconditions_checkIndex ?_ ?_
  · cases r <;> exact Nat.le_of_ble_eq_true rfl
  refine on_relv (l := [(0, .int (nI j)), (1, .int (nI n))]) ⟨rfl, rfl, trivial⟩ ?_
  refine on_iload_n (pc' := 1) rfl rfl rfl rfl ?_
  refine on_if_lt (pc' := 4) (tgt := 9) rfl rfl rfl (fun cq => ?_) (fun cq => ?_)
  · exact absurd cq (nI_pos (by omega))
  refine on_iload_n (pc' := 5) rfl rfl rfl rfl ?_
  refine on_iload_n (pc' := 6) rfl rfl rfl rfl ?_
  refine on_icmp_lt (pc' := 9) (tgt := 16) rfl rfl rfl (fun cq => ?_) (fun cq => ?_)
  rotate_left
  · exact absurd (nI_lt hj hn) cq
  refine on_iload_n (pc' := 17) rfl rfl rfl rfl ?_
  refine on_ireturn rfl rfl ?_
  exact ⟨rfl, rfl, rfl⟩
theorem c_str_check {j n : Nat} (hj : j < n) (hn : n < 2 ^ 31) : on_Ct G M_String_checkIndex [.int (nI j), .int (nI n)] h sz 0 0 (fun x h1 z => x = none ∧ z = sz ∧ h1 = h) := by
  refine on_Ct.of (by decide) v_String_checkIndex (Nat.le_of_ble_eq_true rfl) ?_
  refine on_iload_n (pc' := 1) rfl rfl rfl rfl ?_
  refine on_iload_n (pc' := 2) rfl rfl rfl rfl ?_
  refine on_gsF (pc' := 5) rfl rfl sf_String_1053 (fun r => ?_)
  refine on_callS (pc' := 8) (As := [.int (nI j), .int (nI n), va_rf r]) (rest := []) rfl rfl cw_String_checkIndex_1059 rfl rfl (by decide) (Nat.zero_le _) (Nat.zero_le _) (c_pre_check hj hn) ?_
  rintro r h1 z ⟨rfl, rfl, rfl⟩
  refine on_pop (pc' := 9) rfl rfl rfl ?_
  refine on_vreturn rfl rfl ?_
  exact ⟨rfl, rfl, rfl⟩
theorem c_L1_charAt (hi : i < 2) (hj : j < on_sxl.getD i 0) : on_Ct G M_StringLatin1_charAt [.ref (on_sa G (20 + i)), .int (nI j)] h sz 0 0 (fun r h1 z => r = some (.int (nI (sx_c i j))) ∧ z = sz ∧ h1 = h) := by
  obtain ⟨e1, e2, e3⟩ := sx_ok i hi j hj
  refine on_Ct.of (by decide) v_StringLatin1_charAt (Nat.le_of_ble_eq_true rfl) ?_
  refine on_iload_n (pc' := 1) rfl rfl rfl rfl ?_
  first | refine on_aload_n (pc' := 2) rfl rfl rfl rfl ?_ | refine on_aload_nQ (pc' := 2) rfl rfl rfl rfl ?_
  refine on_stlen (pc' := 3) rfl rfl hi rfl ?_
  refine on_callS (pc' := 6) (As := [.int (nI j), .int (nI (on_sxl.getD i 0))]) (rest := []) rfl rfl cw_StringLatin1_charAt_9 rfl rfl (by decide) (Nat.zero_le _) (Nat.zero_le _) (c_str_check hj e3) ?_
  rintro r h1 z ⟨rfl, rfl, rfl⟩
  first | refine on_aload_n (pc' := 7) rfl rfl rfl rfl ?_ | refine on_aload_nQ (pc' := 7) rfl rfl rfl rfl ?_
  refine on_iload_n (pc' := 8) rfl rfl rfl rfl ?_
  refine on_stb (pc' := 9) rfl rfl hi ⟨hj, e3⟩ ?_
  refine on_sipush (pc' := 12) (v := 255) rfl rfl ls_255 ?_
  refine on_iand (pc' := 13) rfl rfl ?_
  refine on_i2c (pc' := 14) rfl rfl ?_
  rw [e1]
  refine on_creturn rfl rfl (sx_nar e2) ⟨rfl, rfl, rfl⟩
theorem c_isLatin1 (hi : i < 2) : on_Ct G M_String_isLatin1 [.ref (on_sa G (10 + i))] h sz 0 0 (fun r h1 z => r = some (.int 1) ∧ z = sz ∧ h1 = h) := by
  refine on_Ct.of (by decide) v_String_isLatin1 (Nat.le_of_ble_eq_true rfl) ?_
  refine on_gsZ (pc' := 3) rfl rfl sf_String_38 ?_
  refine on_if_eq (pc' := 6) (tgt := 17) rfl rfl rfl (fun cq => ?_) (fun cq => ?_)
  · exact absurd cq (by decide)
  first | refine on_aload_n (pc' := 7) rfl rfl rfl rfl ?_ | refine on_aload_nQ (pc' := 7) rfl rfl rfl rfl ?_
  refine on_scod (pc' := 10) rfl rfl hi sf_String_15 ?_
  refine on_if_ne (pc' := 13) (tgt := 17) rfl rfl rfl (fun cq => ?_) (fun cq => ?_)
  · exact absurd rfl cq
  refine on_iconst (pc' := 14) (v := 1) rfl rfl li_1 ?_
  refine on_goto (tgt := 18) rfl rfl ?_
  refine on_zreturn rfl rfl ?_ ?_
  · first | rfl | assumption
  exact ⟨rfl, rfl, rfl⟩
theorem c_charAt (hi : i < 2) (hj : j < on_sxl.getD i 0) : on_Ct G M_String_charAt [.ref (on_sa G (10 + i)), .int (nI j)] h sz 0 0 (fun r h1 z => r = some (.int (nI (sx_c i j))) ∧ z = sz ∧ h1 = h) := by
  obtain ⟨e1, e2, e3⟩ := sx_ok i hi j hj
  refine on_Ct.of (by decide) v_String_charAt (Nat.le_of_ble_eq_true rfl) ?_
  first | refine on_aload_n (pc' := 1) rfl rfl rfl rfl ?_ | refine on_aload_nQ (pc' := 1) rfl rfl rfl rfl ?_
  refine on_callVs (pc' := 4) (As := []) (rest := []) (i := i) rfl rfl cw_String_charAt_492 hi rfl rfl (by decide) (Nat.zero_le _) (Nat.zero_le _) (c_isLatin1 hi) ?_
  rintro r h1 z ⟨rfl, rfl, rfl⟩
  refine on_if_eq (pc' := 7) (tgt := 16) rfl rfl rfl (fun cq => ?_) (fun cq => ?_)
  · exact absurd cq (by decide)
  first | refine on_aload_n (pc' := 8) rfl rfl rfl rfl ?_ | refine on_aload_nQ (pc' := 8) rfl rfl rfl rfl ?_
  refine on_sval (pc' := 11) rfl rfl hi sf_String_9 ?_
  refine on_iload_n (pc' := 12) rfl rfl rfl rfl ?_
  refine on_callS (pc' := 15) (As := [.ref (on_sa G (20 + i)), .int (nI j)]) (rest := []) rfl rfl cw_String_charAt_495 rfl rfl (by decide) (Nat.zero_le _) (Nat.zero_le _) (c_L1_charAt hi hj) ?_
  rintro r h1 z ⟨rfl, rfl, rfl⟩
  refine on_creturn rfl rfl (sx_nar e2) ⟨rfl, rfl, rfl⟩
/-- a call of charAt -/
theorem on_charAt {M : on_M} {idx pc pc' : Nat} {lv : on_V} {st : List Value} (hd : on_tb M pc = some (.invokevirtual idx, 3)) (hp : pc + 3 = pc') (hC : on_CVs M M_String_charAt idx 1) (hi : i < 2) (hj : j < on_sxl.getD i 0) (hst : (st.map fun v => v.category).sum ≤ 8) (k : on_E G M pc' lv (.int (nI (sx_c i j)) :: st) h sz bc bs Q) : on_E G M pc lv (.int (nI j) :: .ref (on_sa G (10 + i)) :: st) h sz bc bs Q := by
  refine on_callVs (As := [.int (nI j)]) (rest := st) (i := i) hd hp hC hi rfl rfl hst (Nat.zero_le _) (Nat.zero_le _) (c_charAt hi hj) ?_
  rintro r h1 z ⟨rfl, rfl, rfl⟩
  exact k
end MSR
