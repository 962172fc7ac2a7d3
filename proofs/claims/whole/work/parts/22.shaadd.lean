section SHB
variable {G : on_G} {o q n sz bc bs : Nat} {h : on_H} {Q : Option Value → on_H → Nat → Prop}
theorem e_and63 {L : Nat} (h : L < 2 ^ 31) : nI L &&& 63 = nI (L % 64) := pk_andN (by omega) 6 rfl
theorem e_and3 {L : Nat} (h : L < 2 ^ 31) : nI L &&& 3 = nI (L % 4) := pk_andN (by omega) 2 rfl
theorem e_ush {a k : Nat} (ha : a < 2 ^ 31) (hk : k < 32) : sh_u (nI a) (nI k) = nI (a / 2 ^ k) := by
  unfold sh_u
  have : ∀ n, n < 32 → (((nI n).toUInt32 &&& Int32.toUInt32 31).toBitVec % 32).toNat = n := by decide
  exact pk_ushrN (by omega) (nI k) k (this k hk)
theorem e_shl {a k : Nat} (hk : k < 32) (ha : a * 2 ^ k < 2 ^ 32) : sh_l (nI a) (nI k) = nI (a * 2 ^ k) := by
  unfold sh_l
  have : ∀ n, n < 32 → ((nI n &&& 31).toBitVec.smod 32).toNat = n := by decide
  exact pk_shlN (nI k &&& 31) k (this k hk) ha
theorem e_word {L : Nat} (h : L < 2 ^ 31) : sh_u (nI L &&& 63) 2 = nI (L % 64 / 4) := by
  rw [e_and63 h]
  exact e_ush (k := 2) (by omega) (by omega)
theorem e_sh {L : Nat} (h : L < 2 ^ 31) : (24 : Int32) - 8 * (nI L &&& 3) = nI (24 - 8 * (L % 4)) := by
  rw [e_and3 h, show (8 : Int32) = nI 8 from rfl, show (24 : Int32) = nI 24 from rfl, pk_mul, pk_sub (by omega)]
theorem e_lay {L b : Nat} (h : L < 2 ^ 31) (hb : b < 256) : sh_l (nI b) (24 - 8 * (nI L &&& 3)) = nI (b * 2 ^ (24 - 8 * (L % 4))) := by
  rw [e_sh h]
  refine e_shl (by omega) ?_
  have : (2 : Nat) ^ (24 - 8 * (L % 4)) ≤ 2 ^ 24 := Nat.pow_le_pow_right (by decide) (by omega)
  calc b * 2 ^ (24 - 8 * (L % 4)) ≤ 255 * 2 ^ 24 := Nat.mul_le_mul (by omega) this
    _ < 2 ^ 32 := by decide
set_option maxHeartbeats 4000000 in
/-- one byte of Sha.add -/
theorem sh_add1 {ms : List Nat} {f g r : Nat → Int32} {i e b : Nat} (hL : ms.length + 1 < 2 ^ 31) (hB : sh_B o f g (nI ms.length) h) (hI : sh_I ms f g) (hq : h q = some (on_ai 0 n r)) (hqo : q < o ∨ o + 3 ≤ q) (hi : i < n ∧ n < 2 ^ 31) (hr : r i = nI b) (hb : b < 256)
    (k : ∀ h2, sh_X o (ms ++ [b]) h2 → on_sm o (o + 3) h h2 → on_E G M_Sha_add 17 (on_l [(0, .ref o), (1, .ref q), (4, .int (nI e)), (5, .int (nI (i + 1)))]) [] h2 sz bc bs Q) :
    on_E G M_Sha_add 24 (on_l [(0, .ref o), (1, .ref q), (4, .int (nI e)), (5, .int (nI i))]) [] h sz bc bs Q := by
  obtain ⟨b1, b2, b3⟩ := id hB
  have hw : ms.length % 64 / 4 < 64 ∧ 64 < 2 ^ 31 := by omega
  have tail : ∀ bf : Int32, bf = (if ms.length % 4 = 0 then 0 else g (ms.length % 64 / 4)) → on_E G M_Sha_add 55 (on_l [(0, .ref o), (1, .ref q), (4, .int (nI e)), (5, .int (nI i)), (6, .int (nI (ms.length % 64 / 4)))]) [.int bf] h sz bc bs Q := by
    intro bf hbf
    refine on_istore (pc' := 57) rfl rfl (by decide) ?_
    first | refine on_aload_n (pc' := 58) rfl rfl rfl rfl ?_ | refine on_aload_nQ (pc' := 58) rfl rfl rfl rfl ?_
    apply on_get (pc' := 61) rfl rfl fl_Sha_15
    · repeat (first | assumption | exact on_up_eq _ _ _ | refine (on_up_ne (by omega)).trans ?_)
    · rfl
    refine on_iload (pc' := 63) rfl rfl rfl ?_
    refine on_iload (pc' := 65) rfl rfl rfl ?_
    first | refine on_aload_n (pc' := 66) rfl rfl rfl rfl ?_ | refine on_aload_nQ (pc' := 66) rfl rfl rfl rfl ?_
    refine on_iload (pc' := 68) rfl rfl rfl ?_
    apply on_ialoadK (pc' := 69) (t := 0) rfl rfl
    · repeat (first | assumption | exact on_up_eq _ _ _ | refine (on_up_ne (by omega)).trans ?_)
    · rfl
    · first | assumption | exact on_lit _ | rfl
    · first | assumption | omega | decide
    refine on_bipush (pc' := 71) (v := 24) rfl rfl lb_24 ?_
    refine on_bipush (pc' := 73) (v := 8) rfl rfl lb_8 ?_
    first | refine on_aload_n (pc' := 74) rfl rfl rfl rfl ?_ | refine on_aload_nQ (pc' := 74) rfl rfl rfl rfl ?_
    apply on_get (pc' := 77) rfl rfl fl_Sha_27
    · repeat (first | assumption | exact on_up_eq _ _ _ | refine (on_up_ne (by omega)).trans ?_)
    · rfl
    refine on_iconst (pc' := 78) (v := 3) rfl rfl li_3 ?_
    refine on_iand (pc' := 79) rfl rfl ?_
    refine on_imul (pc' := 80) rfl rfl ?_
    refine on_isub (pc' := 81) rfl rfl ?_
    refine on_ishl (pc' := 82) rfl rfl ?_
    refine on_ior (pc' := 83) rfl rfl ?_
    apply on_iastoreK (pc' := 84) (t := 0) rfl rfl
    · repeat (first | assumption | exact on_up_eq _ _ _ | refine (on_up_ne (by omega)).trans ?_)
    · rfl
    · first | assumption | exact on_lit _ | rfl
    · first | assumption | omega | decide
    rw [hr, e_lay (by omega) hb, hbf]
    show on_E G M_Sha_add 84 _ _ (on_up h (o + 2) (on_ai 0 64 (sh_n ms g b))) sz bc bs Q
    first | refine on_aload_n (pc' := 85) rfl rfl rfl rfl ?_ | refine on_aload_nQ (pc' := 85) rfl rfl rfl rfl ?_
    refine on_dup (pc' := 86) rfl rfl rfl ?_
    apply on_get (pc' := 89) rfl rfl fl_Sha_27
    · repeat (first | assumption | exact on_up_eq _ _ _ | refine (on_up_ne (by omega)).trans ?_)
    · rfl
    refine on_iconst (pc' := 90) (v := 1) rfl rfl li_1 ?_
    refine on_iadd (pc' := 91) rfl rfl ?_
    apply on_put (pc' := 94) rfl rfl fp_Sha_27
    · repeat (first | assumption | exact on_up_eq _ _ _ | refine (on_up_ne (by omega)).trans ?_)
    · first | rfl | assumption
    · first | rfl | assumption
    · exact Nat.le_of_ble_eq_true rfl
    first | refine on_aload_n (pc' := 95) rfl rfl rfl rfl ?_ | refine on_aload_nQ (pc' := 95) rfl rfl rfl rfl ?_
    apply on_get (pc' := 98) rfl rfl fl_Sha_27
    · repeat (first | assumption | exact on_up_eq _ _ _ | refine (on_up_ne (by omega)).trans ?_)
    · rfl
    refine on_bipush (pc' := 100) (v := 63) rfl rfl lb_63 ?_
    refine on_iand (pc' := 101) rfl rfl ?_
    have hs2 : on_sm o (o + 3) h (on_up (on_up h (o + 2) (on_ai 0 64 (sh_n ms g b))) o (.inr (0, [.ref (o + 1), .ref (o + 2), .int (nI ms.length + 1)]))) := (on_sm.rf.up (by omega) (by omega)).up (by omega) (by omega)
    have hB2 : sh_B o f (sh_n ms g b) (nI (ms ++ [b]).length) (on_up (on_up h (o + 2) (on_ai 0 64 (sh_n ms g b))) o (.inr (0, [.ref (o + 1), .ref (o + 2), .int (nI ms.length + 1)]))) := by
      refine ⟨?_, ?_, ?_⟩
      · rw [on_up_eq, nI_1, List.length_append]; rfl
      · repeat (first | assumption | exact on_up_eq _ _ _ | refine (on_up_ne (by omega)).trans ?_)
      · repeat (first | assumption | exact on_up_eq _ _ _ | refine (on_up_ne (by omega)).trans ?_)
    have e1 : nI ms.length + 1 &&& 63 = nI ((ms.length + 1) % 64) := by rw [nI_1]; exact e_and63 (by omega)
    refine on_if_ne (pc' := 104) (tgt := 108) rfl rfl rfl (fun cq => ?_) (fun cq => ?_)
    · rw [e1] at cq
      have hf : (ms.length + 1) % 64 ≠ 0 := fun z => cq (by rw [z]; rfl)
      refine on_iinc1 (pc' := 111) rfl rfl rfl ?_
      refine on_goto (tgt := 17) rfl rfl ?_
      refine on_relv (l := [(0, .ref o), (1, .ref q), (4, .int (nI e)), (5, .int (nI (i + 1)))]) ⟨rfl, rfl, rfl, congrArg some (congrArg Value.int (nI_1 i)), trivial⟩ (k _ ⟨_, _, hB2, sh_I_more hI hb hf⟩ hs2)
    · rw [e1] at cq
      have hf : (ms.length + 1) % 64 = 0 := by
        rcases Nat.eq_zero_or_pos ((ms.length + 1) % 64) with z | z
        · exact z
        · exact absurd cq (nI_ne0 z (by omega))
      first | refine on_aload_n (pc' := 105) rfl rfl rfl rfl ?_ | refine on_aload_nQ (pc' := 105) rfl rfl rfl rfl ?_
      refine on_callV (pc' := 108) (As := []) (rest := []) (b := o) rfl rfl cw_Sha_add_40 hB2.1 rfl rfl (by decide) (Nat.zero_le _) (Nat.zero_le _) (c_Sha_mix hB2) ?_
      rintro r2 h2 z ⟨rfl, rfl, hB3, hs3⟩
      refine on_iinc1 (pc' := 111) rfl rfl rfl ?_
      refine on_goto (tgt := 17) rfl rfl ?_
      refine on_relv (l := [(0, .ref o), (1, .ref q), (4, .int (nI e)), (5, .int (nI (i + 1)))]) ⟨rfl, rfl, rfl, congrArg some (congrArg Value.int (nI_1 i)), trivial⟩ (k _ ⟨_, _, hB3, sh_I_full hI hb hf⟩ (hs2.trans hs3))
  first | refine on_aload_n (pc' := 25) rfl rfl rfl rfl ?_ | refine on_aload_nQ (pc' := 25) rfl rfl rfl rfl ?_
  apply on_get (pc' := 28) rfl rfl fl_Sha_27
  · repeat (first | assumption | exact on_up_eq _ _ _ | refine (on_up_ne (by omega)).trans ?_)
  · rfl
  refine on_bipush (pc' := 30) (v := 63) rfl rfl lb_63 ?_
  refine on_iand (pc' := 31) rfl rfl ?_
  refine on_iconst (pc' := 32) (v := 2) rfl rfl li_2 ?_
  refine on_iushr (pc' := 33) rfl rfl ?_
  refine on_istore (pc' := 35) rfl rfl (by decide) ?_
  first | refine on_aload_n (pc' := 36) rfl rfl rfl rfl ?_ | refine on_aload_nQ (pc' := 36) rfl rfl rfl rfl ?_
  apply on_get (pc' := 39) rfl rfl fl_Sha_27
  · repeat (first | assumption | exact on_up_eq _ _ _ | refine (on_up_ne (by omega)).trans ?_)
  · rfl
  refine on_iconst (pc' := 40) (v := 3) rfl rfl li_3 ?_
  refine on_iand (pc' := 41) rfl rfl ?_
  rw [e_word (by omega), e_and3 (by omega)]
  refine on_if_ne (pc' := 44) (tgt := 48) rfl rfl rfl (fun cq => ?_) (fun cq => ?_)
  · have h4 : ms.length % 4 ≠ 0 := fun z => cq (by rw [z]; rfl)
    first | refine on_aload_n (pc' := 49) rfl rfl rfl rfl ?_ | refine on_aload_nQ (pc' := 49) rfl rfl rfl rfl ?_
    apply on_get (pc' := 52) rfl rfl fl_Sha_15
    · repeat (first | assumption | exact on_up_eq _ _ _ | refine (on_up_ne (by omega)).trans ?_)
    · rfl
    refine on_iload (pc' := 54) rfl rfl rfl ?_
    apply on_ialoadK (pc' := 55) (t := 0) rfl rfl
    · repeat (first | assumption | exact on_up_eq _ _ _ | refine (on_up_ne (by omega)).trans ?_)
    · rfl
    · first | assumption | exact on_lit _ | rfl
    · first | assumption | omega | decide
    exact on_relv (l := [(0, .ref o), (1, .ref q), (4, .int (nI e)), (5, .int (nI i)), (6, .int (nI (ms.length % 64 / 4)))]) ⟨rfl, rfl, rfl, rfl, rfl, trivial⟩ (tail _ (by rw [if_neg h4]))
  · have h4 : ms.length % 4 = 0 := by
      rcases Nat.eq_zero_or_pos (ms.length % 4) with z | z
      · exact z
      · exact absurd cq (nI_ne0 z (by omega))
    refine on_iconst (pc' := 45) (v := 0) rfl rfl li_0 ?_
    refine on_goto (tgt := 55) rfl rfl ?_
    exact on_relv (l := [(0, .ref o), (1, .ref q), (4, .int (nI e)), (5, .int (nI i)), (6, .int (nI (ms.length % 64 / 4)))]) ⟨rfl, rfl, rfl, rfl, rfl, trivial⟩ (tail _ (by rw [if_pos h4]))
/-- a stretch of bytes as a list -/
def sp_sl (b : Nat → Nat) (at_ cnt : Nat) : List Nat := (List.range cnt).map (fun i => b (at_ + i))
theorem sp_sl_len (b : Nat → Nat) (at_ cnt : Nat) : (sp_sl b at_ cnt).length = cnt := by simp [sp_sl]
theorem sp_sl_s (b : Nat → Nat) (at_ cnt : Nat) : sp_sl b at_ (cnt + 1) = sp_sl b at_ cnt ++ [b (at_ + cnt)] := by simp [sp_sl, List.range_succ]
theorem sh_add_l {ms : List Nat} {r : Nat → Int32} {b : Nat → Nat} {at_ cnt : Nat} (hL : ms.length + cnt < 2 ^ 31) (hq : h q = some (on_ai 0 n r)) (hqo : q < o ∨ o + 3 ≤ q) (hn : at_ + cnt ≤ n) (hn2 : n < 2 ^ 31) (hb : ∀ i, i < cnt → r (at_ + i) = nI (b (at_ + i)) ∧ b (at_ + i) < 256)
    (k : ∀ h2, sh_X o (ms ++ sp_sl b at_ cnt) h2 → on_sm o (o + 3) h h2 → on_E G M_Sha_add 114 (on_l []) [] h2 sz bc bs Q) :
    ∀ (m j : Nat) (h1 : on_H), j + m = cnt → sh_X o (ms ++ sp_sl b at_ j) h1 → on_sm o (o + 3) h h1 → on_E G M_Sha_add 17 (on_l [(0, .ref o), (1, .ref q), (4, .int (nI (at_ + cnt))), (5, .int (nI (at_ + j)))]) [] h1 sz bc bs Q := by
  intro m
  induction m with
  | zero =>
    intro j h1 hj hX hs
    refine on_iload (pc' := 19) rfl rfl rfl ?_
    refine on_iload (pc' := 21) rfl rfl rfl ?_
    refine on_icmp_ge (pc' := 24) (tgt := 114) rfl rfl rfl (fun cq => ?_) (fun cq => ?_)
    · rw [show j = cnt by omega] at hX
      exact on_relv (l := []) trivial (k h1 hX hs)
    · exact absurd (nI_le (by omega) (by omega)) cq
  | succ m ih =>
    intro j h1 hj hX hs
    refine on_iload (pc' := 19) rfl rfl rfl ?_
    refine on_iload (pc' := 21) rfl rfl rfl ?_
    refine on_icmp_ge (pc' := 24) (tgt := 114) rfl rfl rfl (fun cq => ?_) (fun cq => ?_)
    · exact absurd cq (nI_ge (by omega) (by omega))
    · obtain ⟨f, g, hB, hI⟩ := hX
      have hlen : (ms ++ sp_sl b at_ j).length = ms.length + j := by rw [List.length_append, sp_sl_len]
      refine sh_add1 (b := b (at_ + j)) (by rw [hlen]; omega) hB hI ((hs q (by omega)).trans hq) hqo ⟨by omega, hn2⟩ (hb j (by omega)).1 (hb j (by omega)).2 (fun h2 hX2 hs2 => ?_)
      rw [List.append_assoc, ← sp_sl_s] at hX2
      exact ih (j + 1) h2 (by omega) hX2 (hs.trans hs2)
/-- Sha.add -/
theorem c_Sha_add {ms : List Nat} {r : Nat → Int32} {b : Nat → Nat} {at_ cnt : Nat} (hX : sh_X o ms h) (hL : ms.length + cnt < 2 ^ 31) (hq : h q = some (on_ai 0 n r)) (hqo : q < o ∨ o + 3 ≤ q) (hn : at_ + cnt ≤ n) (hn2 : n < 2 ^ 31) (hb : ∀ i, i < cnt → r (at_ + i) = nI (b (at_ + i)) ∧ b (at_ + i) < 256) :
    on_Ct G M_Sha_add [.ref o, .ref q, .int (nI at_), .int (nI cnt)] h sz 0 0 (fun r h1 z => r = none ∧ z = sz ∧ sh_X o (ms ++ sp_sl b at_ cnt) h1 ∧ on_sm o (o + 3) h h1) := by
  refine on_Ct.of (by decide) v_Sha_add (Nat.le_of_ble_eq_true rfl) ?_
  first | refine on_aload_n (pc' := 1) rfl rfl rfl rfl ?_ | refine on_aload_nQ (pc' := 1) rfl rfl rfl rfl ?_
  apply on_alenI (pc' := 2) rfl rfl
  · repeat (first | assumption | exact on_up_eq _ _ _ | refine (on_up_ne (by omega)).trans ?_)
  · rfl
  refine on_iload_n (pc' := 3) rfl rfl rfl rfl ?_
  refine on_iload_n (pc' := 4) rfl rfl rfl rfl ?_
  refine on_iadd (pc' := 5) rfl rfl ?_
  refine on_min (pc' := 8) rfl rfl jm_Sha_31 w_min1 w_mth w_min2 (Nat.le_of_ble_eq_true rfl) (Nat.le_of_ble_eq_true rfl) ?_
  have e1 : i_min (nI n) (nI at_ + nI cnt) = nI (at_ + cnt) := by
    rw [nI_add]
    unfold i_min
    by_cases hc : at_ + cnt < n
    · rw [if_pos (nI_lt hc hn2)]
    · rw [if_neg (nI_nlt (by omega) (by omega)), show at_ + cnt = n by omega]
  have e2 : i_max (nI at_) 0 = nI (at_ + 0) := by
    unfold i_max
    rw [if_neg (nI_pos (by omega))]; rfl
  rw [e1]
  refine on_istore (pc' := 10) rfl rfl (by decide) ?_
  refine on_iload_n (pc' := 11) rfl rfl rfl rfl ?_
  refine on_iconst (pc' := 12) (v := 0) rfl rfl li_0 ?_
  refine on_max (pc' := 15) rfl rfl jm_Sha_37 w_max1 w_mth w_max2 (Nat.le_of_ble_eq_true rfl) (Nat.le_of_ble_eq_true rfl) ?_
  rw [e2]
  refine on_istore (pc' := 17) rfl rfl (by decide) ?_
  refine on_relv (l := [(0, .ref o), (1, .ref q), (4, .int (nI (at_ + cnt))), (5, .int (nI (at_ + 0)))]) ⟨rfl, rfl, rfl, rfl, trivial⟩ ?_
  refine sh_add_l hL hq hqo hn hn2 hb (fun h2 hX2 hs2 => ?_) cnt 0 h (by omega) (by rw [show sp_sl b at_ 0 = [] from rfl, List.append_nil]; exact hX) on_sm.rf
  refine on_vreturn rfl rfl ?_
  exact ⟨rfl, rfl, hX2, hs2⟩
/-- a Sha that holds no message -/
def sh_W (o : Nat) (h : on_H) : Prop := ∃ (f g : Nat → Int32) (len : Int32), sh_B o f g len h
theorem sh_X.w {ms : List Nat} (k : sh_X o ms h) : sh_W o h := by
  obtain ⟨f, g, hB, -⟩ := k
  exact ⟨f, g, _, hB⟩
/-- Sha.start -/
theorem c_Sha_start (hX : sh_W o h) : on_Ct G M_Sha_start [.ref o] h sz 0 0 (fun r h1 z => r = none ∧ z = sz ∧ sh_X o [] h1 ∧ on_sm o (o + 3) h h1) := by
  obtain ⟨f, g, len, b1, b2, b3⟩ := hX
  refine on_Ct.of (by decide) v_Sha_start (Nat.le_of_ble_eq_true rfl) ?_
  refine on_getstatic (pc' := 3) (k := 0) rfl rfl rfl gs_Sha_18 ?_
  refine on_iconst (pc' := 4) (v := 0) rfl rfl li_0 ?_
  first | refine on_aload_n (pc' := 5) rfl rfl rfl rfl ?_ | refine on_aload_nQ (pc' := 5) rfl rfl rfl rfl ?_
  apply on_get (pc' := 8) rfl rfl fl_Sha_9
  · repeat (first | assumption | exact on_up_eq _ _ _ | refine (on_up_ne (by omega)).trans ?_)
  · rfl
  refine on_iconst (pc' := 9) (v := 0) rfl rfl li_0 ?_
  refine on_bipush (pc' := 11) (v := 8) rfl rfl lb_8 ?_
  apply on_acopyS (pc' := 14) (k := 0) (q0 := ("OnionNet$Sha", "START", on_st0)) (i0 := 0) (j0 := 0) (k0 := 8) rfl rfl jm_Sha_21 (Nat.le_of_ble_eq_true rfl) (Nat.le_of_ble_eq_true rfl) rfl
  · repeat (first | assumption | exact on_up_eq _ _ _ | refine (on_up_ne (by omega)).trans ?_)
  · rfl
  · rfl
  · rfl
  · decide
  · decide
  first | refine on_aload_n (pc' := 15) rfl rfl rfl rfl ?_ | refine on_aload_nQ (pc' := 15) rfl rfl rfl rfl ?_
  refine on_iconst (pc' := 16) (v := 0) rfl rfl li_0 ?_
  apply on_put (pc' := 19) rfl rfl fp_Sha_27
  · repeat (first | assumption | exact on_up_eq _ _ _ | refine (on_up_ne (by omega)).trans ?_)
  · first | rfl | assumption
  · first | rfl | assumption
  · exact Nat.le_of_ble_eq_true rfl
  refine on_vreturn rfl rfl ?_
  refine ⟨rfl, rfl, ⟨va_cpy (fun j => on_st0.getD j 0) f 0 0 8, g, ⟨on_up_eq _ _ _, ?_, ?_⟩, ?_, ?_, ?_⟩, (on_sm.rf.up (by omega) (by omega)).up (by omega) (by omega)⟩
  · repeat (first | assumption | exact on_up_eq _ _ _ | refine (on_up_ne (by omega)).trans ?_)
  · repeat (first | assumption | exact on_up_eq _ _ _ | refine (on_up_ne (by omega)).trans ?_)
  · intro i hi
    rw [pk_cpy_in (f := fun j => on_st0.getD j 0) (g := f) (sp := 0) (dp := 0) (n := 8) (j := i) (by omega) (by omega)]
    show on_st0.getD (0 + (i - 0)) 0 = on_st0.getD i 0
    rw [Nat.zero_add, Nat.sub_zero]
  · intro j hj
    simp at hj
  · intro hk
    exact absurd rfl hk
/-- Sha.copy -/
theorem c_Sha_copy {ms2 : List Nat} {o2 : Nat} (hX : sh_W o h) (hX2 : sh_X o2 ms2 h) (ho : o2 + 3 ≤ o ∨ o + 3 ≤ o2) : on_Ct G M_Sha_copy [.ref o, .ref o2] h sz 0 0 (fun r h1 z => r = none ∧ z = sz ∧ sh_X o ms2 h1 ∧ on_sm o (o + 3) h h1) := by
  obtain ⟨f, g, len, b1, b2, b3⟩ := hX
  obtain ⟨f2, g2, ⟨d1, d2, d3⟩, hI2⟩ := hX2
  refine on_Ct.of (by decide) v_Sha_copy (Nat.le_of_ble_eq_true rfl) ?_
  first | refine on_aload_n (pc' := 1) rfl rfl rfl rfl ?_ | refine on_aload_nQ (pc' := 1) rfl rfl rfl rfl ?_
  apply on_get (pc' := 4) rfl rfl fl_Sha_9
  · repeat (first | assumption | exact on_up_eq _ _ _ | refine (on_up_ne (by omega)).trans ?_)
  · rfl
  refine on_iconst (pc' := 5) (v := 0) rfl rfl li_0 ?_
  first | refine on_aload_n (pc' := 6) rfl rfl rfl rfl ?_ | refine on_aload_nQ (pc' := 6) rfl rfl rfl rfl ?_
  apply on_get (pc' := 9) rfl rfl fl_Sha_9
  · repeat (first | assumption | exact on_up_eq _ _ _ | refine (on_up_ne (by omega)).trans ?_)
  · rfl
  refine on_iconst (pc' := 10) (v := 0) rfl rfl li_0 ?_
  refine on_bipush (pc' := 12) (v := 8) rfl rfl lb_8 ?_
  apply on_acopy (pc' := 15) rfl rfl jm_Sha_21 (Nat.le_of_ble_eq_true rfl) (Nat.le_of_ble_eq_true rfl)
  · repeat (first | assumption | exact on_up_eq _ _ _ | refine (on_up_ne (by omega)).trans ?_)
  · repeat (first | assumption | exact on_up_eq _ _ _ | refine (on_up_ne (by omega)).trans ?_)
  · first | assumption | exact on_lit _ | rfl
  · first | assumption | exact on_lit _ | rfl
  · first | assumption | exact on_lit _ | rfl
  · first | assumption | omega | decide
  · first | assumption | omega | decide
  first | refine on_aload_n (pc' := 16) rfl rfl rfl rfl ?_ | refine on_aload_nQ (pc' := 16) rfl rfl rfl rfl ?_
  apply on_get (pc' := 19) rfl rfl fl_Sha_15
  · repeat (first | assumption | exact on_up_eq _ _ _ | refine (on_up_ne (by omega)).trans ?_)
  · rfl
  refine on_iconst (pc' := 20) (v := 0) rfl rfl li_0 ?_
  first | refine on_aload_n (pc' := 21) rfl rfl rfl rfl ?_ | refine on_aload_nQ (pc' := 21) rfl rfl rfl rfl ?_
  apply on_get (pc' := 24) rfl rfl fl_Sha_15
  · repeat (first | assumption | exact on_up_eq _ _ _ | refine (on_up_ne (by omega)).trans ?_)
  · rfl
  refine on_iconst (pc' := 25) (v := 0) rfl rfl li_0 ?_
  refine on_bipush (pc' := 27) (v := 16) rfl rfl lb_16 ?_
  apply on_acopy (pc' := 30) rfl rfl jm_Sha_21 (Nat.le_of_ble_eq_true rfl) (Nat.le_of_ble_eq_true rfl)
  · repeat (first | assumption | exact on_up_eq _ _ _ | refine (on_up_ne (by omega)).trans ?_)
  · repeat (first | assumption | exact on_up_eq _ _ _ | refine (on_up_ne (by omega)).trans ?_)
  · first | assumption | exact on_lit _ | rfl
  · first | assumption | exact on_lit _ | rfl
  · first | assumption | exact on_lit _ | rfl
  · first | assumption | omega | decide
  · first | assumption | omega | decide
  first | refine on_aload_n (pc' := 31) rfl rfl rfl rfl ?_ | refine on_aload_nQ (pc' := 31) rfl rfl rfl rfl ?_
  first | refine on_aload_n (pc' := 32) rfl rfl rfl rfl ?_ | refine on_aload_nQ (pc' := 32) rfl rfl rfl rfl ?_
  apply on_get (pc' := 35) rfl rfl fl_Sha_27
  · repeat (first | assumption | exact on_up_eq _ _ _ | refine (on_up_ne (by omega)).trans ?_)
  · rfl
  apply on_put (pc' := 38) rfl rfl fp_Sha_27
  · repeat (first | assumption | exact on_up_eq _ _ _ | refine (on_up_ne (by omega)).trans ?_)
  · first | rfl | assumption
  · first | rfl | assumption
  · exact Nat.le_of_ble_eq_true rfl
  refine on_vreturn rfl rfl ?_
  refine ⟨rfl, rfl, ⟨va_cpy f2 f 0 0 8, va_cpy g2 g 0 0 16, ⟨on_up_eq _ _ _, ?_, ?_⟩, ?_, ?_, ?_⟩, ((on_sm.rf.up (by omega) (by omega)).up (by omega) (by omega)).up (by omega) (by omega)⟩
  · repeat (first | assumption | exact on_up_eq _ _ _ | refine (on_up_ne (by omega)).trans ?_)
  · repeat (first | assumption | exact on_up_eq _ _ _ | refine (on_up_ne (by omega)).trans ?_)
  · intro i hi
    rw [pk_cpy_in (f := f2) (g := f) (sp := 0) (dp := 0) (n := 8) (j := i) (by omega) (by omega), ← hI2.1 i hi, Nat.zero_add, Nat.sub_zero]
  · intro j hj
    rw [pk_cpy_in (f := g2) (g := g) (sp := 0) (dp := 0) (n := 16) (j := j) (by omega) (by omega), ← hI2.2.1 j hj, Nat.zero_add, Nat.sub_zero]
  · intro hk
    rw [pk_cpy_in (f := g2) (g := g) (sp := 0) (dp := 0) (n := 16) (by omega) (by omega), ← hI2.2.2 hk, Nat.zero_add, Nat.sub_zero]
set_option maxHeartbeats 4000000 in
/-- new Sha: its rows come behind it; no message is begun -/
theorem c_Sha_init (h0 : h o = some (.inr (0, [.null, .null, .int 0]))) (hsz : sz = o + 1) : on_Ct G M_Sha_init [.ref o] h sz 2 72 (fun r h1 z => r = none ∧ z = o + 3 ∧ sh_B o (fun _ => 0) (fun _ => 0) 0 h1 ∧ on_sm o (o + 3) h h1) := by
  subst hsz
  refine on_Ct.of (by decide) v_Sha_init (Nat.le_of_ble_eq_true rfl) ?_
  first | refine on_aload_n (pc' := 1) rfl rfl rfl rfl ?_ | refine on_aload_nQ (pc' := 1) rfl rfl rfl rfl ?_
  refine on_objInit (pc' := 4) rfl rfl oi_Sha_3 w_ob1 w_ob2 (Nat.le_of_ble_eq_true rfl) (Nat.le_of_ble_eq_true rfl) ?_
  first | refine on_aload_n (pc' := 5) rfl rfl rfl rfl ?_ | refine on_aload_nQ (pc' := 5) rfl rfl rfl rfl ?_
  refine on_bipush (pc' := 7) (v := 8) rfl rfl lb_8 ?_
  refine on_newarray (pc' := 9) (t := 0) (N := 8) (ty := .int) (a0 := (8, .inl (fun _ => 0))) rfl rfl rfl rfl (fun _ _ _ h1 h2 => Option.some.inj (h1.symm.trans h2)) w_arint (fun _ => rfl) (by decide) (by decide) (by decide) (by omega) (by omega) ?_
  apply on_putF (pc' := 12) rfl rfl fp_Sha_9 rfl
  · repeat (first | assumption | exact on_up_eq _ _ _ | refine (on_up_ne (by omega)).trans ?_)
  · first | rfl | assumption
  · first | rfl | assumption
  · exact Nat.le_of_ble_eq_true rfl
  first | refine on_aload_n (pc' := 13) rfl rfl rfl rfl ?_ | refine on_aload_nQ (pc' := 13) rfl rfl rfl rfl ?_
  refine on_bipush (pc' := 15) (v := 64) rfl rfl lb_64 ?_
  refine on_newarray (pc' := 17) (t := 0) (N := 64) (ty := .int) (a0 := (64, .inl (fun _ => 0))) rfl rfl rfl rfl (fun _ _ _ h1 h2 => Option.some.inj (h1.symm.trans h2)) w_arint (fun _ => rfl) (by decide) (by decide) (by decide) (by omega) (by omega) ?_
  apply on_putF (pc' := 20) rfl rfl fp_Sha_15 rfl
  · repeat (first | assumption | exact on_up_eq _ _ _ | refine (on_up_ne (by omega)).trans ?_)
  · first | rfl | assumption
  · first | rfl | assumption
  · exact Nat.le_of_ble_eq_true rfl
  refine on_vreturn rfl rfl ?_
  refine ⟨rfl, rfl, ⟨on_up_eq _ _ _, ?_, ?_⟩, (((on_sm.rf.up (by omega) (by omega)).up (by omega) (by omega)).up (by omega) (by omega)).up (by omega) (by omega)⟩
  · repeat (first | assumption | exact on_up_eq _ _ _ | refine (on_up_ne (by omega)).trans ?_)
  · repeat (first | assumption | exact on_up_eq _ _ _ | refine (on_up_ne (by omega)).trans ?_)
end SHB
