/-! the reference's Sha -/
def ms_B (o : Nat) (f g : Nat → Int32) (n : Int64) (h : on_H) : Prop := h o = some (.inr (12, [.ref (o + 1), .ref (o + 2), .long n])) ∧ h (o + 1) = some (on_ai 0 8 f) ∧ h (o + 2) = some (on_ai 0 64 g)
def sp_rt (v n : Int32) : Int32 := sh_u v n ||| sh_l v (32 - n)
theorem sp_rt0 (p : Int32) : sp_rt p 7 ^^^ sp_rt p 18 ^^^ sh_u p 3 = sp_0 p := rfl
theorem sp_rt1 (p : Int32) : sp_rt p 17 ^^^ sp_rt p 19 ^^^ sh_u p 10 = sp_1 p := rfl
theorem sp_rth (p : Int32) : sp_rt p 6 ^^^ sp_rt p 11 ^^^ sp_rt p 25 = sp_hi p := rfl
theorem sp_rtl (p : Int32) : sp_rt p 2 ^^^ sp_rt p 13 ^^^ sp_rt p 22 = sp_lo p := rfl
section MSH
variable {G : on_G} {o q sz bc bs : Nat} {f g : Nat → Int32} {len : Int64} {h : on_H} {Q : Option Value → on_H → Nat → Prop}
theorem c_MSha_turned {v n : Int32} : on_Ct G M_MSha_turned [.int v, .int n] h sz 0 0 (fun r h1 z => r = some (.int (sp_rt v n)) ∧ z = sz ∧ h1 = h) := by
  refine on_Ct.of (by decide) v_MSha_turned (Nat.le_of_ble_eq_true rfl) ?_
  refine on_iload_n (pc' := 1) rfl rfl rfl rfl ?_
  refine on_iload_n (pc' := 2) rfl rfl rfl rfl ?_
  refine on_iushr (pc' := 3) rfl rfl ?_
  refine on_iload_n (pc' := 4) rfl rfl rfl rfl ?_
  refine on_bipush (pc' := 6) (v := 32) rfl rfl lb_32 ?_
  refine on_iload_n (pc' := 7) rfl rfl rfl rfl ?_
  refine on_isub (pc' := 8) rfl rfl ?_
  refine on_ishl (pc' := 9) rfl rfl ?_
  refine on_ior (pc' := 10) rfl rfl ?_
  refine on_ireturn rfl rfl ?_
  exact ⟨rfl, rfl, rfl⟩
/-- a call of turned -/
theorem on_turned {pc pc' : Nat} {lv : on_V} {v n : Int32} {st : List Value} (hd : on_tb M_MSha_block pc = some (.invokestatic 34, 3)) (hp : pc + 3 = pc') (hst : (st.map fun v => v.category).sum ≤ 8) (k : on_E G M_MSha_block pc' lv (.int (sp_rt v n) :: st) h sz bc bs Q) : on_E G M_MSha_block pc lv (.int n :: .int v :: st) h sz bc bs Q := by
  refine on_callS (As := [.int v, .int n]) (rest := st) hd hp cw_MSha_block_34 rfl rfl hst (Nat.zero_le _) (Nat.zero_le _) c_MSha_turned ?_
  rintro r h1 z ⟨rfl, rfl, rfl⟩
  exact k
set_option maxHeartbeats 4000000 in
theorem ms_bl1 (k : ∀ h2, ms_B o f (sp_w g 48) len h2 → on_sm o (o + 3) h h2 → on_E G M_MSha_block 128 (on_l [(0, .ref o), (1, .ref q)]) [] h2 sz bc bs Q) :
    ∀ (m n : Nat) (h1 : on_H), n + m = 48 → ms_B o f (sp_w g n) len h1 → on_sm o (o + 3) h h1 → on_E G M_MSha_block 3 (on_l [(0, .ref o), (1, .ref q), (2, .int (nI (16 + n)))]) [] h1 sz bc bs Q := by
  intro m
  induction m with
  | zero =>
    intro n h1 hn hB hs
    refine on_iload_n (pc' := 4) rfl rfl rfl rfl ?_
    refine on_bipush (pc' := 6) (v := 64) rfl rfl lb_64 ?_
    refine on_icmp_ge (pc' := 9) (tgt := 128) rfl rfl rfl (fun cq => ?_) (fun cq => ?_)
    · refine on_relv (l := [(0, .ref o), (1, .ref q)]) ⟨rfl, rfl, trivial⟩ (k h1 ?_ hs)
      rw [show n = 48 by omega] at hB
      exact hB
    · exact absurd (by rw [show n = 48 by omega]; decide) cq
  | succ m ih =>
    intro n h1 hn hB hs
    obtain ⟨b1, b2, b3⟩ := id hB
    have e15 : nI (16 + n) - 15 = nI (n + 1) := by rw [show (15 : Int32) = nI 15 from rfl, pk_sub (by omega)]; congr 1; omega
    have e2 : nI (16 + n) - 2 = nI (n + 14) := by rw [show (2 : Int32) = nI 2 from rfl, pk_sub (by omega)]; congr 1; omega
    have e16 : nI (16 + n) - 16 = nI n := by rw [show (16 : Int32) = nI 16 from rfl, pk_sub (by omega)]; congr 1; omega
    have e7 : nI (16 + n) - 7 = nI (n + 9) := by rw [show (7 : Int32) = nI 7 from rfl, pk_sub (by omega)]; congr 1; omega
    refine on_iload_n (pc' := 4) rfl rfl rfl rfl ?_
    refine on_bipush (pc' := 6) (v := 64) rfl rfl lb_64 ?_
    refine on_icmp_ge (pc' := 9) (tgt := 128) rfl rfl rfl (fun cq => ?_) (fun cq => ?_)
    · exact absurd cq (by rw [show (64 : Int32) = nI 64 from rfl]; exact nI_ge (by omega) (by omega))
    · first | refine on_aload_n (pc' := 10) rfl rfl rfl rfl ?_ | refine on_aload_nQ (pc' := 10) rfl rfl rfl rfl ?_
      apply on_get (pc' := 13) rfl rfl fl_MSha_13
      · repeat (first | assumption | exact on_up_eq _ _ _ | refine (on_up_ne (by omega)).trans ?_)
      · rfl
      refine on_iload_n (pc' := 14) rfl rfl rfl rfl ?_
      refine on_bipush (pc' := 16) (v := 15) rfl rfl lb_15 ?_
      refine on_isub (pc' := 17) rfl rfl ?_
      apply on_ialoadK (pc' := 18) (t := 0) rfl rfl
      · repeat (first | assumption | exact on_up_eq _ _ _ | refine (on_up_ne (by omega)).trans ?_)
      · rfl
      · first | assumption | exact on_lit _ | rfl
      · first | assumption | omega | decide
      refine on_bipush (pc' := 20) (v := 7) rfl rfl lb_7 ?_
      refine on_turned (pc' := 23) rfl rfl (Nat.le_of_ble_eq_true rfl) ?_
      first | refine on_aload_n (pc' := 24) rfl rfl rfl rfl ?_ | refine on_aload_nQ (pc' := 24) rfl rfl rfl rfl ?_
      apply on_get (pc' := 27) rfl rfl fl_MSha_13
      · repeat (first | assumption | exact on_up_eq _ _ _ | refine (on_up_ne (by omega)).trans ?_)
      · rfl
      refine on_iload_n (pc' := 28) rfl rfl rfl rfl ?_
      refine on_bipush (pc' := 30) (v := 15) rfl rfl lb_15 ?_
      refine on_isub (pc' := 31) rfl rfl ?_
      apply on_ialoadK (pc' := 32) (t := 0) rfl rfl
      · repeat (first | assumption | exact on_up_eq _ _ _ | refine (on_up_ne (by omega)).trans ?_)
      · rfl
      · first | assumption | exact on_lit _ | rfl
      · first | assumption | omega | decide
      refine on_bipush (pc' := 34) (v := 18) rfl rfl lb_18 ?_
      refine on_turned (pc' := 37) rfl rfl (Nat.le_of_ble_eq_true rfl) ?_
      refine on_ixor (pc' := 38) rfl rfl ?_
      first | refine on_aload_n (pc' := 39) rfl rfl rfl rfl ?_ | refine on_aload_nQ (pc' := 39) rfl rfl rfl rfl ?_
      apply on_get (pc' := 42) rfl rfl fl_MSha_13
      · repeat (first | assumption | exact on_up_eq _ _ _ | refine (on_up_ne (by omega)).trans ?_)
      · rfl
      refine on_iload_n (pc' := 43) rfl rfl rfl rfl ?_
      refine on_bipush (pc' := 45) (v := 15) rfl rfl lb_15 ?_
      refine on_isub (pc' := 46) rfl rfl ?_
      apply on_ialoadK (pc' := 47) (t := 0) rfl rfl
      · repeat (first | assumption | exact on_up_eq _ _ _ | refine (on_up_ne (by omega)).trans ?_)
      · rfl
      · first | assumption | exact on_lit _ | rfl
      · first | assumption | omega | decide
      refine on_iconst (pc' := 48) (v := 3) rfl rfl li_3 ?_
      refine on_iushr (pc' := 49) rfl rfl ?_
      refine on_ixor (pc' := 50) rfl rfl ?_
      refine on_istore_n (pc' := 51) rfl rfl rfl (by decide) ?_
      first | refine on_aload_n (pc' := 52) rfl rfl rfl rfl ?_ | refine on_aload_nQ (pc' := 52) rfl rfl rfl rfl ?_
      apply on_get (pc' := 55) rfl rfl fl_MSha_13
      · repeat (first | assumption | exact on_up_eq _ _ _ | refine (on_up_ne (by omega)).trans ?_)
      · rfl
      refine on_iload_n (pc' := 56) rfl rfl rfl rfl ?_
      refine on_iconst (pc' := 57) (v := 2) rfl rfl li_2 ?_
      refine on_isub (pc' := 58) rfl rfl ?_
      apply on_ialoadK (pc' := 59) (t := 0) rfl rfl
      · repeat (first | assumption | exact on_up_eq _ _ _ | refine (on_up_ne (by omega)).trans ?_)
      · rfl
      · first | assumption | exact on_lit _ | rfl
      · first | assumption | omega | decide
      refine on_bipush (pc' := 61) (v := 17) rfl rfl lb_17 ?_
      refine on_turned (pc' := 64) rfl rfl (Nat.le_of_ble_eq_true rfl) ?_
      first | refine on_aload_n (pc' := 65) rfl rfl rfl rfl ?_ | refine on_aload_nQ (pc' := 65) rfl rfl rfl rfl ?_
      apply on_get (pc' := 68) rfl rfl fl_MSha_13
      · repeat (first | assumption | exact on_up_eq _ _ _ | refine (on_up_ne (by omega)).trans ?_)
      · rfl
      refine on_iload_n (pc' := 69) rfl rfl rfl rfl ?_
      refine on_iconst (pc' := 70) (v := 2) rfl rfl li_2 ?_
      refine on_isub (pc' := 71) rfl rfl ?_
      apply on_ialoadK (pc' := 72) (t := 0) rfl rfl
      · repeat (first | assumption | exact on_up_eq _ _ _ | refine (on_up_ne (by omega)).trans ?_)
      · rfl
      · first | assumption | exact on_lit _ | rfl
      · first | assumption | omega | decide
      refine on_bipush (pc' := 74) (v := 19) rfl rfl lb_19 ?_
      refine on_turned (pc' := 77) rfl rfl (Nat.le_of_ble_eq_true rfl) ?_
      refine on_ixor (pc' := 78) rfl rfl ?_
      first | refine on_aload_n (pc' := 79) rfl rfl rfl rfl ?_ | refine on_aload_nQ (pc' := 79) rfl rfl rfl rfl ?_
      apply on_get (pc' := 82) rfl rfl fl_MSha_13
      · repeat (first | assumption | exact on_up_eq _ _ _ | refine (on_up_ne (by omega)).trans ?_)
      · rfl
      refine on_iload_n (pc' := 83) rfl rfl rfl rfl ?_
      refine on_iconst (pc' := 84) (v := 2) rfl rfl li_2 ?_
      refine on_isub (pc' := 85) rfl rfl ?_
      apply on_ialoadK (pc' := 86) (t := 0) rfl rfl
      · repeat (first | assumption | exact on_up_eq _ _ _ | refine (on_up_ne (by omega)).trans ?_)
      · rfl
      · first | assumption | exact on_lit _ | rfl
      · first | assumption | omega | decide
      refine on_bipush (pc' := 88) (v := 10) rfl rfl lb_10 ?_
      refine on_iushr (pc' := 89) rfl rfl ?_
      refine on_ixor (pc' := 90) rfl rfl ?_
      refine on_istore (pc' := 92) rfl rfl (by decide) ?_
      first | refine on_aload_n (pc' := 93) rfl rfl rfl rfl ?_ | refine on_aload_nQ (pc' := 93) rfl rfl rfl rfl ?_
      apply on_get (pc' := 96) rfl rfl fl_MSha_13
      · repeat (first | assumption | exact on_up_eq _ _ _ | refine (on_up_ne (by omega)).trans ?_)
      · rfl
      refine on_iload_n (pc' := 97) rfl rfl rfl rfl ?_
      first | refine on_aload_n (pc' := 98) rfl rfl rfl rfl ?_ | refine on_aload_nQ (pc' := 98) rfl rfl rfl rfl ?_
      apply on_get (pc' := 101) rfl rfl fl_MSha_13
      · repeat (first | assumption | exact on_up_eq _ _ _ | refine (on_up_ne (by omega)).trans ?_)
      · rfl
      refine on_iload_n (pc' := 102) rfl rfl rfl rfl ?_
      refine on_bipush (pc' := 104) (v := 16) rfl rfl lb_16 ?_
      refine on_isub (pc' := 105) rfl rfl ?_
      apply on_ialoadK (pc' := 106) (t := 0) rfl rfl
      · repeat (first | assumption | exact on_up_eq _ _ _ | refine (on_up_ne (by omega)).trans ?_)
      · rfl
      · first | assumption | exact on_lit _ | rfl
      · first | assumption | omega | decide
      refine on_iload_n (pc' := 107) rfl rfl rfl rfl ?_
      refine on_iadd (pc' := 108) rfl rfl ?_
      first | refine on_aload_n (pc' := 109) rfl rfl rfl rfl ?_ | refine on_aload_nQ (pc' := 109) rfl rfl rfl rfl ?_
      apply on_get (pc' := 112) rfl rfl fl_MSha_13
      · repeat (first | assumption | exact on_up_eq _ _ _ | refine (on_up_ne (by omega)).trans ?_)
      · rfl
      refine on_iload_n (pc' := 113) rfl rfl rfl rfl ?_
      refine on_bipush (pc' := 115) (v := 7) rfl rfl lb_7 ?_
      refine on_isub (pc' := 116) rfl rfl ?_
      apply on_ialoadK (pc' := 117) (t := 0) rfl rfl
      · repeat (first | assumption | exact on_up_eq _ _ _ | refine (on_up_ne (by omega)).trans ?_)
      · rfl
      · first | assumption | exact on_lit _ | rfl
      · first | assumption | omega | decide
      refine on_iadd (pc' := 118) rfl rfl ?_
      refine on_iload (pc' := 120) rfl rfl rfl ?_
      refine on_iadd (pc' := 121) rfl rfl ?_
      apply on_iastoreK (pc' := 122) (t := 0) rfl rfl
      · repeat (first | assumption | exact on_up_eq _ _ _ | refine (on_up_ne (by omega)).trans ?_)
      · rfl
      · first | assumption | exact on_lit _ | rfl
      · first | assumption | omega | decide
      refine on_iinc1 (pc' := 125) rfl rfl rfl ?_
      refine on_goto (tgt := 3) rfl rfl ?_
      refine on_relv (l := [(0, .ref o), (1, .ref q), (2, .int (nI (16 + (n + 1))))]) ⟨rfl, rfl, ?_, trivial⟩ ?_
      · show some (Value.int (nI (16 + n) + 1)) = _
        rw [nI_1]; rfl
      · refine ih (n + 1) _ (by omega) ⟨?_, ?_, ?_⟩ (hs.up (by omega) (by omega))
        · repeat (first | assumption | exact on_up_eq _ _ _ | refine (on_up_ne (by omega)).trans ?_)
        · repeat (first | assumption | exact on_up_eq _ _ _ | refine (on_up_ne (by omega)).trans ?_)
        · exact on_up_eq _ _ _
set_option maxHeartbeats 4000000 in
theorem ms_bl2 {W T : Nat → Int32} (hB : ms_B o f W len h) (hq : h q = some (on_ai 0 64 T)) (hTK : ∀ k, k < 64 → T k = sp_K k) (k : ∀ a b c d e x y z : Int32, (a, b, c, d, e, x, y, z) = sp_rn sp_K W (sp_s f) 64 → on_E G M_MSha_block 332 (on_l [(0, .ref o), (2, .int a), (3, .int b), (4, .int c), (5, .int d), (6, .int e), (7, .int x), (8, .int y), (9, .int z)]) [] h sz bc bs Q) :
    ∀ (m n : Nat) (a b c d e x y z : Int32), n + m = 64 → (a, b, c, d, e, x, y, z) = sp_rn sp_K W (sp_s f) n → on_E G M_MSha_block 195 (on_l [(0, .ref o), (1, .ref q), (2, .int a), (3, .int b), (4, .int c), (5, .int d), (6, .int e), (7, .int x), (8, .int y), (9, .int z), (10, .int (nI n))]) [] h sz bc bs Q := by
  intro m
  induction m with
  | zero =>
    intro n a b c d e x y z hn hT
    refine on_iload (pc' := 197) rfl rfl rfl ?_
    refine on_bipush (pc' := 199) (v := 64) rfl rfl lb_64 ?_
    refine on_icmp_ge (pc' := 202) (tgt := 332) rfl rfl rfl (fun cq => ?_) (fun cq => ?_)
    · rw [show n = 64 by omega] at hT
      exact on_relv (l := [(0, .ref o), (2, .int a), (3, .int b), (4, .int c), (5, .int d), (6, .int e), (7, .int x), (8, .int y), (9, .int z)]) ⟨rfl, rfl, rfl, rfl, rfl, rfl, rfl, rfl, rfl, trivial⟩ (k a b c d e x y z hT)
    · exact absurd (by rw [show n = 64 by omega]; decide) cq
  | succ m ih =>
    intro n a b c d e x y z hn hT
    obtain ⟨b1, b2, b3⟩ := id hB
    refine on_iload (pc' := 197) rfl rfl rfl ?_
    refine on_bipush (pc' := 199) (v := 64) rfl rfl lb_64 ?_
    refine on_icmp_ge (pc' := 202) (tgt := 332) rfl rfl rfl (fun cq => ?_) (fun cq => ?_)
    · exact absurd cq (by rw [show (64 : Int32) = nI 64 from rfl]; exact nI_ge (by omega) (by omega))
    · refine on_iload (pc' := 204) rfl rfl rfl ?_
      refine on_iload (pc' := 206) rfl rfl rfl ?_
      refine on_bipush (pc' := 208) (v := 6) rfl rfl lb_6 ?_
      refine on_turned (pc' := 211) rfl rfl (Nat.le_of_ble_eq_true rfl) ?_
      refine on_iload (pc' := 213) rfl rfl rfl ?_
      refine on_bipush (pc' := 215) (v := 11) rfl rfl lb_11 ?_
      refine on_turned (pc' := 218) rfl rfl (Nat.le_of_ble_eq_true rfl) ?_
      refine on_ixor (pc' := 219) rfl rfl ?_
      refine on_iload (pc' := 221) rfl rfl rfl ?_
      refine on_bipush (pc' := 223) (v := 25) rfl rfl lb_25 ?_
      refine on_turned (pc' := 226) rfl rfl (Nat.le_of_ble_eq_true rfl) ?_
      refine on_ixor (pc' := 227) rfl rfl ?_
      refine on_iadd (pc' := 228) rfl rfl ?_
      refine on_iload (pc' := 230) rfl rfl rfl ?_
      refine on_iload (pc' := 232) rfl rfl rfl ?_
      refine on_iand (pc' := 233) rfl rfl ?_
      refine on_iload (pc' := 235) rfl rfl rfl ?_
      refine on_iconst (pc' := 236) (v := (-1)) rfl rfl li_m1 ?_
      refine on_ixor (pc' := 237) rfl rfl ?_
      refine on_iload (pc' := 239) rfl rfl rfl ?_
      refine on_iand (pc' := 240) rfl rfl ?_
      refine on_ixor (pc' := 241) rfl rfl ?_
      refine on_iadd (pc' := 242) rfl rfl ?_
      first | refine on_aload_n (pc' := 243) rfl rfl rfl rfl ?_ | refine on_aload_nQ (pc' := 243) rfl rfl rfl rfl ?_
      refine on_iload (pc' := 245) rfl rfl rfl ?_
      apply on_ialoadK (pc' := 246) (t := 0) rfl rfl
      · repeat (first | assumption | exact on_up_eq _ _ _ | refine (on_up_ne (by omega)).trans ?_)
      · rfl
      · first | assumption | exact on_lit _ | rfl
      · first | assumption | omega | decide
      rw [hTK n (by omega)]
      refine on_iadd (pc' := 247) rfl rfl ?_
      first | refine on_aload_n (pc' := 248) rfl rfl rfl rfl ?_ | refine on_aload_nQ (pc' := 248) rfl rfl rfl rfl ?_
      apply on_get (pc' := 251) rfl rfl fl_MSha_13
      · repeat (first | assumption | exact on_up_eq _ _ _ | refine (on_up_ne (by omega)).trans ?_)
      · rfl
      refine on_iload (pc' := 253) rfl rfl rfl ?_
      apply on_ialoadK (pc' := 254) (t := 0) rfl rfl
      · repeat (first | assumption | exact on_up_eq _ _ _ | refine (on_up_ne (by omega)).trans ?_)
      · rfl
      · first | assumption | exact on_lit _ | rfl
      · first | assumption | omega | decide
      refine on_iadd (pc' := 255) rfl rfl ?_
      refine on_istore (pc' := 257) rfl rfl (by decide) ?_
      refine on_iload_n (pc' := 258) rfl rfl rfl rfl ?_
      refine on_iconst (pc' := 259) (v := 2) rfl rfl li_2 ?_
      refine on_turned (pc' := 262) rfl rfl (Nat.le_of_ble_eq_true rfl) ?_
      refine on_iload_n (pc' := 263) rfl rfl rfl rfl ?_
      refine on_bipush (pc' := 265) (v := 13) rfl rfl lb_13 ?_
      refine on_turned (pc' := 268) rfl rfl (Nat.le_of_ble_eq_true rfl) ?_
      refine on_ixor (pc' := 269) rfl rfl ?_
      refine on_iload_n (pc' := 270) rfl rfl rfl rfl ?_
      refine on_bipush (pc' := 272) (v := 22) rfl rfl lb_22 ?_
      refine on_turned (pc' := 275) rfl rfl (Nat.le_of_ble_eq_true rfl) ?_
      refine on_ixor (pc' := 276) rfl rfl ?_
      refine on_iload_n (pc' := 277) rfl rfl rfl rfl ?_
      refine on_iload_n (pc' := 278) rfl rfl rfl rfl ?_
      refine on_iand (pc' := 279) rfl rfl ?_
      refine on_iload_n (pc' := 280) rfl rfl rfl rfl ?_
      refine on_iload (pc' := 282) rfl rfl rfl ?_
      refine on_iand (pc' := 283) rfl rfl ?_
      refine on_ixor (pc' := 284) rfl rfl ?_
      refine on_iload_n (pc' := 285) rfl rfl rfl rfl ?_
      refine on_iload (pc' := 287) rfl rfl rfl ?_
      refine on_iand (pc' := 288) rfl rfl ?_
      refine on_ixor (pc' := 289) rfl rfl ?_
      refine on_iadd (pc' := 290) rfl rfl ?_
      refine on_istore (pc' := 292) rfl rfl (by decide) ?_
      refine on_iload (pc' := 294) rfl rfl rfl ?_
      refine on_istore (pc' := 296) rfl rfl (by decide) ?_
      refine on_iload (pc' := 298) rfl rfl rfl ?_
      refine on_istore (pc' := 300) rfl rfl (by decide) ?_
      refine on_iload (pc' := 302) rfl rfl rfl ?_
      refine on_istore (pc' := 304) rfl rfl (by decide) ?_
      refine on_iload (pc' := 306) rfl rfl rfl ?_
      refine on_iload (pc' := 308) rfl rfl rfl ?_
      refine on_iadd (pc' := 309) rfl rfl ?_
      refine on_istore (pc' := 311) rfl rfl (by decide) ?_
      refine on_iload (pc' := 313) rfl rfl rfl ?_
      refine on_istore (pc' := 315) rfl rfl (by decide) ?_
      refine on_iload_n (pc' := 316) rfl rfl rfl rfl ?_
      refine on_istore (pc' := 318) rfl rfl (by decide) ?_
      refine on_iload_n (pc' := 319) rfl rfl rfl rfl ?_
      refine on_istore_n (pc' := 320) rfl rfl rfl (by decide) ?_
      refine on_iload (pc' := 322) rfl rfl rfl ?_
      refine on_iload (pc' := 324) rfl rfl rfl ?_
      refine on_iadd (pc' := 325) rfl rfl ?_
      refine on_istore_n (pc' := 326) rfl rfl rfl (by decide) ?_
      refine on_iinc1 (pc' := 329) rfl rfl rfl ?_
      refine on_goto (tgt := 195) rfl rfl ?_
      refine on_relv (l := [(0, .ref o), (1, .ref q), (2, .int (sp_one e x y z (sp_K n) (W n) + sp_two a b c)), (3, .int a), (4, .int b), (5, .int c), (6, .int (d + sp_one e x y z (sp_K n) (W n))), (7, .int e), (8, .int x), (9, .int y), (10, .int (nI (n + 1)))]) ⟨rfl, rfl, rfl, rfl, rfl, rfl, rfl, rfl, rfl, rfl, ?_, trivial⟩ ?_
      · show some (Value.int (nI n + 1)) = _
        rw [nI_1]
      · refine ih (n + 1) _ _ _ _ _ _ _ _ (by omega) ?_
        show _ = sp_st _ _ (sp_rn sp_K W (sp_s f) n)
        rw [← hT]
        rfl
/-- the table of constants at q -/
def ms_T (q : Nat) (h : on_H) : Prop := ∃ T : Nat → Int32, h q = some (on_ai 0 64 T) ∧ ∀ k, k < 64 → T k = sp_K k
set_option maxHeartbeats 4000000 in
/-- the reference's block, with the table of constants at q -/
theorem c_MSha_block (hB : ms_B o f g len h) (hq : ms_T q h) (hqo : q < o ∨ o + 3 ≤ q) : on_Ct G M_MSha_block [.ref o, .ref q] h sz 0 0 (fun r h1 z => r = none ∧ z = sz ∧ ms_B o (sp_c f g) (sp_w g 48) len h1 ∧ on_sm o (o + 3) h h1) := by
  obtain ⟨T, hq, hTK⟩ := hq
  refine on_Ct.of (by decide) v_MSha_block (Nat.le_of_ble_eq_true rfl) ?_
  refine on_bipush (pc' := 2) (v := 16) rfl rfl lb_16 ?_
  refine on_istore_n (pc' := 3) rfl rfl rfl (by decide) ?_
  refine on_relv (l := [(0, .ref o), (1, .ref q), (2, .int (nI (16 + 0)))]) ⟨rfl, rfl, rfl, trivial⟩ (ms_bl1 (fun h2 hB2 hs2 => ?_) 48 0 h rfl hB on_sm.rf)
  obtain ⟨b1, b2, b3⟩ := id hB2
  first | refine on_aload_n (pc' := 129) rfl rfl rfl rfl ?_ | refine on_aload_nQ (pc' := 129) rfl rfl rfl rfl ?_
  apply on_get (pc' := 132) rfl rfl fl_MSha_7
  · repeat (first | assumption | exact on_up_eq _ _ _ | refine (on_up_ne (by omega)).trans ?_)
  · rfl
  refine on_iconst (pc' := 133) (v := 0) rfl rfl li_0 ?_
  apply on_ialoadK (pc' := 134) (t := 0) (k := 0) rfl rfl
  · repeat (first | assumption | exact on_up_eq _ _ _ | refine (on_up_ne (by omega)).trans ?_)
  · rfl
  · first | assumption | exact on_lit _ | rfl
  · first | assumption | omega | decide
  refine on_istore_n (pc' := 135) rfl rfl rfl (by decide) ?_
  first | refine on_aload_n (pc' := 136) rfl rfl rfl rfl ?_ | refine on_aload_nQ (pc' := 136) rfl rfl rfl rfl ?_
  apply on_get (pc' := 139) rfl rfl fl_MSha_7
  · repeat (first | assumption | exact on_up_eq _ _ _ | refine (on_up_ne (by omega)).trans ?_)
  · rfl
  refine on_iconst (pc' := 140) (v := 1) rfl rfl li_1 ?_
  apply on_ialoadK (pc' := 141) (t := 0) (k := 1) rfl rfl
  · repeat (first | assumption | exact on_up_eq _ _ _ | refine (on_up_ne (by omega)).trans ?_)
  · rfl
  · first | assumption | exact on_lit _ | rfl
  · first | assumption | omega | decide
  refine on_istore_n (pc' := 142) rfl rfl rfl (by decide) ?_
  first | refine on_aload_n (pc' := 143) rfl rfl rfl rfl ?_ | refine on_aload_nQ (pc' := 143) rfl rfl rfl rfl ?_
  apply on_get (pc' := 146) rfl rfl fl_MSha_7
  · repeat (first | assumption | exact on_up_eq _ _ _ | refine (on_up_ne (by omega)).trans ?_)
  · rfl
  refine on_iconst (pc' := 147) (v := 2) rfl rfl li_2 ?_
  apply on_ialoadK (pc' := 148) (t := 0) (k := 2) rfl rfl
  · repeat (first | assumption | exact on_up_eq _ _ _ | refine (on_up_ne (by omega)).trans ?_)
  · rfl
  · first | assumption | exact on_lit _ | rfl
  · first | assumption | omega | decide
  refine on_istore (pc' := 150) rfl rfl (by decide) ?_
  first | refine on_aload_n (pc' := 151) rfl rfl rfl rfl ?_ | refine on_aload_nQ (pc' := 151) rfl rfl rfl rfl ?_
  apply on_get (pc' := 154) rfl rfl fl_MSha_7
  · repeat (first | assumption | exact on_up_eq _ _ _ | refine (on_up_ne (by omega)).trans ?_)
  · rfl
  refine on_iconst (pc' := 155) (v := 3) rfl rfl li_3 ?_
  apply on_ialoadK (pc' := 156) (t := 0) (k := 3) rfl rfl
  · repeat (first | assumption | exact on_up_eq _ _ _ | refine (on_up_ne (by omega)).trans ?_)
  · rfl
  · first | assumption | exact on_lit _ | rfl
  · first | assumption | omega | decide
  refine on_istore (pc' := 158) rfl rfl (by decide) ?_
  first | refine on_aload_n (pc' := 159) rfl rfl rfl rfl ?_ | refine on_aload_nQ (pc' := 159) rfl rfl rfl rfl ?_
  apply on_get (pc' := 162) rfl rfl fl_MSha_7
  · repeat (first | assumption | exact on_up_eq _ _ _ | refine (on_up_ne (by omega)).trans ?_)
  · rfl
  refine on_iconst (pc' := 163) (v := 4) rfl rfl li_4 ?_
  apply on_ialoadK (pc' := 164) (t := 0) (k := 4) rfl rfl
  · repeat (first | assumption | exact on_up_eq _ _ _ | refine (on_up_ne (by omega)).trans ?_)
  · rfl
  · first | assumption | exact on_lit _ | rfl
  · first | assumption | omega | decide
  refine on_istore (pc' := 166) rfl rfl (by decide) ?_
  first | refine on_aload_n (pc' := 167) rfl rfl rfl rfl ?_ | refine on_aload_nQ (pc' := 167) rfl rfl rfl rfl ?_
  apply on_get (pc' := 170) rfl rfl fl_MSha_7
  · repeat (first | assumption | exact on_up_eq _ _ _ | refine (on_up_ne (by omega)).trans ?_)
  · rfl
  refine on_iconst (pc' := 171) (v := 5) rfl rfl li_5 ?_
  apply on_ialoadK (pc' := 172) (t := 0) (k := 5) rfl rfl
  · repeat (first | assumption | exact on_up_eq _ _ _ | refine (on_up_ne (by omega)).trans ?_)
  · rfl
  · first | assumption | exact on_lit _ | rfl
  · first | assumption | omega | decide
  refine on_istore (pc' := 174) rfl rfl (by decide) ?_
  first | refine on_aload_n (pc' := 175) rfl rfl rfl rfl ?_ | refine on_aload_nQ (pc' := 175) rfl rfl rfl rfl ?_
  apply on_get (pc' := 178) rfl rfl fl_MSha_7
  · repeat (first | assumption | exact on_up_eq _ _ _ | refine (on_up_ne (by omega)).trans ?_)
  · rfl
  refine on_bipush (pc' := 180) (v := 6) rfl rfl lb_6 ?_
  apply on_ialoadK (pc' := 181) (t := 0) (k := 6) rfl rfl
  · repeat (first | assumption | exact on_up_eq _ _ _ | refine (on_up_ne (by omega)).trans ?_)
  · rfl
  · first | assumption | exact on_lit _ | rfl
  · first | assumption | omega | decide
  refine on_istore (pc' := 183) rfl rfl (by decide) ?_
  first | refine on_aload_n (pc' := 184) rfl rfl rfl rfl ?_ | refine on_aload_nQ (pc' := 184) rfl rfl rfl rfl ?_
  apply on_get (pc' := 187) rfl rfl fl_MSha_7
  · repeat (first | assumption | exact on_up_eq _ _ _ | refine (on_up_ne (by omega)).trans ?_)
  · rfl
  refine on_bipush (pc' := 189) (v := 7) rfl rfl lb_7 ?_
  apply on_ialoadK (pc' := 190) (t := 0) (k := 7) rfl rfl
  · repeat (first | assumption | exact on_up_eq _ _ _ | refine (on_up_ne (by omega)).trans ?_)
  · rfl
  · first | assumption | exact on_lit _ | rfl
  · first | assumption | omega | decide
  refine on_istore (pc' := 192) rfl rfl (by decide) ?_
  refine on_iconst (pc' := 193) (v := 0) rfl rfl li_0 ?_
  refine on_istore (pc' := 195) rfl rfl (by decide) ?_
  refine on_relv (l := [(0, .ref o), (1, .ref q), (2, .int (f 0)), (3, .int (f 1)), (4, .int (f 2)), (5, .int (f 3)), (6, .int (f 4)), (7, .int (f 5)), (8, .int (f 6)), (9, .int (f 7)), (10, .int (nI 0))]) ⟨rfl, rfl, rfl, rfl, rfl, rfl, rfl, rfl, rfl, rfl, rfl, trivial⟩ (ms_bl2 hB2 ((hs2 q hqo).trans hq) hTK (fun a b c d e x y z hT => ?_) 64 0 _ _ _ _ _ _ _ _ rfl rfl)
  first | refine on_aload_n (pc' := 333) rfl rfl rfl rfl ?_ | refine on_aload_nQ (pc' := 333) rfl rfl rfl rfl ?_
  apply on_get (pc' := 336) rfl rfl fl_MSha_7
  · repeat (first | assumption | exact on_up_eq _ _ _ | refine (on_up_ne (by omega)).trans ?_)
  · rfl
  refine on_iconst (pc' := 337) (v := 0) rfl rfl li_0 ?_
  first | refine on_dup2_11 (pc' := 338) rfl rfl rfl rfl ?_ | refine on_dup2_2 (pc' := 338) rfl rfl rfl ?_
  apply on_ialoadK (pc' := 339) (t := 0) rfl rfl
  · repeat (first | assumption | exact on_up_eq _ _ _ | refine (on_up_ne (by omega)).trans ?_)
  · rfl
  · first | assumption | exact on_lit _ | rfl
  · first | assumption | omega | decide
  refine on_iload_n (pc' := 340) rfl rfl rfl rfl ?_
  refine on_iadd (pc' := 341) rfl rfl ?_
  apply on_iastoreK (pc' := 342) (t := 0) rfl rfl
  · repeat (first | assumption | exact on_up_eq _ _ _ | refine (on_up_ne (by omega)).trans ?_)
  · rfl
  · first | assumption | exact on_lit _ | rfl
  · first | assumption | omega | decide
  first | refine on_aload_n (pc' := 343) rfl rfl rfl rfl ?_ | refine on_aload_nQ (pc' := 343) rfl rfl rfl rfl ?_
  apply on_get (pc' := 346) rfl rfl fl_MSha_7
  · repeat (first | assumption | exact on_up_eq _ _ _ | refine (on_up_ne (by omega)).trans ?_)
  · rfl
  refine on_iconst (pc' := 347) (v := 1) rfl rfl li_1 ?_
  first | refine on_dup2_11 (pc' := 348) rfl rfl rfl rfl ?_ | refine on_dup2_2 (pc' := 348) rfl rfl rfl ?_
  apply on_ialoadK (pc' := 349) (t := 0) rfl rfl
  · repeat (first | assumption | exact on_up_eq _ _ _ | refine (on_up_ne (by omega)).trans ?_)
  · rfl
  · first | assumption | exact on_lit _ | rfl
  · first | assumption | omega | decide
  refine on_iload_n (pc' := 350) rfl rfl rfl rfl ?_
  refine on_iadd (pc' := 351) rfl rfl ?_
  apply on_iastoreK (pc' := 352) (t := 0) rfl rfl
  · repeat (first | assumption | exact on_up_eq _ _ _ | refine (on_up_ne (by omega)).trans ?_)
  · rfl
  · first | assumption | exact on_lit _ | rfl
  · first | assumption | omega | decide
  first | refine on_aload_n (pc' := 353) rfl rfl rfl rfl ?_ | refine on_aload_nQ (pc' := 353) rfl rfl rfl rfl ?_
  apply on_get (pc' := 356) rfl rfl fl_MSha_7
  · repeat (first | assumption | exact on_up_eq _ _ _ | refine (on_up_ne (by omega)).trans ?_)
  · rfl
  refine on_iconst (pc' := 357) (v := 2) rfl rfl li_2 ?_
  first | refine on_dup2_11 (pc' := 358) rfl rfl rfl rfl ?_ | refine on_dup2_2 (pc' := 358) rfl rfl rfl ?_
  apply on_ialoadK (pc' := 359) (t := 0) rfl rfl
  · repeat (first | assumption | exact on_up_eq _ _ _ | refine (on_up_ne (by omega)).trans ?_)
  · rfl
  · first | assumption | exact on_lit _ | rfl
  · first | assumption | omega | decide
  refine on_iload (pc' := 361) rfl rfl rfl ?_
  refine on_iadd (pc' := 362) rfl rfl ?_
  apply on_iastoreK (pc' := 363) (t := 0) rfl rfl
  · repeat (first | assumption | exact on_up_eq _ _ _ | refine (on_up_ne (by omega)).trans ?_)
  · rfl
  · first | assumption | exact on_lit _ | rfl
  · first | assumption | omega | decide
  first | refine on_aload_n (pc' := 364) rfl rfl rfl rfl ?_ | refine on_aload_nQ (pc' := 364) rfl rfl rfl rfl ?_
  apply on_get (pc' := 367) rfl rfl fl_MSha_7
  · repeat (first | assumption | exact on_up_eq _ _ _ | refine (on_up_ne (by omega)).trans ?_)
  · rfl
  refine on_iconst (pc' := 368) (v := 3) rfl rfl li_3 ?_
  first | refine on_dup2_11 (pc' := 369) rfl rfl rfl rfl ?_ | refine on_dup2_2 (pc' := 369) rfl rfl rfl ?_
  apply on_ialoadK (pc' := 370) (t := 0) rfl rfl
  · repeat (first | assumption | exact on_up_eq _ _ _ | refine (on_up_ne (by omega)).trans ?_)
  · rfl
  · first | assumption | exact on_lit _ | rfl
  · first | assumption | omega | decide
  refine on_iload (pc' := 372) rfl rfl rfl ?_
  refine on_iadd (pc' := 373) rfl rfl ?_
  apply on_iastoreK (pc' := 374) (t := 0) rfl rfl
  · repeat (first | assumption | exact on_up_eq _ _ _ | refine (on_up_ne (by omega)).trans ?_)
  · rfl
  · first | assumption | exact on_lit _ | rfl
  · first | assumption | omega | decide
  first | refine on_aload_n (pc' := 375) rfl rfl rfl rfl ?_ | refine on_aload_nQ (pc' := 375) rfl rfl rfl rfl ?_
  apply on_get (pc' := 378) rfl rfl fl_MSha_7
  · repeat (first | assumption | exact on_up_eq _ _ _ | refine (on_up_ne (by omega)).trans ?_)
  · rfl
  refine on_iconst (pc' := 379) (v := 4) rfl rfl li_4 ?_
  first | refine on_dup2_11 (pc' := 380) rfl rfl rfl rfl ?_ | refine on_dup2_2 (pc' := 380) rfl rfl rfl ?_
  apply on_ialoadK (pc' := 381) (t := 0) rfl rfl
  · repeat (first | assumption | exact on_up_eq _ _ _ | refine (on_up_ne (by omega)).trans ?_)
  · rfl
  · first | assumption | exact on_lit _ | rfl
  · first | assumption | omega | decide
  refine on_iload (pc' := 383) rfl rfl rfl ?_
  refine on_iadd (pc' := 384) rfl rfl ?_
  apply on_iastoreK (pc' := 385) (t := 0) rfl rfl
  · repeat (first | assumption | exact on_up_eq _ _ _ | refine (on_up_ne (by omega)).trans ?_)
  · rfl
  · first | assumption | exact on_lit _ | rfl
  · first | assumption | omega | decide
  first | refine on_aload_n (pc' := 386) rfl rfl rfl rfl ?_ | refine on_aload_nQ (pc' := 386) rfl rfl rfl rfl ?_
  apply on_get (pc' := 389) rfl rfl fl_MSha_7
  · repeat (first | assumption | exact on_up_eq _ _ _ | refine (on_up_ne (by omega)).trans ?_)
  · rfl
  refine on_iconst (pc' := 390) (v := 5) rfl rfl li_5 ?_
  first | refine on_dup2_11 (pc' := 391) rfl rfl rfl rfl ?_ | refine on_dup2_2 (pc' := 391) rfl rfl rfl ?_
  apply on_ialoadK (pc' := 392) (t := 0) rfl rfl
  · repeat (first | assumption | exact on_up_eq _ _ _ | refine (on_up_ne (by omega)).trans ?_)
  · rfl
  · first | assumption | exact on_lit _ | rfl
  · first | assumption | omega | decide
  refine on_iload (pc' := 394) rfl rfl rfl ?_
  refine on_iadd (pc' := 395) rfl rfl ?_
  apply on_iastoreK (pc' := 396) (t := 0) rfl rfl
  · repeat (first | assumption | exact on_up_eq _ _ _ | refine (on_up_ne (by omega)).trans ?_)
  · rfl
  · first | assumption | exact on_lit _ | rfl
  · first | assumption | omega | decide
  first | refine on_aload_n (pc' := 397) rfl rfl rfl rfl ?_ | refine on_aload_nQ (pc' := 397) rfl rfl rfl rfl ?_
  apply on_get (pc' := 400) rfl rfl fl_MSha_7
  · repeat (first | assumption | exact on_up_eq _ _ _ | refine (on_up_ne (by omega)).trans ?_)
  · rfl
  refine on_bipush (pc' := 402) (v := 6) rfl rfl lb_6 ?_
  first | refine on_dup2_11 (pc' := 403) rfl rfl rfl rfl ?_ | refine on_dup2_2 (pc' := 403) rfl rfl rfl ?_
  apply on_ialoadK (pc' := 404) (t := 0) rfl rfl
  · repeat (first | assumption | exact on_up_eq _ _ _ | refine (on_up_ne (by omega)).trans ?_)
  · rfl
  · first | assumption | exact on_lit _ | rfl
  · first | assumption | omega | decide
  refine on_iload (pc' := 406) rfl rfl rfl ?_
  refine on_iadd (pc' := 407) rfl rfl ?_
  apply on_iastoreK (pc' := 408) (t := 0) rfl rfl
  · repeat (first | assumption | exact on_up_eq _ _ _ | refine (on_up_ne (by omega)).trans ?_)
  · rfl
  · first | assumption | exact on_lit _ | rfl
  · first | assumption | omega | decide
  first | refine on_aload_n (pc' := 409) rfl rfl rfl rfl ?_ | refine on_aload_nQ (pc' := 409) rfl rfl rfl rfl ?_
  apply on_get (pc' := 412) rfl rfl fl_MSha_7
  · repeat (first | assumption | exact on_up_eq _ _ _ | refine (on_up_ne (by omega)).trans ?_)
  · rfl
  refine on_bipush (pc' := 414) (v := 7) rfl rfl lb_7 ?_
  first | refine on_dup2_11 (pc' := 415) rfl rfl rfl rfl ?_ | refine on_dup2_2 (pc' := 415) rfl rfl rfl ?_
  apply on_ialoadK (pc' := 416) (t := 0) rfl rfl
  · repeat (first | assumption | exact on_up_eq _ _ _ | refine (on_up_ne (by omega)).trans ?_)
  · rfl
  · first | assumption | exact on_lit _ | rfl
  · first | assumption | omega | decide
  refine on_iload (pc' := 418) rfl rfl rfl ?_
  refine on_iadd (pc' := 419) rfl rfl ?_
  apply on_iastoreK (pc' := 420) (t := 0) rfl rfl
  · repeat (first | assumption | exact on_up_eq _ _ _ | refine (on_up_ne (by omega)).trans ?_)
  · rfl
  · first | assumption | exact on_lit _ | rfl
  · first | assumption | omega | decide
  refine on_vreturn rfl rfl ?_
  refine ⟨rfl, rfl, ⟨?_, ?_, ?_⟩, ?_⟩
  · repeat (first | assumption | exact on_up_eq _ _ _ | refine (on_up_ne (by omega)).trans ?_)
  · refine (on_up_eq _ _ _).trans ?_
    unfold sp_c
    rw [← hT]
    exact congrArg (fun q => some (on_ai 0 8 q)) (sp_add_eq f a b c d e x y z)
  · repeat (first | assumption | exact on_up_eq _ _ _ | refine (on_up_ne (by omega)).trans ?_)
  · exact (((((((hs2.up (by omega) (by omega)).up (by omega) (by omega)).up (by omega) (by omega)).up (by omega) (by omega)).up (by omega) (by omega)).up (by omega) (by omega)).up (by omega) (by omega)).up (by omega) (by omega)
end MSH
