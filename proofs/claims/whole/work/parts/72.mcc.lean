section MCC
variable {G : on_G} {o sz bc bs : Nat} {x3 : Int32 × Int32 × Int32} {h : on_H} {Q : Option Value → on_H → Nat → Prop}
theorem c_M_left {v n m : Int32} (hm : (32 : Int32) - n = m) : on_Ct G M_M_left [.int v, .int n] h sz 0 0 (fun r h1 z => r = some (.int (sh_l v n ||| sh_u v m)) ∧ z = sz ∧ h1 = h) := by
  refine on_Ct.of (by decide) v_M_left (Nat.le_of_ble_eq_true rfl) ?_
  refine on_iload_n (pc' := 1) rfl rfl rfl rfl ?_
  refine on_iload_n (pc' := 2) rfl rfl rfl rfl ?_
  refine on_ishl (pc' := 3) rfl rfl ?_
  refine on_iload_n (pc' := 4) rfl rfl rfl rfl ?_
  refine on_bipush (pc' := 6) (v := 32) rfl rfl lb_32 ?_
  refine on_iload_n (pc' := 7) rfl rfl rfl rfl ?_
  refine on_isub (pc' := 8) rfl rfl ?_
  rw [hm]
  refine on_iushr (pc' := 9) rfl rfl ?_
  refine on_ior (pc' := 10) rfl rfl ?_
  refine on_ireturn rfl rfl ?_
  exact ⟨rfl, rfl, rfl⟩
/-- a call of left -/
theorem on_left {pc pc' : Nat} {lv : on_V} {v n m : Int32} {st : List Value} (hm : (32 : Int32) - n = m) (hd : on_tb M_M_quarter pc = some (.invokestatic 222, 3)) (hp : pc + 3 = pc') (hst : (st.map fun v => v.category).sum ≤ 8) (k : on_E G M_M_quarter pc' lv (.int (sh_l v n ||| sh_u v m) :: st) h sz bc bs Q) : on_E G M_M_quarter pc lv (.int n :: .int v :: st) h sz bc bs Q := by
  refine on_callS (As := [.int v, .int n]) (rest := st) hd hp cw_M_quarter_222 rfl rfl hst (Nat.zero_le _) (Nat.zero_le _) (c_M_left hm) ?_
  rintro r h1 z ⟨rfl, rfl, rfl⟩
  exact k
set_option maxHeartbeats 4000000 in
theorem c_M_quarter {a b c d : Nat} {f : Nat → Int32} (ho : h o = some (.inr (17, mo_f o x3.1 x3.2.1 x3.2.2))) (hk : h (o + 27) = some (on_ai 0 16 f)) (ha : a < 16 ∧ 16 < 2 ^ 31) (hb : b < 16 ∧ 16 < 2 ^ 31) (hc : c < 16 ∧ 16 < 2 ^ 31) (hd : d < 16 ∧ 16 < 2 ^ 31) (nab : a ≠ b) (nac : a ≠ c) (nad : a ≠ d) (nba : b ≠ a) (nbc : b ≠ c) (nbd : b ≠ d) (nca : c ≠ a) (ncb : c ≠ b) (ncd : c ≠ d) (nda : d ≠ a) (ndb : d ≠ b) (ndc : d ≠ c) :
    on_Ct G M_M_quarter [.ref o, .int (nI a), .int (nI b), .int (nI c), .int (nI d)] h sz 0 0 (fun r h1 z => r = none ∧ z = sz ∧ h1 = on_up h (o + 27) (on_ai 0 16 (cc_at f a b c d))) := by
  refine on_Ct.of (by decide) v_M_quarter (Nat.le_of_ble_eq_true rfl) ?_
  first | refine on_aload_n (pc' := 1) rfl rfl rfl rfl ?_ | refine on_aload_nQ (pc' := 1) rfl rfl rfl rfl ?_
  first | apply on_get (pc' := 4) rfl rfl fl_M_82 | apply on_getN (pc' := 4) rfl rfl fl_M_82
  · repeat (first | assumption | exact on_up_eq _ _ _ | refine (on_up_ne (by omega)).trans ?_)
  · rfl
  refine on_iload_n (pc' := 5) rfl rfl rfl rfl ?_
  first | refine on_dup2_11 (pc' := 6) rfl rfl rfl rfl ?_ | refine on_dup2_2 (pc' := 6) rfl rfl rfl ?_
  apply on_ialoadK (pc' := 7) (t := 0) rfl rfl
  · repeat (first | assumption | exact on_up_eq _ _ _ | refine (on_up_ne (by omega)).trans ?_)
  · rfl
  · first | assumption | exact on_lit _ | rfl
  · first | assumption | omega | decide
  first | refine on_aload_n (pc' := 8) rfl rfl rfl rfl ?_ | refine on_aload_nQ (pc' := 8) rfl rfl rfl rfl ?_
  first | apply on_get (pc' := 11) rfl rfl fl_M_82 | apply on_getN (pc' := 11) rfl rfl fl_M_82
  · repeat (first | assumption | exact on_up_eq _ _ _ | refine (on_up_ne (by omega)).trans ?_)
  · rfl
  refine on_iload_n (pc' := 12) rfl rfl rfl rfl ?_
  apply on_ialoadK (pc' := 13) (t := 0) rfl rfl
  · repeat (first | assumption | exact on_up_eq _ _ _ | refine (on_up_ne (by omega)).trans ?_)
  · rfl
  · first | assumption | exact on_lit _ | rfl
  · first | assumption | omega | decide
  refine on_iadd (pc' := 14) rfl rfl ?_
  apply on_iastoreK (pc' := 15) (t := 0) rfl rfl
  · repeat (first | assumption | exact on_up_eq _ _ _ | refine (on_up_ne (by omega)).trans ?_)
  · rfl
  · first | assumption | exact on_lit _ | rfl
  · first | assumption | omega | decide
  first | refine on_aload_n (pc' := 16) rfl rfl rfl rfl ?_ | refine on_aload_nQ (pc' := 16) rfl rfl rfl rfl ?_
  first | apply on_get (pc' := 19) rfl rfl fl_M_82 | apply on_getN (pc' := 19) rfl rfl fl_M_82
  · repeat (first | assumption | exact on_up_eq _ _ _ | refine (on_up_ne (by omega)).trans ?_)
  · rfl
  refine on_iload (pc' := 21) rfl rfl rfl ?_
  first | refine on_aload_n (pc' := 22) rfl rfl rfl rfl ?_ | refine on_aload_nQ (pc' := 22) rfl rfl rfl rfl ?_
  first | apply on_get (pc' := 25) rfl rfl fl_M_82 | apply on_getN (pc' := 25) rfl rfl fl_M_82
  · repeat (first | assumption | exact on_up_eq _ _ _ | refine (on_up_ne (by omega)).trans ?_)
  · rfl
  refine on_iload (pc' := 27) rfl rfl rfl ?_
  apply on_ialoadK (pc' := 28) (t := 0) rfl rfl
  · repeat (first | assumption | exact on_up_eq _ _ _ | refine (on_up_ne (by omega)).trans ?_)
  · rfl
  · first | assumption | exact on_lit _ | rfl
  · first | assumption | omega | decide
  first | refine on_aload_n (pc' := 29) rfl rfl rfl rfl ?_ | refine on_aload_nQ (pc' := 29) rfl rfl rfl rfl ?_
  first | apply on_get (pc' := 32) rfl rfl fl_M_82 | apply on_getN (pc' := 32) rfl rfl fl_M_82
  · repeat (first | assumption | exact on_up_eq _ _ _ | refine (on_up_ne (by omega)).trans ?_)
  · rfl
  refine on_iload_n (pc' := 33) rfl rfl rfl rfl ?_
  apply on_ialoadK (pc' := 34) (t := 0) rfl rfl
  · repeat (first | assumption | exact on_up_eq _ _ _ | refine (on_up_ne (by omega)).trans ?_)
  · rfl
  · first | assumption | exact on_lit _ | rfl
  · first | assumption | omega | decide
  refine on_ixor (pc' := 35) rfl rfl ?_
  refine on_bipush (pc' := 37) (v := 16) rfl rfl lb_16 ?_
  try simp only [pk_us, pk_un nab, pk_un nac, pk_un nad, pk_un nba, pk_un nbc, pk_un nbd, pk_un nca, pk_un ncb, pk_un ncd, pk_un nda, pk_un ndb, pk_un ndc]
  refine on_left (pc' := 40) (m := 16) (by decide) rfl rfl (Nat.le_of_ble_eq_true rfl) ?_
  apply on_iastoreK (pc' := 41) (t := 0) rfl rfl
  · repeat (first | assumption | exact on_up_eq _ _ _ | refine (on_up_ne (by omega)).trans ?_)
  · rfl
  · first | assumption | exact on_lit _ | rfl
  · first | assumption | omega | decide
  first | refine on_aload_n (pc' := 42) rfl rfl rfl rfl ?_ | refine on_aload_nQ (pc' := 42) rfl rfl rfl rfl ?_
  first | apply on_get (pc' := 45) rfl rfl fl_M_82 | apply on_getN (pc' := 45) rfl rfl fl_M_82
  · repeat (first | assumption | exact on_up_eq _ _ _ | refine (on_up_ne (by omega)).trans ?_)
  · rfl
  refine on_iload_n (pc' := 46) rfl rfl rfl rfl ?_
  first | refine on_dup2_11 (pc' := 47) rfl rfl rfl rfl ?_ | refine on_dup2_2 (pc' := 47) rfl rfl rfl ?_
  apply on_ialoadK (pc' := 48) (t := 0) rfl rfl
  · repeat (first | assumption | exact on_up_eq _ _ _ | refine (on_up_ne (by omega)).trans ?_)
  · rfl
  · first | assumption | exact on_lit _ | rfl
  · first | assumption | omega | decide
  first | refine on_aload_n (pc' := 49) rfl rfl rfl rfl ?_ | refine on_aload_nQ (pc' := 49) rfl rfl rfl rfl ?_
  first | apply on_get (pc' := 52) rfl rfl fl_M_82 | apply on_getN (pc' := 52) rfl rfl fl_M_82
  · repeat (first | assumption | exact on_up_eq _ _ _ | refine (on_up_ne (by omega)).trans ?_)
  · rfl
  refine on_iload (pc' := 54) rfl rfl rfl ?_
  apply on_ialoadK (pc' := 55) (t := 0) rfl rfl
  · repeat (first | assumption | exact on_up_eq _ _ _ | refine (on_up_ne (by omega)).trans ?_)
  · rfl
  · first | assumption | exact on_lit _ | rfl
  · first | assumption | omega | decide
  refine on_iadd (pc' := 56) rfl rfl ?_
  apply on_iastoreK (pc' := 57) (t := 0) rfl rfl
  · repeat (first | assumption | exact on_up_eq _ _ _ | refine (on_up_ne (by omega)).trans ?_)
  · rfl
  · first | assumption | exact on_lit _ | rfl
  · first | assumption | omega | decide
  first | refine on_aload_n (pc' := 58) rfl rfl rfl rfl ?_ | refine on_aload_nQ (pc' := 58) rfl rfl rfl rfl ?_
  first | apply on_get (pc' := 61) rfl rfl fl_M_82 | apply on_getN (pc' := 61) rfl rfl fl_M_82
  · repeat (first | assumption | exact on_up_eq _ _ _ | refine (on_up_ne (by omega)).trans ?_)
  · rfl
  refine on_iload_n (pc' := 62) rfl rfl rfl rfl ?_
  first | refine on_aload_n (pc' := 63) rfl rfl rfl rfl ?_ | refine on_aload_nQ (pc' := 63) rfl rfl rfl rfl ?_
  first | apply on_get (pc' := 66) rfl rfl fl_M_82 | apply on_getN (pc' := 66) rfl rfl fl_M_82
  · repeat (first | assumption | exact on_up_eq _ _ _ | refine (on_up_ne (by omega)).trans ?_)
  · rfl
  refine on_iload_n (pc' := 67) rfl rfl rfl rfl ?_
  apply on_ialoadK (pc' := 68) (t := 0) rfl rfl
  · repeat (first | assumption | exact on_up_eq _ _ _ | refine (on_up_ne (by omega)).trans ?_)
  · rfl
  · first | assumption | exact on_lit _ | rfl
  · first | assumption | omega | decide
  first | refine on_aload_n (pc' := 69) rfl rfl rfl rfl ?_ | refine on_aload_nQ (pc' := 69) rfl rfl rfl rfl ?_
  first | apply on_get (pc' := 72) rfl rfl fl_M_82 | apply on_getN (pc' := 72) rfl rfl fl_M_82
  · repeat (first | assumption | exact on_up_eq _ _ _ | refine (on_up_ne (by omega)).trans ?_)
  · rfl
  refine on_iload_n (pc' := 73) rfl rfl rfl rfl ?_
  apply on_ialoadK (pc' := 74) (t := 0) rfl rfl
  · repeat (first | assumption | exact on_up_eq _ _ _ | refine (on_up_ne (by omega)).trans ?_)
  · rfl
  · first | assumption | exact on_lit _ | rfl
  · first | assumption | omega | decide
  refine on_ixor (pc' := 75) rfl rfl ?_
  refine on_bipush (pc' := 77) (v := 12) rfl rfl lb_12 ?_
  try rw [on_up_up]
  try simp only [pk_us, pk_un nab, pk_un nac, pk_un nad, pk_un nba, pk_un nbc, pk_un nbd, pk_un nca, pk_un ncb, pk_un ncd, pk_un nda, pk_un ndb, pk_un ndc]
  refine on_left (pc' := 80) (m := 20) (by decide) rfl rfl (Nat.le_of_ble_eq_true rfl) ?_
  apply on_iastoreK (pc' := 81) (t := 0) rfl rfl
  · repeat (first | assumption | exact on_up_eq _ _ _ | refine (on_up_ne (by omega)).trans ?_)
  · rfl
  · first | assumption | exact on_lit _ | rfl
  · first | assumption | omega | decide
  first | refine on_aload_n (pc' := 82) rfl rfl rfl rfl ?_ | refine on_aload_nQ (pc' := 82) rfl rfl rfl rfl ?_
  first | apply on_get (pc' := 85) rfl rfl fl_M_82 | apply on_getN (pc' := 85) rfl rfl fl_M_82
  · repeat (first | assumption | exact on_up_eq _ _ _ | refine (on_up_ne (by omega)).trans ?_)
  · rfl
  refine on_iload_n (pc' := 86) rfl rfl rfl rfl ?_
  first | refine on_dup2_11 (pc' := 87) rfl rfl rfl rfl ?_ | refine on_dup2_2 (pc' := 87) rfl rfl rfl ?_
  apply on_ialoadK (pc' := 88) (t := 0) rfl rfl
  · repeat (first | assumption | exact on_up_eq _ _ _ | refine (on_up_ne (by omega)).trans ?_)
  · rfl
  · first | assumption | exact on_lit _ | rfl
  · first | assumption | omega | decide
  first | refine on_aload_n (pc' := 89) rfl rfl rfl rfl ?_ | refine on_aload_nQ (pc' := 89) rfl rfl rfl rfl ?_
  first | apply on_get (pc' := 92) rfl rfl fl_M_82 | apply on_getN (pc' := 92) rfl rfl fl_M_82
  · repeat (first | assumption | exact on_up_eq _ _ _ | refine (on_up_ne (by omega)).trans ?_)
  · rfl
  refine on_iload_n (pc' := 93) rfl rfl rfl rfl ?_
  apply on_ialoadK (pc' := 94) (t := 0) rfl rfl
  · repeat (first | assumption | exact on_up_eq _ _ _ | refine (on_up_ne (by omega)).trans ?_)
  · rfl
  · first | assumption | exact on_lit _ | rfl
  · first | assumption | omega | decide
  refine on_iadd (pc' := 95) rfl rfl ?_
  apply on_iastoreK (pc' := 96) (t := 0) rfl rfl
  · repeat (first | assumption | exact on_up_eq _ _ _ | refine (on_up_ne (by omega)).trans ?_)
  · rfl
  · first | assumption | exact on_lit _ | rfl
  · first | assumption | omega | decide
  first | refine on_aload_n (pc' := 97) rfl rfl rfl rfl ?_ | refine on_aload_nQ (pc' := 97) rfl rfl rfl rfl ?_
  first | apply on_get (pc' := 100) rfl rfl fl_M_82 | apply on_getN (pc' := 100) rfl rfl fl_M_82
  · repeat (first | assumption | exact on_up_eq _ _ _ | refine (on_up_ne (by omega)).trans ?_)
  · rfl
  refine on_iload (pc' := 102) rfl rfl rfl ?_
  first | refine on_aload_n (pc' := 103) rfl rfl rfl rfl ?_ | refine on_aload_nQ (pc' := 103) rfl rfl rfl rfl ?_
  first | apply on_get (pc' := 106) rfl rfl fl_M_82 | apply on_getN (pc' := 106) rfl rfl fl_M_82
  · repeat (first | assumption | exact on_up_eq _ _ _ | refine (on_up_ne (by omega)).trans ?_)
  · rfl
  refine on_iload (pc' := 108) rfl rfl rfl ?_
  apply on_ialoadK (pc' := 109) (t := 0) rfl rfl
  · repeat (first | assumption | exact on_up_eq _ _ _ | refine (on_up_ne (by omega)).trans ?_)
  · rfl
  · first | assumption | exact on_lit _ | rfl
  · first | assumption | omega | decide
  first | refine on_aload_n (pc' := 110) rfl rfl rfl rfl ?_ | refine on_aload_nQ (pc' := 110) rfl rfl rfl rfl ?_
  first | apply on_get (pc' := 113) rfl rfl fl_M_82 | apply on_getN (pc' := 113) rfl rfl fl_M_82
  · repeat (first | assumption | exact on_up_eq _ _ _ | refine (on_up_ne (by omega)).trans ?_)
  · rfl
  refine on_iload_n (pc' := 114) rfl rfl rfl rfl ?_
  apply on_ialoadK (pc' := 115) (t := 0) rfl rfl
  · repeat (first | assumption | exact on_up_eq _ _ _ | refine (on_up_ne (by omega)).trans ?_)
  · rfl
  · first | assumption | exact on_lit _ | rfl
  · first | assumption | omega | decide
  refine on_ixor (pc' := 116) rfl rfl ?_
  refine on_bipush (pc' := 118) (v := 8) rfl rfl lb_8 ?_
  try rw [on_up_up]
  try simp only [pk_us, pk_un nab, pk_un nac, pk_un nad, pk_un nba, pk_un nbc, pk_un nbd, pk_un nca, pk_un ncb, pk_un ncd, pk_un nda, pk_un ndb, pk_un ndc]
  refine on_left (pc' := 121) (m := 24) (by decide) rfl rfl (Nat.le_of_ble_eq_true rfl) ?_
  apply on_iastoreK (pc' := 122) (t := 0) rfl rfl
  · repeat (first | assumption | exact on_up_eq _ _ _ | refine (on_up_ne (by omega)).trans ?_)
  · rfl
  · first | assumption | exact on_lit _ | rfl
  · first | assumption | omega | decide
  first | refine on_aload_n (pc' := 123) rfl rfl rfl rfl ?_ | refine on_aload_nQ (pc' := 123) rfl rfl rfl rfl ?_
  first | apply on_get (pc' := 126) rfl rfl fl_M_82 | apply on_getN (pc' := 126) rfl rfl fl_M_82
  · repeat (first | assumption | exact on_up_eq _ _ _ | refine (on_up_ne (by omega)).trans ?_)
  · rfl
  refine on_iload_n (pc' := 127) rfl rfl rfl rfl ?_
  first | refine on_dup2_11 (pc' := 128) rfl rfl rfl rfl ?_ | refine on_dup2_2 (pc' := 128) rfl rfl rfl ?_
  apply on_ialoadK (pc' := 129) (t := 0) rfl rfl
  · repeat (first | assumption | exact on_up_eq _ _ _ | refine (on_up_ne (by omega)).trans ?_)
  · rfl
  · first | assumption | exact on_lit _ | rfl
  · first | assumption | omega | decide
  first | refine on_aload_n (pc' := 130) rfl rfl rfl rfl ?_ | refine on_aload_nQ (pc' := 130) rfl rfl rfl rfl ?_
  first | apply on_get (pc' := 133) rfl rfl fl_M_82 | apply on_getN (pc' := 133) rfl rfl fl_M_82
  · repeat (first | assumption | exact on_up_eq _ _ _ | refine (on_up_ne (by omega)).trans ?_)
  · rfl
  refine on_iload (pc' := 135) rfl rfl rfl ?_
  apply on_ialoadK (pc' := 136) (t := 0) rfl rfl
  · repeat (first | assumption | exact on_up_eq _ _ _ | refine (on_up_ne (by omega)).trans ?_)
  · rfl
  · first | assumption | exact on_lit _ | rfl
  · first | assumption | omega | decide
  refine on_iadd (pc' := 137) rfl rfl ?_
  apply on_iastoreK (pc' := 138) (t := 0) rfl rfl
  · repeat (first | assumption | exact on_up_eq _ _ _ | refine (on_up_ne (by omega)).trans ?_)
  · rfl
  · first | assumption | exact on_lit _ | rfl
  · first | assumption | omega | decide
  first | refine on_aload_n (pc' := 139) rfl rfl rfl rfl ?_ | refine on_aload_nQ (pc' := 139) rfl rfl rfl rfl ?_
  first | apply on_get (pc' := 142) rfl rfl fl_M_82 | apply on_getN (pc' := 142) rfl rfl fl_M_82
  · repeat (first | assumption | exact on_up_eq _ _ _ | refine (on_up_ne (by omega)).trans ?_)
  · rfl
  refine on_iload_n (pc' := 143) rfl rfl rfl rfl ?_
  first | refine on_aload_n (pc' := 144) rfl rfl rfl rfl ?_ | refine on_aload_nQ (pc' := 144) rfl rfl rfl rfl ?_
  first | apply on_get (pc' := 147) rfl rfl fl_M_82 | apply on_getN (pc' := 147) rfl rfl fl_M_82
  · repeat (first | assumption | exact on_up_eq _ _ _ | refine (on_up_ne (by omega)).trans ?_)
  · rfl
  refine on_iload_n (pc' := 148) rfl rfl rfl rfl ?_
  apply on_ialoadK (pc' := 149) (t := 0) rfl rfl
  · repeat (first | assumption | exact on_up_eq _ _ _ | refine (on_up_ne (by omega)).trans ?_)
  · rfl
  · first | assumption | exact on_lit _ | rfl
  · first | assumption | omega | decide
  first | refine on_aload_n (pc' := 150) rfl rfl rfl rfl ?_ | refine on_aload_nQ (pc' := 150) rfl rfl rfl rfl ?_
  first | apply on_get (pc' := 153) rfl rfl fl_M_82 | apply on_getN (pc' := 153) rfl rfl fl_M_82
  · repeat (first | assumption | exact on_up_eq _ _ _ | refine (on_up_ne (by omega)).trans ?_)
  · rfl
  refine on_iload_n (pc' := 154) rfl rfl rfl rfl ?_
  apply on_ialoadK (pc' := 155) (t := 0) rfl rfl
  · repeat (first | assumption | exact on_up_eq _ _ _ | refine (on_up_ne (by omega)).trans ?_)
  · rfl
  · first | assumption | exact on_lit _ | rfl
  · first | assumption | omega | decide
  refine on_ixor (pc' := 156) rfl rfl ?_
  refine on_bipush (pc' := 158) (v := 7) rfl rfl lb_7 ?_
  try rw [on_up_up]
  try simp only [pk_us, pk_un nab, pk_un nac, pk_un nad, pk_un nba, pk_un nbc, pk_un nbd, pk_un nca, pk_un ncb, pk_un ncd, pk_un nda, pk_un ndb, pk_un ndc]
  refine on_left (pc' := 161) (m := 25) (by decide) rfl rfl (Nat.le_of_ble_eq_true rfl) ?_
  apply on_iastoreK (pc' := 162) (t := 0) rfl rfl
  · repeat (first | assumption | exact on_up_eq _ _ _ | refine (on_up_ne (by omega)).trans ?_)
  · rfl
  · first | assumption | exact on_lit _ | rfl
  · first | assumption | omega | decide
  refine on_vreturn rfl rfl ?_
  refine ⟨rfl, rfl, ?_⟩
  simp only [on_up_up]
  refine congrArg (on_up h (o + 27)) (congrArg (on_ai 0 16) (funext fun j => ?_))
  unfold cc_at
  by_cases e1 : j = b
  · subst e1
    rw [pk_us, pk_un nbd, pk_un nbc, pk_us]
    rfl
  · rw [pk_un e1]
    by_cases e2 : j = c
    · subst e2
      rw [pk_us, pk_un ncd, pk_us]
      rfl
    · rw [pk_un e2]
      by_cases e3 : j = d
      · subst e3
        rw [pk_us, pk_us]
        rfl
      · rw [pk_un e3, pk_un e3, pk_un e2, pk_un e1]
        by_cases e4 : j = a
        · subst e4
          rw [pk_us, pk_us]
          rfl
        · rw [pk_un e4, pk_un e4, pk_un e1, pk_un e2, pk_un e3, pk_un e4]
end MCC
