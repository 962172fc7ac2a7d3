/-! ChaCha20 -/
def cc_Q (a b c d : Int32) : Int32 × Int32 × Int32 × Int32 :=
  let a1 := a + b
  let d1 := sh_l (d ^^^ a1) 16 ||| sh_u (d ^^^ a1) 16
  let c1 := c + d1
  let b1 := sh_l (b ^^^ c1) 12 ||| sh_u (b ^^^ c1) 20
  let a2 := a1 + b1
  let d2 := sh_l (d1 ^^^ a2) 8 ||| sh_u (d1 ^^^ a2) 24
  let c2 := c1 + d2
  (a2, sh_l (b1 ^^^ c2) 7 ||| sh_u (b1 ^^^ c2) 25, c2, d2)
def cc_at (f : Nat → Int32) (a b c d : Nat) : Nat → Int32 := upd (upd (upd (upd f a (cc_Q (f a) (f b) (f c) (f d)).1) b (cc_Q (f a) (f b) (f c) (f d)).2.1) c (cc_Q (f a) (f b) (f c) (f d)).2.2.1) d (cc_Q (f a) (f b) (f c) (f d)).2.2.2
def cc_dr (f : Nat → Int32) : Nat → Int32 := cc_at (cc_at (cc_at (cc_at (cc_at (cc_at (cc_at (cc_at f 0 4 8 12) 1 5 9 13) 2 6 10 14) 3 7 11 15) 0 5 10 15) 1 6 11 12) 2 7 8 13) 3 4 9 14
def cc_r (f : Nat → Int32) : Nat → Nat → Int32
  | 0 => f
  | n + 1 => cc_dr (cc_r f n)
theorem cc_at_congr {f f2 : Nat → Int32} {a b c d : Nat} (h : ∀ i, i < 16 → f i = f2 i) (ha : a < 16) (hb : b < 16) (hc : c < 16) (hd : d < 16) : ∀ i, i < 16 → cc_at f a b c d i = cc_at f2 a b c d i := by
  intro i hi
  unfold cc_at
  rw [h a ha, h b hb, h c hc, h d hd]
  unfold upd
  rw [h i hi]
theorem cc_r_congr {f f2 : Nat → Int32} (h : ∀ i, i < 16 → f i = f2 i) : ∀ (n : Nat), ∀ i, i < 16 → cc_r f n i = cc_r f2 n i
  | 0 => h
  | n + 1 => by
    have ih := cc_r_congr h n
    show ∀ i, i < 16 → cc_dr _ i = cc_dr _ i
    unfold cc_dr
    exact cc_at_congr (cc_at_congr (cc_at_congr (cc_at_congr (cc_at_congr (cc_at_congr (cc_at_congr (cc_at_congr ih (by omega) (by omega) (by omega) (by omega)) (by omega) (by omega) (by omega) (by omega)) (by omega) (by omega) (by omega) (by omega)) (by omega) (by omega) (by omega) (by omega)) (by omega) (by omega) (by omega) (by omega)) (by omega) (by omega) (by omega) (by omega)) (by omega) (by omega) (by omega) (by omega)) (by omega) (by omega) (by omega) (by omega)
/-- byte i of a block -/
def cc_by (f : Nat → Int32) (i : Nat) : Nat := (cc_r f 10 (i / 4) + f (i / 4)).toBitVec.toNat / 2 ^ (8 * (i % 4)) % 256
theorem cc_by_congr {f f2 : Nat → Int32} (h : ∀ i, i < 16 → f i = f2 i) {i : Nat} (hi : i < 64) : cc_by f i = cc_by f2 i := by
  unfold cc_by
  rw [cc_r_congr h 10 _ (by omega), h _ (by omega)]
theorem cc_by_lt (f : Nat → Int32) (i : Nat) : cc_by f i < 256 := Nat.mod_lt _ (by decide)
/-- a word, its lowest byte first -/
def cc_le (m : Nat → Nat) (p : Nat) : Nat := m p + m (p + 1) * 256 + m (p + 2) * 65536 + m (p + 3) * 16777216
/-- what a block begins with: a key's bytes, the block's number -/
def cc_in (K : Nat → Nat) (n : Nat) : Nat → Int32 := fun i => if i = 0 then 1634760805 else if i = 1 then 857760878 else if i = 2 then 2036477234 else if i = 3 then 1797285236 else if i < 12 then nI (cc_le K (4 * (i - 4))) else if i = 12 then nI n else 0
/-- the keystream -/
def cc_ks (K : Nat → Nat) (s : Nat) : Nat := cc_by (cc_in K (s / 64)) (s % 64)
theorem cc_in_s (K : Nat → Nat) (n : Nat) {f : Nat → Int32} (h : ∀ i, i < 16 → f i = cc_in K n i) : ∀ i, i < 16 → upd f 12 (f 12 + 1) i = cc_in K (n + 1) i := by
  intro i hi
  unfold upd
  by_cases h12 : i = 12
  · rw [if_pos h12, h 12 (by omega), h12]
    exact nI_1 n
  · rw [if_neg h12, h i hi]
    unfold cc_in
    by_cases a0 : i = 0
    · simp [a0]
    · by_cases a1 : i = 1
      · simp [a1]
      · by_cases a2 : i = 2
        · simp [a2]
        · by_cases a3 : i = 3
          · simp [a3]
          · by_cases a4 : i < 12
            · simp [a0, a1, a2, a3, a4]
            · simp [a0, a1, a2, a3, a4, h12]
/-- the cipher's part of a Lane at o -/
def ln_B (o tr : Nat) (due inp mix blk : Nat → Int32) (used : Int32) (h : on_H) : Prop := h o = some (.inr (2, [.ref (o + 1), .ref tr, .ref (o + 4), .ref (o + 5), .ref (o + 6), .ref (o + 7), .int used])) ∧ h (o + 4) = some (on_ai 0 32 due) ∧ h (o + 5) = some (on_ai 0 16 inp) ∧ h (o + 6) = some (on_ai 0 16 mix) ∧ h (o + 7) = some (on_ai 0 64 blk)
section CHA
variable {G : on_G} {o tr q sz bc bs : Nat} {due inp mix blk : Nat → Int32} {used : Int32} {h : on_H} {Q : Option Value → on_H → Nat → Prop}
set_option maxHeartbeats 4000000 in
theorem c_Lane_quarter {a b c d : Nat} (hB : ln_B o tr due inp mix blk used h) (ha : a < 16 ∧ 16 < 2 ^ 31) (hb : b < 16 ∧ 16 < 2 ^ 31) (hc : c < 16 ∧ 16 < 2 ^ 31) (hd : d < 16 ∧ 16 < 2 ^ 31) :
    on_Ct G M_Lane_quarter [.ref o, .int (nI a), .int (nI b), .int (nI c), .int (nI d)] h sz 0 0 (fun r h1 z => r = none ∧ z = sz ∧ h1 = on_up h (o + 6) (on_ai 0 16 (cc_at mix a b c d))) := by
  obtain ⟨b1, b2, b3, b4, b5⟩ := hB
  refine on_Ct.of (by decide) v_Lane_quarter (Nat.le_of_ble_eq_true rfl) ?_
  first | refine on_aload_n (pc' := 1) rfl rfl rfl rfl ?_ | refine on_aload_nQ (pc' := 1) rfl rfl rfl rfl ?_
  apply on_get (pc' := 4) rfl rfl fl_Lane_25
  · repeat (first | assumption | exact on_up_eq _ _ _ | refine (on_up_ne (by omega)).trans ?_)
  · rfl
  refine on_iload_n (pc' := 5) rfl rfl rfl rfl ?_
  apply on_ialoadK (pc' := 6) (t := 0) rfl rfl
  · repeat (first | assumption | exact on_up_eq _ _ _ | refine (on_up_ne (by omega)).trans ?_)
  · rfl
  · first | assumption | exact on_lit _ | rfl
  · first | assumption | omega | decide
  first | refine on_aload_n (pc' := 7) rfl rfl rfl rfl ?_ | refine on_aload_nQ (pc' := 7) rfl rfl rfl rfl ?_
  apply on_get (pc' := 10) rfl rfl fl_Lane_25
  · repeat (first | assumption | exact on_up_eq _ _ _ | refine (on_up_ne (by omega)).trans ?_)
  · rfl
  refine on_iload_n (pc' := 11) rfl rfl rfl rfl ?_
  apply on_ialoadK (pc' := 12) (t := 0) rfl rfl
  · repeat (first | assumption | exact on_up_eq _ _ _ | refine (on_up_ne (by omega)).trans ?_)
  · rfl
  · first | assumption | exact on_lit _ | rfl
  · first | assumption | omega | decide
  refine on_iadd (pc' := 13) rfl rfl ?_
  refine on_istore (pc' := 15) rfl rfl (by decide) ?_
  first | refine on_aload_n (pc' := 16) rfl rfl rfl rfl ?_ | refine on_aload_nQ (pc' := 16) rfl rfl rfl rfl ?_
  apply on_get (pc' := 19) rfl rfl fl_Lane_25
  · repeat (first | assumption | exact on_up_eq _ _ _ | refine (on_up_ne (by omega)).trans ?_)
  · rfl
  refine on_iload (pc' := 21) rfl rfl rfl ?_
  apply on_ialoadK (pc' := 22) (t := 0) rfl rfl
  · repeat (first | assumption | exact on_up_eq _ _ _ | refine (on_up_ne (by omega)).trans ?_)
  · rfl
  · first | assumption | exact on_lit _ | rfl
  · first | assumption | omega | decide
  refine on_iload (pc' := 24) rfl rfl rfl ?_
  refine on_ixor (pc' := 25) rfl rfl ?_
  refine on_istore (pc' := 27) rfl rfl (by decide) ?_
  refine on_iload (pc' := 29) rfl rfl rfl ?_
  refine on_bipush (pc' := 31) (v := 16) rfl rfl lb_16 ?_
  refine on_ishl (pc' := 32) rfl rfl ?_
  refine on_iload (pc' := 34) rfl rfl rfl ?_
  refine on_bipush (pc' := 36) (v := 16) rfl rfl lb_16 ?_
  refine on_iushr (pc' := 37) rfl rfl ?_
  refine on_ior (pc' := 38) rfl rfl ?_
  refine on_istore (pc' := 40) rfl rfl (by decide) ?_
  first | refine on_aload_n (pc' := 41) rfl rfl rfl rfl ?_ | refine on_aload_nQ (pc' := 41) rfl rfl rfl rfl ?_
  apply on_get (pc' := 44) rfl rfl fl_Lane_25
  · repeat (first | assumption | exact on_up_eq _ _ _ | refine (on_up_ne (by omega)).trans ?_)
  · rfl
  refine on_iload_n (pc' := 45) rfl rfl rfl rfl ?_
  apply on_ialoadK (pc' := 46) (t := 0) rfl rfl
  · repeat (first | assumption | exact on_up_eq _ _ _ | refine (on_up_ne (by omega)).trans ?_)
  · rfl
  · first | assumption | exact on_lit _ | rfl
  · first | assumption | omega | decide
  refine on_iload (pc' := 48) rfl rfl rfl ?_
  refine on_iadd (pc' := 49) rfl rfl ?_
  refine on_istore (pc' := 51) rfl rfl (by decide) ?_
  first | refine on_aload_n (pc' := 52) rfl rfl rfl rfl ?_ | refine on_aload_nQ (pc' := 52) rfl rfl rfl rfl ?_
  apply on_get (pc' := 55) rfl rfl fl_Lane_25
  · repeat (first | assumption | exact on_up_eq _ _ _ | refine (on_up_ne (by omega)).trans ?_)
  · rfl
  refine on_iload_n (pc' := 56) rfl rfl rfl rfl ?_
  apply on_ialoadK (pc' := 57) (t := 0) rfl rfl
  · repeat (first | assumption | exact on_up_eq _ _ _ | refine (on_up_ne (by omega)).trans ?_)
  · rfl
  · first | assumption | exact on_lit _ | rfl
  · first | assumption | omega | decide
  refine on_iload (pc' := 59) rfl rfl rfl ?_
  refine on_ixor (pc' := 60) rfl rfl ?_
  refine on_istore (pc' := 62) rfl rfl (by decide) ?_
  refine on_iload (pc' := 64) rfl rfl rfl ?_
  refine on_bipush (pc' := 66) (v := 12) rfl rfl lb_12 ?_
  refine on_ishl (pc' := 67) rfl rfl ?_
  refine on_iload (pc' := 69) rfl rfl rfl ?_
  refine on_bipush (pc' := 71) (v := 20) rfl rfl lb_20 ?_
  refine on_iushr (pc' := 72) rfl rfl ?_
  refine on_ior (pc' := 73) rfl rfl ?_
  refine on_istore (pc' := 75) rfl rfl (by decide) ?_
  refine on_iload (pc' := 77) rfl rfl rfl ?_
  refine on_iload (pc' := 79) rfl rfl rfl ?_
  refine on_iadd (pc' := 80) rfl rfl ?_
  refine on_istore (pc' := 82) rfl rfl (by decide) ?_
  refine on_iload (pc' := 84) rfl rfl rfl ?_
  refine on_iload (pc' := 86) rfl rfl rfl ?_
  refine on_ixor (pc' := 87) rfl rfl ?_
  refine on_istore (pc' := 89) rfl rfl (by decide) ?_
  refine on_iload (pc' := 91) rfl rfl rfl ?_
  refine on_bipush (pc' := 93) (v := 8) rfl rfl lb_8 ?_
  refine on_ishl (pc' := 94) rfl rfl ?_
  refine on_iload (pc' := 96) rfl rfl rfl ?_
  refine on_bipush (pc' := 98) (v := 24) rfl rfl lb_24 ?_
  refine on_iushr (pc' := 99) rfl rfl ?_
  refine on_ior (pc' := 100) rfl rfl ?_
  refine on_istore (pc' := 102) rfl rfl (by decide) ?_
  refine on_iload (pc' := 104) rfl rfl rfl ?_
  refine on_iload (pc' := 106) rfl rfl rfl ?_
  refine on_iadd (pc' := 107) rfl rfl ?_
  refine on_istore (pc' := 109) rfl rfl (by decide) ?_
  refine on_iload (pc' := 111) rfl rfl rfl ?_
  refine on_iload (pc' := 113) rfl rfl rfl ?_
  refine on_ixor (pc' := 114) rfl rfl ?_
  refine on_istore (pc' := 116) rfl rfl (by decide) ?_
  first | refine on_aload_n (pc' := 117) rfl rfl rfl rfl ?_ | refine on_aload_nQ (pc' := 117) rfl rfl rfl rfl ?_
  apply on_get (pc' := 120) rfl rfl fl_Lane_25
  · repeat (first | assumption | exact on_up_eq _ _ _ | refine (on_up_ne (by omega)).trans ?_)
  · rfl
  refine on_iload_n (pc' := 121) rfl rfl rfl rfl ?_
  refine on_iload (pc' := 123) rfl rfl rfl ?_
  apply on_iastoreK (pc' := 124) (t := 0) rfl rfl
  · repeat (first | assumption | exact on_up_eq _ _ _ | refine (on_up_ne (by omega)).trans ?_)
  · rfl
  · first | assumption | exact on_lit _ | rfl
  · first | assumption | omega | decide
  first | refine on_aload_n (pc' := 125) rfl rfl rfl rfl ?_ | refine on_aload_nQ (pc' := 125) rfl rfl rfl rfl ?_
  apply on_get (pc' := 128) rfl rfl fl_Lane_25
  · repeat (first | assumption | exact on_up_eq _ _ _ | refine (on_up_ne (by omega)).trans ?_)
  · rfl
  refine on_iload_n (pc' := 129) rfl rfl rfl rfl ?_
  refine on_iload (pc' := 131) rfl rfl rfl ?_
  refine on_bipush (pc' := 133) (v := 7) rfl rfl lb_7 ?_
  refine on_ishl (pc' := 134) rfl rfl ?_
  refine on_iload (pc' := 136) rfl rfl rfl ?_
  refine on_bipush (pc' := 138) (v := 25) rfl rfl lb_25 ?_
  refine on_iushr (pc' := 139) rfl rfl ?_
  refine on_ior (pc' := 140) rfl rfl ?_
  apply on_iastoreK (pc' := 141) (t := 0) rfl rfl
  · repeat (first | assumption | exact on_up_eq _ _ _ | refine (on_up_ne (by omega)).trans ?_)
  · rfl
  · first | assumption | exact on_lit _ | rfl
  · first | assumption | omega | decide
  first | refine on_aload_n (pc' := 142) rfl rfl rfl rfl ?_ | refine on_aload_nQ (pc' := 142) rfl rfl rfl rfl ?_
  apply on_get (pc' := 145) rfl rfl fl_Lane_25
  · repeat (first | assumption | exact on_up_eq _ _ _ | refine (on_up_ne (by omega)).trans ?_)
  · rfl
  refine on_iload_n (pc' := 146) rfl rfl rfl rfl ?_
  refine on_iload (pc' := 148) rfl rfl rfl ?_
  apply on_iastoreK (pc' := 149) (t := 0) rfl rfl
  · repeat (first | assumption | exact on_up_eq _ _ _ | refine (on_up_ne (by omega)).trans ?_)
  · rfl
  · first | assumption | exact on_lit _ | rfl
  · first | assumption | omega | decide
  first | refine on_aload_n (pc' := 150) rfl rfl rfl rfl ?_ | refine on_aload_nQ (pc' := 150) rfl rfl rfl rfl ?_
  apply on_get (pc' := 153) rfl rfl fl_Lane_25
  · repeat (first | assumption | exact on_up_eq _ _ _ | refine (on_up_ne (by omega)).trans ?_)
  · rfl
  refine on_iload (pc' := 155) rfl rfl rfl ?_
  refine on_iload (pc' := 157) rfl rfl rfl ?_
  apply on_iastoreK (pc' := 158) (t := 0) rfl rfl
  · repeat (first | assumption | exact on_up_eq _ _ _ | refine (on_up_ne (by omega)).trans ?_)
  · rfl
  · first | assumption | exact on_lit _ | rfl
  · first | assumption | omega | decide
  refine on_vreturn rfl rfl ?_
  refine ⟨rfl, rfl, ?_⟩
  rw [on_up_up, on_up_up, on_up_up]
  rfl
theorem ln_B_mix {mix2 : Nat → Int32} (hB : ln_B o tr due inp mix blk used h) : ln_B o tr due inp mix2 blk used (on_up h (o + 6) (on_ai 0 16 mix2)) := by
  obtain ⟨b1, b2, b3, b4, b5⟩ := hB
  exact ⟨(on_up_ne (by omega)).trans b1, (on_up_ne (by omega)).trans b2, (on_up_ne (by omega)).trans b3, on_up_eq _ _ _, (on_up_ne (by omega)).trans b5⟩
/-- a call of quarter -/
theorem on_quarter {pc pc' : Nat} {lv : on_V} {a b c d : Nat} (hB : ln_B o tr due inp mix blk used h) (hd : on_tb M_Lane_nextBlock pc = some (.invokevirtual 84, 3)) (hp : pc + 3 = pc') (ha : a < 16) (hb : b < 16) (hc : c < 16) (hdd : d < 16) (k : on_E G M_Lane_nextBlock pc' lv [] (on_up h (o + 6) (on_ai 0 16 (cc_at mix a b c d))) sz bc bs Q) : on_E G M_Lane_nextBlock pc lv [.int (nI d), .int (nI c), .int (nI b), .int (nI a), .ref o] h sz bc bs Q := by
  refine on_callV (As := [.int (nI a), .int (nI b), .int (nI c), .int (nI d)]) (rest := []) (b := o) hd hp cw_Lane_nextBlock_84 hB.1 rfl rfl (by decide) (Nat.zero_le _) (Nat.zero_le _) (c_Lane_quarter hB ⟨ha, by decide⟩ ⟨hb, by decide⟩ ⟨hc, by decide⟩ ⟨hdd, by decide⟩) ?_
  rintro r h1 z ⟨rfl, rfl, rfl⟩
  exact k
set_option maxHeartbeats 4000000 in
theorem ln_nb1 (hB0 : ∀ m2, ln_B o tr due inp m2 blk used (on_up h (o + 6) (on_ai 0 16 m2))) (k : on_E G M_Lane_nextBlock 113 (on_l [(0, .ref o)]) [] (on_up h (o + 6) (on_ai 0 16 (cc_r mix 10))) sz bc bs Q) :
    ∀ (m n : Nat), n + m = 10 → on_E G M_Lane_nextBlock 17 (on_l [(0, .ref o), (1, .int (nI n))]) [] (on_up h (o + 6) (on_ai 0 16 (cc_r mix n))) sz bc bs Q := by
  intro m
  induction m with
  | zero =>
    intro n hn
    refine on_iload_n (pc' := 18) rfl rfl rfl rfl ?_
    refine on_bipush (pc' := 20) (v := 10) rfl rfl lb_10 ?_
    refine on_icmp_ge (pc' := 23) (tgt := 113) rfl rfl rfl (fun cq => ?_) (fun cq => ?_)
    · rw [show n = 10 by omega]
      exact on_relv (l := [(0, .ref o)]) ⟨rfl, trivial⟩ k
    · exact absurd (nI_le (a := 10) (by omega) (by omega)) cq
  | succ m ih =>
    intro n hn
    have hB := hB0
    refine on_iload_n (pc' := 18) rfl rfl rfl rfl ?_
    refine on_bipush (pc' := 20) (v := 10) rfl rfl lb_10 ?_
    refine on_icmp_ge (pc' := 23) (tgt := 113) rfl rfl rfl (fun cq => ?_) (fun cq => ?_)
    · exact absurd cq (nI_ge (b := 10) (by omega) (by omega))
    · first | refine on_aload_n (pc' := 24) rfl rfl rfl rfl ?_ | refine on_aload_nQ (pc' := 24) rfl rfl rfl rfl ?_
      refine on_iconst (pc' := 25) (v := 0) rfl rfl li_0 ?_
      refine on_iconst (pc' := 26) (v := 4) rfl rfl li_4 ?_
      refine on_bipush (pc' := 28) (v := 8) rfl rfl lb_8 ?_
      refine on_bipush (pc' := 30) (v := 12) rfl rfl lb_12 ?_
      refine on_quarter (pc' := 33) (a := 0) (b := 4) (c := 8) (d := 12) (hB _) rfl rfl (by decide) (by decide) (by decide) (by decide) ?_
      rw [on_up_up]
      first | refine on_aload_n (pc' := 34) rfl rfl rfl rfl ?_ | refine on_aload_nQ (pc' := 34) rfl rfl rfl rfl ?_
      refine on_iconst (pc' := 35) (v := 1) rfl rfl li_1 ?_
      refine on_iconst (pc' := 36) (v := 5) rfl rfl li_5 ?_
      refine on_bipush (pc' := 38) (v := 9) rfl rfl lb_9 ?_
      refine on_bipush (pc' := 40) (v := 13) rfl rfl lb_13 ?_
      refine on_quarter (pc' := 43) (a := 1) (b := 5) (c := 9) (d := 13) (hB _) rfl rfl (by decide) (by decide) (by decide) (by decide) ?_
      rw [on_up_up]
      first | refine on_aload_n (pc' := 44) rfl rfl rfl rfl ?_ | refine on_aload_nQ (pc' := 44) rfl rfl rfl rfl ?_
      refine on_iconst (pc' := 45) (v := 2) rfl rfl li_2 ?_
      refine on_bipush (pc' := 47) (v := 6) rfl rfl lb_6 ?_
      refine on_bipush (pc' := 49) (v := 10) rfl rfl lb_10 ?_
      refine on_bipush (pc' := 51) (v := 14) rfl rfl lb_14 ?_
      refine on_quarter (pc' := 54) (a := 2) (b := 6) (c := 10) (d := 14) (hB _) rfl rfl (by decide) (by decide) (by decide) (by decide) ?_
      rw [on_up_up]
      first | refine on_aload_n (pc' := 55) rfl rfl rfl rfl ?_ | refine on_aload_nQ (pc' := 55) rfl rfl rfl rfl ?_
      refine on_iconst (pc' := 56) (v := 3) rfl rfl li_3 ?_
      refine on_bipush (pc' := 58) (v := 7) rfl rfl lb_7 ?_
      refine on_bipush (pc' := 60) (v := 11) rfl rfl lb_11 ?_
      refine on_bipush (pc' := 62) (v := 15) rfl rfl lb_15 ?_
      refine on_quarter (pc' := 65) (a := 3) (b := 7) (c := 11) (d := 15) (hB _) rfl rfl (by decide) (by decide) (by decide) (by decide) ?_
      rw [on_up_up]
      first | refine on_aload_n (pc' := 66) rfl rfl rfl rfl ?_ | refine on_aload_nQ (pc' := 66) rfl rfl rfl rfl ?_
      refine on_iconst (pc' := 67) (v := 0) rfl rfl li_0 ?_
      refine on_iconst (pc' := 68) (v := 5) rfl rfl li_5 ?_
      refine on_bipush (pc' := 70) (v := 10) rfl rfl lb_10 ?_
      refine on_bipush (pc' := 72) (v := 15) rfl rfl lb_15 ?_
      refine on_quarter (pc' := 75) (a := 0) (b := 5) (c := 10) (d := 15) (hB _) rfl rfl (by decide) (by decide) (by decide) (by decide) ?_
      rw [on_up_up]
      first | refine on_aload_n (pc' := 76) rfl rfl rfl rfl ?_ | refine on_aload_nQ (pc' := 76) rfl rfl rfl rfl ?_
      refine on_iconst (pc' := 77) (v := 1) rfl rfl li_1 ?_
      refine on_bipush (pc' := 79) (v := 6) rfl rfl lb_6 ?_
      refine on_bipush (pc' := 81) (v := 11) rfl rfl lb_11 ?_
      refine on_bipush (pc' := 83) (v := 12) rfl rfl lb_12 ?_
      refine on_quarter (pc' := 86) (a := 1) (b := 6) (c := 11) (d := 12) (hB _) rfl rfl (by decide) (by decide) (by decide) (by decide) ?_
      rw [on_up_up]
      first | refine on_aload_n (pc' := 87) rfl rfl rfl rfl ?_ | refine on_aload_nQ (pc' := 87) rfl rfl rfl rfl ?_
      refine on_iconst (pc' := 88) (v := 2) rfl rfl li_2 ?_
      refine on_bipush (pc' := 90) (v := 7) rfl rfl lb_7 ?_
      refine on_bipush (pc' := 92) (v := 8) rfl rfl lb_8 ?_
      refine on_bipush (pc' := 94) (v := 13) rfl rfl lb_13 ?_
      refine on_quarter (pc' := 97) (a := 2) (b := 7) (c := 8) (d := 13) (hB _) rfl rfl (by decide) (by decide) (by decide) (by decide) ?_
      rw [on_up_up]
      first | refine on_aload_n (pc' := 98) rfl rfl rfl rfl ?_ | refine on_aload_nQ (pc' := 98) rfl rfl rfl rfl ?_
      refine on_iconst (pc' := 99) (v := 3) rfl rfl li_3 ?_
      refine on_iconst (pc' := 100) (v := 4) rfl rfl li_4 ?_
      refine on_bipush (pc' := 102) (v := 9) rfl rfl lb_9 ?_
      refine on_bipush (pc' := 104) (v := 14) rfl rfl lb_14 ?_
      refine on_quarter (pc' := 107) (a := 3) (b := 4) (c := 9) (d := 14) (hB _) rfl rfl (by decide) (by decide) (by decide) (by decide) ?_
      rw [on_up_up]
      refine on_iinc1 (pc' := 110) rfl rfl rfl ?_
      refine on_goto (tgt := 17) rfl rfl ?_
      exact on_relv (l := [(0, .ref o), (1, .int (nI (n + 1)))]) ⟨rfl, congrArg some (congrArg Value.int (nI_1 n)), trivial⟩ (ih (n + 1) (by omega))
theorem e_by8 (x : Int32) {i : Nat} (hi : i < 2 ^ 31) : sh_u x (8 * (nI i &&& 3)) &&& 255 = nI (x.toBitVec.toNat / 2 ^ (8 * (i % 4)) % 256) := by
  rw [e_and3 hi, show (8 : Int32) = nI 8 from rfl, pk_mul, pk_and _ 8 rfl, sh_u_nat _ (by omega)]
/-- the bytes of the block -/
theorem ln_nb2 {M1 : Nat → Int32} (b1 : h o = some (.inr (2, [.ref (o + 1), .ref tr, .ref (o + 4), .ref (o + 5), .ref (o + 6), .ref (o + 7), .int used]))) (b3 : h (o + 5) = some (on_ai 0 16 inp)) (b4 : h (o + 6) = some (on_ai 0 16 M1)) (hM : ∀ i, i < 16 → M1 i = cc_r inp 10 i)
    (k : on_E G M_Lane_nextBlock 163 (on_l [(0, .ref o)]) [] (on_up h (o + 7) (on_ai 0 64 (on_tk (fun i => nI (cc_by inp i)) blk 64))) sz bc bs Q) :
    ∀ (m i : Nat), i + m = 64 → on_E G M_Lane_nextBlock 115 (on_l [(0, .ref o), (1, .int (nI i))]) [] (on_up h (o + 7) (on_ai 0 64 (on_tk (fun i => nI (cc_by inp i)) blk i))) sz bc bs Q := by
  intro m
  induction m with
  | zero =>
    intro i hi
    refine on_iload_n (pc' := 116) rfl rfl rfl rfl ?_
    refine on_bipush (pc' := 118) (v := 64) rfl rfl lb_64 ?_
    refine on_icmp_ge (pc' := 121) (tgt := 163) rfl rfl rfl (fun cq => ?_) (fun cq => ?_)
    · rw [show i = 64 by omega]
      exact on_relv (l := [(0, .ref o)]) ⟨rfl, trivial⟩ k
    · exact absurd (nI_le (a := 64) (by omega) (by omega)) cq
  | succ m ih =>
    intro i hi
    have e4 : sh_u (nI i) 2 = nI (i / 4) := e_ush (k := 2) (by omega) (by omega)
    have e16 : i / 4 < 16 ∧ 16 < 2 ^ 31 := by omega
    refine on_iload_n (pc' := 116) rfl rfl rfl rfl ?_
    refine on_bipush (pc' := 118) (v := 64) rfl rfl lb_64 ?_
    refine on_icmp_ge (pc' := 121) (tgt := 163) rfl rfl rfl (fun cq => ?_) (fun cq => ?_)
    · exact absurd cq (nI_ge (b := 64) (by omega) (by omega))
    · first | refine on_aload_n (pc' := 122) rfl rfl rfl rfl ?_ | refine on_aload_nQ (pc' := 122) rfl rfl rfl rfl ?_
      apply on_get (pc' := 125) rfl rfl fl_Lane_25
      · repeat (first | assumption | exact on_up_eq _ _ _ | refine (on_up_ne (by omega)).trans ?_)
      · rfl
      refine on_iload_n (pc' := 126) rfl rfl rfl rfl ?_
      refine on_iconst (pc' := 127) (v := 2) rfl rfl li_2 ?_
      refine on_iushr (pc' := 128) rfl rfl ?_
      apply on_ialoadK (pc' := 129) (t := 0) rfl rfl
      · repeat (first | assumption | exact on_up_eq _ _ _ | refine (on_up_ne (by omega)).trans ?_)
      · rfl
      · first | assumption | exact on_lit _ | rfl
      · first | assumption | omega | decide
      first | refine on_aload_n (pc' := 130) rfl rfl rfl rfl ?_ | refine on_aload_nQ (pc' := 130) rfl rfl rfl rfl ?_
      apply on_get (pc' := 133) rfl rfl fl_Lane_22
      · repeat (first | assumption | exact on_up_eq _ _ _ | refine (on_up_ne (by omega)).trans ?_)
      · rfl
      refine on_iload_n (pc' := 134) rfl rfl rfl rfl ?_
      refine on_iconst (pc' := 135) (v := 2) rfl rfl li_2 ?_
      refine on_iushr (pc' := 136) rfl rfl ?_
      apply on_ialoadK (pc' := 137) (t := 0) rfl rfl
      · repeat (first | assumption | exact on_up_eq _ _ _ | refine (on_up_ne (by omega)).trans ?_)
      · rfl
      · first | assumption | exact on_lit _ | rfl
      · first | assumption | omega | decide
      refine on_iadd (pc' := 138) rfl rfl ?_
      refine on_istore_n (pc' := 139) rfl rfl rfl (by decide) ?_
      first | refine on_aload_n (pc' := 140) rfl rfl rfl rfl ?_ | refine on_aload_nQ (pc' := 140) rfl rfl rfl rfl ?_
      apply on_get (pc' := 143) rfl rfl fl_Lane_28
      · repeat (first | assumption | exact on_up_eq _ _ _ | refine (on_up_ne (by omega)).trans ?_)
      · rfl
      refine on_iload_n (pc' := 144) rfl rfl rfl rfl ?_
      refine on_iload_n (pc' := 145) rfl rfl rfl rfl ?_
      refine on_bipush (pc' := 147) (v := 8) rfl rfl lb_8 ?_
      refine on_iload_n (pc' := 148) rfl rfl rfl rfl ?_
      refine on_iconst (pc' := 149) (v := 3) rfl rfl li_3 ?_
      refine on_iand (pc' := 150) rfl rfl ?_
      refine on_imul (pc' := 151) rfl rfl ?_
      refine on_iushr (pc' := 152) rfl rfl ?_
      refine on_sipush (pc' := 155) (v := 255) rfl rfl ls_255 ?_
      refine on_iand (pc' := 156) rfl rfl ?_
      rw [e_by8 _ (by omega), hM _ (by omega)]
      apply on_iastoreK (pc' := 157) (t := 0) rfl rfl
      · repeat (first | assumption | exact on_up_eq _ _ _ | refine (on_up_ne (by omega)).trans ?_)
      · rfl
      · first | assumption | exact on_lit _ | rfl
      · first | assumption | omega | decide
      refine on_iinc1 (pc' := 160) rfl rfl rfl ?_
      refine on_goto (tgt := 115) rfl rfl ?_
      rw [on_up_up]
      have := on_tk_s (s := fun i => nI (cc_by inp i)) (r := blk) (k := i)
      rw [show nI ((cc_r inp 10 (i / 4) + inp (i / 4)).toBitVec.toNat / 2 ^ (8 * (i % 4)) % 256) = (fun i => nI (cc_by inp i)) i from rfl, this]
      exact on_relv (l := [(0, .ref o), (1, .int (nI (i + 1)))]) ⟨rfl, congrArg some (congrArg Value.int (nI_1 i)), trivial⟩ (ih (i + 1) (by omega))
set_option maxHeartbeats 4000000 in
/-- Lane.nextBlock -/
theorem c_Lane_nextBlock (hB : ln_B o tr due inp mix blk used h) :
    on_Ct G M_Lane_nextBlock [.ref o] h sz 0 0 (fun r h1 z => r = none ∧ z = sz ∧ (∃ mix2, ln_B o tr due (upd inp 12 (inp 12 + 1)) mix2 (on_tk (fun i => nI (cc_by inp i)) blk 64) 0 h1) ∧ ∀ a, (a < o ∨ o + 8 ≤ a ∨ a = o + 1 ∨ a = o + 2 ∨ a = o + 3) → h1 a = h a) := by
  obtain ⟨b1, b2, b3, b4, b5⟩ := id hB
  refine on_Ct.of (by decide) v_Lane_nextBlock (Nat.le_of_ble_eq_true rfl) ?_
  first | refine on_aload_n (pc' := 1) rfl rfl rfl rfl ?_ | refine on_aload_nQ (pc' := 1) rfl rfl rfl rfl ?_
  apply on_get (pc' := 4) rfl rfl fl_Lane_22
  · repeat (first | assumption | exact on_up_eq _ _ _ | refine (on_up_ne (by omega)).trans ?_)
  · rfl
  refine on_iconst (pc' := 5) (v := 0) rfl rfl li_0 ?_
  first | refine on_aload_n (pc' := 6) rfl rfl rfl rfl ?_ | refine on_aload_nQ (pc' := 6) rfl rfl rfl rfl ?_
  apply on_get (pc' := 9) rfl rfl fl_Lane_25
  · repeat (first | assumption | exact on_up_eq _ _ _ | refine (on_up_ne (by omega)).trans ?_)
  · rfl
  refine on_iconst (pc' := 10) (v := 0) rfl rfl li_0 ?_
  refine on_bipush (pc' := 12) (v := 16) rfl rfl lb_16 ?_
  apply on_acopy (pc' := 15) rfl rfl jm_Lane_63 (Nat.le_of_ble_eq_true rfl) (Nat.le_of_ble_eq_true rfl)
  · repeat (first | assumption | exact on_up_eq _ _ _ | refine (on_up_ne (by omega)).trans ?_)
  · repeat (first | assumption | exact on_up_eq _ _ _ | refine (on_up_ne (by omega)).trans ?_)
  · first | assumption | exact on_lit _ | rfl
  · first | assumption | exact on_lit _ | rfl
  · first | assumption | exact on_lit _ | rfl
  · first | assumption | omega | decide
  · first | assumption | omega | decide
  refine on_iconst (pc' := 16) (v := 0) rfl rfl li_0 ?_
  refine on_istore_n (pc' := 17) rfl rfl rfl (by decide) ?_
  refine on_relv (l := [(0, .ref o), (1, .int (nI 0))]) ⟨rfl, rfl, trivial⟩ (ln_nb1 (fun m2 => ln_B_mix hB) ?_ 10 0 rfl)
  refine on_iconst (pc' := 114) (v := 0) rfl rfl li_0 ?_
  refine on_istore_n (pc' := 115) rfl rfl rfl (by decide) ?_
  have hM : ∀ i, i < 16 → cc_r (va_cpy inp mix 0 0 16) 10 i = cc_r inp 10 i := cc_r_congr (fun i hi => by
    rw [pk_cpy_in (f := inp) (g := mix) (sp := 0) (dp := 0) (n := 16) (j := i) (by omega) (by omega), Nat.zero_add, Nat.sub_zero]) 10
  have hB2 : ln_B o tr due inp (cc_r (va_cpy inp mix 0 0 16) 10) blk used (on_up h (o + 6) (on_ai 0 16 (cc_r (va_cpy inp mix 0 0 16) 10))) := ln_B_mix hB
  have h2 := ln_nb2 (G := G) (blk := blk) (sz := sz) (bc := 0) (bs := 0) (Q := fun r h1 z => r = none ∧ z = sz ∧ (∃ mix2, ln_B o tr due (upd inp 12 (inp 12 + 1)) mix2 (on_tk (fun i => nI (cc_by inp i)) blk 64) 0 h1) ∧ ∀ a, (a < o ∨ o + 8 ≤ a ∨ a = o + 1 ∨ a = o + 2 ∨ a = o + 3) → h1 a = h a) hB2.1 hB2.2.2.1 hB2.2.2.2.1 hM ?_ 64 0 rfl
  · rw [on_tk_0, on_up_self hB2.2.2.2.2] at h2
    exact on_relv (l := [(0, .ref o), (1, .int (nI 0))]) ⟨rfl, rfl, trivial⟩ h2
  · first | refine on_aload_n (pc' := 164) rfl rfl rfl rfl ?_ | refine on_aload_nQ (pc' := 164) rfl rfl rfl rfl ?_
    apply on_get (pc' := 167) rfl rfl fl_Lane_22
    · repeat (first | assumption | exact on_up_eq _ _ _ | refine (on_up_ne (by omega)).trans ?_)
    · rfl
    refine on_bipush (pc' := 169) (v := 12) rfl rfl lb_12 ?_
    first | refine on_dup2_11 (pc' := 170) rfl rfl rfl rfl ?_ | refine on_dup2_2 (pc' := 170) rfl rfl rfl ?_
    apply on_ialoadK (pc' := 171) (t := 0) rfl rfl
    · repeat (first | assumption | exact on_up_eq _ _ _ | refine (on_up_ne (by omega)).trans ?_)
    · rfl
    · first | assumption | exact on_lit _ | rfl
    · first | assumption | omega | decide
    refine on_iconst (pc' := 172) (v := 1) rfl rfl li_1 ?_
    refine on_iadd (pc' := 173) rfl rfl ?_
    apply on_iastoreK (pc' := 174) (t := 0) rfl rfl
    · repeat (first | assumption | exact on_up_eq _ _ _ | refine (on_up_ne (by omega)).trans ?_)
    · rfl
    · first | assumption | exact on_lit _ | rfl
    · first | assumption | omega | decide
    first | refine on_aload_n (pc' := 175) rfl rfl rfl rfl ?_ | refine on_aload_nQ (pc' := 175) rfl rfl rfl rfl ?_
    refine on_iconst (pc' := 176) (v := 0) rfl rfl li_0 ?_
    apply on_put (pc' := 179) rfl rfl fp_Lane_51
    · repeat (first | assumption | exact on_up_eq _ _ _ | refine (on_up_ne (by omega)).trans ?_)
    · first | rfl | assumption
    · first | rfl | assumption
    · exact Nat.le_of_ble_eq_true rfl
    refine on_vreturn rfl rfl ?_
    refine ⟨rfl, rfl, ⟨cc_r (va_cpy inp mix 0 0 16) 10, on_up_eq _ _ _, ?_, ?_, ?_, ?_⟩, fun a ha => ?_⟩
    · repeat (first | assumption | exact on_up_eq _ _ _ | refine (on_up_ne (by omega)).trans ?_)
    · repeat (first | assumption | exact on_up_eq _ _ _ | refine (on_up_ne (by omega)).trans ?_)
    · repeat (first | assumption | exact on_up_eq _ _ _ | refine (on_up_ne (by omega)).trans ?_)
    · repeat (first | assumption | exact on_up_eq _ _ _ | refine (on_up_ne (by omega)).trans ?_)
    · rw [on_up_ne (by omega), on_up_ne (by omega), on_up_ne (by omega), on_up_ne (by omega)]
end CHA
