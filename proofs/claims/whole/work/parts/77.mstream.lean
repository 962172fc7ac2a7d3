/-! the reference's stream: a block of it, a payload covered -/
def jk (n : Nat) : Int32 := if n < 4 then nI (3 - n) else -1
theorem jk_s {n : Nat} (h : n < 4) : jk n + Int32.ofInt (-1) = jk (n + 1) := by
  match n, h with
  | 0, _ => decide
  | 1, _ => decide
  | 2, _ => decide
  | 3, _ => decide
/-- the bytes of a word of the first state -/
def sb_s (K : Nat → Nat) (i j : Nat) : Nat := if i < 4 then sx_c 1 (4 * i + j) else if i < 12 then K (4 * i - 16 + j) else 0
def sb_v (b : Nat → Nat) : Nat → Nat
  | 0 => 0
  | n + 1 => sb_v b n * 256 + b (3 - n)
theorem sb_v_lt {b : Nat → Nat} (h : ∀ j, j < 4 → b j < 256) : ∀ n, n ≤ 4 → sb_v b n < 2 ^ (8 * n)
  | 0, _ => by
    show 0 < 2 ^ (8 * 0)
    decide
  | n + 1, hn => by
    have h1 := sb_v_lt h n (by omega)
    have h2 := h (3 - n) (by omega)
    show sb_v b n * 256 + b (3 - n) < 2 ^ (8 * (n + 1))
    rw [show 8 * (n + 1) = 8 * n + 8 by omega, Nat.pow_add]
    omega
theorem nI_pair24 {a b : Nat} (ha : a < 2 ^ 24) (hb : b < 256) : sh_l (nI a) 8 ||| nI b = nI (a * 256 + b) := by
  rw [show (8 : Int32) = nI 8 from rfl, e_shl (by decide) (by omega), nI_or, or_low (k := 8) (by omega)]
theorem sx1_lt : ∀ j, j < 16 → sx_c 1 j < 256 := by decide +kernel
theorem sb_s_lt {K : Nat → Nat} (hK : ∀ i, i < 32 → K i < 256) {i j : Nat} (hj : j < 4) : sb_s K i j < 256 := by
  unfold sb_s
  split
  · exact sx1_lt _ (by omega)
  · split
    · exact hK _ (by omega)
    · decide
/-- a word of the first state -/
theorem sb_in {K : Nat → Nat} {n i : Nat} (hi : i < 16) : (if i = 12 then nI n else nI (sb_v (sb_s K i) 4)) = cc_in K n i := by
  unfold cc_in
  by_cases e : i < 4
  · have : ∀ i, i < 4 → nI (sb_v (sb_s (fun _ => 0) i) 4) = (if i = 0 then 1634760805 else if i = 1 then 857760878 else if i = 2 then 2036477234 else 1797285236) := by decide +kernel
    rw [if_neg (by omega)]
    have e2 : sb_v (sb_s K i) 4 = sb_v (sb_s (fun _ => 0) i) 4 := by
      unfold sb_s
      simp only [if_pos e]
    rw [e2, this i e]
    split
    · rfl
    · split
      · rfl
      · split
        · rfl
        · rw [if_pos (by omega)]
  · have n0 : ¬ i = 0 := by omega
    have n1 : ¬ i = 1 := by omega
    have n2 : ¬ i = 2 := by omega
    have n3 : ¬ i = 3 := by omega
    rw [if_neg n0, if_neg n1, if_neg n2, if_neg n3]
    by_cases e2 : i < 12
    · have n12 : ¬ i = 12 := by omega
      rw [if_pos e2, if_neg n12]
      unfold sb_s
      simp only [if_neg e, if_pos e2]
      refine congrArg nI ?_
      show (((0 * 256 + K (4 * i - 16 + 3)) * 256 + K (4 * i - 16 + 2)) * 256 + K (4 * i - 16 + 1)) * 256 + K (4 * i - 16) = cc_le K (4 * (i - 4))
      unfold cc_le
      rw [show 4 * (i - 4) = 4 * i - 16 by omega]
      omega
    · rw [if_neg e2]
      by_cases e3 : i = 12
      · rw [if_pos e3, if_pos e3]
      · rw [if_neg e3, if_neg e3]
        unfold sb_s
        simp only [if_neg e, if_neg e2]
        rfl
section MSB
variable {G : on_G} {o q n sz bc bs : Nat} {x3 : Int32 × Int32 × Int32} {h : on_H} {Q : Option Value → on_H → Nat → Prop} {K : Nat → Nat} {R : Nat → Int32} {nk : Nat}
set_option maxHeartbeats 4000000 in
/-- the bytes of a word, the last first -/
theorem sb_1 {i : Nat} {N : Value} (hi : i < 16) (hq : h q = some (on_ai 0 nk R)) (hnk : 32 ≤ nk ∧ nk < 2 ^ 31) (hK : on_by R K 32)
    (k : on_E G M_M_streamBlock 81 (on_l [(0, .ref o), (1, .ref q), (2, N), (3, .ref (on_sa G 11)), (4, .int (nI i)), (5, .int (nI (sb_v (sb_s K i) 4)))]) [] h sz bc bs Q) :
    ∀ (m j : Nat), j + m = 4 → on_E G M_M_streamBlock 19 (on_l [(0, .ref o), (1, .ref q), (2, N), (3, .ref (on_sa G 11)), (4, .int (nI i)), (5, .int (nI (sb_v (sb_s K i) j))), (6, .int (jk j))]) [] h sz bc bs Q := by
  intro m
  induction m with
  | zero =>
    intro j hj
    obtain rfl : j = 4 := by omega
    refine on_iload (pc' := 21) rfl rfl rfl ?_
    refine on_if_lt (pc' := 24) (tgt := 81) rfl rfl rfl (fun cq => ?_) (fun cq => ?_)
    · exact on_relv (l := [(0, .ref o), (1, .ref q), (2, N), (3, .ref (on_sa G 11)), (4, .int (nI i)), (5, .int (nI (sb_v (sb_s K i) 4)))]) ⟨rfl, rfl, rfl, rfl, rfl, rfl, trivial⟩ k
    · exact absurd (by decide) cq
  | succ m ih =>
    intro j hj
    have ek : jk j = nI (3 - j) := if_pos (by omega)
    have hv : sb_v (sb_s K i) j < 2 ^ 24 := Nat.lt_of_lt_of_le (sb_v_lt (fun j hj => sb_s_lt (fun i hi => (hK i hi).2) hj) j (by omega)) (Nat.pow_le_pow_right (by decide) (by omega))
    have e4 : (4 : Int32) * nI i = nI (4 * i) := pk_mul 4 i
    have tail : ∀ b, b = sb_s K i (3 - j) → on_E G M_M_streamBlock 72 (on_l [(0, .ref o), (1, .ref q), (2, N), (3, .ref (on_sa G 11)), (4, .int (nI i)), (6, .int (jk j))]) [.int (nI b), .int (sh_l (nI (sb_v (sb_s K i) j)) 8)] h sz bc bs Q := by
      intro b hb
      have hb2 : b < 256 := by rw [hb]; exact sb_s_lt (fun i hi => (hK i hi).2) (by omega)
      refine on_ior (pc' := 73) rfl rfl ?_
      rw [nI_pair24 hv hb2]
      refine on_istore (pc' := 75) rfl rfl (by decide) ?_
      refine on_iinc (pc' := 78) rfl rfl rfl rfl ?_
      refine on_goto (tgt := 19) rfl rfl ?_
      refine on_relv (l := [(0, .ref o), (1, .ref q), (2, N), (3, .ref (on_sa G 11)), (4, .int (nI i)), (5, .int (nI (sb_v (sb_s K i) (j + 1)))), (6, .int (jk (j + 1)))]) ⟨rfl, rfl, rfl, rfl, rfl, congrArg some (congrArg Value.int (congrArg nI (by rw [hb]; rfl))), congrArg some (congrArg Value.int (jk_s (by omega))), trivial⟩ (ih (j + 1) (by omega))
    refine on_iload (pc' := 21) rfl rfl rfl ?_
    refine on_if_lt (pc' := 24) (tgt := 81) rfl rfl rfl (fun cq => ?_) (fun cq => ?_)
    · rw [ek] at cq
      exact absurd cq (nI_pos (by omega))
    · refine on_iload (pc' := 26) rfl rfl rfl ?_
      refine on_bipush (pc' := 28) (v := 8) rfl rfl lb_8 ?_
      refine on_ishl (pc' := 29) rfl rfl ?_
      refine on_iload (pc' := 31) rfl rfl rfl ?_
      refine on_iconst (pc' := 32) (v := 4) rfl rfl li_4 ?_
      refine on_icmp_ge (pc' := 35) (tgt := 49) rfl rfl rfl (fun cq => ?_) (fun cq => ?_)
      · have c4 : ¬ i < 4 := fun e => absurd cq (nI_ge (b := 4) e (by omega))
        refine on_iload (pc' := 51) rfl rfl rfl ?_
        refine on_bipush (pc' := 53) (v := 12) rfl rfl lb_12 ?_
        refine on_icmp_ge (pc' := 56) (tgt := 71) rfl rfl rfl (fun cq => ?_) (fun cq => ?_)
        · have c12 : ¬ i < 12 := fun e => absurd cq (nI_ge (b := 12) e (by omega))
          refine on_iconst (pc' := 72) (v := 0) rfl rfl li_0 ?_
          refine on_relv (l := [(0, .ref o), (1, .ref q), (2, N), (3, .ref (on_sa G 11)), (4, .int (nI i)), (6, .int (jk j))]) ⟨rfl, rfl, rfl, rfl, rfl, rfl, trivial⟩ (tail 0 ?_)
          unfold sb_s
          rw [if_neg c4, if_neg c12]
        · have c12 : i < 12 := by
            rcases Nat.lt_or_ge i 12 with g | g
            · exact g
            · exact absurd (nI_le (a := 12) g (by omega)) cq
          have h32 : 4 * i - 16 + (3 - j) < nk ∧ nk < 2 ^ 31 := by omega
          have e5 : nI (4 * i) - 16 = nI (4 * i - 16) := pk_sub (b := 16) (by omega)
          have e6 : nI (4 * i - 16) + nI (3 - j) = nI (4 * i - 16 + (3 - j)) := nI_add _ _
          have hr := (hK (4 * i - 16 + (3 - j)) (by omega)).1
          first | refine on_aload_n (pc' := 57) rfl rfl rfl rfl ?_ | refine on_aload_nQ (pc' := 57) rfl rfl rfl rfl ?_
          refine on_iconst (pc' := 58) (v := 4) rfl rfl li_4 ?_
          refine on_iload (pc' := 60) rfl rfl rfl ?_
          refine on_imul (pc' := 61) rfl rfl ?_
          rw [e4]
          refine on_bipush (pc' := 63) (v := 16) rfl rfl lb_16 ?_
          refine on_isub (pc' := 64) rfl rfl ?_
          rw [e5]
          refine on_iload (pc' := 66) rfl rfl rfl ?_
          rw [ek]
          refine on_iadd (pc' := 67) rfl rfl ?_
          rw [e6]
          apply on_ialoadK (pc' := 68) (t := 0) rfl rfl
          · repeat (first | assumption | exact on_up_eq _ _ _ | refine (on_up_ne (by omega)).trans ?_)
          · rfl
          · first | assumption | exact on_lit _ | rfl
          · first | assumption | omega | decide
          refine on_goto (tgt := 72) rfl rfl ?_
          rw [hr]
          refine on_relv (l := [(0, .ref o), (1, .ref q), (2, N), (3, .ref (on_sa G 11)), (4, .int (nI i)), (6, .int (jk j))]) ⟨rfl, rfl, rfl, rfl, rfl, congrArg some (congrArg Value.int ek.symm), trivial⟩ (tail _ ?_)
          unfold sb_s
          rw [if_neg c4, if_pos c12]
      · have c4 : i < 4 := by
          rcases Nat.lt_or_ge i 4 with g | g
          · exact g
          · exact absurd (nI_le (a := 4) g (by omega)) cq
        have e6 : nI (4 * i) + nI (3 - j) = nI (4 * i + (3 - j)) := nI_add _ _
        first | refine on_aload_n (pc' := 36) rfl rfl rfl rfl ?_ | refine on_aload_nQ (pc' := 36) rfl rfl rfl rfl ?_
        refine on_iconst (pc' := 37) (v := 4) rfl rfl li_4 ?_
        refine on_iload (pc' := 39) rfl rfl rfl ?_
        refine on_imul (pc' := 40) rfl rfl ?_
        rw [e4]
        refine on_iload (pc' := 42) rfl rfl rfl ?_
        rw [ek]
        refine on_iadd (pc' := 43) rfl rfl ?_
        rw [e6]
        refine on_charAt (pc' := 46) (i := 1) (j := 4 * i + (3 - j)) rfl rfl cw_M_streamBlock_149 (by decide) (show 4 * i + (3 - j) < 16 by omega) (Nat.le_of_ble_eq_true rfl) ?_
        refine on_goto (tgt := 72) rfl rfl ?_
        refine on_relv (l := [(0, .ref o), (1, .ref q), (2, N), (3, .ref (on_sa G 11)), (4, .int (nI i)), (6, .int (jk j))]) ⟨rfl, rfl, rfl, rfl, rfl, congrArg some (congrArg Value.int ek.symm), trivial⟩ (tail _ ?_)
        unfold sb_s
        rw [if_pos c4]
set_option maxHeartbeats 4000000 in
/-- the first state, twice -/
theorem sb_2 (ho : h o = some (.inr (17, mo_f o x3.1 x3.2.1 x3.2.2))) (hq : h q = some (on_ai 0 nk R)) (hqo : q ≠ o + 27) (hqo2 : q ≠ o + 28) (hnk : 32 ≤ nk ∧ nk < 2 ^ 31) (hK : on_by R K 32)
    (k : ∀ F B : Nat → Int32, (∀ j, j < 16 → F j = cc_in K n j) → (∀ j, j < 16 → B j = cc_in K n j) → on_E G M_M_streamBlock 121 (on_l [(0, .ref o)]) [] (on_up (on_up h (o + 28) (on_ai 0 16 B)) (o + 27) (on_ai 0 16 F)) sz bc bs Q) :
    ∀ (m i : Nat) (F B : Nat → Int32), i + m = 16 → (∀ j, j < i → F j = cc_in K n j) → (∀ j, j < i → B j = cc_in K n j) → on_E G M_M_streamBlock 6 (on_l [(0, .ref o), (1, .ref q), (2, .int (nI n)), (3, .ref (on_sa G 11)), (4, .int (nI i))]) [] (on_up (on_up h (o + 28) (on_ai 0 16 B)) (o + 27) (on_ai 0 16 F)) sz bc bs Q := by
  intro m
  induction m with
  | zero =>
    intro i F B hi hF hB
    obtain rfl : i = 16 := by omega
    refine on_iload (pc' := 8) rfl rfl rfl ?_
    refine on_bipush (pc' := 10) (v := 16) rfl rfl lb_16 ?_
    refine on_icmp_ge (pc' := 13) (tgt := 121) rfl rfl rfl (fun cq => ?_) (fun cq => ?_)
    · exact on_relv (l := [(0, .ref o)]) ⟨rfl, trivial⟩ (k F B hF hB)
    · exact absurd (nI_le (a := 16) (by omega) (by omega)) cq
  | succ m ih =>
    intro i F B hi hF hB
    have hi2 : i < 16 ∧ 16 < 2 ^ 31 := by omega
    have hq2 : on_up (on_up h (o + 28) (on_ai 0 16 B)) (o + 27) (on_ai 0 16 F) q = some (on_ai 0 nk R) := (on_up_ne hqo).trans ((on_up_ne hqo2).trans hq)
    have tail : ∀ v, v = cc_in K n i → on_E G M_M_streamBlock 100 (on_l [(0, .ref o), (1, .ref q), (2, .int (nI n)), (3, .ref (on_sa G 11)), (4, .int (nI i))]) [.int v, .int (nI i), .ref (o + 28)] (on_up (on_up h (o + 28) (on_ai 0 16 B)) (o + 27) (on_ai 0 16 F)) sz bc bs Q := by
      intro v hv
      apply on_iastoreK (pc' := 101) (t := 0) rfl rfl
      · repeat (first | assumption | exact on_up_eq _ _ _ | refine (on_up_ne (by omega)).trans ?_)
      · rfl
      · first | assumption | exact on_lit _ | rfl
      · first | assumption | omega | decide
      first | refine on_aload_n (pc' := 102) rfl rfl rfl rfl ?_ | refine on_aload_nQ (pc' := 102) rfl rfl rfl rfl ?_
      first | apply on_get (pc' := 105) rfl rfl fl_M_82 | apply on_getN (pc' := 105) rfl rfl fl_M_82
      · repeat (first | assumption | exact on_up_eq _ _ _ | refine (on_up_ne (by omega)).trans ?_)
      · rfl
      refine on_iload (pc' := 107) rfl rfl rfl ?_
      first | refine on_aload_n (pc' := 108) rfl rfl rfl rfl ?_ | refine on_aload_nQ (pc' := 108) rfl rfl rfl rfl ?_
      first | apply on_get (pc' := 111) rfl rfl fl_M_85 | apply on_getN (pc' := 111) rfl rfl fl_M_85
      · repeat (first | assumption | exact on_up_eq _ _ _ | refine (on_up_ne (by omega)).trans ?_)
      · rfl
      refine on_iload (pc' := 113) rfl rfl rfl ?_
      apply on_ialoadK (pc' := 114) (t := 0) rfl rfl
      · repeat (first | assumption | exact on_up_eq _ _ _ | refine (on_up_ne (by omega)).trans ?_)
      · rfl
      · first | assumption | exact on_lit _ | rfl
      · first | assumption | omega | decide
      rw [pk_us]
      apply on_iastoreK (pc' := 115) (t := 0) rfl rfl
      · repeat (first | assumption | exact on_up_eq _ _ _ | refine (on_up_ne (by omega)).trans ?_)
      · rfl
      · first | assumption | exact on_lit _ | rfl
      · first | assumption | omega | decide
      refine on_iinc1 (pc' := 118) rfl rfl rfl ?_
      refine on_goto (tgt := 6) rfl rfl ?_
      rw [on_up_comm (a := o + 27) (b := o + 28) (by omega), on_up_up, on_up_up]
      refine on_relv (l := [(0, .ref o), (1, .ref q), (2, .int (nI n)), (3, .ref (on_sa G 11)), (4, .int (nI (i + 1)))]) ⟨rfl, rfl, rfl, rfl, congrArg some (congrArg Value.int (nI_1 i)), trivial⟩ (ih (i + 1) _ _ (by omega) (fun j hj => ?_) (fun j hj => ?_))
      · by_cases e : j = i
        · subst e; rw [pk_us]; exact hv
        · rw [pk_un e]; exact hF j (by omega)
      · by_cases e : j = i
        · subst e; rw [pk_us]; exact hv
        · rw [pk_un e]; exact hB j (by omega)
    refine on_iload (pc' := 8) rfl rfl rfl ?_
    refine on_bipush (pc' := 10) (v := 16) rfl rfl lb_16 ?_
    refine on_icmp_ge (pc' := 13) (tgt := 121) rfl rfl rfl (fun cq => ?_) (fun cq => ?_)
    · exact absurd cq (nI_ge (b := 16) (by omega) (by omega))
    · refine on_iconst (pc' := 14) (v := 0) rfl rfl li_0 ?_
      refine on_istore (pc' := 16) rfl rfl (by decide) ?_
      refine on_iconst (pc' := 17) (v := 3) rfl rfl li_3 ?_
      refine on_istore (pc' := 19) rfl rfl (by decide) ?_
      refine on_relv (l := [(0, .ref o), (1, .ref q), (2, .int (nI n)), (3, .ref (on_sa G 11)), (4, .int (nI i)), (5, .int (nI (sb_v (sb_s K i) 0))), (6, .int (jk 0))]) ⟨rfl, rfl, rfl, rfl, rfl, rfl, rfl, trivial⟩ (sb_1 hi2.1 hq2 hnk hK ?_ 4 0 rfl)
      have hin := sb_in (K := K) (n := n) hi2.1
      first | refine on_aload_n (pc' := 82) rfl rfl rfl rfl ?_ | refine on_aload_nQ (pc' := 82) rfl rfl rfl rfl ?_
      first | apply on_get (pc' := 85) rfl rfl fl_M_85 | apply on_getN (pc' := 85) rfl rfl fl_M_85
      · repeat (first | assumption | exact on_up_eq _ _ _ | refine (on_up_ne (by omega)).trans ?_)
      · rfl
      refine on_iload (pc' := 87) rfl rfl rfl ?_
      refine on_iload (pc' := 89) rfl rfl rfl ?_
      refine on_bipush (pc' := 91) (v := 12) rfl rfl lb_12 ?_
      refine on_icmp_ne (pc' := 94) (tgt := 98) rfl rfl rfl (fun cq => ?_) (fun cq => ?_)
      · have c0 : ¬ i = 12 := fun e => cq (by rw [e]; rfl)
        refine on_iload (pc' := 100) rfl rfl rfl ?_
        rw [if_neg c0] at hin
        exact on_relv (l := [(0, .ref o), (1, .ref q), (2, .int (nI n)), (3, .ref (on_sa G 11)), (4, .int (nI i))]) ⟨rfl, rfl, rfl, rfl, rfl, trivial⟩ (tail _ hin)
      · have c0 : i = 12 := (nI_eq (b := 12) (by omega) (by omega)).mp cq
        refine on_iload_n (pc' := 95) rfl rfl rfl rfl ?_
        refine on_goto (tgt := 100) rfl rfl ?_
        rw [if_pos c0] at hin
        exact on_relv (l := [(0, .ref o), (1, .ref q), (2, .int (nI n)), (3, .ref (on_sa G 11)), (4, .int (nI i))]) ⟨rfl, rfl, rfl, rfl, rfl, trivial⟩ (tail _ hin)
/-- a call of quarter -/
theorem on_mq {pc pc' : Nat} {lv : on_V} {a b c d : Nat} {f : Nat → Int32} (ho : h o = some (.inr (17, mo_f o x3.1 x3.2.1 x3.2.2))) (hk : h (o + 27) = some (on_ai 0 16 f)) (hd : on_tb M_M_streamBlock pc = some (.invokevirtual 228, 3)) (hp : pc + 3 = pc') (hr : a < 16 ∧ b < 16 ∧ c < 16 ∧ d < 16) (hne : a ≠ b ∧ a ≠ c ∧ a ≠ d ∧ b ≠ c ∧ b ≠ d ∧ c ≠ d) (k : on_E G M_M_streamBlock pc' lv [] (on_up h (o + 27) (on_ai 0 16 (cc_at f a b c d))) sz bc bs Q) : on_E G M_M_streamBlock pc lv [.int (nI d), .int (nI c), .int (nI b), .int (nI a), .ref o] h sz bc bs Q := by
  obtain ⟨n1, n2, n3, n4, n5, n6⟩ := hne
  refine on_callV (As := [.int (nI a), .int (nI b), .int (nI c), .int (nI d)]) (rest := []) (b := o) hd hp cw_M_streamBlock_228 ho rfl rfl (by decide) (Nat.zero_le _) (Nat.zero_le _) (c_M_quarter ho hk ⟨hr.1, by decide⟩ ⟨hr.2.1, by decide⟩ ⟨hr.2.2.1, by decide⟩ ⟨hr.2.2.2, by decide⟩ n1 n2 n3 n1.symm n4 n5 n2.symm n4.symm n6 n3.symm n5.symm n6.symm) ?_
  rintro r h1 z ⟨rfl, rfl, rfl⟩
  exact k
set_option maxHeartbeats 4000000 in
theorem sb_3 {f : Nat → Int32} (ho : h o = some (.inr (17, mo_f o x3.1 x3.2.1 x3.2.2))) (k : on_E G M_M_streamBlock 221 (on_l [(0, .ref o)]) [] (on_up h (o + 27) (on_ai 0 16 (cc_r f 10))) sz bc bs Q) :
    ∀ (m n : Nat), n + m = 10 → on_E G M_M_streamBlock 124 (on_l [(0, .ref o), (4, .int (nI n))]) [] (on_up h (o + 27) (on_ai 0 16 (cc_r f n))) sz bc bs Q := by
  have ho2 : ∀ g, on_up h (o + 27) (on_ai 0 16 g) o = some (.inr (17, mo_f o x3.1 x3.2.1 x3.2.2)) := fun g => (on_up_ne (by omega)).trans ho
  intro m
  induction m with
  | zero =>
    intro n hn
    refine on_iload (pc' := 126) rfl rfl rfl ?_
    refine on_bipush (pc' := 128) (v := 10) rfl rfl lb_10 ?_
    refine on_icmp_ge (pc' := 131) (tgt := 221) rfl rfl rfl (fun cq => ?_) (fun cq => ?_)
    · rw [show n = 10 by omega]
      exact on_relv (l := [(0, .ref o)]) ⟨rfl, trivial⟩ k
    · exact absurd (nI_le (a := 10) (by omega) (by omega)) cq
  | succ m ih =>
    intro n hn
    refine on_iload (pc' := 126) rfl rfl rfl ?_
    refine on_bipush (pc' := 128) (v := 10) rfl rfl lb_10 ?_
    refine on_icmp_ge (pc' := 131) (tgt := 221) rfl rfl rfl (fun cq => ?_) (fun cq => ?_)
    · exact absurd cq (nI_ge (b := 10) (by omega) (by omega))
    · first | refine on_aload_n (pc' := 132) rfl rfl rfl rfl ?_ | refine on_aload_nQ (pc' := 132) rfl rfl rfl rfl ?_
      refine on_iconst (pc' := 133) (v := 0) rfl rfl li_0 ?_
      refine on_iconst (pc' := 134) (v := 4) rfl rfl li_4 ?_
      refine on_bipush (pc' := 136) (v := 8) rfl rfl lb_8 ?_
      refine on_bipush (pc' := 138) (v := 12) rfl rfl lb_12 ?_
      refine on_mq (pc' := 141) (a := 0) (b := 4) (c := 8) (d := 12) (ho2 _) (on_up_eq _ _ _) rfl rfl (by decide) (by decide) ?_
      rw [on_up_up]
      first | refine on_aload_n (pc' := 142) rfl rfl rfl rfl ?_ | refine on_aload_nQ (pc' := 142) rfl rfl rfl rfl ?_
      refine on_iconst (pc' := 143) (v := 1) rfl rfl li_1 ?_
      refine on_iconst (pc' := 144) (v := 5) rfl rfl li_5 ?_
      refine on_bipush (pc' := 146) (v := 9) rfl rfl lb_9 ?_
      refine on_bipush (pc' := 148) (v := 13) rfl rfl lb_13 ?_
      refine on_mq (pc' := 151) (a := 1) (b := 5) (c := 9) (d := 13) (ho2 _) (on_up_eq _ _ _) rfl rfl (by decide) (by decide) ?_
      rw [on_up_up]
      first | refine on_aload_n (pc' := 152) rfl rfl rfl rfl ?_ | refine on_aload_nQ (pc' := 152) rfl rfl rfl rfl ?_
      refine on_iconst (pc' := 153) (v := 2) rfl rfl li_2 ?_
      refine on_bipush (pc' := 155) (v := 6) rfl rfl lb_6 ?_
      refine on_bipush (pc' := 157) (v := 10) rfl rfl lb_10 ?_
      refine on_bipush (pc' := 159) (v := 14) rfl rfl lb_14 ?_
      refine on_mq (pc' := 162) (a := 2) (b := 6) (c := 10) (d := 14) (ho2 _) (on_up_eq _ _ _) rfl rfl (by decide) (by decide) ?_
      rw [on_up_up]
      first | refine on_aload_n (pc' := 163) rfl rfl rfl rfl ?_ | refine on_aload_nQ (pc' := 163) rfl rfl rfl rfl ?_
      refine on_iconst (pc' := 164) (v := 3) rfl rfl li_3 ?_
      refine on_bipush (pc' := 166) (v := 7) rfl rfl lb_7 ?_
      refine on_bipush (pc' := 168) (v := 11) rfl rfl lb_11 ?_
      refine on_bipush (pc' := 170) (v := 15) rfl rfl lb_15 ?_
      refine on_mq (pc' := 173) (a := 3) (b := 7) (c := 11) (d := 15) (ho2 _) (on_up_eq _ _ _) rfl rfl (by decide) (by decide) ?_
      rw [on_up_up]
      first | refine on_aload_n (pc' := 174) rfl rfl rfl rfl ?_ | refine on_aload_nQ (pc' := 174) rfl rfl rfl rfl ?_
      refine on_iconst (pc' := 175) (v := 0) rfl rfl li_0 ?_
      refine on_iconst (pc' := 176) (v := 5) rfl rfl li_5 ?_
      refine on_bipush (pc' := 178) (v := 10) rfl rfl lb_10 ?_
      refine on_bipush (pc' := 180) (v := 15) rfl rfl lb_15 ?_
      refine on_mq (pc' := 183) (a := 0) (b := 5) (c := 10) (d := 15) (ho2 _) (on_up_eq _ _ _) rfl rfl (by decide) (by decide) ?_
      rw [on_up_up]
      first | refine on_aload_n (pc' := 184) rfl rfl rfl rfl ?_ | refine on_aload_nQ (pc' := 184) rfl rfl rfl rfl ?_
      refine on_iconst (pc' := 185) (v := 1) rfl rfl li_1 ?_
      refine on_bipush (pc' := 187) (v := 6) rfl rfl lb_6 ?_
      refine on_bipush (pc' := 189) (v := 11) rfl rfl lb_11 ?_
      refine on_bipush (pc' := 191) (v := 12) rfl rfl lb_12 ?_
      refine on_mq (pc' := 194) (a := 1) (b := 6) (c := 11) (d := 12) (ho2 _) (on_up_eq _ _ _) rfl rfl (by decide) (by decide) ?_
      rw [on_up_up]
      first | refine on_aload_n (pc' := 195) rfl rfl rfl rfl ?_ | refine on_aload_nQ (pc' := 195) rfl rfl rfl rfl ?_
      refine on_iconst (pc' := 196) (v := 2) rfl rfl li_2 ?_
      refine on_bipush (pc' := 198) (v := 7) rfl rfl lb_7 ?_
      refine on_bipush (pc' := 200) (v := 8) rfl rfl lb_8 ?_
      refine on_bipush (pc' := 202) (v := 13) rfl rfl lb_13 ?_
      refine on_mq (pc' := 205) (a := 2) (b := 7) (c := 8) (d := 13) (ho2 _) (on_up_eq _ _ _) rfl rfl (by decide) (by decide) ?_
      rw [on_up_up]
      first | refine on_aload_n (pc' := 206) rfl rfl rfl rfl ?_ | refine on_aload_nQ (pc' := 206) rfl rfl rfl rfl ?_
      refine on_iconst (pc' := 207) (v := 3) rfl rfl li_3 ?_
      refine on_iconst (pc' := 208) (v := 4) rfl rfl li_4 ?_
      refine on_bipush (pc' := 210) (v := 9) rfl rfl lb_9 ?_
      refine on_bipush (pc' := 212) (v := 14) rfl rfl lb_14 ?_
      refine on_mq (pc' := 215) (a := 3) (b := 4) (c := 9) (d := 14) (ho2 _) (on_up_eq _ _ _) rfl rfl (by decide) (by decide) ?_
      rw [on_up_up]
      refine on_iinc1 (pc' := 218) rfl rfl rfl ?_
      refine on_goto (tgt := 124) rfl rfl ?_
      exact on_relv (l := [(0, .ref o), (4, .int (nI (n + 1)))]) ⟨rfl, congrArg some (congrArg Value.int (nI_1 n)), trivial⟩ (ih (n + 1) (by omega))
set_option maxHeartbeats 4000000 in
theorem sb_4 {g B : Nat → Int32} (ho : h o = some (.inr (17, mo_f o x3.1 x3.2.1 x3.2.2))) (hB : h (o + 28) = some (on_ai 0 16 B))
    (k : ∀ F : Nat → Int32, (∀ j, j < 16 → F j = g j + B j) → on_E G M_M_streamBlock 254 (on_l []) [] (on_up h (o + 27) (on_ai 0 16 F)) sz bc bs Q) :
    ∀ (m i : Nat) (F : Nat → Int32), i + m = 16 → (∀ j, j < 16 → F j = if j < i then g j + B j else g j) → on_E G M_M_streamBlock 224 (on_l [(0, .ref o), (4, .int (nI i))]) [] (on_up h (o + 27) (on_ai 0 16 F)) sz bc bs Q := by
  intro m
  induction m with
  | zero =>
    intro i F hi hF
    obtain rfl : i = 16 := by omega
    refine on_iload (pc' := 226) rfl rfl rfl ?_
    refine on_bipush (pc' := 228) (v := 16) rfl rfl lb_16 ?_
    refine on_icmp_ge (pc' := 231) (tgt := 254) rfl rfl rfl (fun cq => ?_) (fun cq => ?_)
    · exact on_relv (l := []) trivial (k F (fun j hj => by rw [hF j hj, if_pos hj]))
    · exact absurd (nI_le (a := 16) (by omega) (by omega)) cq
  | succ m ih =>
    intro i F hi hF
    have hi2 : i < 16 ∧ 16 < 2 ^ 31 := by omega
    have ef : F i = g i := by rw [hF i hi2.1, if_neg (by omega)]
    refine on_iload (pc' := 226) rfl rfl rfl ?_
    refine on_bipush (pc' := 228) (v := 16) rfl rfl lb_16 ?_
    refine on_icmp_ge (pc' := 231) (tgt := 254) rfl rfl rfl (fun cq => ?_) (fun cq => ?_)
    · exact absurd cq (nI_ge (b := 16) (by omega) (by omega))
    · first | refine on_aload_n (pc' := 232) rfl rfl rfl rfl ?_ | refine on_aload_nQ (pc' := 232) rfl rfl rfl rfl ?_
      first | apply on_get (pc' := 235) rfl rfl fl_M_82 | apply on_getN (pc' := 235) rfl rfl fl_M_82
      · repeat (first | assumption | exact on_up_eq _ _ _ | refine (on_up_ne (by omega)).trans ?_)
      · rfl
      refine on_iload (pc' := 237) rfl rfl rfl ?_
      first | refine on_dup2_11 (pc' := 238) rfl rfl rfl rfl ?_ | refine on_dup2_2 (pc' := 238) rfl rfl rfl ?_
      apply on_ialoadK (pc' := 239) (t := 0) rfl rfl
      · repeat (first | assumption | exact on_up_eq _ _ _ | refine (on_up_ne (by omega)).trans ?_)
      · rfl
      · first | assumption | exact on_lit _ | rfl
      · first | assumption | omega | decide
      first | refine on_aload_n (pc' := 240) rfl rfl rfl rfl ?_ | refine on_aload_nQ (pc' := 240) rfl rfl rfl rfl ?_
      first | apply on_get (pc' := 243) rfl rfl fl_M_85 | apply on_getN (pc' := 243) rfl rfl fl_M_85
      · repeat (first | assumption | exact on_up_eq _ _ _ | refine (on_up_ne (by omega)).trans ?_)
      · rfl
      refine on_iload (pc' := 245) rfl rfl rfl ?_
      apply on_ialoadK (pc' := 246) (t := 0) rfl rfl
      · repeat (first | assumption | exact on_up_eq _ _ _ | refine (on_up_ne (by omega)).trans ?_)
      · rfl
      · first | assumption | exact on_lit _ | rfl
      · first | assumption | omega | decide
      refine on_iadd (pc' := 247) rfl rfl ?_
      apply on_iastoreK (pc' := 248) (t := 0) rfl rfl
      · repeat (first | assumption | exact on_up_eq _ _ _ | refine (on_up_ne (by omega)).trans ?_)
      · rfl
      · first | assumption | exact on_lit _ | rfl
      · first | assumption | omega | decide
      refine on_iinc1 (pc' := 251) rfl rfl rfl ?_
      refine on_goto (tgt := 224) rfl rfl ?_
      rw [on_up_up, ef]
      refine on_relv (l := [(0, .ref o), (4, .int (nI (i + 1)))]) ⟨rfl, congrArg some (congrArg Value.int (nI_1 i)), trivial⟩ (ih (i + 1) _ (by omega) (fun j hj => ?_))
      by_cases e : j = i
      · subst e; rw [pk_us, if_pos (by omega)]
      · rw [pk_un e, hF j hj]
        by_cases e2 : j < i
        · rw [if_pos e2, if_pos (by omega)]
        · rw [if_neg e2, if_neg (by omega)]
set_option maxHeartbeats 4000000 in
/-- streamBlock -/
theorem c_M_streamBlock {F0 B0 : Nat → Int32} (ho : h o = some (.inr (17, mo_f o x3.1 x3.2.1 x3.2.2))) (hF0 : h (o + 27) = some (on_ai 0 16 F0)) (hB0 : h (o + 28) = some (on_ai 0 16 B0)) (hq : h q = some (on_ai 0 nk R)) (hqo : q ≠ o + 27) (hqo2 : q ≠ o + 28) (hnk : 32 ≤ nk ∧ nk < 2 ^ 31) (hK : on_by R K 32) :
    on_Ct G M_M_streamBlock [.ref o, .ref q, .int (nI n)] h sz 0 0 (fun r h1 z => r = none ∧ z = sz ∧ ∃ F B, h1 = on_up (on_up h (o + 28) (on_ai 0 16 B)) (o + 27) (on_ai 0 16 F) ∧ ∀ j, j < 16 → F j = cc_r (cc_in K n) 10 j + cc_in K n j) := by
  refine on_Ct.of (by decide) v_M_streamBlock (Nat.le_of_ble_eq_true rfl) ?_
  refine on_ldcS (pc' := 2) (i := 11) rfl rfl rfl (Or.inr ⟨rfl, rfl⟩) ?_
  first | refine on_astore_n (pc' := 3) rfl rfl rfl (by decide) ?_ | refine on_astore_nQ (pc' := 3) rfl rfl rfl (by decide) ?_
  refine on_iconst (pc' := 4) (v := 0) rfl rfl li_0 ?_
  refine on_istore (pc' := 6) rfl rfl (by decide) ?_
  have z := sb_2 (G := G) (sz := sz) (bc := 0) (bs := 0) (n := n) (K := K) (Q := fun r h1 z => r = none ∧ z = sz ∧ ∃ F B, h1 = on_up (on_up h (o + 28) (on_ai 0 16 B)) (o + 27) (on_ai 0 16 F) ∧ ∀ j, j < 16 → F j = cc_r (cc_in K n) 10 j + cc_in K n j) ho hq hqo hqo2 hnk hK ?_ 16 0 F0 B0 rfl (fun j hj => absurd hj (by omega)) (fun j hj => absurd hj (by omega))
  · rw [on_up_self hB0, on_up_self hF0] at z
    exact on_relv (l := [(0, .ref o), (1, .ref q), (2, .int (nI n)), (3, .ref (on_sa G 11)), (4, .int (nI 0))]) ⟨rfl, rfl, rfl, rfl, rfl, trivial⟩ z
  intro F B hF hB
  refine on_iconst (pc' := 122) (v := 0) rfl rfl li_0 ?_
  refine on_istore (pc' := 124) rfl rfl (by decide) ?_
  have ho1 : on_up h (o + 28) (on_ai 0 16 B) o = some (.inr (17, mo_f o x3.1 x3.2.1 x3.2.2)) := (on_up_ne (by omega)).trans ho
  refine on_relv (l := [(0, .ref o), (4, .int (nI 0))]) ⟨rfl, rfl, trivial⟩ (sb_3 (f := F) ho1 ?_ 10 0 rfl)
  refine on_iconst (pc' := 222) (v := 0) rfl rfl li_0 ?_
  refine on_istore (pc' := 224) rfl rfl (by decide) ?_
  refine on_relv (l := [(0, .ref o), (4, .int (nI 0))]) ⟨rfl, rfl, trivial⟩ (sb_4 (g := cc_r F 10) (B := B) ho1 (on_up_eq _ _ _) (fun F2 hF2 => ?_) 16 0 _ rfl (fun j hj => by rw [if_neg (by omega)]))
  refine on_vreturn rfl rfl ?_
  exact ⟨rfl, rfl, F2, B, rfl, fun j hj => by rw [hF2 j hj, cc_r_congr hF 10 j hj, hB j hj]⟩
end MSB
