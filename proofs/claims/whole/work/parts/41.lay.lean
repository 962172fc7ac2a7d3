/-- a Lane's cipher at o: its key, how many bytes of the keystream are used -/
def ln_S (o tr : Nat) (K : Nat → Nat) (pos : Nat) (h : on_H) : Prop := ∃ (due inp mix blk : Nat → Int32) (u c : Nat), ln_B o tr due inp mix blk (nI u) h ∧ u ≤ 64 ∧ pos + 64 = 64 * c + u ∧ (∀ i, i < 16 → inp i = cc_in K c i) ∧ (u < 64 → ∀ i, i < 64 → blk i = nI (cc_by (cc_in K (c - 1)) i))
/-- what a Lane doesn't touch when it lays -/
def ln_off (o a : Nat) : Prop := a < o ∨ o + 8 ≤ a ∨ a = o + 1 ∨ a = o + 2 ∨ a = o + 3
/-- k bytes of a cell's payload under the keystream -/
def ln_x (f : Nat → Int32) (K : Nat → Nat) (pos k : Nat) : Nat → Int32 := fun j => if 5 ≤ j ∧ j < 5 + k then f j ^^^ nI (cc_ks K (pos + (j - 5))) else f j
theorem ln_x_0 (f : Nat → Int32) (K : Nat → Nat) (pos : Nat) : ln_x f K pos 0 = f := by
  funext j
  exact if_neg (by omega)
theorem ln_x_at {f : Nat → Int32} {K : Nat → Nat} {pos k : Nat} : ln_x f K pos k (5 + k) = f (5 + k) := if_neg (by omega)
theorem ln_x_s (f : Nat → Int32) (K : Nat → Nat) (pos k : Nat) : upd (ln_x f K pos k) (5 + k) (f (5 + k) ^^^ nI (cc_ks K (pos + k))) = ln_x f K pos (k + 1) := by
  funext j
  unfold upd ln_x
  by_cases h : j = 5 + k
  · rw [if_pos h, if_pos (by omega), h, show 5 + k - 5 = k by omega]
  · rw [if_neg h]
    by_cases h2 : 5 ≤ j ∧ j < 5 + k
    · rw [if_pos h2, if_pos (by omega)]
    · rw [if_neg h2, if_neg (by omega)]
section LAY
variable {G : on_G} {o tr q sz bc bs : Nat} {h : on_H} {Q : Option Value → on_H → Nat → Prop} {K : Nat → Nat} {f : Nat → Int32} {pos : Nat}
set_option maxHeartbeats 4000000 in
/-- one byte, the block being there -/
theorem ln_lay1 {i p : Nat} {due inp mix blk g : Nat → Int32} {u c : Nat} (hB : ln_B o tr due inp mix blk (nI u) h) (hu : u < 64) (hp : p + 64 = 64 * c + u) (hi : ∀ i, i < 16 → inp i = cc_in K c i) (hb : ∀ i, i < 64 → blk i = nI (cc_by (cc_in K (c - 1)) i)) (hq : h q = some (on_ai 0 140 g)) (hqo : q < o ∨ o + 8 ≤ q) (hi2 : i < 140)
    (k : ∀ h2, ln_S o tr K (p + 1) h2 → h2 q = some (on_ai 0 140 (upd g i (g i ^^^ nI (cc_ks K p)))) → (∀ a, a ≠ q → ln_off o a → h2 a = h a) → on_E G M_Lane_lay 2 (on_l [(0, .ref o), (1, .ref q), (2, .int (nI (i + 1)))]) [] h2 sz bc bs Q) :
    on_E G M_Lane_lay 22 (on_l [(0, .ref o), (1, .ref q), (2, .int (nI i))]) [] h sz bc bs Q := by
  obtain ⟨b1, b2, b3, b4, b5⟩ := id hB
  have hk : u < 64 ∧ 64 < 2 ^ 31 := by omega
  have hi3 : i < 140 ∧ 140 < 2 ^ 31 := by omega
  have ek : blk u = nI (cc_ks K p) := by
    rw [hb u hu]
    unfold cc_ks
    rw [show p / 64 = c - 1 by omega, show p % 64 = u by omega]
  first | refine on_aload_n (pc' := 23) rfl rfl rfl rfl ?_ | refine on_aload_nQ (pc' := 23) rfl rfl rfl rfl ?_
  refine on_iload_n (pc' := 24) rfl rfl rfl rfl ?_
  first | refine on_dup2_11 (pc' := 25) rfl rfl rfl rfl ?_ | refine on_dup2_2 (pc' := 25) rfl rfl rfl ?_
  apply on_ialoadK (pc' := 26) (t := 0) rfl rfl
  · repeat (first | assumption | exact on_up_eq _ _ _ | refine (on_up_ne (by omega)).trans ?_)
  · rfl
  · first | assumption | exact on_lit _ | rfl
  · first | assumption | omega | decide
  first | refine on_aload_n (pc' := 27) rfl rfl rfl rfl ?_ | refine on_aload_nQ (pc' := 27) rfl rfl rfl rfl ?_
  apply on_get (pc' := 30) rfl rfl fl_Lane_28
  · repeat (first | assumption | exact on_up_eq _ _ _ | refine (on_up_ne (by omega)).trans ?_)
  · rfl
  first | refine on_aload_n (pc' := 31) rfl rfl rfl rfl ?_ | refine on_aload_nQ (pc' := 31) rfl rfl rfl rfl ?_
  apply on_get (pc' := 34) rfl rfl fl_Lane_51
  · repeat (first | assumption | exact on_up_eq _ _ _ | refine (on_up_ne (by omega)).trans ?_)
  · rfl
  apply on_ialoadK (pc' := 35) (t := 0) rfl rfl
  · repeat (first | assumption | exact on_up_eq _ _ _ | refine (on_up_ne (by omega)).trans ?_)
  · rfl
  · first | assumption | exact on_lit _ | rfl
  · first | assumption | omega | decide
  refine on_ixor (pc' := 36) rfl rfl ?_
  rw [ek]
  apply on_iastoreK (pc' := 37) (t := 0) rfl rfl
  · repeat (first | assumption | exact on_up_eq _ _ _ | refine (on_up_ne (by omega)).trans ?_)
  · rfl
  · first | assumption | exact on_lit _ | rfl
  · first | assumption | omega | decide
  first | refine on_aload_n (pc' := 38) rfl rfl rfl rfl ?_ | refine on_aload_nQ (pc' := 38) rfl rfl rfl rfl ?_
  refine on_dup (pc' := 39) rfl rfl rfl ?_
  apply on_get (pc' := 42) rfl rfl fl_Lane_51
  · repeat (first | assumption | exact on_up_eq _ _ _ | refine (on_up_ne (by omega)).trans ?_)
  · rfl
  refine on_iconst (pc' := 43) (v := 1) rfl rfl li_1 ?_
  refine on_iadd (pc' := 44) rfl rfl ?_
  apply on_put (pc' := 47) rfl rfl fp_Lane_51
  · repeat (first | assumption | exact on_up_eq _ _ _ | refine (on_up_ne (by omega)).trans ?_)
  · first | rfl | assumption
  · first | rfl | assumption
  · exact Nat.le_of_ble_eq_true rfl
  refine on_iinc1 (pc' := 50) rfl rfl rfl ?_
  refine on_goto (tgt := 2) rfl rfl ?_
  refine on_relv (l := [(0, .ref o), (1, .ref q), (2, .int (nI (i + 1)))]) ⟨rfl, rfl, congrArg some (congrArg Value.int (nI_1 i)), trivial⟩ ?_
  refine k _ ⟨due, inp, mix, blk, u + 1, c, ⟨?_, ?_, ?_, ?_, ?_⟩, by omega, by omega, hi, fun _ => hb⟩ ?_ (fun a h1 h3 => ?_)
  · rw [on_up_eq, nI_1]; rfl
  · repeat (first | assumption | exact on_up_eq _ _ _ | refine (on_up_ne (by omega)).trans ?_)
  · repeat (first | assumption | exact on_up_eq _ _ _ | refine (on_up_ne (by omega)).trans ?_)
  · repeat (first | assumption | exact on_up_eq _ _ _ | refine (on_up_ne (by omega)).trans ?_)
  · repeat (first | assumption | exact on_up_eq _ _ _ | refine (on_up_ne (by omega)).trans ?_)
  · repeat (first | assumption | exact on_up_eq _ _ _ | refine (on_up_ne (by omega)).trans ?_)
  · unfold ln_off at h3
    rw [on_up_ne (by omega), on_up_ne h1]
set_option maxHeartbeats 4000000 in
theorem ln_lay_l (hqo : q < o ∨ o + 8 ≤ q) (k : ∀ h2, ln_S o tr K (pos + 135) h2 → h2 q = some (on_ai 0 140 (ln_x f K pos 135)) → (∀ a, a ≠ q → ln_off o a → h2 a = h a) → on_E G M_Lane_lay 53 (on_l []) [] h2 sz bc bs Q) :
    ∀ (m j : Nat) (h1 : on_H), j + m = 135 → ln_S o tr K (pos + j) h1 → h1 q = some (on_ai 0 140 (ln_x f K pos j)) → (∀ a, a ≠ q → ln_off o a → h1 a = h a) → on_E G M_Lane_lay 2 (on_l [(0, .ref o), (1, .ref q), (2, .int (nI (5 + j)))]) [] h1 sz bc bs Q := by
  intro m
  induction m with
  | zero =>
    intro j h1 hj hS hq hs
    rw [show j = 135 by omega] at hS hq ⊢
    refine on_iload_n (pc' := 3) rfl rfl rfl rfl ?_
    refine on_sipush (pc' := 6) (v := 140) rfl rfl ls_140 ?_
    refine on_icmp_ge (pc' := 9) (tgt := 53) rfl rfl rfl (fun cq => ?_) (fun cq => ?_)
    · exact on_relv (l := []) trivial (k h1 hS hq hs)
    · exact absurd (nI_le (a := 140) (b := 5 + 135) (by omega) (by omega)) cq
  | succ m ih =>
    intro j h1 hj hS hq hs
    obtain ⟨due, inp, mix, blk, u, c, hB, hu, hp, hi, hb⟩ := id hS
    obtain ⟨b1, b2, b3, b4, b5⟩ := id hB
    have fin : ∀ h3, ln_S o tr K (pos + j + 1) h3 → h3 q = some (on_ai 0 140 (upd (ln_x f K pos j) (5 + j) (ln_x f K pos j (5 + j) ^^^ nI (cc_ks K (pos + j))))) → (∀ a, a ≠ q → ln_off o a → h3 a = h a) → on_E G M_Lane_lay 2 (on_l [(0, .ref o), (1, .ref q), (2, .int (nI (5 + j + 1)))]) [] h3 sz bc bs Q := by
      intro h3 hS3 hq3 hs3
      rw [ln_x_at, ln_x_s] at hq3
      exact ih (j + 1) h3 (by omega) hS3 hq3 hs3
    refine on_iload_n (pc' := 3) rfl rfl rfl rfl ?_
    refine on_sipush (pc' := 6) (v := 140) rfl rfl ls_140 ?_
    refine on_icmp_ge (pc' := 9) (tgt := 53) rfl rfl rfl (fun cq => ?_) (fun cq => ?_)
    · exact absurd cq (nI_ge (b := 140) (by omega) (by omega))
    · first | refine on_aload_n (pc' := 10) rfl rfl rfl rfl ?_ | refine on_aload_nQ (pc' := 10) rfl rfl rfl rfl ?_
      apply on_get (pc' := 13) rfl rfl fl_Lane_51
      · repeat (first | assumption | exact on_up_eq _ _ _ | refine (on_up_ne (by omega)).trans ?_)
      · rfl
      refine on_bipush (pc' := 15) (v := 64) rfl rfl lb_64 ?_
      refine on_icmp_lt (pc' := 18) (tgt := 22) rfl rfl rfl (fun cq => ?_) (fun cq => ?_)
      · have hu2 : u < 64 := by
          rcases Nat.lt_or_ge u 64 with z | z
          · exact z
          · exact absurd cq (nI_nlt (b := 64) z (by omega))
        exact ln_lay1 hB hu2 hp hi (hb hu2) hq hqo (by omega) (fun h3 hS3 hq3 hs3 => fin h3 hS3 hq3 (fun a g1 g2 => (hs3 a g1 g2).trans (hs a g1 g2)))
      · have hu2 : u = 64 := by
          rcases Nat.lt_or_ge u 64 with z | z
          · exact absurd (nI_lt (b := 64) z (by omega)) cq
          · omega
        first | refine on_aload_n (pc' := 19) rfl rfl rfl rfl ?_ | refine on_aload_nQ (pc' := 19) rfl rfl rfl rfl ?_
        refine on_callV (pc' := 22) (As := []) (rest := []) (b := o) rfl rfl cw_Lane_lay_81 b1 rfl rfl (by decide) (Nat.zero_le _) (Nat.zero_le _) (c_Lane_nextBlock hB) ?_
        rintro r2 h2 z ⟨rfl, rfl, ⟨mix2, hB2⟩, hs2⟩
        refine ln_lay1 (u := 0) (c := c + 1) hB2 (by omega) (by omega) (cc_in_s K c hi) (fun i hi3 => ?_) ((hs2 q (by omega)).trans hq) hqo (by omega) (fun h3 hS3 hq3 hs3 => fin h3 hS3 hq3 (fun a g1 g2 => (hs3 a g1 g2).trans ((hs2 a g2).trans (hs a g1 g2))))
        rw [on_tk_lt hi3, Nat.add_sub_cancel, cc_by_congr hi hi3]
/-- Lane.lay: a cell's payload under 135 bytes of the keystream -/
theorem c_Lane_lay (hS : ln_S o tr K pos h) (hq : h q = some (on_ai 0 140 f)) (hqo : q < o ∨ o + 8 ≤ q) :
    on_Ct G M_Lane_lay [.ref o, .ref q] h sz 0 0 (fun r h2 z => r = none ∧ z = sz ∧ ln_S o tr K (pos + 135) h2 ∧ h2 q = some (on_ai 0 140 (ln_x f K pos 135)) ∧ ∀ a, a ≠ q → ln_off o a → h2 a = h a) := by
  refine on_Ct.of (by decide) v_Lane_lay (Nat.le_of_ble_eq_true rfl) ?_
  refine on_iconst (pc' := 1) (v := 5) rfl rfl li_5 ?_
  refine on_istore_n (pc' := 2) rfl rfl rfl (by decide) ?_
  refine on_relv (l := [(0, .ref o), (1, .ref q), (2, .int (nI (5 + 0)))]) ⟨rfl, rfl, rfl, trivial⟩ (ln_lay_l (h := h) hqo (fun h2 k1 k2 k3 => ?_) 135 0 h rfl hS (by rw [ln_x_0]; exact hq) (fun _ _ _ => rfl))
  refine on_vreturn rfl rfl ?_
  exact ⟨rfl, rfl, k1, k2, k3⟩
end LAY
