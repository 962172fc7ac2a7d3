/-! Link: a ring of eight cells -/
abbrev b0 : aB := fun _ => 0
def lk_S (o : Nat) (l : List aB) (h : on_H) : Prop := ∃ (f : Nat) (X : Nat → Int32), h o = some (.inr (5, [.ref (o + 1), .int (nI f), .int (nI l.length)])) ∧ h (o + 1) = some (on_ai 0 1120 X) ∧ f < 8 ∧ l.length ≤ 8 ∧ ∀ k, k < l.length → ∀ i, i < 140 → X ((f + k) % 8 * 140 + i) = nI ((l.getD k b0) i) ∧ (l.getD k b0) i < 256
theorem lk_S.keep {o : Nat} {l : List aB} {h h2 : on_H} (k : lk_S o l h) (e1 : h2 o = h o) (e2 : h2 (o + 1) = h (o + 1)) : lk_S o l h2 := by
  obtain ⟨f, X, k1, k2, k3⟩ := k
  exact ⟨f, X, e1.trans k1, e2.trans k2, k3⟩
section LNK
variable {G : on_G} {o q sz : Nat} {l : List aB} {x : aB} {h : on_H}
set_option maxHeartbeats 4000000 in
theorem c_Link_add (K : lk_S o l h) (hq : rB h q 140 x) (hqo : q ≠ o ∧ q ≠ o + 1) :
    on_Ct G M_Link_add [.ref o, .ref q] h sz 0 0 (fun v h1 z => v = none ∧ z = sz ∧ lk_S o (l_ad l x) h1 ∧ ∀ b, b ≠ o → b ≠ o + 1 → h1 b = h b) := by
  obtain ⟨f, X, o0, c0, hf, hl, hX⟩ := id K
  obtain ⟨Y, q1, Y'⟩ := hq
  refine on_Ct.of (by decide) v_Link_add (Nat.le_of_ble_eq_true rfl) ?_
  first | refine on_aload_n (pc' := 1) rfl rfl rfl rfl ?_ | refine on_aload_nQ (pc' := 1) rfl rfl rfl rfl ?_
  first | apply on_get (pc' := 4) rfl rfl fl_Link_15 | apply on_getN (pc' := 4) rfl rfl fl_Link_15
  · repeat (first | assumption | exact on_up_eq _ _ _ | refine (on_up_ne (by omega)).trans ?_)
  · rfl
  refine on_bipush (pc' := 6) (v := 8) rfl rfl lb_8 ?_
  refine on_icmp_ge (pc' := 9) (tgt := 47) rfl rfl rfl (fun cq => ?_) (fun cq => ?_)
  · have l8 : ¬ l.length < 8 := fun z => absurd cq (nI_ge (b := 8) z (by decide))
    refine on_vreturn rfl rfl ?_
    unfold l_ad
    rw [if_neg l8]
    exact ⟨rfl, rfl, K, fun _ _ _ => rfl⟩
  · have l8 : l.length < 8 := by
      rcases Nat.lt_or_ge l.length 8 with z | z
      · exact z
      · exact absurd (nI_le (a := 8) z (by omega)) cq
    have b2 : (f + l.length) % 8 * 140 + 140 ≤ 1120 ∧ 1120 < 2 ^ 31 := by omega
    first | refine on_aload_n (pc' := 10) rfl rfl rfl rfl ?_ | refine on_aload_nQ (pc' := 10) rfl rfl rfl rfl ?_
    refine on_iconst (pc' := 11) (v := 0) rfl rfl li_0 ?_
    first | refine on_aload_n (pc' := 12) rfl rfl rfl rfl ?_ | refine on_aload_nQ (pc' := 12) rfl rfl rfl rfl ?_
    first | apply on_get (pc' := 15) rfl rfl fl_Link_11 | apply on_getN (pc' := 15) rfl rfl fl_Link_11
    · repeat (first | assumption | exact on_up_eq _ _ _ | refine (on_up_ne (by omega)).trans ?_)
    · rfl
    first | refine on_aload_n (pc' := 16) rfl rfl rfl rfl ?_ | refine on_aload_nQ (pc' := 16) rfl rfl rfl rfl ?_
    first | apply on_get (pc' := 19) rfl rfl fl_Link_19 | apply on_getN (pc' := 19) rfl rfl fl_Link_19
    · repeat (first | assumption | exact on_up_eq _ _ _ | refine (on_up_ne (by omega)).trans ?_)
    · rfl
    first | refine on_aload_n (pc' := 20) rfl rfl rfl rfl ?_ | refine on_aload_nQ (pc' := 20) rfl rfl rfl rfl ?_
    first | apply on_get (pc' := 23) rfl rfl fl_Link_15 | apply on_getN (pc' := 23) rfl rfl fl_Link_15
    · repeat (first | assumption | exact on_up_eq _ _ _ | refine (on_up_ne (by omega)).trans ?_)
    · rfl
    refine on_iadd (pc' := 24) rfl rfl ?_
    rw [nI_add]
    refine on_bipush (pc' := 26) (v := 8) rfl rfl lb_8 ?_
    refine on_irem (pc' := 27) rfl rfl (by first | assumption | decide) ?_
    rw [show i_rem (nI (f + l.length)) 8 = nI ((f + l.length) % 8) from pk_rem (d := 8) (by omega) (by decide) (by decide)]
    refine on_sipush (pc' := 30) (v := 140) rfl rfl ls_140 ?_
    refine on_imul (pc' := 31) rfl rfl ?_
    rw [show nI ((f + l.length) % 8) * 140 = nI ((f + l.length) % 8 * 140) from pk_mul _ _]
    refine on_sipush (pc' := 34) (v := 140) rfl rfl ls_140 ?_
    apply on_acopy (pc' := 37) (k0 := 140) rfl rfl jm_Link_22 (Nat.le_of_ble_eq_true rfl) (Nat.le_of_ble_eq_true rfl)
    · repeat (first | assumption | exact on_up_eq _ _ _ | refine (on_up_ne (by omega)).trans ?_)
    · repeat (first | assumption | exact on_up_eq _ _ _ | refine (on_up_ne (by omega)).trans ?_)
    · first | assumption | exact on_lit _ | rfl
    · first | assumption | exact on_lit _ | rfl
    · first | assumption | exact on_lit _ | rfl
    · first | assumption | omega | decide
    · first | assumption | omega | decide
    first | refine on_aload_n (pc' := 38) rfl rfl rfl rfl ?_ | refine on_aload_nQ (pc' := 38) rfl rfl rfl rfl ?_
    refine on_dup (pc' := 39) rfl rfl rfl ?_
    first | apply on_get (pc' := 42) rfl rfl fl_Link_15 | apply on_getN (pc' := 42) rfl rfl fl_Link_15
    · repeat (first | assumption | exact on_up_eq _ _ _ | refine (on_up_ne (by omega)).trans ?_)
    · rfl
    refine on_iconst (pc' := 43) (v := 1) rfl rfl li_1 ?_
    refine on_iadd (pc' := 44) rfl rfl ?_
    rw [show nI l.length + 1 = nI (l.length + 1) from nI_1 _]
    first | apply on_put (pc' := 47) rfl rfl fp_Link_15 | apply on_putN (pc' := 47) rfl rfl fp_Link_15
    · repeat (first | assumption | exact on_up_eq _ _ _ | refine (on_up_ne (by omega)).trans ?_)
    · first | rfl | assumption
    · first | rfl | assumption
    · exact Nat.le_of_ble_eq_true rfl
    refine on_vreturn rfl rfl ?_
    unfold l_ad
    rw [if_pos l8]
    refine ⟨rfl, rfl, ⟨f, va_cpy Y X 0 ((f + l.length) % 8 * 140) 140, ?_, (on_up_ne (by omega)).trans (on_up_eq _ _ _), hf, ?_, fun k hk i hi => ?_⟩, fun b h1 h2 => (on_up_ne h1).trans (on_up_ne h2)⟩
    · rw [on_up_eq, List.length_append]; rfl
    · rw [List.length_append]; exact l8
    · rw [List.length_append] at hk
      have hk : k < l.length + 1 := hk
      rw [getD_snoc]
      by_cases z : k = l.length
      · subst z
        rw [if_neg (Nat.lt_irrefl _), if_pos rfl, pk_cpy_in (show (f + l.length) % 8 * 140 ≤ (f + l.length) % 8 * 140 + i by omega) (show (f + l.length) % 8 * 140 + i < (f + l.length) % 8 * 140 + 140 by omega), show 0 + ((f + l.length) % 8 * 140 + i - (f + l.length) % 8 * 140) = i by omega]
        exact Y' i hi
      · rw [if_pos (by omega), pk_cpy_out (by omega)]
        exact hX k (by omega) i hi
set_option maxHeartbeats 4000000 in
theorem c_Link_takeFirst (K : lk_S o l h) (hq : rW h q 140) (hqo : q ≠ o ∧ q ≠ o + 1) :
    on_Ct G M_Link_takeFirst [.ref o, .ref q] h sz 0 0 (fun v h1 z => z = sz ∧ ((l = [] ∧ v = some (.int 0) ∧ h1 = h) ∨ ∃ x l2, l = x :: l2 ∧ v = some (.int 1) ∧ lk_S o l2 h1 ∧ rB h1 q 140 x ∧ ∀ b, b ≠ o → b ≠ q → h1 b = h b)) := by
  obtain ⟨f, X, o0, c0, hf, hl, hX⟩ := id K
  obtain ⟨Y, q1⟩ := hq
  refine on_Ct.of (by decide) v_Link_takeFirst (Nat.le_of_ble_eq_true rfl) ?_
  match l, hl, hX, o0 with
  | [], hl, hX, o0 =>
    first | refine on_aload_n (pc' := 1) rfl rfl rfl rfl ?_ | refine on_aload_nQ (pc' := 1) rfl rfl rfl rfl ?_
    first | apply on_get (pc' := 4) rfl rfl fl_Link_15 | apply on_getN (pc' := 4) rfl rfl fl_Link_15
    · repeat (first | assumption | exact on_up_eq _ _ _ | refine (on_up_ne (by omega)).trans ?_)
    · rfl
    refine on_if_ne (pc' := 7) (tgt := 9) rfl rfl rfl (fun cq => ?_) (fun cq => ?_)
    · exact absurd rfl cq
    · refine on_iconst (pc' := 8) (v := 0) rfl rfl li_0 ?_
      refine on_zreturn rfl rfl ?_ ?_
      · first | rfl | assumption
      exact ⟨rfl, Or.inl ⟨rfl, rfl, rfl⟩⟩
  | x :: l2, hl, hX, o0 =>
    have hl : l2.length + 1 ≤ 8 := hl
    have o0 : h o = some (.inr (5, [.ref (o + 1), .int (nI f), .int (nI (l2.length + 1))])) := o0
    have b1 : f * 140 + 140 ≤ 1120 ∧ 1120 < 2 ^ 31 := by omega
    first | refine on_aload_n (pc' := 1) rfl rfl rfl rfl ?_ | refine on_aload_nQ (pc' := 1) rfl rfl rfl rfl ?_
    first | apply on_get (pc' := 4) rfl rfl fl_Link_15 | apply on_getN (pc' := 4) rfl rfl fl_Link_15
    · repeat (first | assumption | exact on_up_eq _ _ _ | refine (on_up_ne (by omega)).trans ?_)
    · rfl
    refine on_if_ne (pc' := 7) (tgt := 9) rfl rfl rfl (fun cq => ?_) (fun cq => ?_)
    rotate_left
    · exact absurd cq ((by decide : ∀ n, n < 9 → ¬ (nI (n + 1) = 0)) l2.length (by omega))
    · clear cq
      first | refine on_aload_n (pc' := 10) rfl rfl rfl rfl ?_ | refine on_aload_nQ (pc' := 10) rfl rfl rfl rfl ?_
      first | apply on_get (pc' := 13) rfl rfl fl_Link_11 | apply on_getN (pc' := 13) rfl rfl fl_Link_11
      · repeat (first | assumption | exact on_up_eq _ _ _ | refine (on_up_ne (by omega)).trans ?_)
      · rfl
      first | refine on_aload_n (pc' := 14) rfl rfl rfl rfl ?_ | refine on_aload_nQ (pc' := 14) rfl rfl rfl rfl ?_
      first | apply on_get (pc' := 17) rfl rfl fl_Link_19 | apply on_getN (pc' := 17) rfl rfl fl_Link_19
      · repeat (first | assumption | exact on_up_eq _ _ _ | refine (on_up_ne (by omega)).trans ?_)
      · rfl
      refine on_sipush (pc' := 20) (v := 140) rfl rfl ls_140 ?_
      refine on_imul (pc' := 21) rfl rfl ?_
      rw [show nI f * 140 = nI (f * 140) from pk_mul _ _]
      first | refine on_aload_n (pc' := 22) rfl rfl rfl rfl ?_ | refine on_aload_nQ (pc' := 22) rfl rfl rfl rfl ?_
      refine on_iconst (pc' := 23) (v := 0) rfl rfl li_0 ?_
      refine on_sipush (pc' := 26) (v := 140) rfl rfl ls_140 ?_
      apply on_acopy (pc' := 29) (j0 := 0) (k0 := 140) rfl rfl jm_Link_22 (Nat.le_of_ble_eq_true rfl) (Nat.le_of_ble_eq_true rfl)
      · repeat (first | assumption | exact on_up_eq _ _ _ | refine (on_up_ne (by omega)).trans ?_)
      · repeat (first | assumption | exact on_up_eq _ _ _ | refine (on_up_ne (by omega)).trans ?_)
      · first | assumption | exact on_lit _ | rfl
      · first | assumption | exact on_lit _ | rfl
      · first | assumption | exact on_lit _ | rfl
      · first | assumption | omega | decide
      · first | assumption | omega | decide
      first | refine on_aload_n (pc' := 30) rfl rfl rfl rfl ?_ | refine on_aload_nQ (pc' := 30) rfl rfl rfl rfl ?_
      first | refine on_aload_n (pc' := 31) rfl rfl rfl rfl ?_ | refine on_aload_nQ (pc' := 31) rfl rfl rfl rfl ?_
      first | apply on_get (pc' := 34) rfl rfl fl_Link_19 | apply on_getN (pc' := 34) rfl rfl fl_Link_19
      · repeat (first | assumption | exact on_up_eq _ _ _ | refine (on_up_ne (by omega)).trans ?_)
      · rfl
      refine on_iconst (pc' := 35) (v := 1) rfl rfl li_1 ?_
      refine on_iadd (pc' := 36) rfl rfl ?_
      rw [show nI f + 1 = nI (f + 1) from nI_1 _]
      refine on_bipush (pc' := 38) (v := 8) rfl rfl lb_8 ?_
      refine on_irem (pc' := 39) rfl rfl (by first | assumption | decide) ?_
      rw [show i_rem (nI (f + 1)) 8 = nI ((f + 1) % 8) from pk_rem (d := 8) (by omega) (by decide) (by decide)]
      first | apply on_put (pc' := 42) rfl rfl fp_Link_19 | apply on_putN (pc' := 42) rfl rfl fp_Link_19
      · repeat (first | assumption | exact on_up_eq _ _ _ | refine (on_up_ne (by omega)).trans ?_)
      · first | rfl | assumption
      · first | rfl | assumption
      · exact Nat.le_of_ble_eq_true rfl
      first | refine on_aload_n (pc' := 43) rfl rfl rfl rfl ?_ | refine on_aload_nQ (pc' := 43) rfl rfl rfl rfl ?_
      refine on_dup (pc' := 44) rfl rfl rfl ?_
      first | apply on_get (pc' := 47) rfl rfl fl_Link_15 | apply on_getN (pc' := 47) rfl rfl fl_Link_15
      · repeat (first | assumption | exact on_up_eq _ _ _ | refine (on_up_ne (by omega)).trans ?_)
      · rfl
      refine on_iconst (pc' := 48) (v := 1) rfl rfl li_1 ?_
      refine on_isub (pc' := 49) rfl rfl ?_
      rw [show nI (l2.length + 1) - 1 = nI l2.length from pk_sub (a := l2.length + 1) (b := 1) (by omega)]
      first | apply on_put (pc' := 52) rfl rfl fp_Link_15 | apply on_putN (pc' := 52) rfl rfl fp_Link_15
      · repeat (first | assumption | exact on_up_eq _ _ _ | refine (on_up_ne (by omega)).trans ?_)
      · first | rfl | assumption
      · first | rfl | assumption
      · exact Nat.le_of_ble_eq_true rfl
      refine on_iconst (pc' := 53) (v := 1) rfl rfl li_1 ?_
      refine on_zreturn rfl rfl ?_ ?_
      · first | rfl | assumption
      refine ⟨rfl, Or.inr ⟨x, l2, rfl, rfl, ⟨(f + 1) % 8, X, on_up_eq _ _ _, (on_up_ne (by omega)).trans ((on_up_ne (by omega)).trans ((on_up_ne (by omega)).trans c0)), by omega, by omega, fun k hk i hi => ?_⟩, ⟨_, (on_up_ne (by omega)).trans ((on_up_ne (by omega)).trans (on_up_eq _ _ _)), fun i hi => ?_⟩, fun b h1 h2 => (on_up_ne h1).trans ((on_up_ne h1).trans (on_up_ne h2))⟩⟩
      · have := hX (k + 1) (Nat.succ_lt_succ hk) i hi
        rw [show (f + (k + 1)) % 8 = ((f + 1) % 8 + k) % 8 by omega] at this
        exact this
      · rw [pk_cpy_in (Nat.zero_le i) (show i < 0 + 140 by omega), Nat.sub_zero]
        have := hX 0 (Nat.zero_lt_succ _) i hi
        rw [show (f + 0) % 8 = f by omega] at this
        exact this
set_option maxHeartbeats 4000000 in
theorem c_changeFirst {l2 : List aB} {at_ mask : Nat} (K : lk_S o (x :: l2) h) (hat : at_ < 140) (hm : mask < 256) :
    on_Ct G M_Link_changeFirst [.ref o, .int (nI at_), .int (nI mask)] h sz 0 0 (fun v h1 z => v = none ∧ z = sz ∧ lk_S o ((fun i => if i = at_ then x i ^^^ mask else x i) :: l2) h1 ∧ ∀ b, b ≠ o + 1 → h1 b = h b) := by
  obtain ⟨f, X, o0, c0, hf, hl, hX⟩ := id K
  have i1 : f * 140 + at_ < 1120 ∧ 1120 < 2 ^ 31 := by omega
  refine on_Ct.of (by decide) v_Link_changeFirst (Nat.le_of_ble_eq_true rfl) ?_
  first | refine on_aload_n (pc' := 1) rfl rfl rfl rfl ?_ | refine on_aload_nQ (pc' := 1) rfl rfl rfl rfl ?_
  first | apply on_get (pc' := 4) rfl rfl fl_Link_11 | apply on_getN (pc' := 4) rfl rfl fl_Link_11
  · repeat (first | assumption | exact on_up_eq _ _ _ | refine (on_up_ne (by omega)).trans ?_)
  · rfl
  first | refine on_aload_n (pc' := 5) rfl rfl rfl rfl ?_ | refine on_aload_nQ (pc' := 5) rfl rfl rfl rfl ?_
  first | apply on_get (pc' := 8) rfl rfl fl_Link_19 | apply on_getN (pc' := 8) rfl rfl fl_Link_19
  · repeat (first | assumption | exact on_up_eq _ _ _ | refine (on_up_ne (by omega)).trans ?_)
  · rfl
  refine on_sipush (pc' := 11) (v := 140) rfl rfl ls_140 ?_
  refine on_imul (pc' := 12) rfl rfl ?_
  rw [show nI f * 140 = nI (f * 140) from pk_mul _ _]
  refine on_iload_n (pc' := 13) rfl rfl rfl rfl ?_
  refine on_iadd (pc' := 14) rfl rfl ?_
  rw [nI_add]
  first | refine on_dup2_11 (pc' := 15) rfl rfl rfl rfl ?_ | refine on_dup2_2 (pc' := 15) rfl rfl rfl ?_
  apply on_ialoadK (pc' := 16) (t := 0) rfl rfl
  · repeat (first | assumption | exact on_up_eq _ _ _ | refine (on_up_ne (by omega)).trans ?_)
  · rfl
  · first | assumption | exact on_lit _ | rfl
  · first | assumption | omega | decide
  refine on_iload_n (pc' := 17) rfl rfl rfl rfl ?_
  refine on_ixor (pc' := 18) rfl rfl ?_
  apply on_iastoreK (pc' := 19) (t := 0) rfl rfl
  · repeat (first | assumption | exact on_up_eq _ _ _ | refine (on_up_ne (by omega)).trans ?_)
  · rfl
  · first | assumption | exact on_lit _ | rfl
  · first | assumption | omega | decide
  refine on_vreturn rfl rfl ?_
  refine ⟨rfl, rfl, ⟨f, _, (on_up_ne (by omega)).trans o0, on_up_eq _ _ _, hf, hl, fun k hk i hi => ?_⟩, fun b hb => on_up_ne hb⟩
  have z0 := hX 0 (Nat.zero_lt_succ _) at_ hat
  rw [show (f + 0) % 8 = f by omega] at z0
  have z0 : X (f * 140 + at_) = nI (x at_) ∧ x at_ < 256 := z0
  cases k with
  | zero =>
    show upd X (f * 140 + at_) _ ((f + 0) % 8 * 140 + i) = nI (if i = at_ then x i ^^^ mask else x i) ∧ (if i = at_ then x i ^^^ mask else x i) < 256
    rw [show (f + 0) % 8 = f by omega]
    by_cases z : i = at_
    · subst z
      rw [pk_us, if_pos rfl, z0.1, nI_xor]
      exact ⟨rfl, Nat.xor_lt_two_pow (n := 8) z0.2 hm⟩
    · rw [pk_un (by omega), if_neg z]
      have := hX 0 (Nat.zero_lt_succ _) i hi
      rw [show (f + 0) % 8 = f by omega] at this
      exact this
  | succ k =>
    have hk8 : k + 1 < l2.length + 1 := hk
    have hl8 : l2.length + 1 ≤ 8 := hl
    rw [pk_un (by omega)]
    exact hX (k + 1) hk i hi
end LNK
/-! Stream at its client -/
def sm_S (o : Nat) (t : aT) (h : on_H) : Prop := ∃ (f : Nat) (W : Nat → Int32), h o = some (.inr (10, [.ref (o + 1), .ref (o + 2), .int (nI f), .int (nI t.wa.length), .int (nI t.go.length), .int (nI t.ph), .int t.wi, .int t.ca])) ∧ h (o + 1) = some (on_ai 0 400 W) ∧ f < 400 ∧ t.wa.length ≤ 400 ∧ (∀ k, k < t.wa.length → W ((f + k) % 400) = nI (t.wa.getD k 0) ∧ t.wa.getD k 0 < 256) ∧ kp_S (o + 2) t.go h ∧ t.ph ≤ 2
theorem sm_S.keep {o : Nat} {t : aT} {h h2 : on_H} (k : sm_S o t h) (e : ∀ a, o ≤ a → a < o + 3 → h2 a = h a) : sm_S o t h2 := by
  obtain ⟨f, W, k1, k2, k3, k4, k5, k6, k7⟩ := k
  exact ⟨f, W, (e _ (by omega) (by omega)).trans k1, (e _ (by omega) (by omega)).trans k2, k3, k4, k5, k6.keep (e _ (by omega) (by omega)), k7⟩
/-- a byte waits -/
def t_qu (t : aT) (b : Nat) : aT := (t.ph, t.wi, t.ca, t.wa ++ [b], t.go)
section STM
variable {G : on_G} {o q sz bc bs : Nat} {t : aT} {h : on_H} {Q : Option Value → on_H → Nat → Prop}
set_option maxHeartbeats 4000000 in
theorem c_queue {b : Nat} (K : sm_S o t h) (hb : b < 256) :
    on_Ct G M_Stream_queue [.ref o, .int (nI b)] h sz 0 0 (fun v h1 z => z = sz ∧ ((¬ t.ph = 2 ∧ t.wa.length < 400 ∧ v = some (.int 1) ∧ sm_S o (t_qu t b) h1 ∧ ∀ c, c ≠ o → c ≠ o + 1 → h1 c = h c) ∨ (¬ (¬ t.ph = 2 ∧ t.wa.length < 400) ∧ v = some (.int 0) ∧ h1 = h))) := by
  obtain ⟨f, W, o0, w0, hf, hl, hW, kp, ph⟩ := id K
  have no : ¬ (¬ t.ph = 2 ∧ t.wa.length < 400) → on_E G M_Stream_queue 18 (on_l []) [] h sz 0 0 (fun v h1 z => z = sz ∧ ((¬ t.ph = 2 ∧ t.wa.length < 400 ∧ v = some (.int 1) ∧ sm_S o (t_qu t b) h1 ∧ ∀ c, c ≠ o → c ≠ o + 1 → h1 c = h c) ∨ (¬ (¬ t.ph = 2 ∧ t.wa.length < 400) ∧ v = some (.int 0) ∧ h1 = h))) := fun hn => by
    refine on_iconst (pc' := 19) (v := 0) rfl rfl li_0 ?_
    refine on_zreturn rfl rfl ?_ ?_
    · first | rfl | assumption
    exact ⟨rfl, Or.inr ⟨hn, rfl, rfl⟩⟩
  refine on_Ct.of (by decide) v_Stream_queue (Nat.le_of_ble_eq_true rfl) ?_
  first | refine on_aload_n (pc' := 1) rfl rfl rfl rfl ?_ | refine on_aload_nQ (pc' := 1) rfl rfl rfl rfl ?_
  first | apply on_get (pc' := 4) rfl rfl fl_Stream_18 | apply on_getN (pc' := 4) rfl rfl fl_Stream_18
  · repeat (first | assumption | exact on_up_eq _ _ _ | refine (on_up_ne (by omega)).trans ?_)
  · rfl
  refine on_iconst (pc' := 5) (v := 2) rfl rfl li_2 ?_
  refine on_icmp_eq (pc' := 8) (tgt := 18) rfl rfl rfl (fun cq => ?_) (fun cq => ?_)
  · exact on_relv (l := []) trivial (no (fun z => z.1 ((nI_eq (a := t.ph) (b := 2) (by omega) (by decide)).mp cq)))
  · have p2 : ¬ t.ph = 2 := fun z => cq (by rw [z]; rfl)
    clear cq
    first | refine on_aload_n (pc' := 9) rfl rfl rfl rfl ?_ | refine on_aload_nQ (pc' := 9) rfl rfl rfl rfl ?_
    first | apply on_get (pc' := 12) rfl rfl fl_Stream_37 | apply on_getN (pc' := 12) rfl rfl fl_Stream_37
    · repeat (first | assumption | exact on_up_eq _ _ _ | refine (on_up_ne (by omega)).trans ?_)
    · rfl
    refine on_sipush (pc' := 15) (v := 400) rfl rfl ls_400 ?_
    refine on_icmp_lt (pc' := 18) (tgt := 20) rfl rfl rfl (fun cq => ?_) (fun cq => ?_)
    rotate_left
    · exact on_relv (l := []) trivial (no (fun z => cq (nI_lt (b := 400) z.2 (by decide))))
    · have l4 : t.wa.length < 400 := by
        rcases Nat.lt_or_ge t.wa.length 400 with z | z
        · exact z
        · exact absurd cq (nI_nlt (a := t.wa.length) (b := 400) z (by omega))
      clear cq
      have i4 : (f + t.wa.length) % 400 < 400 ∧ 400 < 2 ^ 31 := by omega
      first | refine on_aload_n (pc' := 21) rfl rfl rfl rfl ?_ | refine on_aload_nQ (pc' := 21) rfl rfl rfl rfl ?_
      first | apply on_get (pc' := 24) rfl rfl fl_Stream_9 | apply on_getN (pc' := 24) rfl rfl fl_Stream_9
      · repeat (first | assumption | exact on_up_eq _ _ _ | refine (on_up_ne (by omega)).trans ?_)
      · rfl
      first | refine on_aload_n (pc' := 25) rfl rfl rfl rfl ?_ | refine on_aload_nQ (pc' := 25) rfl rfl rfl rfl ?_
      first | apply on_get (pc' := 28) rfl rfl fl_Stream_40 | apply on_getN (pc' := 28) rfl rfl fl_Stream_40
      · repeat (first | assumption | exact on_up_eq _ _ _ | refine (on_up_ne (by omega)).trans ?_)
      · rfl
      first | refine on_aload_n (pc' := 29) rfl rfl rfl rfl ?_ | refine on_aload_nQ (pc' := 29) rfl rfl rfl rfl ?_
      first | apply on_get (pc' := 32) rfl rfl fl_Stream_37 | apply on_getN (pc' := 32) rfl rfl fl_Stream_37
      · repeat (first | assumption | exact on_up_eq _ _ _ | refine (on_up_ne (by omega)).trans ?_)
      · rfl
      refine on_iadd (pc' := 33) rfl rfl ?_
      rw [nI_add]
      refine on_sipush (pc' := 36) (v := 400) rfl rfl ls_400 ?_
      refine on_irem (pc' := 37) rfl rfl (by first | assumption | decide) ?_
      rw [show i_rem (nI (f + t.wa.length)) 400 = nI ((f + t.wa.length) % 400) from pk_rem (d := 400) (by omega) (by decide) (by decide)]
      refine on_iload_n (pc' := 38) rfl rfl rfl rfl ?_
      apply on_iastoreK (pc' := 39) (t := 0) rfl rfl
      · repeat (first | assumption | exact on_up_eq _ _ _ | refine (on_up_ne (by omega)).trans ?_)
      · rfl
      · first | assumption | exact on_lit _ | rfl
      · first | assumption | omega | decide
      first | refine on_aload_n (pc' := 40) rfl rfl rfl rfl ?_ | refine on_aload_nQ (pc' := 40) rfl rfl rfl rfl ?_
      refine on_dup (pc' := 41) rfl rfl rfl ?_
      first | apply on_get (pc' := 44) rfl rfl fl_Stream_37 | apply on_getN (pc' := 44) rfl rfl fl_Stream_37
      · repeat (first | assumption | exact on_up_eq _ _ _ | refine (on_up_ne (by omega)).trans ?_)
      · rfl
      refine on_iconst (pc' := 45) (v := 1) rfl rfl li_1 ?_
      refine on_iadd (pc' := 46) rfl rfl ?_
      rw [show nI t.wa.length + 1 = nI (t.wa.length + 1) from nI_1 _]
      first | apply on_put (pc' := 49) rfl rfl fp_Stream_37 | apply on_putN (pc' := 49) rfl rfl fp_Stream_37
      · repeat (first | assumption | exact on_up_eq _ _ _ | refine (on_up_ne (by omega)).trans ?_)
      · first | rfl | assumption
      · first | rfl | assumption
      · exact Nat.le_of_ble_eq_true rfl
      refine on_iconst (pc' := 50) (v := 1) rfl rfl li_1 ?_
      refine on_zreturn rfl rfl ?_ ?_
      · first | rfl | assumption
      refine ⟨rfl, Or.inl ⟨p2, l4, rfl, ⟨f, upd W ((f + t.wa.length) % 400) (nI b), ?_, (on_up_ne (by omega)).trans (on_up_eq _ _ _), hf, ?_, fun k hk => ?_, kp.keep ((on_up_ne (by omega)).trans (on_up_ne (by omega))), ph⟩, fun c h1 h2 => (on_up_ne h1).trans (on_up_ne h2)⟩⟩
      · rw [on_up_eq, show (t_qu t b).wa.length = t.wa.length + 1 from List.length_append]
        rfl
      · show (t.wa ++ [b]).length ≤ 400
        rw [List.length_append]; exact l4
      · have hk : k < (t.wa ++ [b]).length := hk
        show upd W ((f + t.wa.length) % 400) (nI b) ((f + k) % 400) = nI ((t.wa ++ [b]).getD k 0) ∧ (t.wa ++ [b]).getD k 0 < 256
        rw [List.length_append] at hk
        have hk : k < t.wa.length + 1 := hk
        rw [getD_snoc]
        by_cases z : k = t.wa.length
        · subst z
          rw [if_neg (Nat.lt_irrefl _), if_pos rfl, pk_us]
          exact ⟨rfl, hb⟩
        · rw [if_pos (by omega), pk_un (by omega)]
          exact hW k (by omega)
end STM
