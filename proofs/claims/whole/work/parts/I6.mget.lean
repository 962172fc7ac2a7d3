/-! the reference's calls that only read -/
def q_li (a : aN) (x y : Int32) : Bool := match q_lk a x y with | none => false | some j => decide (0 < (a.lk j).length)
section MGT
variable {G : on_G} {o sz B nc : Nat} {RA CA : Nat → Nat} {a : aN} {h : on_H} {x y w i k : Int32}
theorem c_M_isCircuit {b d : Int32} (ho : h o = some (.inr (17, mo_f o b d (nI nc)))) : on_Ct G M_M_isCircuit [.ref o, .int x] h sz 0 0 (fun v h1 z => v = some (.int (bI (p_i nc x).isSome)) ∧ z = sz ∧ h1 = h) := by
  refine on_Ct.of (by decide) v_M_isCircuit (Nat.le_of_ble_eq_true rfl) ?_
  refine on_iload_n (pc' := 1) rfl rfl rfl rfl ?_
  refine on_if_lt (pc' := 4) (tgt := 16) rfl rfl rfl (fun cq => ?_) (fun cq => ?_)
  · refine on_iconst (pc' := 17) (v := 0) rfl rfl li_0 ?_
    refine on_zreturn rfl rfl ?_ ?_
    · first | rfl | assumption
    rw [show p_i nc x = none from if_neg (fun z => z.1 cq)]
    exact ⟨rfl, rfl, rfl⟩
  · have x0 := cq
    clear cq
    refine on_iload_n (pc' := 5) rfl rfl rfl rfl ?_
    first | refine on_aload_n (pc' := 6) rfl rfl rfl rfl ?_ | refine on_aload_nQ (pc' := 6) rfl rfl rfl rfl ?_
    first | apply on_get (pc' := 9) rfl rfl fl_M_459 | apply on_getN (pc' := 9) rfl rfl fl_M_459
    · repeat (first | assumption | exact on_up_eq _ _ _ | refine (on_up_ne (by omega)).trans ?_)
    · rfl
    refine on_icmp_ge (pc' := 12) (tgt := 16) rfl rfl rfl (fun cq => ?_) (fun cq => ?_)
    · refine on_iconst (pc' := 17) (v := 0) rfl rfl li_0 ?_
      refine on_zreturn rfl rfl ?_ ?_
      · first | rfl | assumption
      rw [show p_i nc x = none from if_neg (fun z => Int32.not_le.mpr z.2 cq)]
      exact ⟨rfl, rfl, rfl⟩
    · refine on_iconst (pc' := 13) (v := 1) rfl rfl li_1 ?_
      refine on_goto (tgt := 17) rfl rfl ?_
      refine on_zreturn rfl rfl ?_ ?_
      · first | rfl | assumption
      rw [show p_i nc x = some x.toNatClampNeg from if_pos ⟨x0, Int32.not_le.mp cq⟩]
      exact ⟨rfl, rfl, rfl⟩
theorem mX.cob {j : Nat} (X : mX o sz RA CA a h) (hj : j < a.nc) : h (CA j) = some (.inr (16, [.int (nI (8 + (a.c j).cl)), .int (nI (a.c j).nu), .ref (CA j + 1), .int (nI (a.c j).pa.length), .int (nI (a.c j).hp), .int (nI (a.c j).ph), .ref (CA j + 2), .ref (CA j + 3), .int (nI (a.c j).st.length), .ref (CA j + 4), .ref (CA j + 5), .ref (CA j + 6), .ref (CA j + 7), .ref (CA j + 8), .ref (CA j + 9), .ref (CA j + 10)])) := (X.2.2.2.2.2 j hj).1.1
theorem mX.len (X : mX o sz RA CA a h) : ∀ i, i < a.nc → (a.c i).st.length ≤ 4 := fun i hi => by
  obtain ⟨IS, WI, CA, WT, WC, GT, GC, -, T⟩ := (X.2.2.2.2.2 i hi).1.2.2.2.2
  exact T.1
set_option maxHeartbeats 4000000 in
theorem c_M_isStream (X : mX o sz RA CA a h) (V : n_V B a) : on_Ct G M_M_isStream [.ref o, .int x, .int y] h sz 0 0 (fun v h1 z => v = some (.int (bI (q_st a x y).isSome)) ∧ z = sz ∧ h1 = h) := by
  have o1 := X.1.ob.1
  have x5 := X.2.2.1.2.2.2.2
  have v6 := V.1.2.2
  have no : ∀ lv, q_st a x y = none → on_E G M_M_isStream 30 lv [] h sz 0 0 (fun v h1 z => v = some (.int (bI (q_st a x y).isSome)) ∧ z = sz ∧ h1 = h) := fun lv e => by
    refine on_iconst (pc' := 31) (v := 0) rfl rfl li_0 ?_
    refine on_zreturn rfl rfl ?_ ?_
    · first | rfl | assumption
    rw [e]
    exact ⟨rfl, rfl, rfl⟩
  refine on_Ct.of (by decide) v_M_isStream (Nat.le_of_ble_eq_true rfl) ?_
  first | refine on_aload_n (pc' := 1) rfl rfl rfl rfl ?_ | refine on_aload_nQ (pc' := 1) rfl rfl rfl rfl ?_
  refine on_iload_n (pc' := 2) rfl rfl rfl rfl ?_
  refine on_callV (pc' := 5) (As := [.int x]) (rest := []) (b := o) rfl rfl cw_M_isStream_520 (o1) rfl rfl (Nat.le_of_ble_eq_true rfl) (Nat.zero_le _) (Nat.zero_le _) (c_M_isCircuit o1) ?_
  rintro v h sz ⟨rfl, rfl, rfl⟩
  cases e : p_i a.nc x with
  | none =>
    show on_E G M_M_isStream 5 _ [.int 0] h sz _ _ _
    refine on_if_eq (pc' := 8) (tgt := 30) rfl rfl rfl (fun cq => ?_) (fun cq => ?_)
    · exact no _ (by unfold q_st; rw [e]; rfl)
    · exact absurd rfl cq
  | some j =>
    obtain ⟨hj, ej⟩ := p_i_some (by omega) e
    have i1 : j < 6 ∧ 6 < 2 ^ 31 := by omega
    have c0 := X.cob hj
    have es : q_st a x y = (p_s (a.c j).st.length y).map (fun s => (j, s)) := by
      unfold q_st
      rw [e]
      rfl
    subst ej
    show on_E G M_M_isStream 5 _ [.int 1] h sz _ _ _
    refine on_if_eq (pc' := 8) (tgt := 30) rfl rfl rfl (fun cq => ?_) (fun cq => ?_)
    · exact absurd cq (by decide)
    clear cq
    refine on_iload_n (pc' := 9) rfl rfl rfl rfl ?_
    refine on_iconst (pc' := 10) (v := 1) rfl rfl li_1 ?_
    refine on_icmp_lt (pc' := 13) (tgt := 30) rfl rfl rfl (fun cq => ?_) (fun cq => ?_)
    · refine no _ ?_
      rw [es, show p_s (a.c j).st.length y = none from if_neg (fun z => z.1 cq)]
      rfl
    have y1 := cq
    clear cq
    refine on_iload_n (pc' := 14) rfl rfl rfl rfl ?_
    first | refine on_aload_n (pc' := 15) rfl rfl rfl rfl ?_ | refine on_aload_nQ (pc' := 15) rfl rfl rfl rfl ?_
    first | apply on_get (pc' := 18) rfl rfl fl_M_28 | apply on_getN (pc' := 18) rfl rfl fl_M_28
    · repeat (first | assumption | exact on_up_eq _ _ _ | refine (on_up_ne (by omega)).trans ?_)
    · rfl
    refine on_iload_n (pc' := 19) rfl rfl rfl rfl ?_
    apply on_aaloadK (pc' := 20) rfl rfl
    · repeat (first | assumption | exact on_up_eq _ _ _ | refine (on_up_ne (by omega)).trans ?_)
    · rfl
    · first | assumption | exact on_lit _ | rfl
    · first | assumption | omega | decide
    rw [rf_at hj]
    show on_E G M_M_isStream 20 _ [.ref (CA j), .int y] h sz _ _ _
    first | apply on_get (pc' := 23) rfl rfl fl_M_492 | apply on_getN (pc' := 23) rfl rfl fl_M_492
    · repeat (first | assumption | exact on_up_eq _ _ _ | refine (on_up_ne (by omega)).trans ?_)
    · rfl
    refine on_icmp_gt (pc' := 26) (tgt := 30) rfl rfl rfl (fun cq => ?_) (fun cq => ?_)
    · refine no _ ?_
      rw [es, show p_s (a.c j).st.length y = none from if_neg (fun z => Int32.not_le.mpr cq z.2)]
      rfl
    · refine on_iconst (pc' := 27) (v := 1) rfl rfl li_1 ?_
      refine on_goto (tgt := 31) rfl rfl ?_
      refine on_zreturn rfl rfl ?_ ?_
      · first | rfl | assumption
      rw [es, show p_s (a.c j).st.length y = some (y.toNatClampNeg - 1) from if_pos ⟨y1, Int32.not_lt.mp cq⟩]
      exact ⟨rfl, rfl, rfl⟩
set_option maxHeartbeats 4000000 in
theorem c_M_lies (X : mX o sz RA CA a h) (V : n_V B a) : on_Ct G M_M_lies [.ref o, .int x, .int y] h sz 0 0 (fun v h1 z => v = some (.int (bI (q_li a x y))) ∧ z = sz ∧ h1 = h) := by
  have o1 := X.1.ob.1
  obtain ⟨C, Y, k1, k2, k3⟩ := id X.2.1
  have no : ∀ lv, q_li a x y = false → on_E G M_M_lies 27 lv [] h sz 0 0 (fun v h1 z => v = some (.int (bI (q_li a x y))) ∧ z = sz ∧ h1 = h) := fun lv e => by
    refine on_iconst (pc' := 28) (v := 0) rfl rfl li_0 ?_
    refine on_zreturn rfl rfl ?_ ?_
    · first | rfl | assumption
    rw [e]
    exact ⟨rfl, rfl, rfl⟩
  refine on_Ct.of (by decide) v_M_lies (Nat.le_of_ble_eq_true rfl) ?_
  first | refine on_aload_n (pc' := 1) rfl rfl rfl rfl ?_ | refine on_aload_nQ (pc' := 1) rfl rfl rfl rfl ?_
  refine on_iload_n (pc' := 2) rfl rfl rfl rfl ?_
  refine on_iload_n (pc' := 3) rfl rfl rfl rfl ?_
  refine on_callV (pc' := 6) (As := [.int x, .int y]) (rest := []) (b := o) rfl rfl cw_M_lies_543 (o1) rfl rfl (Nat.le_of_ble_eq_true rfl) (Nat.zero_le _) (Nat.zero_le _) (c_M_isLink V.1.2.1 o1) ?_
  rintro v h sz ⟨rfl, rfl, rfl⟩
  rw [q_lk_iff V.1.1 V.1.2.1]
  cases e : q_lk a x y with
  | none =>
    show on_E G M_M_lies 6 _ [.int 0] h sz _ _ _
    refine on_if_eq (pc' := 9) (tgt := 27) rfl rfl rfl (fun cq => ?_) (fun cq => ?_)
    · exact no _ (by unfold q_li; rw [e])
    · exact absurd rfl cq
  | some j =>
    obtain ⟨f, t, f1, t1, rfl, rfl, rfl, ex⟩ := q_lk_some e
    have i1 : 10 * f + t < 100 ∧ 100 < 2 ^ 31 := by omega
    obtain ⟨y1, y2, -⟩ := k3 (10 * f + t) i1.1
    have el : q_li a (nI f) (nI t) = decide (0 < (a.lk (10 * f + t)).length) := by
      unfold q_li
      rw [e]
    show on_E G M_M_lies 6 _ [.int 1] h sz _ _ _
    refine on_if_eq (pc' := 9) (tgt := 27) rfl rfl rfl (fun cq => ?_) (fun cq => ?_)
    · exact absurd cq (by decide)
    clear cq
    first | refine on_aload_n (pc' := 10) rfl rfl rfl rfl ?_ | refine on_aload_nQ (pc' := 10) rfl rfl rfl rfl ?_
    first | apply on_get (pc' := 13) rfl rfl fl_M_36 | apply on_getN (pc' := 13) rfl rfl fl_M_36
    · repeat (first | assumption | exact on_up_eq _ _ _ | refine (on_up_ne (by omega)).trans ?_)
    · rfl
    refine on_bipush (pc' := 15) (v := 10) rfl rfl lb_10 ?_
    refine on_iload_n (pc' := 16) rfl rfl rfl rfl ?_
    refine on_imul (pc' := 17) rfl rfl ?_
    refine on_iload_n (pc' := 18) rfl rfl rfl rfl ?_
    refine on_iadd (pc' := 19) rfl rfl ?_
    rw [show (10 : Int32) * nI f = nI (10 * f) from pk_mul 10 f, nI_add]
    apply on_ialoadK (pc' := 20) (t := 0) rfl rfl
    · repeat (first | assumption | exact on_up_eq _ _ _ | refine (on_up_ne (by omega)).trans ?_)
    · rfl
    · first | assumption | exact on_lit _ | rfl
    · first | assumption | omega | decide
    rw [y1]
    refine on_if_le (pc' := 23) (tgt := 27) rfl rfl rfl (fun cq => ?_) (fun cq => ?_)
    · refine no _ (el.trans (decide_eq_false (fun z => ?_)))
      exact absurd cq (nI_nle z (by omega))
    · refine on_iconst (pc' := 24) (v := 1) rfl rfl li_1 ?_
      refine on_goto (tgt := 28) rfl rfl ?_
      refine on_zreturn rfl rfl ?_ ?_
      · first | rfl | assumption
      rw [el, decide_eq_true (by
        rcases Nat.eq_zero_or_pos (a.lk (10 * f + t)).length with z | z
        · rw [z] at cq
          exact absurd (by decide) cq
        · exact z)]
      exact ⟨rfl, rfl, rfl⟩
set_option maxHeartbeats 4000000 in
theorem c_M_waiting (X : mX o sz RA CA a h) (V : n_V B a) : on_Ct G M_M_waiting [.ref o, .int x, .int y] h sz 0 0 (fun v h1 z => v = some (.int (q_wait a x y)) ∧ z = sz ∧ h1 = h) := by
  have o1 := X.1.ob.1
  obtain ⟨C, Y, k1, k2, k3⟩ := id X.2.1
  refine on_Ct.of (by decide) v_M_waiting (Nat.le_of_ble_eq_true rfl) ?_
  first | refine on_aload_n (pc' := 1) rfl rfl rfl rfl ?_ | refine on_aload_nQ (pc' := 1) rfl rfl rfl rfl ?_
  refine on_iload_n (pc' := 2) rfl rfl rfl rfl ?_
  refine on_iload_n (pc' := 3) rfl rfl rfl rfl ?_
  refine on_callV (pc' := 6) (As := [.int x, .int y]) (rest := []) (b := o) rfl rfl cw_M_waiting_543 (o1) rfl rfl (Nat.le_of_ble_eq_true rfl) (Nat.zero_le _) (Nat.zero_le _) (c_M_isLink V.1.2.1 o1) ?_
  rintro v h sz ⟨rfl, rfl, rfl⟩
  rw [q_lk_iff V.1.1 V.1.2.1]
  cases e : q_lk a x y with
  | none =>
    show on_E G M_M_waiting 6 _ [.int 0] h sz _ _ _
    refine on_if_eq (pc' := 9) (tgt := 23) rfl rfl rfl (fun cq => ?_) (fun cq => ?_)
    · refine on_iconst (pc' := 24) (v := (-1)) rfl rfl li_m1 ?_
      refine on_ireturn rfl rfl ?_
      unfold q_wait
      rw [e]
      exact ⟨rfl, rfl, rfl⟩
    · exact absurd rfl cq
  | some j =>
    obtain ⟨f, t, f1, t1, rfl, rfl, rfl, ex⟩ := q_lk_some e
    have i1 : 10 * f + t < 100 ∧ 100 < 2 ^ 31 := by omega
    obtain ⟨y1, y2, -⟩ := k3 (10 * f + t) i1.1
    show on_E G M_M_waiting 6 _ [.int 1] h sz _ _ _
    refine on_if_eq (pc' := 9) (tgt := 23) rfl rfl rfl (fun cq => ?_) (fun cq => ?_)
    · exact absurd cq (by decide)
    clear cq
    first | refine on_aload_n (pc' := 10) rfl rfl rfl rfl ?_ | refine on_aload_nQ (pc' := 10) rfl rfl rfl rfl ?_
    first | apply on_get (pc' := 13) rfl rfl fl_M_36 | apply on_getN (pc' := 13) rfl rfl fl_M_36
    · repeat (first | assumption | exact on_up_eq _ _ _ | refine (on_up_ne (by omega)).trans ?_)
    · rfl
    refine on_bipush (pc' := 15) (v := 10) rfl rfl lb_10 ?_
    refine on_iload_n (pc' := 16) rfl rfl rfl rfl ?_
    refine on_imul (pc' := 17) rfl rfl ?_
    refine on_iload_n (pc' := 18) rfl rfl rfl rfl ?_
    refine on_iadd (pc' := 19) rfl rfl ?_
    rw [show (10 : Int32) * nI f = nI (10 * f) from pk_mul 10 f, nI_add]
    apply on_ialoadK (pc' := 20) (t := 0) rfl rfl
    · repeat (first | assumption | exact on_up_eq _ _ _ | refine (on_up_ne (by omega)).trans ?_)
    · rfl
    · first | assumption | exact on_lit _ | rfl
    · first | assumption | omega | decide
    rw [y1]
    refine on_goto (tgt := 24) rfl rfl ?_
    refine on_ireturn rfl rfl ?_
    unfold q_wait
    rw [e]
    exact ⟨rfl, rfl, rfl⟩
set_option maxHeartbeats 4000000 in
theorem c_M_look (X : mX o sz RA CA a h) (V : n_V B a) : on_Ct G M_M_look [.ref o, .int x, .int y, .int k, .int i] h sz 0 0 (fun v h1 z => v = some (.int (q_look a x y k i)) ∧ z = sz ∧ h1 = h) := by
  have o1 := X.1.ob.1
  obtain ⟨C, Y, k1, k2, k3⟩ := id X.2.1
  have no : ∀ lv, q_look a x y k i = -1 → on_E G M_M_look 41 lv [] h sz 0 0 (fun v h1 z => v = some (.int (q_look a x y k i)) ∧ z = sz ∧ h1 = h) := fun lv e => by
    refine on_iconst (pc' := 42) (v := (-1)) rfl rfl li_m1 ?_
    refine on_goto (tgt := 68) rfl rfl ?_
    refine on_ireturn rfl rfl ?_
    rw [e]
    exact ⟨rfl, rfl, rfl⟩
  refine on_Ct.of (by decide) v_M_look (Nat.le_of_ble_eq_true rfl) ?_
  first | refine on_aload_n (pc' := 1) rfl rfl rfl rfl ?_ | refine on_aload_nQ (pc' := 1) rfl rfl rfl rfl ?_
  refine on_iload_n (pc' := 2) rfl rfl rfl rfl ?_
  refine on_iload_n (pc' := 3) rfl rfl rfl rfl ?_
  refine on_callV (pc' := 6) (As := [.int x, .int y]) (rest := []) (b := o) rfl rfl cw_M_look_543 (o1) rfl rfl (Nat.le_of_ble_eq_true rfl) (Nat.zero_le _) (Nat.zero_le _) (c_M_isLink V.1.2.1 o1) ?_
  rintro v h sz ⟨rfl, rfl, rfl⟩
  rw [q_lk_iff V.1.1 V.1.2.1]
  cases e : q_lk a x y with
  | none =>
    show on_E G M_M_look 6 _ [.int 0] h sz _ _ _
    refine on_if_eq (pc' := 9) (tgt := 41) rfl rfl rfl (fun cq => ?_) (fun cq => ?_)
    · exact no _ (by unfold q_look; rw [e])
    · exact absurd rfl cq
  | some j =>
    obtain ⟨f, t, f1, t1, rfl, rfl, rfl, ex⟩ := q_lk_some e
    have i1 : 10 * f + t < 100 ∧ 100 < 2 ^ 31 := by omega
    obtain ⟨y1, y2, y3⟩ := k3 (10 * f + t) i1.1
    have el : q_look a (nI f) (nI t) k i = if (¬ k < 0 ∧ k < nI (a.lk (10 * f + t)).length) ∧ ¬ i < 0 ∧ i < nI 140 then nI (((a.lk (10 * f + t)).getD k.toNatClampNeg b0) i.toNatClampNeg) else -1 := by
      unfold q_look lk_b
      rw [e]
    show on_E G M_M_look 6 _ [.int 1] h sz _ _ _
    refine on_if_eq (pc' := 9) (tgt := 41) rfl rfl rfl (fun cq => ?_) (fun cq => ?_)
    · exact absurd cq (by decide)
    clear cq
    refine on_iload_n (pc' := 10) rfl rfl rfl rfl ?_
    refine on_if_lt (pc' := 13) (tgt := 41) rfl rfl rfl (fun cq => ?_) (fun cq => ?_)
    · exact no _ (el.trans (if_neg (fun z => z.1.1 cq)))
    have a1 := cq
    clear cq
    refine on_iload_n (pc' := 14) rfl rfl rfl rfl ?_
    first | refine on_aload_n (pc' := 15) rfl rfl rfl rfl ?_ | refine on_aload_nQ (pc' := 15) rfl rfl rfl rfl ?_
    first | apply on_get (pc' := 18) rfl rfl fl_M_36 | apply on_getN (pc' := 18) rfl rfl fl_M_36
    · repeat (first | assumption | exact on_up_eq _ _ _ | refine (on_up_ne (by omega)).trans ?_)
    · rfl
    refine on_bipush (pc' := 20) (v := 10) rfl rfl lb_10 ?_
    refine on_iload_n (pc' := 21) rfl rfl rfl rfl ?_
    refine on_imul (pc' := 22) rfl rfl ?_
    refine on_iload_n (pc' := 23) rfl rfl rfl rfl ?_
    refine on_iadd (pc' := 24) rfl rfl ?_
    rw [show (10 : Int32) * nI f = nI (10 * f) from pk_mul 10 f, nI_add]
    apply on_ialoadK (pc' := 25) (t := 0) rfl rfl
    · repeat (first | assumption | exact on_up_eq _ _ _ | refine (on_up_ne (by omega)).trans ?_)
    · rfl
    · first | assumption | exact on_lit _ | rfl
    · first | assumption | omega | decide
    rw [y1]
    refine on_icmp_ge (pc' := 28) (tgt := 41) rfl rfl rfl (fun cq => ?_) (fun cq => ?_)
    · exact no _ (el.trans (if_neg (fun z => Int32.not_le.mpr z.1.2 cq)))
    have a2 := Int32.not_le.mp cq
    clear cq
    refine on_iload (pc' := 30) rfl rfl rfl ?_
    refine on_if_lt (pc' := 33) (tgt := 41) rfl rfl rfl (fun cq => ?_) (fun cq => ?_)
    · exact no _ (el.trans (if_neg (fun z => z.2.1 cq)))
    have a3 := cq
    clear cq
    refine on_iload (pc' := 35) rfl rfl rfl ?_
    refine on_sipush (pc' := 38) (v := 140) rfl rfl ls_140 ?_
    refine on_icmp_lt (pc' := 41) (tgt := 45) rfl rfl rfl (fun cq => ?_) (fun cq => ?_)
    rotate_left
    · exact no _ (el.trans (if_neg (fun z => cq z.2.2)))
    have a4 : i < nI 140 := cq
    clear cq
    rw [if_pos ⟨⟨a1, a2⟩, a3, a4⟩] at el
    obtain ⟨kn, hk, ek, -, eck, -⟩ := pk_mu (L := (a.lk (10 * f + t)).length) a1 (Int32.not_le.mpr a2) (by omega)
    obtain ⟨n, hn, en, -, ecn, -⟩ := pk_mu (L := 140) a3 (Int32.not_le.mpr a4) (by decide)
    rw [eck, ecn] at el
    subst ek en
    have i2 : 140 * (8 * (10 * f + t) + kn) + n < 112000 ∧ 112000 < 2 ^ 31 := by omega
    first | refine on_aload_n (pc' := 46) rfl rfl rfl rfl ?_ | refine on_aload_nQ (pc' := 46) rfl rfl rfl rfl ?_
    first | apply on_get (pc' := 49) rfl rfl fl_M_33 | apply on_getN (pc' := 49) rfl rfl fl_M_33
    · repeat (first | assumption | exact on_up_eq _ _ _ | refine (on_up_ne (by omega)).trans ?_)
    · rfl
    refine on_sipush (pc' := 52) (v := 140) rfl rfl ls_140 ?_
    refine on_bipush (pc' := 54) (v := 8) rfl rfl lb_8 ?_
    refine on_bipush (pc' := 56) (v := 10) rfl rfl lb_10 ?_
    refine on_iload_n (pc' := 57) rfl rfl rfl rfl ?_
    refine on_imul (pc' := 58) rfl rfl ?_
    refine on_iload_n (pc' := 59) rfl rfl rfl rfl ?_
    refine on_iadd (pc' := 60) rfl rfl ?_
    refine on_imul (pc' := 61) rfl rfl ?_
    refine on_iload_n (pc' := 62) rfl rfl rfl rfl ?_
    refine on_iadd (pc' := 63) rfl rfl ?_
    refine on_imul (pc' := 64) rfl rfl ?_
    refine on_iload (pc' := 66) rfl rfl rfl ?_
    refine on_iadd (pc' := 67) rfl rfl ?_
    rw [show (140 : Int32) * (8 * (10 * nI f + nI t) + nI kn) + nI n = nI (140 * (8 * (10 * f + t) + kn) + n) by
      rw [show (140 : Int32) = nI 140 from rfl, show (8 : Int32) = nI 8 from rfl, show (10 : Int32) = nI 10 from rfl, pk_mul, nI_add, pk_mul, nI_add, pk_mul, nI_add]]
    apply on_ialoadK (pc' := 68) (t := 0) rfl rfl
    · repeat (first | assumption | exact on_up_eq _ _ _ | refine (on_up_ne (by omega)).trans ?_)
    · rfl
    · first | assumption | exact on_lit _ | rfl
    · first | assumption | omega | decide
    refine on_ireturn rfl rfl ?_
    rw [el, (y3 kn hk n hn).1]
    exact ⟨rfl, rfl, rfl⟩
end MGT
