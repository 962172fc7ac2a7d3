/-! the reference's calls: key, weigh, state, hops, told, got, kept, deliver, drop, alter -/
section MG2
variable {G : on_G} {o sz B nc : Nat} {RA CA : Nat → Nat} {a : aN} {h h1 : on_H} {x y w i k m : Int32}
theorem mX.rob {j : Nat} (X : mX o sz RA CA a h) (hj : j < a.nr) : ∃ n : Nat, h (RA j) = some (.inr (15, [.long (a.r j).se, .int (a.r j).dr, .ref (RA j + 1), .ref (RA j + 2), .ref (RA j + 3), .int (nI (a.r j).we), .int (nI (a.r j).nx), .ref (RA j + 4), .int (nI n), .ref (RA j + 5), .int (nI (a.r j).ke.length)])) := by
  obtain ⟨n, ord, es, y1, y2⟩ := X.2.2.2.2.1 j hj
  exact ⟨n, y1.1⟩
set_option maxHeartbeats 4000000 in
theorem c_M_key (X : mX o sz RA CA a h) (V : n_V B a) : on_Ct G M_M_key [.ref o, .int x, .int i] h sz 0 0 (fun v h1 z => v = some (.int (q_key a x i)) ∧ z = sz ∧ h1 = h) := by
  have o1 := X.1.ob.1
  have x1 := X.2.2.1.1
  have v6 := V.1.1
  have no : ∀ lv, q_key a x i = -1 → on_E G M_M_key 18 lv [] h sz 0 0 (fun v h1 z => v = some (.int (q_key a x i)) ∧ z = sz ∧ h1 = h) := fun lv e => by
    refine on_iconst (pc' := 19) (v := (-1)) rfl rfl li_m1 ?_
    refine on_goto (tgt := 56) rfl rfl ?_
    refine on_ireturn rfl rfl ?_
    rw [e]
    exact ⟨rfl, rfl, rfl⟩
  refine on_Ct.of (by decide) v_M_key (Nat.le_of_ble_eq_true rfl) ?_
  first | refine on_aload_n (pc' := 1) rfl rfl rfl rfl ?_ | refine on_aload_nQ (pc' := 1) rfl rfl rfl rfl ?_
  refine on_iload_n (pc' := 2) rfl rfl rfl rfl ?_
  refine on_callV (pc' := 5) (As := [.int x]) (rest := []) (b := o) rfl rfl cw_M_key_278 (o1) rfl rfl (Nat.le_of_ble_eq_true rfl) (Nat.zero_le _) (Nat.zero_le _) (c_M_isRelay o1) ?_
  rintro v h sz ⟨rfl, rfl, rfl⟩
  cases e : p_i a.nr x with
  | none =>
    show on_E G M_M_key 5 _ [.int 0] h sz _ _ _
    refine on_if_eq (pc' := 8) (tgt := 18) rfl rfl rfl (fun cq => ?_) (fun cq => ?_)
    · exact no _ (by unfold q_key; rw [e])
    · exact absurd rfl cq
  | some j =>
    obtain ⟨hj, ej⟩ := p_i_some (by omega) e
    subst ej
    have i1 : j < 6 ∧ 6 < 2 ^ 31 := by omega
    obtain ⟨n, ord, es, S, -⟩ := X.2.2.2.2.1 j hj
    have r0 : h (RA j) = some (.inr (15, [.long (a.r j).se, .int (a.r j).dr, .ref (RA j + 1), .ref (RA j + 2), .ref (RA j + 3), .int (nI (a.r j).we), .int (nI (a.r j).nx), .ref (RA j + 4), .int (nI n), .ref (RA j + 5), .int (nI (a.r j).ke.length)])) := S.1
    obtain ⟨KY, ky1, ky2⟩ := S.2.2.1
    obtain ⟨MK, mk1, mk2⟩ := S.2.2.2.1
    have eq : q_key a (nI j) i = match p_i 36 i with | none => -1 | some n => nI (rs_i (a.r j).se (if n < 32 then 4 + n else n - 32)) := by
      unfold q_key
      rw [e]
      rfl
    show on_E G M_M_key 5 _ [.int 1] h sz _ _ _
    refine on_if_eq (pc' := 8) (tgt := 18) rfl rfl rfl (fun cq => ?_) (fun cq => ?_)
    · exact absurd cq (by decide)
    clear cq
    refine on_iload_n (pc' := 9) rfl rfl rfl rfl ?_
    refine on_if_lt (pc' := 12) (tgt := 18) rfl rfl rfl (fun cq => ?_) (fun cq => ?_)
    · refine no _ (eq.trans ?_)
      rw [show p_i 36 i = none from if_neg (fun z => z.1 cq)]
    have x0 := cq
    clear cq
    refine on_iload_n (pc' := 13) rfl rfl rfl rfl ?_
    refine on_bipush (pc' := 15) (v := 35) rfl rfl lb_35 ?_
    refine on_icmp_le (pc' := 18) (tgt := 22) rfl rfl rfl (fun cq => ?_) (fun cq => ?_)
    rotate_left
    · refine no _ (eq.trans ?_)
      rw [show p_i 36 i = none from if_neg (fun z => cq ((p_i_lt1 (n := 35) (by decide) x0).mp z.2))]
    have x1' : i < nI 36 := (p_i_lt1 (n := 35) (by decide) x0).mpr cq
    clear cq
    have ep : p_i 36 i = some i.toNatClampNeg := if_pos ⟨x0, x1'⟩
    obtain ⟨n', hn, en, -, ec, -⟩ := pk_mu (L := 36) x0 (Int32.not_le.mpr x1') (by decide)
    rw [ep, ec] at eq
    have eq : q_key a (nI j) i = nI (rs_i (a.r j).se (if n' < 32 then 4 + n' else n' - 32)) := eq
    subst en
    refine on_iload_n (pc' := 23) rfl rfl rfl rfl ?_
    refine on_bipush (pc' := 25) (v := 32) rfl rfl lb_32 ?_
    refine on_icmp_ge (pc' := 28) (tgt := 42) rfl rfl rfl (fun cq => ?_) (fun cq => ?_)
    · have n32 : ¬ n' < 32 := fun z => nI_ge (b := 32) z (by decide) cq
      clear cq
      have i2 : n' - 32 < 32 ∧ 32 < 2 ^ 31 := by omega
      rw [if_neg n32] at eq
      first | refine on_aload_n (pc' := 43) rfl rfl rfl rfl ?_ | refine on_aload_nQ (pc' := 43) rfl rfl rfl rfl ?_
      first | apply on_get (pc' := 46) rfl rfl fl_M_9 | apply on_getN (pc' := 46) rfl rfl fl_M_9
      · repeat (first | assumption | exact on_up_eq _ _ _ | refine (on_up_ne (by omega)).trans ?_)
      · rfl
      refine on_iload_n (pc' := 47) rfl rfl rfl rfl ?_
      apply on_aaloadK (pc' := 48) rfl rfl
      · repeat (first | assumption | exact on_up_eq _ _ _ | refine (on_up_ne (by omega)).trans ?_)
      · rfl
      · first | assumption | exact on_lit _ | rfl
      · first | assumption | omega | decide
      rw [rf_at hj]
      show on_E G M_M_key 48 _ [.ref (RA j)] h sz _ _ _
      first | apply on_get (pc' := 51) rfl rfl fl_M_285 | apply on_getN (pc' := 51) rfl rfl fl_M_285
      · repeat (first | assumption | exact on_up_eq _ _ _ | refine (on_up_ne (by omega)).trans ?_)
      · rfl
      refine on_iload_n (pc' := 52) rfl rfl rfl rfl ?_
      refine on_bipush (pc' := 54) (v := 32) rfl rfl lb_32 ?_
      refine on_isub (pc' := 55) rfl rfl ?_
      rw [show nI n' - 32 = nI (n' - 32) from pk_sub (a := n') (b := 32) (by omega)]
      apply on_ialoadK (pc' := 56) (t := 0) rfl rfl
      · repeat (first | assumption | exact on_up_eq _ _ _ | refine (on_up_ne (by omega)).trans ?_)
      · rfl
      · first | assumption | exact on_lit _ | rfl
      · first | assumption | omega | decide
      refine on_ireturn rfl rfl ?_
      rw [eq, (mk2 (n' - 32) (by omega)).1]
      exact ⟨rfl, rfl, rfl⟩
    · have n32 : n' < 32 := by
        rcases Nat.lt_or_ge n' 32 with z | z
        · exact z
        · exact absurd (nI_le (a := 32) z (by omega)) cq
      clear cq
      have i2 : n' < 32 ∧ 32 < 2 ^ 31 := by omega
      rw [if_pos n32] at eq
      first | refine on_aload_n (pc' := 29) rfl rfl rfl rfl ?_ | refine on_aload_nQ (pc' := 29) rfl rfl rfl rfl ?_
      first | apply on_get (pc' := 32) rfl rfl fl_M_9 | apply on_getN (pc' := 32) rfl rfl fl_M_9
      · repeat (first | assumption | exact on_up_eq _ _ _ | refine (on_up_ne (by omega)).trans ?_)
      · rfl
      refine on_iload_n (pc' := 33) rfl rfl rfl rfl ?_
      apply on_aaloadK (pc' := 34) rfl rfl
      · repeat (first | assumption | exact on_up_eq _ _ _ | refine (on_up_ne (by omega)).trans ?_)
      · rfl
      · first | assumption | exact on_lit _ | rfl
      · first | assumption | omega | decide
      rw [rf_at hj]
      show on_E G M_M_key 34 _ [.ref (RA j)] h sz _ _ _
      first | apply on_get (pc' := 37) rfl rfl fl_M_284 | apply on_getN (pc' := 37) rfl rfl fl_M_284
      · repeat (first | assumption | exact on_up_eq _ _ _ | refine (on_up_ne (by omega)).trans ?_)
      · rfl
      refine on_iload_n (pc' := 38) rfl rfl rfl rfl ?_
      apply on_ialoadK (pc' := 39) (t := 0) rfl rfl
      · repeat (first | assumption | exact on_up_eq _ _ _ | refine (on_up_ne (by omega)).trans ?_)
      · rfl
      · first | assumption | exact on_lit _ | rfl
      · first | assumption | omega | decide
      refine on_goto (tgt := 56) rfl rfl ?_
      refine on_ireturn rfl rfl ?_
      rw [eq, show KY n' = nI (rs_i (a.r j).se (4 + n')) from (ky2 n' n32).1]
      exact ⟨rfl, rfl, rfl⟩
/-- another weight -/
theorem mR.wei {R self n we : Nat} {x3 : Int32 × Int32 × Int32} {F : Nat → Option Nat} {lk : Nat → List aB} {r : aR} {ord es : Nat → Nat} (K : mR o R self x3 F lk r n ord es h) (hR : h1 R = some (.inr (15, [.long r.se, .int r.dr, .ref (R + 1), .ref (R + 2), .ref (R + 3), .int (nI we), .int (nI r.nx), .ref (R + 4), .int (nI n), .ref (R + 5), .int (nI r.ke.length)]))) (t : ∀ b, b ≠ R → h1 b = h b) : mR o R self x3 F lk (r.se, r.dr, we, r.nx, r.en, r.ke) n ord es h1 ∧ mf_R o R h h1 := by
  obtain ⟨W, KL, ⟨a1, a2, a3, ⟨F4, a4, a4'⟩, ⟨e1, e2, e3⟩, a6⟩, I, k5, k6, k7, k8⟩ := K
  refine ⟨⟨W.keep (fun a _ _ _ => t a (by omega)), KL.keep (t _ (by omega)) (t _ (by omega)), ⟨hR, a2.keep (t _ (by omega)), a3.keep (t _ (by omega)), ⟨F4, (t _ (by omega)).trans a4, a4'⟩, ⟨(t _ (by omega)).trans e1, fun j hj => ?_, fun j hj hj2 => ?_⟩, a6.keep (t _ (by omega))⟩, I, (t _ (by omega)).trans k5, k6, k7, k8⟩, fun b c1 c2 => t b (by omega)⟩
  · obtain ⟨x, x1, x2⟩ := e2 j hj
    have := I.at (show j < 12 by have := I.1; omega)
    exact ⟨x, x1, x2.keep (fun b c1 c2 => t b (by omega))⟩
  · have := I.at hj2
    exact (e3 j hj hj2).keep (fun b c1 c2 => t b (by omega))
set_option maxHeartbeats 4000000 in
theorem c_M_weigh (X : mX o sz RA CA a h) (V : n_V B a) : on_Ct G M_M_weigh [.ref o, .int x, .int w] h sz 0 0 (fun v h1 z => v = some (.int (q_weigh a x w).1) ∧ z = sz ∧ mX o sz RA CA (q_weigh a x w).2 h1 ∧ m_fr o a.nr a.nc RA CA h h1) := by
  have o1 := X.1.ob.1
  have x1 := X.2.2.1.1
  have v6 := V.1.1
  have no : ∀ lv, q_weigh a x w = (0, a) → on_E G M_M_weigh 19 lv [] h sz 0 0 (fun v h1 z => v = some (.int (q_weigh a x w).1) ∧ z = sz ∧ mX o sz RA CA (q_weigh a x w).2 h1 ∧ m_fr o a.nr a.nc RA CA h h1) := fun lv e => by
    refine on_iconst (pc' := 20) (v := 0) rfl rfl li_0 ?_
    refine on_zreturn rfl rfl ?_ ?_
    · first | rfl | assumption
    rw [e]
    exact ⟨rfl, rfl, X, m_fr.id⟩
  refine on_Ct.of (by decide) v_M_weigh (Nat.le_of_ble_eq_true rfl) ?_
  first | refine on_aload_n (pc' := 1) rfl rfl rfl rfl ?_ | refine on_aload_nQ (pc' := 1) rfl rfl rfl rfl ?_
  refine on_iload_n (pc' := 2) rfl rfl rfl rfl ?_
  refine on_callV (pc' := 5) (As := [.int x]) (rest := []) (b := o) rfl rfl cw_M_weigh_278 (o1) rfl rfl (Nat.le_of_ble_eq_true rfl) (Nat.zero_le _) (Nat.zero_le _) (c_M_isRelay o1) ?_
  rintro v h sz ⟨rfl, rfl, rfl⟩
  cases e : p_i a.nr x with
  | none =>
    show on_E G M_M_weigh 5 _ [.int 0] h sz _ _ _
    refine on_if_eq (pc' := 8) (tgt := 19) rfl rfl rfl (fun cq => ?_) (fun cq => ?_)
    · exact no _ (by unfold q_weigh; rw [e])
    · exact absurd rfl cq
  | some j =>
    obtain ⟨hj, ej⟩ := p_i_some (by omega) e
    subst ej
    have i1 : j < 6 ∧ 6 < 2 ^ 31 := by omega
    have eq : q_weigh a (nI j) w = match p_i 1001 w with | none => (0, a) | some n => (1, (a.nr, fu a.r j ((a.r j).se, (a.r j).dr, n, (a.r j).nx, (a.r j).en, (a.r j).ke), a.nk, a.k, a.nc, a.c, a.lk)) := by
      unfold q_weigh
      rw [e]
      rfl
    show on_E G M_M_weigh 5 _ [.int 1] h sz _ _ _
    refine on_if_eq (pc' := 8) (tgt := 19) rfl rfl rfl (fun cq => ?_) (fun cq => ?_)
    · exact absurd cq (by decide)
    clear cq
    refine on_iload_n (pc' := 9) rfl rfl rfl rfl ?_
    refine on_if_lt (pc' := 12) (tgt := 19) rfl rfl rfl (fun cq => ?_) (fun cq => ?_)
    · refine no _ (eq.trans ?_)
      rw [show p_i 1001 w = none from if_neg (fun z => z.1 cq)]
    have x0 := cq
    clear cq
    refine on_iload_n (pc' := 13) rfl rfl rfl rfl ?_
    refine on_sipush (pc' := 16) (v := 1000) rfl rfl ls_1000 ?_
    refine on_icmp_le (pc' := 19) (tgt := 21) rfl rfl rfl (fun cq => ?_) (fun cq => ?_)
    rotate_left
    · refine no _ (eq.trans ?_)
      rw [show p_i 1001 w = none from if_neg (fun z => cq ((p_i_lt1 (n := 1000) (by decide) x0).mp z.2))]
    have x1' : w < nI 1001 := (p_i_lt1 (n := 1000) (by decide) x0).mpr cq
    clear cq
    have ep : p_i 1001 w = some w.toNatClampNeg := if_pos ⟨x0, x1'⟩
    obtain ⟨n', hn, en, -, ec, -⟩ := pk_mu (L := 1001) x0 (Int32.not_le.mpr x1') (by decide)
    rw [ep, ec] at eq
    have eq : q_weigh a (nI j) w = (1, (a.nr, fu a.r j ((a.r j).se, (a.r j).dr, n', (a.r j).nx, (a.r j).en, (a.r j).ke), a.nk, a.k, a.nc, a.c, a.lk)) := eq
    subst en
    obtain ⟨n, ord, es, KR⟩ := X.toR hj v6
    have r0 : h (RA j) = some (.inr (15, [.long (a.r j).se, .int (a.r j).dr, .ref (RA j + 1), .ref (RA j + 2), .ref (RA j + 3), .int (nI (a.r j).we), .int (nI (a.r j).nx), .ref (RA j + 4), .int (nI n), .ref (RA j + 5), .int (nI (a.r j).ke.length)])) := KR.2.2.1.1
    first | refine on_aload_n (pc' := 22) rfl rfl rfl rfl ?_ | refine on_aload_nQ (pc' := 22) rfl rfl rfl rfl ?_
    first | apply on_get (pc' := 25) rfl rfl fl_M_9 | apply on_getN (pc' := 25) rfl rfl fl_M_9
    · repeat (first | assumption | exact on_up_eq _ _ _ | refine (on_up_ne (by omega)).trans ?_)
    · rfl
    refine on_iload_n (pc' := 26) rfl rfl rfl rfl ?_
    apply on_aaloadK (pc' := 27) rfl rfl
    · repeat (first | assumption | exact on_up_eq _ _ _ | refine (on_up_ne (by omega)).trans ?_)
    · rfl
    · first | assumption | exact on_lit _ | rfl
    · first | assumption | omega | decide
    rw [rf_at hj]
    show on_E G M_M_weigh 27 _ [.ref (RA j)] h sz _ _ _
    refine on_iload_n (pc' := 28) rfl rfl rfl rfl ?_
    first | apply on_put (pc' := 31) rfl rfl fp_M_311 | apply on_putN (pc' := 31) rfl rfl fp_M_311
    · repeat (first | assumption | exact on_up_eq _ _ _ | refine (on_up_ne (by omega)).trans ?_)
    · first | rfl | assumption
    · first | rfl | assumption
    · exact Nat.le_of_ble_eq_true rfl
    refine on_iconst (pc' := 32) (v := 1) rfl rfl li_1 ?_
    refine on_zreturn rfl rfl ?_ ?_
    · first | rfl | assumption
    obtain ⟨K2, f2⟩ := KR.wei (we := n') (on_up_eq h (RA j) _) (fun b hb => on_up_ne hb)
    obtain ⟨X2, g2⟩ := X.ofR hj K2 f2
    rw [eq]
    exact ⟨rfl, rfl, X2, g2⟩
set_option maxHeartbeats 4000000 in
theorem c_M_state (X : mX o sz RA CA a h) (V : n_V B a) : on_Ct G M_M_state [.ref o, .int x] h sz 0 0 (fun v h1 z => v = some (.int (q_state a x)) ∧ z = sz ∧ h1 = h) := by
  have o1 := X.1.ob.1
  have x5 := X.2.2.1.2.2.2.2
  have v6 := V.1.2.2
  refine on_Ct.of (by decide) v_M_state (Nat.le_of_ble_eq_true rfl) ?_
  first | refine on_aload_n (pc' := 1) rfl rfl rfl rfl ?_ | refine on_aload_nQ (pc' := 1) rfl rfl rfl rfl ?_
  refine on_iload_n (pc' := 2) rfl rfl rfl rfl ?_
  refine on_callV (pc' := 5) (As := [.int x]) (rest := []) (b := o) rfl rfl cw_M_state_520 (o1) rfl rfl (Nat.le_of_ble_eq_true rfl) (Nat.zero_le _) (Nat.zero_le _) (c_M_isCircuit o1) ?_
  rintro v h sz ⟨rfl, rfl, rfl⟩
  unfold q_state
  cases e : p_i a.nc x with
  | none =>
    show on_E G M_M_state 5 _ [.int 0] h sz _ _ _
    refine on_if_eq (pc' := 8) (tgt := 20) rfl rfl rfl (fun cq => ?_) (fun cq => ?_)
    · refine on_iconst (pc' := 21) (v := (-1)) rfl rfl li_m1 ?_
      refine on_ireturn rfl rfl ?_
      exact ⟨rfl, rfl, rfl⟩
    · exact absurd rfl cq
  | some j =>
    obtain ⟨hj, ej⟩ := p_i_some (by omega) e
    subst ej
    have i1 : j < 6 ∧ 6 < 2 ^ 31 := by omega
    have c0 := X.cob hj
    show on_E G M_M_state 5 _ [.int 1] h sz _ _ _
    refine on_if_eq (pc' := 8) (tgt := 20) rfl rfl rfl (fun cq => ?_) (fun cq => ?_)
    · exact absurd cq (by decide)
    clear cq
    first | refine on_aload_n (pc' := 9) rfl rfl rfl rfl ?_ | refine on_aload_nQ (pc' := 9) rfl rfl rfl rfl ?_
    first | apply on_get (pc' := 12) rfl rfl fl_M_28 | apply on_getN (pc' := 12) rfl rfl fl_M_28
    · repeat (first | assumption | exact on_up_eq _ _ _ | refine (on_up_ne (by omega)).trans ?_)
    · rfl
    refine on_iload_n (pc' := 13) rfl rfl rfl rfl ?_
    apply on_aaloadK (pc' := 14) rfl rfl
    · repeat (first | assumption | exact on_up_eq _ _ _ | refine (on_up_ne (by omega)).trans ?_)
    · rfl
    · first | assumption | exact on_lit _ | rfl
    · first | assumption | omega | decide
    rw [rf_at hj]
    show on_E G M_M_state 14 _ [.ref (CA j)] h sz _ _ _
    first | apply on_get (pc' := 17) rfl rfl fl_M_489 | apply on_getN (pc' := 17) rfl rfl fl_M_489
    · repeat (first | assumption | exact on_up_eq _ _ _ | refine (on_up_ne (by omega)).trans ?_)
    · rfl
    refine on_goto (tgt := 21) rfl rfl ?_
    refine on_ireturn rfl rfl ?_
    exact ⟨rfl, rfl, rfl⟩
set_option maxHeartbeats 4000000 in
theorem c_M_hops (X : mX o sz RA CA a h) (V : n_V B a) : on_Ct G M_M_hops [.ref o, .int x] h sz 0 0 (fun v h1 z => v = some (.int (q_hops a x)) ∧ z = sz ∧ h1 = h) := by
  have o1 := X.1.ob.1
  have x5 := X.2.2.1.2.2.2.2
  have v6 := V.1.2.2
  refine on_Ct.of (by decide) v_M_hops (Nat.le_of_ble_eq_true rfl) ?_
  first | refine on_aload_n (pc' := 1) rfl rfl rfl rfl ?_ | refine on_aload_nQ (pc' := 1) rfl rfl rfl rfl ?_
  refine on_iload_n (pc' := 2) rfl rfl rfl rfl ?_
  refine on_callV (pc' := 5) (As := [.int x]) (rest := []) (b := o) rfl rfl cw_M_hops_520 (o1) rfl rfl (Nat.le_of_ble_eq_true rfl) (Nat.zero_le _) (Nat.zero_le _) (c_M_isCircuit o1) ?_
  rintro v h sz ⟨rfl, rfl, rfl⟩
  unfold q_hops
  cases e : p_i a.nc x with
  | none =>
    show on_E G M_M_hops 5 _ [.int 0] h sz _ _ _
    refine on_if_eq (pc' := 8) (tgt := 20) rfl rfl rfl (fun cq => ?_) (fun cq => ?_)
    · refine on_iconst (pc' := 21) (v := (-1)) rfl rfl li_m1 ?_
      refine on_ireturn rfl rfl ?_
      exact ⟨rfl, rfl, rfl⟩
    · exact absurd rfl cq
  | some j =>
    obtain ⟨hj, ej⟩ := p_i_some (by omega) e
    subst ej
    have i1 : j < 6 ∧ 6 < 2 ^ 31 := by omega
    have c0 := X.cob hj
    show on_E G M_M_hops 5 _ [.int 1] h sz _ _ _
    refine on_if_eq (pc' := 8) (tgt := 20) rfl rfl rfl (fun cq => ?_) (fun cq => ?_)
    · exact absurd cq (by decide)
    clear cq
    first | refine on_aload_n (pc' := 9) rfl rfl rfl rfl ?_ | refine on_aload_nQ (pc' := 9) rfl rfl rfl rfl ?_
    first | apply on_get (pc' := 12) rfl rfl fl_M_28 | apply on_getN (pc' := 12) rfl rfl fl_M_28
    · repeat (first | assumption | exact on_up_eq _ _ _ | refine (on_up_ne (by omega)).trans ?_)
    · rfl
    refine on_iload_n (pc' := 13) rfl rfl rfl rfl ?_
    apply on_aaloadK (pc' := 14) rfl rfl
    · repeat (first | assumption | exact on_up_eq _ _ _ | refine (on_up_ne (by omega)).trans ?_)
    · rfl
    · first | assumption | exact on_lit _ | rfl
    · first | assumption | omega | decide
    rw [rf_at hj]
    show on_E G M_M_hops 14 _ [.ref (CA j)] h sz _ _ _
    first | apply on_get (pc' := 17) rfl rfl fl_M_486 | apply on_getN (pc' := 17) rfl rfl fl_M_486
    · repeat (first | assumption | exact on_up_eq _ _ _ | refine (on_up_ne (by omega)).trans ?_)
    · rfl
    refine on_goto (tgt := 21) rfl rfl ?_
    refine on_ireturn rfl rfl ?_
    exact ⟨rfl, rfl, rfl⟩
set_option maxHeartbeats 4000000 in
theorem c_M_told (X : mX o sz RA CA a h) (V : n_V B a) : on_Ct G M_M_told [.ref o, .int x, .int y, .int w] h sz 0 0 (fun v h1 z => v = some (.int (q_told a x y w)) ∧ z = sz ∧ h1 = h) := by
  have o1 := X.1.ob.1
  have x5 := X.2.2.1.2.2.2.2
  have v6 := V.1.2.2
  refine on_Ct.of (by decide) v_M_told (Nat.le_of_ble_eq_true rfl) ?_
  first | refine on_aload_n (pc' := 1) rfl rfl rfl rfl ?_ | refine on_aload_nQ (pc' := 1) rfl rfl rfl rfl ?_
  refine on_iload_n (pc' := 2) rfl rfl rfl rfl ?_
  refine on_iload_n (pc' := 3) rfl rfl rfl rfl ?_
  refine on_callV (pc' := 6) (As := [.int x, .int y]) (rest := []) (b := o) rfl rfl cw_M_told_523 (o1) rfl rfl (Nat.le_of_ble_eq_true rfl) (Nat.zero_le _) (Nat.zero_le _) (c_M_isStream X V) ?_
  rintro v h sz ⟨rfl, rfl, rfl⟩
  cases e : q_st a x y with
  | none =>
    show on_E G M_M_told 6 _ [.int 0] h sz _ _ _
    refine on_if_ne (pc' := 9) (tgt := 11) rfl rfl rfl (fun cq => ?_) (fun cq => ?_)
    · exact absurd rfl cq
    · refine on_iconst (pc' := 10) (v := (-1)) rfl rfl li_m1 ?_
      refine on_ireturn rfl rfl ?_
      unfold q_told
      rw [e]
      exact ⟨rfl, rfl, rfl⟩
  | some p =>
    obtain ⟨j, s⟩ := p
    obtain ⟨ej, hj, hs, ey⟩ := q_st_some v6 X.len e
    have ex := (p_i_some (by omega) ej).2
    subst ex ey
    have i1 : j < 6 ∧ 6 < 2 ^ 31 := by omega
    have c0 := X.cob hj
    obtain ⟨IS, WI, CM, WT, WC, GT, GC, ⟨r1, r2, r3, r4, r5, r6, r7⟩, T⟩ := (X.2.2.2.2.2 j hj).1.2.2.2.2
    have l4 := T.1
    have i2 : s < 4 ∧ 4 < 2 ^ 31 := by omega
    have t1 := T.2.1 s hs
    have t2 := T.2.2 s i2.1
    have eq : q_told a (nI j) (nI (s + 1)) w = if w = 0 then nI ((a.c j).st.getD s t0).ph else if w = 1 then ((a.c j).st.getD s t0).wi else if w = 2 then nI ((a.c j).st.getD s t0).wa.length else if w = 3 then nI ((a.c j).st.getD s t0).go.length else -1 := by
      unfold q_told
      rw [e]
    rw [eq]
    show on_E G M_M_told 6 _ [.int 1] h sz _ _ _
    refine on_if_ne (pc' := 9) (tgt := 11) rfl rfl rfl (fun cq => ?_) (fun cq => ?_)
    rotate_left
    · exact absurd cq (by decide)
    clear cq
    first | refine on_aload_n (pc' := 12) rfl rfl rfl rfl ?_ | refine on_aload_nQ (pc' := 12) rfl rfl rfl rfl ?_
    first | apply on_get (pc' := 15) rfl rfl fl_M_28 | apply on_getN (pc' := 15) rfl rfl fl_M_28
    · repeat (first | assumption | exact on_up_eq _ _ _ | refine (on_up_ne (by omega)).trans ?_)
    · rfl
    refine on_iload_n (pc' := 16) rfl rfl rfl rfl ?_
    apply on_aaloadK (pc' := 17) rfl rfl
    · repeat (first | assumption | exact on_up_eq _ _ _ | refine (on_up_ne (by omega)).trans ?_)
    · rfl
    · first | assumption | exact on_lit _ | rfl
    · first | assumption | omega | decide
    rw [rf_at hj]
    show on_E G M_M_told 17 _ [.ref (CA j)] h sz _ _ _
    first | refine on_astore (pc' := 19) rfl rfl (by decide) ?_ | refine on_astoreQ (pc' := 19) rfl rfl (by decide) ?_
    refine on_iload_n (pc' := 20) rfl rfl rfl rfl ?_
    refine on_iconst (pc' := 21) (v := 1) rfl rfl li_1 ?_
    refine on_isub (pc' := 22) rfl rfl ?_
    rw [nI_pred]
    refine on_istore (pc' := 24) rfl rfl (by decide) ?_
    refine on_iload_n (pc' := 25) rfl rfl rfl rfl ?_
    refine on_if_ne (pc' := 28) (tgt := 39) rfl rfl rfl (fun cq => ?_) (fun cq => ?_)
    · have w0 := cq
      clear cq
      rw [if_neg w0]
      refine on_iload_n (pc' := 40) rfl rfl rfl rfl ?_
      refine on_iconst (pc' := 41) (v := 1) rfl rfl li_1 ?_
      refine on_icmp_ne (pc' := 44) (tgt := 55) rfl rfl rfl (fun cq => ?_) (fun cq => ?_)
      · have w1 := cq
        clear cq
        rw [if_neg w1]
        refine on_iload_n (pc' := 56) rfl rfl rfl rfl ?_
        refine on_iconst (pc' := 57) (v := 2) rfl rfl li_2 ?_
        refine on_icmp_ne (pc' := 60) (tgt := 71) rfl rfl rfl (fun cq => ?_) (fun cq => ?_)
        · have w2 := cq
          clear cq
          rw [if_neg w2]
          refine on_iload_n (pc' := 72) rfl rfl rfl rfl ?_
          refine on_iconst (pc' := 73) (v := 3) rfl rfl li_3 ?_
          refine on_icmp_ne (pc' := 76) (tgt := 87) rfl rfl rfl (fun cq => ?_) (fun cq => ?_)
          · have w3 := cq
            clear cq
            rw [if_neg w3]
            refine on_iconst (pc' := 88) (v := (-1)) rfl rfl li_m1 ?_
            refine on_ireturn rfl rfl ?_
            exact ⟨rfl, rfl, rfl⟩
          · rw [if_pos cq]
            first | refine on_aload (pc' := 78) rfl rfl rfl ?_ | refine on_aloadQ (pc' := 78) rfl rfl rfl ?_
            first | apply on_get (pc' := 81) rfl rfl fl_M_513 | apply on_getN (pc' := 81) rfl rfl fl_M_513
            · repeat (first | assumption | exact on_up_eq _ _ _ | refine (on_up_ne (by omega)).trans ?_)
            · rfl
            refine on_iload (pc' := 83) rfl rfl rfl ?_
            apply on_ialoadK (pc' := 84) (t := 0) rfl rfl
            · repeat (first | assumption | exact on_up_eq _ _ _ | refine (on_up_ne (by omega)).trans ?_)
            · rfl
            · first | assumption | exact on_lit _ | rfl
            · first | assumption | omega | decide
            refine on_goto (tgt := 88) rfl rfl ?_
            rw [t2.2.2.2.1]
            refine on_ireturn rfl rfl ?_
            exact ⟨rfl, rfl, rfl⟩
        · rw [if_pos cq]
          first | refine on_aload (pc' := 62) rfl rfl rfl ?_ | refine on_aloadQ (pc' := 62) rfl rfl rfl ?_
          first | apply on_get (pc' := 65) rfl rfl fl_M_527 | apply on_getN (pc' := 65) rfl rfl fl_M_527
          · repeat (first | assumption | exact on_up_eq _ _ _ | refine (on_up_ne (by omega)).trans ?_)
          · rfl
          refine on_iload (pc' := 67) rfl rfl rfl ?_
          apply on_ialoadK (pc' := 68) (t := 0) rfl rfl
          · repeat (first | assumption | exact on_up_eq _ _ _ | refine (on_up_ne (by omega)).trans ?_)
          · rfl
          · first | assumption | exact on_lit _ | rfl
          · first | assumption | omega | decide
          refine on_goto (tgt := 88) rfl rfl ?_
          rw [t2.2.1]
          refine on_ireturn rfl rfl ?_
          exact ⟨rfl, rfl, rfl⟩
      · rw [if_pos cq]
        first | refine on_aload (pc' := 46) rfl rfl rfl ?_ | refine on_aloadQ (pc' := 46) rfl rfl rfl ?_
        first | apply on_get (pc' := 49) rfl rfl fl_M_519 | apply on_getN (pc' := 49) rfl rfl fl_M_519
        · repeat (first | assumption | exact on_up_eq _ _ _ | refine (on_up_ne (by omega)).trans ?_)
        · rfl
        refine on_iload (pc' := 51) rfl rfl rfl ?_
        apply on_ialoadK (pc' := 52) (t := 0) rfl rfl
        · repeat (first | assumption | exact on_up_eq _ _ _ | refine (on_up_ne (by omega)).trans ?_)
        · rfl
        · first | assumption | exact on_lit _ | rfl
        · first | assumption | omega | decide
        refine on_goto (tgt := 88) rfl rfl ?_
        rw [t1.2.2]
        refine on_ireturn rfl rfl ?_
        exact ⟨rfl, rfl, rfl⟩
    · rw [if_pos cq]
      first | refine on_aload (pc' := 30) rfl rfl rfl ?_ | refine on_aloadQ (pc' := 30) rfl rfl rfl ?_
      first | apply on_get (pc' := 33) rfl rfl fl_M_493 | apply on_getN (pc' := 33) rfl rfl fl_M_493
      · repeat (first | assumption | exact on_up_eq _ _ _ | refine (on_up_ne (by omega)).trans ?_)
      · rfl
      refine on_iload (pc' := 35) rfl rfl rfl ?_
      apply on_ialoadK (pc' := 36) (t := 0) rfl rfl
      · repeat (first | assumption | exact on_up_eq _ _ _ | refine (on_up_ne (by omega)).trans ?_)
      · rfl
      · first | assumption | exact on_lit _ | rfl
      · first | assumption | omega | decide
      refine on_goto (tgt := 88) rfl rfl ?_
      rw [t1.1]
      refine on_ireturn rfl rfl ?_
      exact ⟨rfl, rfl, rfl⟩
set_option maxHeartbeats 4000000 in
theorem c_M_got (X : mX o sz RA CA a h) (V : n_V B a) : on_Ct G M_M_got [.ref o, .int x, .int y, .int i] h sz 0 0 (fun v h1 z => v = some (.int (q_got a x y i)) ∧ z = sz ∧ h1 = h) := by
  have o1 := X.1.ob.1
  have x5 := X.2.2.1.2.2.2.2
  have v6 := V.1.2.2
  have no : ∀ lv, q_got a x y i = -1 → on_E G M_M_got 30 lv [] h sz 0 0 (fun v h1 z => v = some (.int (q_got a x y i)) ∧ z = sz ∧ h1 = h) := fun lv e => by
    refine on_iconst (pc' := 31) (v := (-1)) rfl rfl li_m1 ?_
    refine on_goto (tgt := 53) rfl rfl ?_
    refine on_ireturn rfl rfl ?_
    rw [e]
    exact ⟨rfl, rfl, rfl⟩
  refine on_Ct.of (by decide) v_M_got (Nat.le_of_ble_eq_true rfl) ?_
  first | refine on_aload_n (pc' := 1) rfl rfl rfl rfl ?_ | refine on_aload_nQ (pc' := 1) rfl rfl rfl rfl ?_
  refine on_iload_n (pc' := 2) rfl rfl rfl rfl ?_
  refine on_iload_n (pc' := 3) rfl rfl rfl rfl ?_
  refine on_callV (pc' := 6) (As := [.int x, .int y]) (rest := []) (b := o) rfl rfl cw_M_got_523 (o1) rfl rfl (Nat.le_of_ble_eq_true rfl) (Nat.zero_le _) (Nat.zero_le _) (c_M_isStream X V) ?_
  rintro v h sz ⟨rfl, rfl, rfl⟩
  cases e : q_st a x y with
  | none =>
    show on_E G M_M_got 6 _ [.int 0] h sz _ _ _
    refine on_if_eq (pc' := 9) (tgt := 30) rfl rfl rfl (fun cq => ?_) (fun cq => ?_)
    · exact no _ (by unfold q_got; rw [e])
    · exact absurd rfl cq
  | some p =>
    obtain ⟨j, s⟩ := p
    obtain ⟨ej, hj, hs, ey⟩ := q_st_some v6 X.len e
    have ex := (p_i_some (by omega) ej).2
    subst ex ey
    have i1 : j < 6 ∧ 6 < 2 ^ 31 := by omega
    have c0 := X.cob hj
    obtain ⟨IS, WI, CM, WT, WC, GT, GC, ⟨r1, r2, r3, r4, r5, r6, r7⟩, T⟩ := (X.2.2.2.2.2 j hj).1.2.2.2.2
    have l4 := T.1
    have i2 : s < 4 ∧ 4 < 2 ^ 31 := by omega
    obtain ⟨-, -, -, g1, g2, -, g3⟩ := T.2.2 s i2.1
    have eq : q_got a (nI j) (nI (s + 1)) i = match p_i ((a.c j).st.getD s t0).go.length i with | none => -1 | some n => nI (((a.c j).st.getD s t0).go.getD n 0) := by
      unfold q_got
      rw [e]
      rfl
    show on_E G M_M_got 6 _ [.int 1] h sz _ _ _
    refine on_if_eq (pc' := 9) (tgt := 30) rfl rfl rfl (fun cq => ?_) (fun cq => ?_)
    · exact absurd cq (by decide)
    clear cq
    refine on_iload_n (pc' := 10) rfl rfl rfl rfl ?_
    refine on_if_lt (pc' := 13) (tgt := 30) rfl rfl rfl (fun cq => ?_) (fun cq => ?_)
    · refine no _ (eq.trans ?_)
      rw [show p_i ((a.c j).st.getD s t0).go.length i = none from if_neg (fun z => z.1 cq)]
    have x0 := cq
    clear cq
    refine on_iload_n (pc' := 14) rfl rfl rfl rfl ?_
    first | refine on_aload_n (pc' := 15) rfl rfl rfl rfl ?_ | refine on_aload_nQ (pc' := 15) rfl rfl rfl rfl ?_
    first | apply on_get (pc' := 18) rfl rfl fl_M_28 | apply on_getN (pc' := 18) rfl rfl fl_M_28
    · repeat (first | assumption | exact on_up_eq _ _ _ | refine (on_up_ne (by omega)).trans ?_)
    · rfl
    refine on_iload_n (pc' := 19) rfl rfl rfl rfl ?_
    apply on_aaloadK (pc' := 20) rfl rfl
    · repeat (first | assumption | exact on_up_eq _ _ _ | refine (on_up_ne (by omega)).trans ?_)
    · rfl
    · first | assumption | exact on_lit _ | rfl
    · first | assumption | omega | decide
    rw [rf_at hj]
    show on_E G M_M_got 20 _ [.ref (CA j), .int i] h sz _ _ _
    first | apply on_get (pc' := 23) rfl rfl fl_M_513 | apply on_getN (pc' := 23) rfl rfl fl_M_513
    · repeat (first | assumption | exact on_up_eq _ _ _ | refine (on_up_ne (by omega)).trans ?_)
    · rfl
    refine on_iload_n (pc' := 24) rfl rfl rfl rfl ?_
    refine on_iconst (pc' := 25) (v := 1) rfl rfl li_1 ?_
    refine on_isub (pc' := 26) rfl rfl ?_
    rw [nI_pred]
    apply on_ialoadK (pc' := 27) (t := 0) rfl rfl
    · repeat (first | assumption | exact on_up_eq _ _ _ | refine (on_up_ne (by omega)).trans ?_)
    · rfl
    · first | assumption | exact on_lit _ | rfl
    · first | assumption | omega | decide
    rw [g1]
    refine on_icmp_lt (pc' := 30) (tgt := 34) rfl rfl rfl (fun cq => ?_) (fun cq => ?_)
    rotate_left
    · refine no _ (eq.trans ?_)
      rw [show p_i ((a.c j).st.getD s t0).go.length i = none from if_neg (fun z => cq z.2)]
    have x1 := cq
    clear cq
    have ep : p_i ((a.c j).st.getD s t0).go.length i = some i.toNatClampNeg := if_pos ⟨x0, x1⟩
    obtain ⟨n, hn, en, -, ec, -⟩ := pk_mu (L := ((a.c j).st.getD s t0).go.length) x0 (Int32.not_le.mpr x1) (by omega)
    rw [ep, ec] at eq
    have eq : q_got a (nI j) (nI (s + 1)) i = nI (((a.c j).st.getD s t0).go.getD n 0) := eq
    subst en
    have i3 : 2000 * s + n < 8000 ∧ 8000 < 2 ^ 31 := by omega
    first | refine on_aload_n (pc' := 35) rfl rfl rfl rfl ?_ | refine on_aload_nQ (pc' := 35) rfl rfl rfl rfl ?_
    first | apply on_get (pc' := 38) rfl rfl fl_M_28 | apply on_getN (pc' := 38) rfl rfl fl_M_28
    · repeat (first | assumption | exact on_up_eq _ _ _ | refine (on_up_ne (by omega)).trans ?_)
    · rfl
    refine on_iload_n (pc' := 39) rfl rfl rfl rfl ?_
    apply on_aaloadK (pc' := 40) rfl rfl
    · repeat (first | assumption | exact on_up_eq _ _ _ | refine (on_up_ne (by omega)).trans ?_)
    · rfl
    · first | assumption | exact on_lit _ | rfl
    · first | assumption | omega | decide
    rw [rf_at hj]
    show on_E G M_M_got 40 _ [.ref (CA j)] h sz _ _ _
    first | apply on_get (pc' := 43) rfl rfl fl_M_516 | apply on_getN (pc' := 43) rfl rfl fl_M_516
    · repeat (first | assumption | exact on_up_eq _ _ _ | refine (on_up_ne (by omega)).trans ?_)
    · rfl
    refine on_sipush (pc' := 46) (v := 2000) rfl rfl ls_2000 ?_
    refine on_iload_n (pc' := 47) rfl rfl rfl rfl ?_
    refine on_iconst (pc' := 48) (v := 1) rfl rfl li_1 ?_
    refine on_isub (pc' := 49) rfl rfl ?_
    rw [nI_pred]
    refine on_imul (pc' := 50) rfl rfl ?_
    refine on_iload_n (pc' := 51) rfl rfl rfl rfl ?_
    refine on_iadd (pc' := 52) rfl rfl ?_
    rw [show (2000 : Int32) * nI s = nI (2000 * s) from pk_mul 2000 s, nI_add]
    apply on_ialoadK (pc' := 53) (t := 0) rfl rfl
    · repeat (first | assumption | exact on_up_eq _ _ _ | refine (on_up_ne (by omega)).trans ?_)
    · rfl
    · first | assumption | exact on_lit _ | rfl
    · first | assumption | omega | decide
    refine on_ireturn rfl rfl ?_
    rw [eq, (g3 n hn).1]
    exact ⟨rfl, rfl, rfl⟩
set_option maxHeartbeats 4000000 in
theorem c_M_kept (X : mX o sz RA CA a h) (V : n_V B a) : on_Ct G M_M_kept [.ref o, .int x, .int i] h sz 0 0 (fun v h1 z => v = some (.int (q_kept a x i)) ∧ z = sz ∧ h1 = h) := by
  have o1 := X.1.ob.1
  have x1 := X.2.2.1.1
  have v6 := V.1.1
  have no : ∀ lv, q_kept a x i = -1 → on_E G M_M_kept 25 lv [] h sz 0 0 (fun v h1 z => v = some (.int (q_kept a x i)) ∧ z = sz ∧ h1 = h) := fun lv e => by
    refine on_iconst (pc' := 26) (v := (-1)) rfl rfl li_m1 ?_
    refine on_goto (tgt := 40) rfl rfl ?_
    refine on_ireturn rfl rfl ?_
    rw [e]
    exact ⟨rfl, rfl, rfl⟩
  refine on_Ct.of (by decide) v_M_kept (Nat.le_of_ble_eq_true rfl) ?_
  first | refine on_aload_n (pc' := 1) rfl rfl rfl rfl ?_ | refine on_aload_nQ (pc' := 1) rfl rfl rfl rfl ?_
  refine on_iload_n (pc' := 2) rfl rfl rfl rfl ?_
  refine on_callV (pc' := 5) (As := [.int x]) (rest := []) (b := o) rfl rfl cw_M_kept_278 (o1) rfl rfl (Nat.le_of_ble_eq_true rfl) (Nat.zero_le _) (Nat.zero_le _) (c_M_isRelay o1) ?_
  rintro v h sz ⟨rfl, rfl, rfl⟩
  cases e : p_i a.nr x with
  | none =>
    show on_E G M_M_kept 5 _ [.int 0] h sz _ _ _
    refine on_if_eq (pc' := 8) (tgt := 25) rfl rfl rfl (fun cq => ?_) (fun cq => ?_)
    · exact no _ (by unfold q_kept; rw [e])
    · exact absurd rfl cq
  | some j =>
    obtain ⟨hj, ej⟩ := p_i_some (by omega) e
    subst ej
    have i1 : j < 6 ∧ 6 < 2 ^ 31 := by omega
    obtain ⟨n, ord, es, S, -⟩ := X.2.2.2.2.1 j hj
    have r0 : h (RA j) = some (.inr (15, [.long (a.r j).se, .int (a.r j).dr, .ref (RA j + 1), .ref (RA j + 2), .ref (RA j + 3), .int (nI (a.r j).we), .int (nI (a.r j).nx), .ref (RA j + 4), .int (nI n), .ref (RA j + 5), .int (nI (a.r j).ke.length)])) := S.1
    obtain ⟨⟨KE, ke1, ke2⟩, ke3⟩ := S.2.2.2.2.2
    have eq : q_kept a (nI j) i = match p_i (a.r j).ke.length i with | none => -1 | some n => nI ((a.r j).ke.getD n 0) := by
      unfold q_kept
      rw [e]
      rfl
    show on_E G M_M_kept 5 _ [.int 1] h sz _ _ _
    refine on_if_eq (pc' := 8) (tgt := 25) rfl rfl rfl (fun cq => ?_) (fun cq => ?_)
    · exact absurd cq (by decide)
    clear cq
    refine on_iload_n (pc' := 9) rfl rfl rfl rfl ?_
    refine on_if_lt (pc' := 12) (tgt := 25) rfl rfl rfl (fun cq => ?_) (fun cq => ?_)
    · refine no _ (eq.trans ?_)
      rw [show p_i (a.r j).ke.length i = none from if_neg (fun z => z.1 cq)]
    have x0 := cq
    clear cq
    refine on_iload_n (pc' := 13) rfl rfl rfl rfl ?_
    first | refine on_aload_n (pc' := 14) rfl rfl rfl rfl ?_ | refine on_aload_nQ (pc' := 14) rfl rfl rfl rfl ?_
    first | apply on_get (pc' := 17) rfl rfl fl_M_9 | apply on_getN (pc' := 17) rfl rfl fl_M_9
    · repeat (first | assumption | exact on_up_eq _ _ _ | refine (on_up_ne (by omega)).trans ?_)
    · rfl
    refine on_iload_n (pc' := 18) rfl rfl rfl rfl ?_
    apply on_aaloadK (pc' := 19) rfl rfl
    · repeat (first | assumption | exact on_up_eq _ _ _ | refine (on_up_ne (by omega)).trans ?_)
    · rfl
    · first | assumption | exact on_lit _ | rfl
    · first | assumption | omega | decide
    rw [rf_at hj]
    show on_E G M_M_kept 19 _ [.ref (RA j), .int i] h sz _ _ _
    first | apply on_get (pc' := 22) rfl rfl fl_M_453 | apply on_getN (pc' := 22) rfl rfl fl_M_453
    · repeat (first | assumption | exact on_up_eq _ _ _ | refine (on_up_ne (by omega)).trans ?_)
    · rfl
    refine on_icmp_lt (pc' := 25) (tgt := 29) rfl rfl rfl (fun cq => ?_) (fun cq => ?_)
    rotate_left
    · refine no _ (eq.trans ?_)
      rw [show p_i (a.r j).ke.length i = none from if_neg (fun z => cq z.2)]
    have x1' := cq
    clear cq
    have ep : p_i (a.r j).ke.length i = some i.toNatClampNeg := if_pos ⟨x0, x1'⟩
    obtain ⟨n', hn, en, -, ec, -⟩ := pk_mu (L := (a.r j).ke.length) x0 (Int32.not_le.mpr x1') (by omega)
    rw [ep, ec] at eq
    have eq : q_kept a (nI j) i = nI ((a.r j).ke.getD n' 0) := eq
    subst en
    have i2 : n' < 2000 ∧ 2000 < 2 ^ 31 := by omega
    first | refine on_aload_n (pc' := 30) rfl rfl rfl rfl ?_ | refine on_aload_nQ (pc' := 30) rfl rfl rfl rfl ?_
    first | apply on_get (pc' := 33) rfl rfl fl_M_9 | apply on_getN (pc' := 33) rfl rfl fl_M_9
    · repeat (first | assumption | exact on_up_eq _ _ _ | refine (on_up_ne (by omega)).trans ?_)
    · rfl
    refine on_iload_n (pc' := 34) rfl rfl rfl rfl ?_
    apply on_aaloadK (pc' := 35) rfl rfl
    · repeat (first | assumption | exact on_up_eq _ _ _ | refine (on_up_ne (by omega)).trans ?_)
    · rfl
    · first | assumption | exact on_lit _ | rfl
    · first | assumption | omega | decide
    rw [rf_at hj]
    show on_E G M_M_kept 35 _ [.ref (RA j)] h sz _ _ _
    first | apply on_get (pc' := 38) rfl rfl fl_M_456 | apply on_getN (pc' := 38) rfl rfl fl_M_456
    · repeat (first | assumption | exact on_up_eq _ _ _ | refine (on_up_ne (by omega)).trans ?_)
    · rfl
    refine on_iload_n (pc' := 39) rfl rfl rfl rfl ?_
    apply on_ialoadK (pc' := 40) (t := 0) rfl rfl
    · repeat (first | assumption | exact on_up_eq _ _ _ | refine (on_up_ne (by omega)).trans ?_)
    · rfl
    · first | assumption | exact on_lit _ | rfl
    · first | assumption | omega | decide
    refine on_ireturn rfl rfl ?_
    rw [eq, (ke2 n' hn).1]
    exact ⟨rfl, rfl, rfl⟩
theorem q_li_some (e : q_li a x y = true) : ∃ f t c l, f < 10 ∧ t < 10 ∧ x = nI f ∧ y = nI t ∧ q_lk a x y = some (10 * f + t) ∧ n_ex a.nr a.nk (10 * f + t) = true ∧ a.lk (10 * f + t) = c :: l := by
  unfold q_li at e
  cases z : q_lk a x y with
  | none => rw [z] at e; exact (nomatch e)
  | some j =>
    rw [z] at e
    have e := of_decide_eq_true e
    obtain ⟨f, t, f1, t1, ex, ey, rfl, ex2⟩ := q_lk_some z
    cases w : a.lk (10 * f + t) with
    | nil => rw [w] at e; exact absurd e (by decide)
    | cons c l => exact ⟨f, t, c, l, f1, t1, ex, ey, rfl, ex2, w⟩
theorem q_li_none (e : q_li a x y = false) : q_lk a x y = none ∨ ∃ j, q_lk a x y = some j ∧ a.lk j = [] := by
  unfold q_li at e
  cases z : q_lk a x y with
  | none => exact Or.inl rfl
  | some j =>
    rw [z] at e
    have e := of_decide_eq_false e
    refine Or.inr ⟨j, rfl, ?_⟩
    cases w : a.lk j with
    | nil => rfl
    | cons c l => rw [w] at e; exact absurd (Nat.succ_pos _) e
set_option maxHeartbeats 4000000 in
theorem c_M_deliver (X : mX o sz RA CA a h) (V : n_V B a) (hB : B + 700 < 2 ^ 28) : on_Ct G M_M_deliver [.ref o, .int x, .int y] h sz 0 0 (fun v h1 z => v = some (.int (q_deliver a x y).1) ∧ z = sz ∧ mX o sz RA CA (q_deliver a x y).2 h1 ∧ m_fr o a.nr a.nc RA CA h h1) := by
  have o1 := X.1.ob.1
  refine on_Ct.of (by decide) v_M_deliver (Nat.le_of_ble_eq_true rfl) ?_
  first | refine on_aload_n (pc' := 1) rfl rfl rfl rfl ?_ | refine on_aload_nQ (pc' := 1) rfl rfl rfl rfl ?_
  refine on_iload_n (pc' := 2) rfl rfl rfl rfl ?_
  refine on_iload_n (pc' := 3) rfl rfl rfl rfl ?_
  refine on_callV (pc' := 6) (As := [.int x, .int y]) (rest := []) (b := o) rfl rfl cw_M_deliver_546 (o1) rfl rfl (Nat.le_of_ble_eq_true rfl) (Nat.zero_le _) (Nat.zero_le _) (c_M_lies X V) ?_
  rintro v h sz ⟨rfl, rfl, rfl⟩
  cases e : q_li a x y with
  | false =>
    have eq : q_deliver a x y = (-1, a) := by
      unfold q_deliver
      rcases q_li_none e with z | ⟨j, z, w⟩
      · rw [z]
      · rw [z]
        show (match a.lk j with | [] => _ | c :: _ => _) = _
        rw [w]
    show on_E G M_M_deliver 6 _ [.int 0] h sz _ _ _
    refine on_if_eq (pc' := 9) (tgt := 18) rfl rfl rfl (fun cq => ?_) (fun cq => ?_)
    · refine on_iconst (pc' := 19) (v := (-1)) rfl rfl li_m1 ?_
      refine on_ireturn rfl rfl ?_
      rw [eq]
      exact ⟨rfl, rfl, X, m_fr.id⟩
    · exact absurd rfl cq
  | true =>
    obtain ⟨f, t, c, l, f1, t1, rfl, rfl, e1, e2, e3⟩ := q_li_some e
    have eq : q_deliver a (nI f) (nI t) = (nI (c 4), n_ho a f t) := by
      unfold q_deliver
      rw [e1]
      show (match a.lk (10 * f + t) with | [] => _ | c :: _ => _) = _
      rw [e3]
      show (nI (c 4), n_ho a ((10 * f + t) / 10) ((10 * f + t) % 10)) = _
      rw [show (10 * f + t) / 10 = f by omega, show (10 * f + t) % 10 = t by omega]
    show on_E G M_M_deliver 6 _ [.int 1] h sz _ _ _
    refine on_if_eq (pc' := 9) (tgt := 18) rfl rfl rfl (fun cq => ?_) (fun cq => ?_)
    · exact absurd cq (by decide)
    clear cq
    first | refine on_aload_n (pc' := 10) rfl rfl rfl rfl ?_ | refine on_aload_nQ (pc' := 10) rfl rfl rfl rfl ?_
    refine on_iload_n (pc' := 11) rfl rfl rfl rfl ?_
    refine on_iload_n (pc' := 12) rfl rfl rfl rfl ?_
    refine on_callV (pc' := 15) (As := [.int (nI f), .int (nI t)]) (rest := []) (b := o) rfl rfl cw_M_deliver_549 (o1) rfl rfl (Nat.le_of_ble_eq_true rfl) (Nat.zero_le _) (Nat.zero_le _) (c_M_hand X V hB t1 f1 e2 e3) ?_
    rintro v h1 sz ⟨rfl, rfl, X1, f1⟩
    refine on_goto (tgt := 19) rfl rfl ?_
    refine on_ireturn rfl rfl ?_
    rw [eq]
    exact ⟨rfl, rfl, X1, f1⟩
set_option maxHeartbeats 4000000 in
theorem c_M_drop (X : mX o sz RA CA a h) (V : n_V B a) : on_Ct G M_M_drop [.ref o, .int x, .int y] h sz 0 0 (fun v h1 z => v = some (.int (q_drop a x y).1) ∧ z = sz ∧ mX o sz RA CA (q_drop a x y).2 h1 ∧ m_fr o a.nr a.nc RA CA h h1) := by
  have o1 := X.1.ob.1
  refine on_Ct.of (by decide) v_M_drop (Nat.le_of_ble_eq_true rfl) ?_
  first | refine on_aload_n (pc' := 1) rfl rfl rfl rfl ?_ | refine on_aload_nQ (pc' := 1) rfl rfl rfl rfl ?_
  refine on_iload_n (pc' := 2) rfl rfl rfl rfl ?_
  refine on_iload_n (pc' := 3) rfl rfl rfl rfl ?_
  refine on_callV (pc' := 6) (As := [.int x, .int y]) (rest := []) (b := o) rfl rfl cw_M_drop_546 (o1) rfl rfl (Nat.le_of_ble_eq_true rfl) (Nat.zero_le _) (Nat.zero_le _) (c_M_lies X V) ?_
  rintro v h sz ⟨rfl, rfl, rfl⟩
  cases e : q_li a x y with
  | false =>
    have eq : q_drop a x y = (0, a) := by
      unfold q_drop
      rcases q_li_none e with z | ⟨j, z, w⟩
      · rw [z]
      · rw [z]
        show (match a.lk j with | [] => _ | _ :: _ => _) = _
        rw [w]
    show on_E G M_M_drop 6 _ [.int 0] h sz _ _ _
    refine on_if_ne (pc' := 9) (tgt := 11) rfl rfl rfl (fun cq => ?_) (fun cq => ?_)
    · exact absurd rfl cq
    · refine on_iconst (pc' := 10) (v := 0) rfl rfl li_0 ?_
      refine on_zreturn rfl rfl ?_ ?_
      · first | rfl | assumption
      rw [eq]
      exact ⟨rfl, rfl, X, m_fr.id⟩
  | true =>
    obtain ⟨f, t, c, l, f1, t1, rfl, rfl, e1, e2, e3⟩ := q_li_some e
    have eq : q_drop a (nI f) (nI t) = (1, n_lk a (fu a.lk (10 * f + t) l)) := by
      unfold q_drop
      rw [e1]
      show (match a.lk (10 * f + t) with | [] => _ | _ :: _ => _) = _
      rw [e3]
    show on_E G M_M_drop 6 _ [.int 1] h sz _ _ _
    refine on_if_ne (pc' := 9) (tgt := 11) rfl rfl rfl (fun cq => ?_) (fun cq => ?_)
    rotate_left
    · exact absurd cq (by decide)
    clear cq
    first | refine on_aload_n (pc' := 12) rfl rfl rfl rfl ?_ | refine on_aload_nQ (pc' := 12) rfl rfl rfl rfl ?_
    refine on_iload_n (pc' := 13) rfl rfl rfl rfl ?_
    refine on_iload_n (pc' := 14) rfl rfl rfl rfl ?_
    refine on_callV (pc' := 17) (As := [.int (nI f), .int (nI t)]) (rest := []) (b := o) rfl rfl cw_M_drop_533 (o1) rfl rfl (Nat.le_of_ble_eq_true rfl) (Nat.zero_le _) (Nat.zero_le _) (c_M_takeFirst o1 X.2.1 f1 t1 X.1.ce e3) ?_
    rintro v h1 sz ⟨rfl, rfl, Q1, L1, t1'⟩
    refine on_iconst (pc' := 18) (v := 1) rfl rfl li_1 ?_
    refine on_zreturn rfl rfl ?_ ?_
    · first | rfl | assumption
    have W1 : mw o (nI a.nr, nI a.nk, nI a.nc) h1 := (X.1.row (q := o + 24) (h1 := fun b => if b = o + 6 ∨ b = o + 7 then h b else h1 b) (fun _ _ => by
        obtain ⟨f, hf, -⟩ := Q1
        refine ⟨f, ?_⟩
        dsimp only
        rw [if_neg (by omega), show o + 24 - o = 24 by omega]
        exact hf) (by omega) (fun b hb => by
        split
        · rfl
        · next w => exact t1' b (fun z => w (Or.inl z)) (fun z => w (Or.inr z)) hb)).keep (fun b _ _ hb => by
        rw [if_neg (by omega)])
    obtain ⟨X1, g1⟩ := X.wk W1 L1 (fun b hb => t1' b (by omega) (by omega) (by omega))
    rw [eq]
    exact ⟨rfl, rfl, X1, g1⟩
set_option maxHeartbeats 4000000 in
theorem c_M_alter (X : mX o sz RA CA a h) (V : n_V B a) : on_Ct G M_M_alter [.ref o, .int x, .int y, .int i, .int m] h sz 0 0 (fun v h1 z => v = some (.int (q_alter a x y i m).1) ∧ z = sz ∧ mX o sz RA CA (q_alter a x y i m).2 h1 ∧ m_fr o a.nr a.nc RA CA h h1) := by
  have o1 := X.1.ob.1
  obtain ⟨C, Y, k1, k2, k3⟩ := id X.2.1
  have no : ∀ lv, q_alter a x y i m = (0, a) → on_E G M_M_alter 34 lv [] h sz 0 0 (fun v h1 z => v = some (.int (q_alter a x y i m).1) ∧ z = sz ∧ mX o sz RA CA (q_alter a x y i m).2 h1 ∧ m_fr o a.nr a.nc RA CA h h1) := fun lv e => by
    refine on_iconst (pc' := 35) (v := 0) rfl rfl li_0 ?_
    refine on_zreturn rfl rfl ?_ ?_
    · first | rfl | assumption
    rw [e]
    exact ⟨rfl, rfl, X, m_fr.id⟩
  refine on_Ct.of (by decide) v_M_alter (Nat.le_of_ble_eq_true rfl) ?_
  first | refine on_aload_n (pc' := 1) rfl rfl rfl rfl ?_ | refine on_aload_nQ (pc' := 1) rfl rfl rfl rfl ?_
  refine on_iload_n (pc' := 2) rfl rfl rfl rfl ?_
  refine on_iload_n (pc' := 3) rfl rfl rfl rfl ?_
  refine on_callV (pc' := 6) (As := [.int x, .int y]) (rest := []) (b := o) rfl rfl cw_M_alter_546 (o1) rfl rfl (Nat.le_of_ble_eq_true rfl) (Nat.zero_le _) (Nat.zero_le _) (c_M_lies X V) ?_
  rintro v h sz ⟨rfl, rfl, rfl⟩
  cases e : q_li a x y with
  | false =>
    have eq : q_alter a x y i m = (0, a) := by
      unfold q_alter
      rcases q_li_none e with z | ⟨j, z, w⟩
      · rw [z]
      · rw [z]
        show (match a.lk j with | [] => _ | _ :: _ => _) = _
        rw [w]
    show on_E G M_M_alter 6 _ [.int 0] h sz _ _ _
    refine on_if_eq (pc' := 9) (tgt := 34) rfl rfl rfl (fun cq => ?_) (fun cq => ?_)
    · exact no _ eq
    · exact absurd rfl cq
  | true =>
    obtain ⟨f, t, c, l, f1, t1, rfl, rfl, e1, e2, e3⟩ := q_li_some e
    have eq : q_alter a (nI f) (nI t) i m = match p_i 140 i with
        | none => (0, a)
        | some n => match p_s 255 m with
          | none => (0, a)
          | some k => (1, n_lk a (fu a.lk (10 * f + t) ((fun i => if i = n then c i ^^^ (k + 1) else c i) :: l))) := by
      unfold q_alter
      rw [e1]
      show (match a.lk (10 * f + t) with | [] => _ | c :: l => _) = _
      rw [e3]
      rfl
    show on_E G M_M_alter 6 _ [.int 1] h sz _ _ _
    refine on_if_eq (pc' := 9) (tgt := 34) rfl rfl rfl (fun cq => ?_) (fun cq => ?_)
    · exact absurd cq (by decide)
    clear cq
    refine on_iload_n (pc' := 10) rfl rfl rfl rfl ?_
    refine on_if_lt (pc' := 13) (tgt := 34) rfl rfl rfl (fun cq => ?_) (fun cq => ?_)
    · exact no _ (eq.trans (by rw [show p_i 140 i = none from if_neg (fun z => z.1 cq)]))
    have x0 := cq
    clear cq
    refine on_iload_n (pc' := 14) rfl rfl rfl rfl ?_
    refine on_sipush (pc' := 17) (v := 140) rfl rfl ls_140 ?_
    refine on_icmp_ge (pc' := 20) (tgt := 34) rfl rfl rfl (fun cq => ?_) (fun cq => ?_)
    · exact no _ (eq.trans (by rw [show p_i 140 i = none from if_neg (fun z => Int32.not_le.mpr z.2 cq)]))
    have x1 : i < nI 140 := Int32.not_le.mp cq
    clear cq
    obtain ⟨n, hn, en, -, ec, -⟩ := pk_mu (L := 140) x0 (Int32.not_le.mpr x1) (by decide)
    rw [show p_i 140 i = some i.toNatClampNeg from if_pos ⟨x0, x1⟩, ec] at eq
    have eq : q_alter a (nI f) (nI t) i m = match p_s 255 m with
        | none => (0, a)
        | some k => (1, n_lk a (fu a.lk (10 * f + t) ((fun i => if i = n then c i ^^^ (k + 1) else c i) :: l))) := eq
    refine on_iload (pc' := 22) rfl rfl rfl ?_
    refine on_iconst (pc' := 23) (v := 1) rfl rfl li_1 ?_
    refine on_icmp_lt (pc' := 26) (tgt := 34) rfl rfl rfl (fun cq => ?_) (fun cq => ?_)
    · exact no _ (eq.trans (by rw [show p_s 255 m = none from if_neg (fun z => z.1 cq)]))
    have m0 := cq
    clear cq
    refine on_iload (pc' := 28) rfl rfl rfl ?_
    refine on_sipush (pc' := 31) (v := 255) rfl rfl ls_255 ?_
    refine on_icmp_le (pc' := 34) (tgt := 36) rfl rfl rfl (fun cq => ?_) (fun cq => ?_)
    rotate_left
    · exact no _ (eq.trans (by rw [show p_s 255 m = none from if_neg (fun z => cq z.2)]))
    have m1 : m ≤ nI 255 := cq
    clear cq
    have ps : p_s 255 m = some (m.toNatClampNeg - 1) := if_pos ⟨m0, m1⟩
    obtain ⟨g1, g2⟩ := p_s_some (by decide) ps
    generalize m.toNatClampNeg - 1 = k at *
    rw [ps] at eq
    have eq : q_alter a (nI f) (nI t) i m = (1, n_lk a (fu a.lk (10 * f + t) ((fun i => if i = n then c i ^^^ (k + 1) else c i) :: l))) := eq
    subst en g2
    have i1 : 1120 * (10 * f + t) + n < 112000 ∧ 112000 < 2 ^ 31 := by omega
    obtain ⟨y1, y2, y3⟩ := k3 (10 * f + t) (by omega)
    have y0 := y3 0 (by rw [e3]; exact Nat.succ_pos _) n hn
    rw [e3] at y0
    have y0 : C (140 * (8 * (10 * f + t) + 0) + n) = nI (c n) ∧ c n < 256 := y0
    rw [show 140 * (8 * (10 * f + t) + 0) + n = 1120 * (10 * f + t) + n by omega] at y0
    first | refine on_aload_n (pc' := 37) rfl rfl rfl rfl ?_ | refine on_aload_nQ (pc' := 37) rfl rfl rfl rfl ?_
    first | apply on_get (pc' := 40) rfl rfl fl_M_33 | apply on_getN (pc' := 40) rfl rfl fl_M_33
    · repeat (first | assumption | exact on_up_eq _ _ _ | refine (on_up_ne (by omega)).trans ?_)
    · rfl
    refine on_sipush (pc' := 43) (v := 1120) rfl rfl ls_1120 ?_
    refine on_bipush (pc' := 45) (v := 10) rfl rfl lb_10 ?_
    refine on_iload_n (pc' := 46) rfl rfl rfl rfl ?_
    refine on_imul (pc' := 47) rfl rfl ?_
    refine on_iload_n (pc' := 48) rfl rfl rfl rfl ?_
    refine on_iadd (pc' := 49) rfl rfl ?_
    refine on_imul (pc' := 50) rfl rfl ?_
    refine on_iload_n (pc' := 51) rfl rfl rfl rfl ?_
    refine on_iadd (pc' := 52) rfl rfl ?_
    rw [show (1120 : Int32) * (10 * nI f + nI t) + nI n = nI (1120 * (10 * f + t) + n) by
      rw [show (1120 : Int32) = nI 1120 from rfl, show (10 : Int32) = nI 10 from rfl, pk_mul, nI_add, pk_mul, nI_add]]
    first | refine on_dup2_11 (pc' := 53) rfl rfl rfl rfl ?_ | refine on_dup2_2 (pc' := 53) rfl rfl rfl ?_
    apply on_ialoadK (pc' := 54) (t := 0) rfl rfl
    · repeat (first | assumption | exact on_up_eq _ _ _ | refine (on_up_ne (by omega)).trans ?_)
    · rfl
    · first | assumption | exact on_lit _ | rfl
    · first | assumption | omega | decide
    rw [y0.1]
    refine on_iload (pc' := 56) rfl rfl rfl ?_
    refine on_ixor (pc' := 57) rfl rfl ?_
    rw [nI_xor]
    apply on_iastoreK (pc' := 58) (t := 0) rfl rfl
    · repeat (first | assumption | exact on_up_eq _ _ _ | refine (on_up_ne (by omega)).trans ?_)
    · rfl
    · first | assumption | exact on_lit _ | rfl
    · first | assumption | omega | decide
    refine on_iconst (pc' := 59) (v := 1) rfl rfl li_1 ?_
    refine on_zreturn rfl rfl ?_ ?_
    · first | rfl | assumption
    have xl : c n ^^^ (k + 1) < 256 := Nat.xor_lt_two_pow (n := 8) y0.2 (by omega)
    have t2 : ∀ b, b ≠ o + 6 → on_up h (o + 6) (on_ai 0 112000 (upd C (1120 * (10 * f + t) + n) (nI (c n ^^^ (k + 1))))) b = h b := fun b hb => on_up_ne hb
    have L2 : mk_L o (fu a.lk (10 * f + t) ((fun i => if i = n then c i ^^^ (k + 1) else c i) :: l)) (on_up h (o + 6) (on_ai 0 112000 (upd C (1120 * (10 * f + t) + n) (nI (c n ^^^ (k + 1)))))) := by
      refine ⟨_, Y, on_up_eq _ _ _, (t2 _ (by omega)).trans k2, fun j hj => ?_⟩
      by_cases z : j = 10 * f + t
      · subst z
        rw [fu_s]
        have len : ((fun i => if i = n then c i ^^^ (k + 1) else c i) :: l).length = (a.lk (10 * f + t)).length := by rw [e3]; rfl
        rw [len]
        refine ⟨y1, y2, fun q hq p hp => ?_⟩
        have yy := y3 q hq p hp
        rw [e3] at yy
        match q, yy with
        | 0, yy =>
          show upd C (1120 * (10 * f + t) + n) (nI (c n ^^^ (k + 1))) (140 * (8 * (10 * f + t) + 0) + p) = nI (if p = n then c p ^^^ (k + 1) else c p) ∧ (if p = n then c p ^^^ (k + 1) else c p) < 256
          by_cases w : p = n
          · rw [w, if_pos rfl, show 140 * (8 * (10 * f + t) + 0) + n = 1120 * (10 * f + t) + n by omega, pk_us]
            exact ⟨rfl, xl⟩
          · rw [if_neg w, pk_un (by omega)]
            exact yy
        | q + 1, yy =>
          rw [pk_un (by omega)]
          exact yy
      · obtain ⟨z1, z2, z3⟩ := k3 j hj
        rw [fu_n z]
        refine ⟨z1, z2, fun q hq p hp => ?_⟩
        rw [pk_un (by omega)]
        exact z3 q hq p hp
    obtain ⟨X1, g1'⟩ := X.wk (X.1.keep (fun b _ _ hb => t2 b (by omega))) L2 (fun b hb => t2 b (by omega))
    rw [eq]
    exact ⟨rfl, rfl, X1, g1'⟩
end MG2
