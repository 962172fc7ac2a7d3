/-! the reference's calls on circuits: stream, push -/
section MPU
variable {G : on_G} {o sz B nc bc bs : Nat} {RA CA : Nat → Nat} {a : aN} {h h1 : on_H} {x y w : Int32} {Q : Option Value → on_H → Nat → Prop} {c cl nr i : Nat} {x3 : Int32 × Int32 × Int32} {F : Nat → Option Nat} {rs : Nat → aR} {SD : Nat → Int64} {D0 : Nat → Int32} {lk : Nat → List aB} {q : aC} {k : aK}
/-- a new stream -/
theorem mC.snw {IS WI : Nat → Int32} (K : mC o c cl nr x3 F rs SD D0 lk q k h) (hl : q.st.length < 4) (hr : h (c + 4) = some (on_ai 0 4 IS)) (hr2 : h (c + 5) = some (on_ai 0 4 WI)) (e : h1 = on_up (on_up (on_up h (c + 4) (on_ai 0 4 (upd IS q.st.length 0))) (c + 5) (on_ai 0 4 (upd WI q.st.length 4))) c (.inr (16, [.int (nI (8 + q.cl)), .int (nI q.nu), .ref (c + 1), .int (nI q.pa.length), .int (nI q.hp), .int (nI q.ph), .ref (c + 2), .ref (c + 3), .int (nI (q.st.length + 1)), .ref (c + 4), .ref (c + 5), .ref (c + 6), .ref (c + 7), .ref (c + 8), .ref (c + 9), .ref (c + 10)]))) : mC o c cl nr x3 F rs SD D0 lk (c_st q (q.st ++ [t_nw])) k h1 ∧ mf_C o c h h1 := by
  have len : (q.st ++ [t_nw]).length = q.st.length + 1 := List.length_append
  obtain ⟨W, KL, C, k4, k5, k6, k7, k8, k9, k10, k11⟩ := id K
  obtain ⟨IS', WI', CA, WT, WC, GT, GC, ⟨r1, r2, r3, r4, r5, r6, r7⟩, T⟩ := id C.2.2.2.2
  cases hr.symm.trans r1
  cases hr2.symm.trans r2
  have t : ∀ b, b ≠ c + 4 → b ≠ c + 5 → b ≠ c → h1 b = h b := fun b b1 b2 b3 => by rw [e, on_up_ne b3, on_up_ne b2, on_up_ne b1]
  have e0 : h1 c = some (.inr (16, [.int (nI (8 + q.cl)), .int (nI q.nu), .ref (c + 1), .int (nI q.pa.length), .int (nI q.hp), .int (nI q.ph), .ref (c + 2), .ref (c + 3), .int (nI (q.st ++ [t_nw]).length), .ref (c + 4), .ref (c + 5), .ref (c + 6), .ref (c + 7), .ref (c + 8), .ref (c + 9), .ref (c + 10)])) := by
    rw [e, len]
    exact on_up_eq _ _ _
  have e4 : h1 (c + 4) = some (on_ai 0 4 (upd IS q.st.length 0)) := by rw [e, on_up_ne (by omega), on_up_ne (by omega)]; exact on_up_eq _ _ _
  have e5 : h1 (c + 5) = some (on_ai 0 4 (upd WI q.st.length 4)) := by rw [e, on_up_ne (by omega)]; exact on_up_eq _ _ _
  refine K.chg (h1 := h1) (lk2 := lk) (q2 := c_st q (q.st ++ [t_nw])) (k2 := k) (W.keep (fun b _ _ _ => t b (by omega) (by omega) (by omega))) (KL.keep (t _ (by omega) (by omega) (by omega)) (t _ (by omega) (by omega) (by omega))) ⟨e0, C.2.1.keep (t _ (by omega) (by omega) (by omega)), C.2.2.1.keep k11 (t _ (by omega) (by omega) (by omega)) (fun b _ _ => t b (by omega) (by omega) (by omega)), C.2.2.2.1.keep (t _ (by omega) (by omega) (by omega)), ⟨upd IS q.st.length 0, upd WI q.st.length 4, CA, WT, WC, GT, GC, ⟨e4, e5, (t _ (by omega) (by omega) (by omega)).trans r3, (t _ (by omega) (by omega) (by omega)).trans r4, (t _ (by omega) (by omega) (by omega)).trans r5, (t _ (by omega) (by omega) (by omega)).trans r6, (t _ (by omega) (by omega) (by omega)).trans r7⟩, ?_⟩⟩ ((t _ (by omega) (by omega) (by omega)).trans k8) rfl rfl k11 (fun b b1 b2 => t b (by omega) (by omega) (by omega))
  show mq_T (q.st ++ [t_nw]) _ _ _ _ _ _ _
  obtain ⟨l4, ta, tb⟩ := T
  refine ⟨by rw [len]; omega, fun j hj => ?_, fun j hj => ?_⟩
  · rw [len] at hj
    rw [getD_snoc]
    by_cases z : j = q.st.length
    · rw [z, pk_us, pk_us, if_neg (Nat.lt_irrefl _), if_pos rfl]
      exact ⟨rfl, by decide, rfl⟩
    · rw [pk_un z, pk_un z, if_pos (by omega)]
      exact ta j (by omega)
  · have := tb j hj
    rw [getD_snoc]
    by_cases w : j < q.st.length
    · rw [if_pos w]
      exact this
    · have d : q.st.getD j t0 = t0 := by rw [List.getD_eq_getElem?_getD, List.getElem?_eq_none (by omega)]; rfl
      rw [d] at this
      rw [if_neg w]
      by_cases z : j = q.st.length
      · rw [if_pos z]
        exact this
      · rw [if_neg z]
        exact this
set_option maxHeartbeats 8000000 in
theorem c_M_stream (X : mX o sz RA CA a h) (V : n_V B a) (hB : B + 700 < 2 ^ 28) : on_Ct G M_M_stream [.ref o, .int x, .int y] h sz 0 0 (fun v h1 z => v = some (.int (q_stream a x y).1) ∧ z = sz ∧ mX o sz RA CA (q_stream a x y).2 h1 ∧ m_fr o a.nr a.nc RA CA h h1) := by
  have o1 := X.1.ob.1
  have x5 := X.2.2.1.2.2.2.2
  have v6 := V.1.2.2
  have no : ∀ lv, q_stream a x y = (-1, a) → on_E G M_M_stream 45 lv [] h sz 0 0 (fun v h1 z => v = some (.int (q_stream a x y).1) ∧ z = sz ∧ mX o sz RA CA (q_stream a x y).2 h1 ∧ m_fr o a.nr a.nc RA CA h h1) := fun lv e => by
    refine on_iconst (pc' := 46) (v := (-1)) rfl rfl li_m1 ?_
    refine on_ireturn rfl rfl ?_
    rw [e]
    exact ⟨rfl, rfl, X, m_fr.id⟩
  refine on_Ct.of (by decide) v_M_stream (Nat.le_of_ble_eq_true rfl) ?_
  first | refine on_aload_n (pc' := 1) rfl rfl rfl rfl ?_ | refine on_aload_nQ (pc' := 1) rfl rfl rfl rfl ?_
  refine on_iload_n (pc' := 2) rfl rfl rfl rfl ?_
  refine on_callV (pc' := 5) (As := [.int x]) (rest := []) (b := o) rfl rfl cw_M_stream_520 (o1) rfl rfl (Nat.le_of_ble_eq_true rfl) (Nat.zero_le _) (Nat.zero_le _) (c_M_isCircuit o1) ?_
  rintro v h sz ⟨rfl, rfl, rfl⟩
  cases e : p_i a.nc x with
  | none =>
    show on_E G M_M_stream 5 _ [.int 0] h sz _ _ _
    refine on_if_eq (pc' := 8) (tgt := 45) rfl rfl rfl (fun cq => ?_) (fun cq => ?_)
    · exact no _ (by unfold q_stream; rw [e])
    · exact absurd rfl cq
  | some j =>
    obtain ⟨hj, ej⟩ := p_i_some (by omega) e
    subst ej
    have i1 : j < 6 ∧ 6 < 2 ^ 31 := by omega
    have c0 := X.cob hj
    have CK := (V.2.2.2.1 j hj).1
    have l4 := X.len j hj
    have ph2 := CK.2.2.2.2.1
    have eq : q_stream a (nI j) y = match p_i 256 y with
        | none => (-1, a)
        | some port => if (a.c j).ph = 1 ∧ (a.c j).st.length < 4 then (nI ((a.c j).st.length + 1), n_fo a j (c_st (a.c j) ((a.c j).st ++ [t_nw])) 1 ((a.c j).st.length + 1) 1 (fun _ => port)) else (-1, a) := by
      unfold q_stream
      rw [e]
      rfl
    have bad : ¬ ((a.c j).ph = 1 ∧ (a.c j).st.length < 4) → q_stream a (nI j) y = (-1, a) := fun z => by
      rw [eq]
      cases p_i 256 y with
      | none => rfl
      | some p => exact if_neg z
    show on_E G M_M_stream 5 _ [.int 1] h sz _ _ _
    refine on_if_eq (pc' := 8) (tgt := 45) rfl rfl rfl (fun cq => ?_) (fun cq => ?_)
    · exact absurd cq (by decide)
    clear cq
    first | refine on_aload_n (pc' := 9) rfl rfl rfl rfl ?_ | refine on_aload_nQ (pc' := 9) rfl rfl rfl rfl ?_
    first | apply on_get (pc' := 12) rfl rfl fl_M_28 | apply on_getN (pc' := 12) rfl rfl fl_M_28
    · repeat (first | assumption | exact on_up_eq _ _ _ | refine (on_up_ne (by omega)).trans ?_)
    · rfl
    refine on_iload_n (pc' := 13) rfl rfl rfl rfl ?_
    apply on_aaloadK (pc' := 14) rfl rfl
    · repeat (first | assumption | exact on_up_eq _ _ _ | refine (on_up_ne (by omega)).trans ?_)
    · rfl
    · first | assumption | exact on_lit _ | rfl
    · first | assumption | omega | decide
    rw [rf_at hj]
    show on_E G M_M_stream 14 _ [.ref (CA j)] h sz _ _ _
    first | apply on_get (pc' := 17) rfl rfl fl_M_489 | apply on_getN (pc' := 17) rfl rfl fl_M_489
    · repeat (first | assumption | exact on_up_eq _ _ _ | refine (on_up_ne (by omega)).trans ?_)
    · rfl
    refine on_iconst (pc' := 18) (v := 1) rfl rfl li_1 ?_
    refine on_icmp_ne (pc' := 21) (tgt := 45) rfl rfl rfl (fun cq => ?_) (fun cq => ?_)
    · exact no _ (bad (fun z => cq (by rw [z.1]; rfl)))
    have p1 : (a.c j).ph = 1 := (nI_eq (b := 1) (by omega) (by decide)).mp cq
    clear cq
    first | refine on_aload_n (pc' := 22) rfl rfl rfl rfl ?_ | refine on_aload_nQ (pc' := 22) rfl rfl rfl rfl ?_
    first | apply on_get (pc' := 25) rfl rfl fl_M_28 | apply on_getN (pc' := 25) rfl rfl fl_M_28
    · repeat (first | assumption | exact on_up_eq _ _ _ | refine (on_up_ne (by omega)).trans ?_)
    · rfl
    refine on_iload_n (pc' := 26) rfl rfl rfl rfl ?_
    apply on_aaloadK (pc' := 27) rfl rfl
    · repeat (first | assumption | exact on_up_eq _ _ _ | refine (on_up_ne (by omega)).trans ?_)
    · rfl
    · first | assumption | exact on_lit _ | rfl
    · first | assumption | omega | decide
    rw [rf_at hj]
    show on_E G M_M_stream 27 _ [.ref (CA j)] h sz _ _ _
    first | apply on_get (pc' := 30) rfl rfl fl_M_492 | apply on_getN (pc' := 30) rfl rfl fl_M_492
    · repeat (first | assumption | exact on_up_eq _ _ _ | refine (on_up_ne (by omega)).trans ?_)
    · rfl
    refine on_iconst (pc' := 31) (v := 4) rfl rfl li_4 ?_
    refine on_icmp_eq (pc' := 34) (tgt := 45) rfl rfl rfl (fun cq => ?_) (fun cq => ?_)
    · have : (a.c j).st.length = 4 := (nI_eq (b := 4) (by omega) (by decide)).mp cq
      exact no _ (bad (fun z => by omega))
    have lt4 : (a.c j).st.length < 4 := by
      rcases Nat.lt_or_ge (a.c j).st.length 4 with z | z
      · exact z
      · exact absurd (show nI (a.c j).st.length = 4 by rw [show (a.c j).st.length = 4 by omega]; rfl) cq
    clear cq
    refine on_iload_n (pc' := 35) rfl rfl rfl rfl ?_
    refine on_if_lt (pc' := 38) (tgt := 45) rfl rfl rfl (fun cq => ?_) (fun cq => ?_)
    · exact no _ (eq.trans (by rw [show p_i 256 y = none from if_neg (fun z => z.1 cq)]))
    have x0 := cq
    clear cq
    refine on_iload_n (pc' := 39) rfl rfl rfl rfl ?_
    refine on_sipush (pc' := 42) (v := 255) rfl rfl ls_255 ?_
    refine on_icmp_le (pc' := 45) (tgt := 47) rfl rfl rfl (fun cq => ?_) (fun cq => ?_)
    rotate_left
    · exact no _ (eq.trans (by rw [show p_i 256 y = none from if_neg (fun z => cq ((p_i_lt1 (n := 255) (by decide) x0).mp z.2))]))
    have x1 : y < nI 256 := (p_i_lt1 (n := 255) (by decide) x0).mpr cq
    clear cq
    obtain ⟨n, hn, en, -, ec, -⟩ := pk_mu (L := 256) x0 (Int32.not_le.mpr x1) (by decide)
    rw [show p_i 256 y = some y.toNatClampNeg from if_pos ⟨x0, x1⟩, ec] at eq
    have eq : q_stream a (nI j) y = if (a.c j).ph = 1 ∧ (a.c j).st.length < 4 then (nI ((a.c j).st.length + 1), n_fo a j (c_st (a.c j) ((a.c j).st ++ [t_nw])) 1 ((a.c j).st.length + 1) 1 (fun _ => n)) else (-1, a) := eq
    rw [if_pos ⟨p1, lt4⟩] at eq
    subst en
    obtain ⟨SD, DR, KC, hD, hS⟩ := X.toC hj CK.1 V.1.2.1
    obtain ⟨IS, WI, CM, WT, WC, GT, GC, ⟨r1, r2, r3, r4, r5, r6, r7⟩, T⟩ := KC.2.2.1.2.2.2.2
    have k4 := KC.2.2.2.1
    have i2 : (a.c j).st.length < 4 ∧ 4 < 2 ^ 31 := ⟨lt4, by decide⟩
    first | refine on_aload_n (pc' := 48) rfl rfl rfl rfl ?_ | refine on_aload_nQ (pc' := 48) rfl rfl rfl rfl ?_
    first | apply on_get (pc' := 51) rfl rfl fl_M_28 | apply on_getN (pc' := 51) rfl rfl fl_M_28
    · repeat (first | assumption | exact on_up_eq _ _ _ | refine (on_up_ne (by omega)).trans ?_)
    · rfl
    refine on_iload_n (pc' := 52) rfl rfl rfl rfl ?_
    apply on_aaloadK (pc' := 53) rfl rfl
    · repeat (first | assumption | exact on_up_eq _ _ _ | refine (on_up_ne (by omega)).trans ?_)
    · rfl
    · first | assumption | exact on_lit _ | rfl
    · first | assumption | omega | decide
    rw [rf_at hj]
    show on_E G M_M_stream 53 _ [.ref (CA j)] h sz _ _ _
    first | refine on_astore_n (pc' := 54) rfl rfl rfl (by decide) ?_ | refine on_astore_nQ (pc' := 54) rfl rfl rfl (by decide) ?_
    first | refine on_aload_n (pc' := 55) rfl rfl rfl rfl ?_ | refine on_aload_nQ (pc' := 55) rfl rfl rfl rfl ?_
    first | apply on_get (pc' := 58) rfl rfl fl_M_493 | apply on_getN (pc' := 58) rfl rfl fl_M_493
    · repeat (first | assumption | exact on_up_eq _ _ _ | refine (on_up_ne (by omega)).trans ?_)
    · rfl
    first | refine on_aload_n (pc' := 59) rfl rfl rfl rfl ?_ | refine on_aload_nQ (pc' := 59) rfl rfl rfl rfl ?_
    first | apply on_get (pc' := 62) rfl rfl fl_M_492 | apply on_getN (pc' := 62) rfl rfl fl_M_492
    · repeat (first | assumption | exact on_up_eq _ _ _ | refine (on_up_ne (by omega)).trans ?_)
    · rfl
    refine on_iconst (pc' := 63) (v := 0) rfl rfl li_0 ?_
    apply on_iastoreK (pc' := 64) (t := 0) rfl rfl
    · repeat (first | assumption | exact on_up_eq _ _ _ | refine (on_up_ne (by omega)).trans ?_)
    · rfl
    · first | assumption | exact on_lit _ | rfl
    · first | assumption | omega | decide
    first | refine on_aload_n (pc' := 65) rfl rfl rfl rfl ?_ | refine on_aload_nQ (pc' := 65) rfl rfl rfl rfl ?_
    first | apply on_get (pc' := 68) rfl rfl fl_M_519 | apply on_getN (pc' := 68) rfl rfl fl_M_519
    · repeat (first | assumption | exact on_up_eq _ _ _ | refine (on_up_ne (by omega)).trans ?_)
    · rfl
    first | refine on_aload_n (pc' := 69) rfl rfl rfl rfl ?_ | refine on_aload_nQ (pc' := 69) rfl rfl rfl rfl ?_
    first | apply on_get (pc' := 72) rfl rfl fl_M_492 | apply on_getN (pc' := 72) rfl rfl fl_M_492
    · repeat (first | assumption | exact on_up_eq _ _ _ | refine (on_up_ne (by omega)).trans ?_)
    · rfl
    refine on_iconst (pc' := 73) (v := 4) rfl rfl li_4 ?_
    apply on_iastoreK (pc' := 74) (t := 0) rfl rfl
    · repeat (first | assumption | exact on_up_eq _ _ _ | refine (on_up_ne (by omega)).trans ?_)
    · rfl
    · first | assumption | exact on_lit _ | rfl
    · first | assumption | omega | decide
    first | refine on_aload_n (pc' := 75) rfl rfl rfl rfl ?_ | refine on_aload_nQ (pc' := 75) rfl rfl rfl rfl ?_
    refine on_dup (pc' := 76) rfl rfl rfl ?_
    first | apply on_get (pc' := 79) rfl rfl fl_M_492 | apply on_getN (pc' := 79) rfl rfl fl_M_492
    · repeat (first | assumption | exact on_up_eq _ _ _ | refine (on_up_ne (by omega)).trans ?_)
    · rfl
    refine on_iconst (pc' := 80) (v := 1) rfl rfl li_1 ?_
    refine on_iadd (pc' := 81) rfl rfl ?_
    rw [nI_1]
    first | apply on_put (pc' := 84) rfl rfl fp_M_492 | apply on_putN (pc' := 84) rfl rfl fp_M_492
    · repeat (first | assumption | exact on_up_eq _ _ _ | refine (on_up_ne (by omega)).trans ?_)
    · first | rfl | assumption
    · first | rfl | assumption
    · exact Nat.le_of_ble_eq_true rfl
    obtain ⟨K2, f2⟩ := KC.snw lt4 r1 r2 rfl
    show on_E G M_M_stream 84 _ [] (on_up (on_up (on_up h (CA j + 4) (on_ai 0 4 (upd IS (a.c j).st.length 0))) (CA j + 5) (on_ai 0 4 (upd WI (a.c j).st.length 4))) (CA j) (.inr (16, [.int (nI (8 + (a.c j).cl)), .int (nI (a.c j).nu), .ref (CA j + 1), .int (nI (a.c j).pa.length), .int (nI (a.c j).hp), .int (nI (a.c j).ph), .ref (CA j + 2), .ref (CA j + 3), .int (nI ((a.c j).st.length + 1)), .ref (CA j + 4), .ref (CA j + 5), .ref (CA j + 6), .ref (CA j + 7), .ref (CA j + 8), .ref (CA j + 9), .ref (CA j + 10)]))) sz _ _ _
    generalize on_up (on_up (on_up h (CA j + 4) (on_ai 0 4 (upd IS (a.c j).st.length 0))) (CA j + 5) (on_ai 0 4 (upd WI (a.c j).st.length 4))) (CA j) (.inr (16, [.int (nI (8 + (a.c j).cl)), .int (nI (a.c j).nu), .ref (CA j + 1), .int (nI (a.c j).pa.length), .int (nI (a.c j).hp), .int (nI (a.c j).ph), .ref (CA j + 2), .ref (CA j + 3), .int (nI ((a.c j).st.length + 1)), .ref (CA j + 4), .ref (CA j + 5), .ref (CA j + 6), .ref (CA j + 7), .ref (CA j + 8), .ref (CA j + 9), .ref (CA j + 10)])) = g at K2 f2 ⊢
    have o2 := K2.1.ob.1
    obtain ⟨D, d1⟩ := K2.1.da
    first | refine on_aload_n (pc' := 85) rfl rfl rfl rfl ?_ | refine on_aload_nQ (pc' := 85) rfl rfl rfl rfl ?_
    first | apply on_get (pc' := 88) rfl rfl fl_M_124 | apply on_getN (pc' := 88) rfl rfl fl_M_124
    · repeat (first | assumption | exact on_up_eq _ _ _ | refine (on_up_ne (by omega)).trans ?_)
    · rfl
    refine on_iconst (pc' := 89) (v := 0) rfl rfl li_0 ?_
    refine on_iload_n (pc' := 90) rfl rfl rfl rfl ?_
    apply on_iastoreK (pc' := 91) (t := 0) rfl rfl
    · repeat (first | assumption | exact on_up_eq _ _ _ | refine (on_up_ne (by omega)).trans ?_)
    · rfl
    · first | assumption | exact on_lit _ | rfl
    · first | assumption | omega | decide
    have t3 : ∀ b, b ≠ o + 41 → on_up g (o + 41) (on_ai 0 124 (upd D 0 (nI n))) b = g b := fun b hb => on_up_ne hb
    have d3 : on_up g (o + 41) (on_ai 0 124 (upd D 0 (nI n))) (o + 41) = some (on_ai 0 124 (upd D 0 (nI n))) := on_up_eq _ _ _
    obtain ⟨K3, f3⟩ := K2.wrk (a := o + 41) (h1 := on_up g (o + 41) (on_ai 0 124 (upd D 0 (nI n)))) (by omega) (by rw [show o + 41 - o = 41 by omega]; exact ⟨_, on_up_eq _ _ _⟩) t3
    generalize on_up g (o + 41) (on_ai 0 124 (upd D 0 (nI n))) = g3 at t3 d3 K3 f3 ⊢
    have o3 := K3.1.ob.1
    have len : ((a.c j).st ++ [t_nw]).length = (a.c j).st.length + 1 := List.length_append
    have c3 : g3 (CA j) = some (.inr (16, [.int (nI (8 + (a.c j).cl)), .int (nI (a.c j).nu), .ref (CA j + 1), .int (nI (a.c j).pa.length), .int (nI (a.c j).hp), .int (nI (a.c j).ph), .ref (CA j + 2), .ref (CA j + 3), .int (nI ((a.c j).st ++ [t_nw]).length), .ref (CA j + 4), .ref (CA j + 5), .ref (CA j + 6), .ref (CA j + 7), .ref (CA j + 8), .ref (CA j + 9), .ref (CA j + 10)])) := K3.2.2.1.1
    rw [len] at c3
    first | refine on_aload_n (pc' := 92) rfl rfl rfl rfl ?_ | refine on_aload_nQ (pc' := 92) rfl rfl rfl rfl ?_
    first | refine on_aload_n (pc' := 93) rfl rfl rfl rfl ?_ | refine on_aload_nQ (pc' := 93) rfl rfl rfl rfl ?_
    refine on_iconst (pc' := 94) (v := 1) rfl rfl li_1 ?_
    first | refine on_aload_n (pc' := 95) rfl rfl rfl rfl ?_ | refine on_aload_nQ (pc' := 95) rfl rfl rfl rfl ?_
    first | apply on_get (pc' := 98) rfl rfl fl_M_492 | apply on_getN (pc' := 98) rfl rfl fl_M_492
    · repeat (first | assumption | exact on_up_eq _ _ _ | refine (on_up_ne (by omega)).trans ?_)
    · rfl
    refine on_iconst (pc' := 99) (v := 1) rfl rfl li_1 ?_
    first | refine on_aload_n (pc' := 100) rfl rfl rfl rfl ?_ | refine on_aload_nQ (pc' := 100) rfl rfl rfl rfl ?_
    first | apply on_get (pc' := 103) rfl rfl fl_M_124 | apply on_getN (pc' := 103) rfl rfl fl_M_124
    · repeat (first | assumption | exact on_up_eq _ _ _ | refine (on_up_ne (by omega)).trans ?_)
    · rfl
    refine on_callV (pc' := 106) (As := [.ref (CA j), .int (nI 1), .int (nI ((a.c j).st.length + 1)), .int (nI 1), .ref (o + 41)]) (rest := []) (b := o) rfl rfl cw_M_stream_503 (o3) rfl rfl (Nat.le_of_ble_eq_true rfl) (Nat.zero_le _) (Nat.zero_le _) (c_M_forth (B := B) (d := fun _ => n) K3 (fun i hi => (CK.2.2.2.2.2.2.2.1 i hi).1) (by omega) (by show 0 < (a.c j).hp; rw [CK.2.2.2.2.2.2.1 p1]; have := CK.2.1; omega) (by show 0 < (a.c j).pa.length; have := CK.2.1; omega) (by have := CK.2.2.1 0 (by have := CK.2.1; omega); have := V.1.1; show (a.c j).pa.getD 0 0 < 10; omega) (by decide) (by omega) ⟨_, d3⟩ (by omega) (by decide) ⟨by decide, by decide⟩ (fun f hf i hi => by cases d3.symm.trans hf; obtain rfl : i = 0 := (by omega); exact ⟨pk_us, hn⟩)) ?_
    rintro v g4 sz ⟨rfl, rfl, K4, t4⟩
    have c4 := (t4 (CA j) (by omega) (by omega) (by omega) (by omega) (by omega) (by omega) (by omega) (by omega)).trans c3
    first | refine on_aload_n (pc' := 107) rfl rfl rfl rfl ?_ | refine on_aload_nQ (pc' := 107) rfl rfl rfl rfl ?_
    first | apply on_get (pc' := 110) rfl rfl fl_M_492 | apply on_getN (pc' := 110) rfl rfl fl_M_492
    · repeat (first | assumption | exact on_up_eq _ _ _ | refine (on_up_ne (by omega)).trans ?_)
    · rfl
    refine on_ireturn rfl rfl ?_
    obtain ⟨X1, f1⟩ := X.ofQ hj CK.1 V.1.2.1 hD hS K4 ((f2.trans f3).trans (fun b c1 c2 => t4 b (by omega) (by omega) (by omega) (by omega) (by omega) (by omega) (by omega) (by omega)))
    rw [eq]
    exact ⟨rfl, rfl, X1, f1⟩
set_option maxHeartbeats 4000000 in
theorem mpu_1 {s n : Nat} {WT : Nat → Int32} {fs : List Value} (hs : s < 4) (hn : n ≤ 124) (hco : o + 42 ≤ c) (ho : h o = some (.inr (17, mo_f o x3.1 x3.2.1 x3.2.2))) (hc : h c = some (.inr (16, fs))) (f12 : fs[12]? = some (.ref (c + 7))) (hw : h (c + 7) = some (on_ai 0 1600 WT))
    (kk : ∀ D : Nat → Int32, (∀ i, i < n → D i = WT (400 * s + i)) → on_E G M_M_push 119 (on_l [(0, .ref o), (2, .int y), (3, .ref c), (4, .int (nI s)), (5, .int (nI n))]) [] (on_up h (o + 41) (on_ai 0 124 D)) sz bc bs Q) :
    ∀ (m j : Nat) (D : Nat → Int32), j + m = n → (∀ i, i < j → D i = WT (400 * s + i)) → on_E G M_M_push 85 (on_l [(0, .ref o), (2, .int y), (3, .ref c), (4, .int (nI s)), (5, .int (nI n)), (6, .int (nI j))]) [] (on_up h (o + 41) (on_ai 0 124 D)) sz bc bs Q := by
  intro m
  induction m with
  | zero =>
    intro j D hj hD
    have ej : j = n := by omega
    subst ej
    refine on_iload (pc' := 87) rfl rfl rfl ?_
    refine on_iload (pc' := 89) rfl rfl rfl ?_
    refine on_icmp_ge (pc' := 92) (tgt := 119) rfl rfl rfl (fun cq => ?_) (fun cq => ?_)
    · exact on_relv (l := [(0, .ref o), (2, .int y), (3, .ref c), (4, .int (nI s)), (5, .int (nI j))]) ⟨rfl, rfl, rfl, rfl, rfl, trivial⟩ (kk D hD)
    · exact absurd (nI_le (a := j) (Nat.le_refl _) (by omega)) cq
  | succ m ih =>
    intro j D hj hD
    have i1 : j < 124 ∧ 124 < 2 ^ 31 := by omega
    have i2 : 400 * s + j < 1600 ∧ 1600 < 2 ^ 31 := by omega
    refine on_iload (pc' := 87) rfl rfl rfl ?_
    refine on_iload (pc' := 89) rfl rfl rfl ?_
    refine on_icmp_ge (pc' := 92) (tgt := 119) rfl rfl rfl (fun cq => ?_) (fun cq => ?_)
    · exact absurd cq (nI_ge (b := n) (by omega) (by omega))
    · clear cq
      first | refine on_aload_n (pc' := 93) rfl rfl rfl rfl ?_ | refine on_aload_nQ (pc' := 93) rfl rfl rfl rfl ?_
      first | apply on_get (pc' := 96) rfl rfl fl_M_124 | apply on_getN (pc' := 96) rfl rfl fl_M_124
      · repeat (first | assumption | exact on_up_eq _ _ _ | refine (on_up_ne (by omega)).trans ?_)
      · rfl
      refine on_iload (pc' := 98) rfl rfl rfl ?_
      refine on_aload_n (pc' := 99) rfl rfl rfl rfl ?_
      apply on_getN (pc' := 102) rfl rfl fl_M_530
      · exact (on_up_ne (by omega)).trans hc
      · exact f12
      refine on_sipush (pc' := 105) (v := 400) rfl rfl ls_400 ?_
      refine on_iload (pc' := 107) rfl rfl rfl ?_
      refine on_imul (pc' := 108) rfl rfl ?_
      refine on_iload (pc' := 110) rfl rfl rfl ?_
      refine on_iadd (pc' := 111) rfl rfl ?_
      rw [show (400 : Int32) * nI s = nI (400 * s) from pk_mul 400 s, nI_add]
      apply on_ialoadK (pc' := 112) (t := 0) rfl rfl
      · repeat (first | assumption | exact on_up_eq _ _ _ | refine (on_up_ne (by omega)).trans ?_)
      · rfl
      · first | assumption | exact on_lit _ | rfl
      · first | assumption | omega | decide
      apply on_iastoreK (pc' := 113) (t := 0) rfl rfl
      · repeat (first | assumption | exact on_up_eq _ _ _ | refine (on_up_ne (by omega)).trans ?_)
      · rfl
      · first | assumption | exact on_lit _ | rfl
      · first | assumption | omega | decide
      refine on_iinc1 (pc' := 116) rfl rfl rfl ?_
      refine on_goto (tgt := 85) rfl rfl ?_
      rw [on_up_up]
      refine on_relv (l := [(0, .ref o), (2, .int y), (3, .ref c), (4, .int (nI s)), (5, .int (nI n)), (6, .int (nI (j + 1)))]) ⟨rfl, rfl, rfl, rfl, rfl, congrArg some (congrArg Value.int (nI_1 j)), trivial⟩ (ih (j + 1) _ (by omega) (fun i hi => ?_))
      by_cases z : i = j
      · rw [z, pk_us]
      · rw [pk_un z]
        exact hD i (by omega)
set_option maxHeartbeats 4000000 in
theorem mpu_2 {s n l : Nat} {WT WC : Nat → Int32} {fs : List Value} (hs : s < 4) (hln : l + n ≤ 400) (hc : h c = some (.inr (16, fs))) (f12 : fs[12]? = some (.ref (c + 7))) (f13 : fs[13]? = some (.ref (c + 8))) (hwc : h (c + 8) = some (on_ai 0 4 WC)) (hl : WC s = nI l)
    (kk : ∀ W : Nat → Int32, (∀ p, W p = if 400 * s ≤ p ∧ p < 400 * s + l then WT (p + n) else WT p) → on_E G M_M_push 183 (on_l [(0, .ref o), (2, .int y), (3, .ref c), (4, .int (nI s)), (5, .int (nI n))]) [] (on_up h (c + 7) (on_ai 0 1600 W)) sz bc bs Q) :
    ∀ (m j : Nat) (W : Nat → Int32), j + m = l → (∀ p, W p = if 400 * s ≤ p ∧ p < 400 * s + j then WT (p + n) else WT p) → on_E G M_M_push 134 (on_l [(0, .ref o), (2, .int y), (3, .ref c), (4, .int (nI s)), (5, .int (nI n)), (6, .int (nI j))]) [] (on_up h (c + 7) (on_ai 0 1600 W)) sz bc bs Q := by
  have i4 : s < 4 ∧ 4 < 2 ^ 31 := ⟨hs, by decide⟩
  intro m
  induction m with
  | zero =>
    intro j W hj hW
    have ej : j = l := by omega
    subst ej
    refine on_iload (pc' := 136) rfl rfl rfl ?_
    refine on_aload_n (pc' := 137) rfl rfl rfl rfl ?_
    apply on_getN (pc' := 140) rfl rfl fl_M_527
    · exact (on_up_ne (by omega)).trans hc
    · exact f13
    refine on_iload (pc' := 142) rfl rfl rfl ?_
    apply on_ialoadK (pc' := 143) (t := 0) rfl rfl
    · repeat (first | assumption | exact on_up_eq _ _ _ | refine (on_up_ne (by omega)).trans ?_)
    · rfl
    · first | assumption | exact on_lit _ | rfl
    · first | assumption | omega | decide
    rw [hl]
    refine on_icmp_ge (pc' := 146) (tgt := 183) rfl rfl rfl (fun cq => ?_) (fun cq => ?_)
    · exact on_relv (l := [(0, .ref o), (2, .int y), (3, .ref c), (4, .int (nI s)), (5, .int (nI n))]) ⟨rfl, rfl, rfl, rfl, rfl, trivial⟩ (kk W hW)
    · exact absurd (nI_le (a := j) (Nat.le_refl _) (by omega)) cq
  | succ m ih =>
    intro j W hj hW
    have i2 : 400 * s + j < 1600 ∧ 1600 < 2 ^ 31 := by omega
    have i3 : 400 * s + j + n < 1600 ∧ 1600 < 2 ^ 31 := by omega
    refine on_iload (pc' := 136) rfl rfl rfl ?_
    refine on_aload_n (pc' := 137) rfl rfl rfl rfl ?_
    apply on_getN (pc' := 140) rfl rfl fl_M_527
    · exact (on_up_ne (by omega)).trans hc
    · exact f13
    refine on_iload (pc' := 142) rfl rfl rfl ?_
    apply on_ialoadK (pc' := 143) (t := 0) rfl rfl
    · repeat (first | assumption | exact on_up_eq _ _ _ | refine (on_up_ne (by omega)).trans ?_)
    · rfl
    · first | assumption | exact on_lit _ | rfl
    · first | assumption | omega | decide
    rw [hl]
    refine on_icmp_ge (pc' := 146) (tgt := 183) rfl rfl rfl (fun cq => ?_) (fun cq => ?_)
    · exact absurd cq (nI_ge (b := l) (by omega) (by omega))
    · clear cq
      refine on_aload_n (pc' := 147) rfl rfl rfl rfl ?_
      apply on_getN (pc' := 150) rfl rfl fl_M_530
      · exact (on_up_ne (by omega)).trans hc
      · exact f12
      refine on_sipush (pc' := 153) (v := 400) rfl rfl ls_400 ?_
      refine on_iload (pc' := 155) rfl rfl rfl ?_
      refine on_imul (pc' := 156) rfl rfl ?_
      refine on_iload (pc' := 158) rfl rfl rfl ?_
      refine on_iadd (pc' := 159) rfl rfl ?_
      rw [show (400 : Int32) * nI s = nI (400 * s) from pk_mul 400 s, nI_add]
      refine on_aload_n (pc' := 160) rfl rfl rfl rfl ?_
      apply on_getN (pc' := 163) rfl rfl fl_M_530
      · exact (on_up_ne (by omega)).trans hc
      · exact f12
      refine on_sipush (pc' := 166) (v := 400) rfl rfl ls_400 ?_
      refine on_iload (pc' := 168) rfl rfl rfl ?_
      refine on_imul (pc' := 169) rfl rfl ?_
      refine on_iload (pc' := 171) rfl rfl rfl ?_
      refine on_iadd (pc' := 172) rfl rfl ?_
      refine on_iload (pc' := 174) rfl rfl rfl ?_
      refine on_iadd (pc' := 175) rfl rfl ?_
      rw [show (400 : Int32) * nI s = nI (400 * s) from pk_mul 400 s, nI_add, nI_add]
      apply on_ialoadK (pc' := 176) (t := 0) rfl rfl
      · repeat (first | assumption | exact on_up_eq _ _ _ | refine (on_up_ne (by omega)).trans ?_)
      · rfl
      · first | assumption | exact on_lit _ | rfl
      · first | assumption | omega | decide
      apply on_iastoreK (pc' := 177) (t := 0) rfl rfl
      · repeat (first | assumption | exact on_up_eq _ _ _ | refine (on_up_ne (by omega)).trans ?_)
      · rfl
      · first | assumption | exact on_lit _ | rfl
      · first | assumption | omega | decide
      refine on_iinc1 (pc' := 180) rfl rfl rfl ?_
      refine on_goto (tgt := 134) rfl rfl ?_
      rw [on_up_up]
      refine on_relv (l := [(0, .ref o), (2, .int y), (3, .ref c), (4, .int (nI s)), (5, .int (nI n)), (6, .int (nI (j + 1)))]) ⟨rfl, rfl, rfl, rfl, rfl, congrArg some (congrArg Value.int (nI_1 j)), trivial⟩ (ih (j + 1) _ (by omega) (fun p => ?_))
      by_cases z : p = 400 * s + j
      · rw [z, pk_us, if_pos (by omega), hW, if_neg (by omega)]
      · rw [pk_un z, hW]
        by_cases u : 400 * s ≤ p ∧ p < 400 * s + j
        · rw [if_pos u, if_pos (by omega)]
        · rw [if_neg u, if_neg (by omega)]
set_option maxHeartbeats 16000000 in
theorem c_M_push (X : mX o sz RA CA a h) (V : n_V B a) (hB : B + 700 < 2 ^ 28) : on_Ct G M_M_push [.ref o, .int x, .int y] h sz 0 0 (fun v h1 z => v = some (.int (q_push a x y).1) ∧ z = sz ∧ mX o sz RA CA (q_push a x y).2 h1 ∧ m_fr o a.nr a.nc RA CA h h1) := by
  have o1 := X.1.ob.1
  have x5 := X.2.2.1.2.2.2.2
  have v6 := V.1.2.2
  refine on_Ct.of (by decide) v_M_push (Nat.le_of_ble_eq_true rfl) ?_
  first | refine on_aload_n (pc' := 1) rfl rfl rfl rfl ?_ | refine on_aload_nQ (pc' := 1) rfl rfl rfl rfl ?_
  refine on_iload_n (pc' := 2) rfl rfl rfl rfl ?_
  refine on_iload_n (pc' := 3) rfl rfl rfl rfl ?_
  refine on_callV (pc' := 6) (As := [.int x, .int y]) (rest := []) (b := o) rfl rfl cw_M_push_523 (o1) rfl rfl (Nat.le_of_ble_eq_true rfl) (Nat.zero_le _) (Nat.zero_le _) (c_M_isStream X V) ?_
  rintro v h sz ⟨rfl, rfl, rfl⟩
  cases e : q_st a x y with
  | none =>
    show on_E G M_M_push 6 _ [.int 0] h sz _ _ _
    refine on_if_ne (pc' := 9) (tgt := 11) rfl rfl rfl (fun cq => ?_) (fun cq => ?_)
    · exact absurd rfl cq
    · refine on_iconst (pc' := 10) (v := (-1)) rfl rfl li_m1 ?_
      refine on_ireturn rfl rfl ?_
      unfold q_push
      rw [e]
      exact ⟨rfl, rfl, X, m_fr.id⟩
  | some p =>
    obtain ⟨j, s⟩ := p
    obtain ⟨ej, hj, hs, ey⟩ := q_st_some v6 X.len e
    have ex := (p_i_some (by omega) ej).2
    subst ex ey
    have i1 : j < 6 ∧ 6 < 2 ^ 31 := by omega
    have c0 := X.cob hj
    have CK := (V.2.2.2.1 j hj).1
    have l4 := X.len j hj
    have i2 : s < 4 ∧ 4 < 2 ^ 31 := by omega
    obtain ⟨SD, DR, KC, hD, hS⟩ := X.toC hj CK.1 V.1.2.1
    obtain ⟨IS, WI, CM, WT, WC, GT, GC, ⟨r1, r2, r3, r4, r5, r6, r7⟩, T⟩ := id KC.2.2.1.2.2.2.2
    have cj := (X.2.2.2.1.2.2.1 j hj).1
    have t1 := T.2.1 s hs
    have t2 := T.2.2 s i2.1
    have eq : q_push a (nI j) (nI (s + 1)) = if ((a.c j).st.getD s t0).wa.length = 0 ∨ ¬ ((a.c j).st.getD s t0).ph = 1 ∨ ((a.c j).st.getD s t0).wi = 0 then (0, a) else (nI (min ((a.c j).st.getD s t0).wa.length 124), n_fo a j (cs_s (a.c j) s (((a.c j).st.getD s t0).ph, ((a.c j).st.getD s t0).wi - 1, ((a.c j).st.getD s t0).ca, ((a.c j).st.getD s t0).wa.drop (min ((a.c j).st.getD s t0).wa.length 124), ((a.c j).st.getD s t0).go)) 2 (s + 1) (min ((a.c j).st.getD s t0).wa.length 124) (fun j_1 => ((a.c j).st.getD s t0).wa.getD j_1 0)) := by
      unfold q_push
      rw [e]
      rfl
    generalize et : (a.c j).st.getD s t0 = t at eq t1 t2
    have no : ∀ lv, (t.wa.length = 0 ∨ ¬ t.ph = 1 ∨ t.wi = 0) → on_E G M_M_push 54 lv [] h sz 0 0 (fun v h1 z => v = some (.int (q_push a (nI j) (nI (s + 1))).1) ∧ z = sz ∧ mX o sz RA CA (q_push a (nI j) (nI (s + 1))).2 h1 ∧ m_fr o a.nr a.nc RA CA h h1) := fun lv z => by
      refine on_iconst (pc' := 55) (v := 0) rfl rfl li_0 ?_
      refine on_ireturn rfl rfl ?_
      rw [eq, if_pos z]
      exact ⟨rfl, rfl, X, m_fr.id⟩
    show on_E G M_M_push 6 _ [.int 1] h sz _ _ _
    refine on_if_ne (pc' := 9) (tgt := 11) rfl rfl rfl (fun cq => ?_) (fun cq => ?_)
    rotate_left
    · exact absurd cq (by decide)
    clear cq
    first | refine on_aload_n (pc' := 12) rfl rfl rfl rfl ?_ | refine on_aload_nQ (pc' := 12) rfl rfl rfl rfl ?_
    first | apply on_get (pc' := 15) rfl rfl fl_M_28 | apply on_getN (pc' := 15) rfl rfl fl_M_28
    · repeat (first | assumption | exact on_up_eq _ _ _ | refine (on_up_ne (by omega)).trans ?_)
    · rfl
    refine on_iload_n (pc' := 16) rfl rfl rfl rfl ?_
    apply on_aaloadK (pc' := 17) rfl rfl
    · repeat (first | assumption | exact on_up_eq _ _ _ | refine (on_up_ne (by omega)).trans ?_)
    · rfl
    · first | assumption | exact on_lit _ | rfl
    · first | assumption | omega | decide
    rw [rf_at hj]
    show on_E G M_M_push 17 _ [.ref (CA j)] h sz _ _ _
    first | refine on_astore_n (pc' := 18) rfl rfl rfl (by decide) ?_ | refine on_astore_nQ (pc' := 18) rfl rfl rfl (by decide) ?_
    refine on_iload_n (pc' := 19) rfl rfl rfl rfl ?_
    refine on_iconst (pc' := 20) (v := 1) rfl rfl li_1 ?_
    refine on_isub (pc' := 21) rfl rfl ?_
    rw [nI_pred]
    refine on_istore (pc' := 23) rfl rfl (by decide) ?_
    first | refine on_aload_n (pc' := 24) rfl rfl rfl rfl ?_ | refine on_aload_nQ (pc' := 24) rfl rfl rfl rfl ?_
    first | apply on_get (pc' := 27) rfl rfl fl_M_527 | apply on_getN (pc' := 27) rfl rfl fl_M_527
    · repeat (first | assumption | exact on_up_eq _ _ _ | refine (on_up_ne (by omega)).trans ?_)
    · rfl
    refine on_iload (pc' := 29) rfl rfl rfl ?_
    apply on_ialoadK (pc' := 30) (t := 0) rfl rfl
    · repeat (first | assumption | exact on_up_eq _ _ _ | refine (on_up_ne (by omega)).trans ?_)
    · rfl
    · first | assumption | exact on_lit _ | rfl
    · first | assumption | omega | decide
    rw [t2.2.1]
    refine on_if_eq (pc' := 33) (tgt := 54) rfl rfl rfl (fun cq => ?_) (fun cq => ?_)
    · exact no _ (Or.inl ((nI_eq (b := 0) (by omega) (by decide)).mp cq))
    have w0 : ¬ t.wa.length = 0 := fun z => cq (by rw [z]; rfl)
    clear cq
    first | refine on_aload_n (pc' := 34) rfl rfl rfl rfl ?_ | refine on_aload_nQ (pc' := 34) rfl rfl rfl rfl ?_
    first | apply on_get (pc' := 37) rfl rfl fl_M_493 | apply on_getN (pc' := 37) rfl rfl fl_M_493
    · repeat (first | assumption | exact on_up_eq _ _ _ | refine (on_up_ne (by omega)).trans ?_)
    · rfl
    refine on_iload (pc' := 39) rfl rfl rfl ?_
    apply on_ialoadK (pc' := 40) (t := 0) rfl rfl
    · repeat (first | assumption | exact on_up_eq _ _ _ | refine (on_up_ne (by omega)).trans ?_)
    · rfl
    · first | assumption | exact on_lit _ | rfl
    · first | assumption | omega | decide
    rw [t1.1]
    refine on_iconst (pc' := 41) (v := 1) rfl rfl li_1 ?_
    refine on_icmp_ne (pc' := 44) (tgt := 54) rfl rfl rfl (fun cq => ?_) (fun cq => ?_)
    · exact no _ (Or.inr (Or.inl (fun z => cq (by rw [z]; rfl))))
    have p1 : t.ph = 1 := (nI_eq (b := 1) (by omega) (by decide)).mp cq
    clear cq
    first | refine on_aload_n (pc' := 45) rfl rfl rfl rfl ?_ | refine on_aload_nQ (pc' := 45) rfl rfl rfl rfl ?_
    first | apply on_get (pc' := 48) rfl rfl fl_M_519 | apply on_getN (pc' := 48) rfl rfl fl_M_519
    · repeat (first | assumption | exact on_up_eq _ _ _ | refine (on_up_ne (by omega)).trans ?_)
    · rfl
    refine on_iload (pc' := 50) rfl rfl rfl ?_
    apply on_ialoadK (pc' := 51) (t := 0) rfl rfl
    · repeat (first | assumption | exact on_up_eq _ _ _ | refine (on_up_ne (by omega)).trans ?_)
    · rfl
    · first | assumption | exact on_lit _ | rfl
    · first | assumption | omega | decide
    rw [t1.2.2]
    refine on_if_ne (pc' := 54) (tgt := 56) rfl rfl rfl (fun cq => ?_) (fun cq => ?_)
    rotate_left
    · exact no _ (Or.inr (Or.inr cq))
    have wi0 := cq
    clear cq
    rw [if_neg (fun z => by rcases z with z | z | z; exact w0 z; exact z p1; exact wi0 z)] at eq
    generalize en : min t.wa.length 124 = n at eq
    have nn : n ≤ 124 ∧ n ≤ t.wa.length := by omega
    have cont : ∀ lv : on_V, lv 0 = some (.ref o) → lv 2 = some (.int (nI (s + 1))) → lv 3 = some (.ref (CA j)) → lv 4 = some (.int (nI s)) → on_E G M_M_push 80 lv [.int (nI n)] h sz 0 0 (fun v h1 z => v = some (.int (q_push a (nI j) (nI (s + 1))).1) ∧ z = sz ∧ mX o sz RA CA (q_push a (nI j) (nI (s + 1))).2 h1 ∧ m_fr o a.nr a.nc RA CA h h1) := fun lv l0 l2 l3 l4' => by
      refine on_relv (l := [(0, .ref o), (2, .int (nI (s + 1))), (3, .ref (CA j)), (4, .int (nI s))]) ⟨l0, l2, l3, l4', trivial⟩ ?_
      refine on_istore (pc' := 82) rfl rfl (by decide) ?_
      refine on_iconst (pc' := 83) (v := 0) rfl rfl li_0 ?_
      refine on_istore (pc' := 85) rfl rfl (by decide) ?_
      obtain ⟨S0, s0'⟩ := X.1.da
      have eh0 : on_up h (o + 41) (on_ai 0 124 S0) = h := funext fun b => by
        by_cases w : b = o + 41
        · rw [w, on_up_eq, s0']
        · exact on_up_ne w
      refine on_relv (l := [(0, .ref o), (2, .int (nI (s + 1))), (3, .ref (CA j)), (4, .int (nI s)), (5, .int (nI n)), (6, .int (nI 0))]) ⟨rfl, rfl, rfl, rfl, rfl, rfl, trivial⟩ ?_
      rw [← eh0]
      refine mpu_1 (x3 := (nI a.nr, nI a.nk, nI a.nc)) i2.1 nn.1 cj o1 c0 rfl r4 (fun D hDD => ?_) n 0 S0 (by omega) (fun i hi => absurd hi (Nat.not_lt_zero i))
      have t3 : ∀ b, b ≠ o + 41 → on_up h (o + 41) (on_ai 0 124 D) b = h b := fun b hb => on_up_ne hb
      have d3 : on_up h (o + 41) (on_ai 0 124 D) (o + 41) = some (on_ai 0 124 D) := on_up_eq _ _ _
      obtain ⟨K3, f3⟩ := KC.wrk (a := o + 41) (h1 := on_up h (o + 41) (on_ai 0 124 D)) (by omega) (by rw [show o + 41 - o = 41 by omega]; exact ⟨_, on_up_eq _ _ _⟩) t3
      generalize on_up h (o + 41) (on_ai 0 124 D) = g at t3 d3 K3 f3 ⊢
      have c3 := (t3 (CA j) (by omega)).trans c0
      have wc3 := (t3 (CA j + 8) (by omega)).trans r5
      have wt3 := (t3 (CA j + 7) (by omega)).trans r4
      have wi3 := (t3 (CA j + 5) (by omega)).trans r2
      first | refine on_aload_n (pc' := 120) rfl rfl rfl rfl ?_ | refine on_aload_nQ (pc' := 120) rfl rfl rfl rfl ?_
      first | apply on_get (pc' := 123) rfl rfl fl_M_527 | apply on_getN (pc' := 123) rfl rfl fl_M_527
      · repeat (first | assumption | exact on_up_eq _ _ _ | refine (on_up_ne (by omega)).trans ?_)
      · rfl
      refine on_iload (pc' := 125) rfl rfl rfl ?_
      first | refine on_dup2_11 (pc' := 126) rfl rfl rfl rfl ?_ | refine on_dup2_2 (pc' := 126) rfl rfl rfl ?_
      apply on_ialoadK (pc' := 127) (t := 0) rfl rfl
      · repeat (first | assumption | exact on_up_eq _ _ _ | refine (on_up_ne (by omega)).trans ?_)
      · rfl
      · first | assumption | exact on_lit _ | rfl
      · first | assumption | omega | decide
      rw [t2.2.1]
      refine on_iload (pc' := 129) rfl rfl rfl ?_
      refine on_isub (pc' := 130) rfl rfl ?_
      rw [show nI t.wa.length - nI n = nI (t.wa.length - n) from pk_sub (a := t.wa.length) (b := n) nn.2]
      apply on_iastoreK (pc' := 131) (t := 0) rfl rfl
      · repeat (first | assumption | exact on_up_eq _ _ _ | refine (on_up_ne (by omega)).trans ?_)
      · rfl
      · first | assumption | exact on_lit _ | rfl
      · first | assumption | omega | decide
      refine on_iconst (pc' := 132) (v := 0) rfl rfl li_0 ?_
      refine on_istore (pc' := 134) rfl rfl (by decide) ?_
      have t4 : ∀ b, b ≠ CA j + 8 → on_up g (CA j + 8) (on_ai 0 4 (upd WC s (nI (t.wa.length - n)))) b = g b := fun b hb => on_up_ne hb
      have wc4 : on_up g (CA j + 8) (on_ai 0 4 (upd WC s (nI (t.wa.length - n)))) (CA j + 8) = some (on_ai 0 4 (upd WC s (nI (t.wa.length - n)))) := on_up_eq _ _ _
      generalize on_up g (CA j + 8) (on_ai 0 4 (upd WC s (nI (t.wa.length - n)))) = g4 at t4 wc4 ⊢
      have wt4 := (t4 (CA j + 7) (by omega)).trans wt3
      have c4 := (t4 (CA j) (by omega)).trans c3
      have eh : on_up g4 (CA j + 7) (on_ai 0 1600 WT) = g4 := funext fun b => by
        by_cases w : b = CA j + 7
        · rw [w, on_up_eq, wt4]
        · exact on_up_ne w
      refine on_relv (l := [(0, .ref o), (2, .int (nI (s + 1))), (3, .ref (CA j)), (4, .int (nI s)), (5, .int (nI n)), (6, .int (nI 0))]) ⟨rfl, rfl, rfl, rfl, rfl, rfl, trivial⟩ ?_
      rw [← eh]
      refine mpu_2 (l := t.wa.length - n) (WT := WT) i2.1 (by have := t2.2.2.1; omega) c4 rfl rfl wc4 pk_us (fun W hW => ?_) (t.wa.length - n) 0 WT (Nat.zero_add _) (fun p => by rw [if_neg (by omega)])
      clear eh
      have t5 : ∀ b, b ≠ CA j + 7 → on_up g4 (CA j + 7) (on_ai 0 1600 W) b = g4 b := fun b hb => on_up_ne hb
      have wt5 : on_up g4 (CA j + 7) (on_ai 0 1600 W) (CA j + 7) = some (on_ai 0 1600 W) := on_up_eq _ _ _
      generalize on_up g4 (CA j + 7) (on_ai 0 1600 W) = g5 at t5 wt5 ⊢
      have c5 := (t5 (CA j) (by omega)).trans c4
      have wi5 := (t5 (CA j + 5) (by omega)).trans ((t4 _ (by omega)).trans wi3)
      first | refine on_aload_n (pc' := 184) rfl rfl rfl rfl ?_ | refine on_aload_nQ (pc' := 184) rfl rfl rfl rfl ?_
      first | apply on_get (pc' := 187) rfl rfl fl_M_519 | apply on_getN (pc' := 187) rfl rfl fl_M_519
      · repeat (first | assumption | exact on_up_eq _ _ _ | refine (on_up_ne (by omega)).trans ?_)
      · rfl
      refine on_iload (pc' := 189) rfl rfl rfl ?_
      first | refine on_dup2_11 (pc' := 190) rfl rfl rfl rfl ?_ | refine on_dup2_2 (pc' := 190) rfl rfl rfl ?_
      apply on_ialoadK (pc' := 191) (t := 0) rfl rfl
      · repeat (first | assumption | exact on_up_eq _ _ _ | refine (on_up_ne (by omega)).trans ?_)
      · rfl
      · first | assumption | exact on_lit _ | rfl
      · first | assumption | omega | decide
      rw [t1.2.2]
      refine on_iconst (pc' := 192) (v := 1) rfl rfl li_1 ?_
      refine on_isub (pc' := 193) rfl rfl ?_
      apply on_iastoreK (pc' := 194) (t := 0) rfl rfl
      · repeat (first | assumption | exact on_up_eq _ _ _ | refine (on_up_ne (by omega)).trans ?_)
      · rfl
      · first | assumption | exact on_lit _ | rfl
      · first | assumption | omega | decide
      have t6 : ∀ b, b ≠ CA j + 5 → on_up g5 (CA j + 5) (on_ai 0 4 (upd WI s (t.wi - 1))) b = g5 b := fun b hb => on_up_ne hb
      have wi6 : on_up g5 (CA j + 5) (on_ai 0 4 (upd WI s (t.wi - 1))) (CA j + 5) = _ := on_up_eq _ _ _
      generalize on_up g5 (CA j + 5) (on_ai 0 4 (upd WI s (t.wi - 1))) = g6 at t6 wi6 ⊢
      have T6 : ∀ b, b ≠ CA j + 5 → b ≠ CA j + 7 → b ≠ CA j + 8 → g6 b = g b := fun b b1 b2 b3 => (t6 b b1).trans ((t5 b b2).trans (t4 b b3))
      have R6 : mq_R (CA j) ((a.c j).st.set s (t.ph, t.wi - 1, t.ca, t.wa.drop n, t.go)) g6 := by
        refine ⟨IS, upd WI s (t.wi - 1), CM, W, upd WC s (nI (t.wa.length - n)), GT, GC, ⟨(T6 _ (by omega) (by omega) (by omega)).trans ((t3 _ (by omega)).trans r1), wi6, (T6 _ (by omega) (by omega) (by omega)).trans ((t3 _ (by omega)).trans r3), (t6 _ (by omega)).trans wt5, (t6 _ (by omega)).trans ((t5 _ (by omega)).trans wc4), (T6 _ (by omega) (by omega) (by omega)).trans ((t3 _ (by omega)).trans r6), (T6 _ (by omega) (by omega) (by omega)).trans ((t3 _ (by omega)).trans r7)⟩, ?_⟩
        have dl : (t.wa.drop n).length = t.wa.length - n := List.length_drop
        refine T.set hs (fun b hb => ⟨rfl, pk_un hb, rfl, pk_un hb, rfl⟩) (fun b hb l hl => by rw [hW, if_neg (by omega)]) (fun _ _ _ _ => rfl) ⟨t1.1, t1.2.1, pk_us⟩ ⟨t2.1, ?_, ?_, t2.2.2.2.1, t2.2.2.2.2.1, fun b hb => ?_, t2.2.2.2.2.2.2⟩
        · show upd WC s (nI (t.wa.length - n)) s = nI (t.wa.drop n).length
          rw [pk_us, dl]
        · show (t.wa.drop n).length ≤ 400
          have := t2.2.2.1
          omega
        · have hb : b < (t.wa.drop n).length := hb
          show W (400 * s + b) = nI ((t.wa.drop n).getD b 0) ∧ (t.wa.drop n).getD b 0 < 256
          have gd : (t.wa.drop n).getD b 0 = t.wa.getD (n + b) 0 := by
            rw [List.getD_eq_getElem?_getD, List.getD_eq_getElem?_getD, List.getElem?_drop]
          rw [gd, hW, if_pos (by omega), show 400 * s + b + n = 400 * s + (n + b) by omega]
          exact t2.2.2.2.2.2.1 (n + b) (by omega)
      obtain ⟨K6, f6⟩ := K3.str (i := s) R6 (fun b hb => T6 b (by omega) (by omega) (by omega))
      have o6 := K6.1.ob.1
      have d6 := (T6 (o + 41) (by omega) (by omega) (by omega)).trans d3
      first | refine on_aload_n (pc' := 195) rfl rfl rfl rfl ?_ | refine on_aload_nQ (pc' := 195) rfl rfl rfl rfl ?_
      first | refine on_aload_n (pc' := 196) rfl rfl rfl rfl ?_ | refine on_aload_nQ (pc' := 196) rfl rfl rfl rfl ?_
      refine on_iconst (pc' := 197) (v := 2) rfl rfl li_2 ?_
      refine on_iload_n (pc' := 198) rfl rfl rfl rfl ?_
      refine on_iload (pc' := 200) rfl rfl rfl ?_
      first | refine on_aload_n (pc' := 201) rfl rfl rfl rfl ?_ | refine on_aload_nQ (pc' := 201) rfl rfl rfl rfl ?_
      first | apply on_get (pc' := 204) rfl rfl fl_M_124 | apply on_getN (pc' := 204) rfl rfl fl_M_124
      · repeat (first | assumption | exact on_up_eq _ _ _ | refine (on_up_ne (by omega)).trans ?_)
      · rfl
      refine on_callV (pc' := 207) (As := [.ref (CA j), .int (nI 2), .int (nI (s + 1)), .int (nI n), .ref (o + 41)]) (rest := []) (b := o) rfl rfl cw_M_push_503 (o6) rfl rfl (Nat.le_of_ble_eq_true rfl) (Nat.zero_le _) (Nat.zero_le _) (c_M_forth (B := B) (d := fun i => t.wa.getD i 0) K6 (fun i hi => (CK.2.2.2.2.2.2.2.1 i hi).1) (by omega) (CK.2.2.2.2.2.2.2.2.2 (by omega)) (by show 0 < (a.c j).pa.length; have := CK.2.1; omega) (by have := CK.2.2.1 0 (by have := CK.2.1; omega); have := V.1.1; show (a.c j).pa.getD 0 0 < 10; omega) (by decide) (by omega) ⟨_, d6⟩ (by omega) nn.1 ⟨by omega, by decide⟩ (fun f hf i hi => by cases d6.symm.trans hf; rw [hDD i hi]; exact t2.2.2.2.2.2.1 i (by omega))) ?_
      rintro v g7 sz ⟨rfl, rfl, K7, t7⟩
      refine on_iload (pc' := 209) rfl rfl rfl ?_
      refine on_ireturn rfl rfl ?_
      obtain ⟨X1, f1⟩ := X.ofQ hj CK.1 V.1.2.1 hD hS K7 ((f3.trans f6).trans (fun b c1 c2 => t7 b (by omega) (by omega) (by omega) (by omega) (by omega) (by omega) (by omega) (by omega)))
      rw [eq]
      exact ⟨rfl, rfl, X1, by rw [eh0]; exact f1⟩
    first | refine on_aload_n (pc' := 57) rfl rfl rfl rfl ?_ | refine on_aload_nQ (pc' := 57) rfl rfl rfl rfl ?_
    first | apply on_get (pc' := 60) rfl rfl fl_M_527 | apply on_getN (pc' := 60) rfl rfl fl_M_527
    · repeat (first | assumption | exact on_up_eq _ _ _ | refine (on_up_ne (by omega)).trans ?_)
    · rfl
    refine on_iload (pc' := 62) rfl rfl rfl ?_
    apply on_ialoadK (pc' := 63) (t := 0) rfl rfl
    · repeat (first | assumption | exact on_up_eq _ _ _ | refine (on_up_ne (by omega)).trans ?_)
    · rfl
    · first | assumption | exact on_lit _ | rfl
    · first | assumption | omega | decide
    rw [t2.2.1]
    refine on_bipush (pc' := 65) (v := 124) rfl rfl lb_124 ?_
    refine on_icmp_ge (pc' := 68) (tgt := 78) rfl rfl rfl (fun cq => ?_) (fun cq => ?_)
    · have ge : 124 ≤ t.wa.length := by
        rcases Nat.lt_or_ge t.wa.length 124 with z | z
        · exact absurd cq (nI_ge (b := 124) z (by decide))
        · exact z
      clear cq
      refine on_bipush (pc' := 80) (v := 124) rfl rfl lb_124 ?_
      have : (124 : Int32) = nI n := by rw [show n = 124 by omega]; rfl
      rw [this]
      exact cont _ rfl rfl rfl rfl
    · have lt : t.wa.length < 124 := by
        rcases Nat.lt_or_ge t.wa.length 124 with z | z
        · exact z
        · exact absurd (nI_le (a := 124) z (by have := t2.2.2.1; omega)) cq
      clear cq
      first | refine on_aload_n (pc' := 69) rfl rfl rfl rfl ?_ | refine on_aload_nQ (pc' := 69) rfl rfl rfl rfl ?_
      first | apply on_get (pc' := 72) rfl rfl fl_M_527 | apply on_getN (pc' := 72) rfl rfl fl_M_527
      · repeat (first | assumption | exact on_up_eq _ _ _ | refine (on_up_ne (by omega)).trans ?_)
      · rfl
      refine on_iload (pc' := 74) rfl rfl rfl ?_
      apply on_ialoadK (pc' := 75) (t := 0) rfl rfl
      · repeat (first | assumption | exact on_up_eq _ _ _ | refine (on_up_ne (by omega)).trans ?_)
      · rfl
      · first | assumption | exact on_lit _ | rfl
      · first | assumption | omega | decide
      rw [t2.2.1]
      refine on_goto (tgt := 80) rfl rfl ?_
      rw [show t.wa.length = n by omega]
      exact cont _ rfl rfl rfl rfl
end MPU
