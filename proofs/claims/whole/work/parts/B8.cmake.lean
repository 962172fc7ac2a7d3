/-! Circuit: made, begun, a stream more -/
section CMK
variable {G : on_G} {c cl hs ot u q sz np : Nat} {ra la sa : Nat → Nat} {rs : Nat → aR} {k : aC} {h : on_H} {num : Int32}
set_option maxHeartbeats 8000000 in
/-- new Circuit -/
theorem c_Circuit_init {P : Nat → Option Nat} (hnp : np ≤ 3) (hsz : sz = c + 2) (h0 : h (c + 1) = some (.inr (9, [.null, .int 0, .null, .null, .null, .null, .null, .null, .null, .int 0, .int 0, .int 0]))) (hP : h c = some (on_aq 4 np P)) :
    on_Ct G M_Circuit_init [.ref (c + 1), .ref cl, .int num, .ref c, .ref hs] h sz 5 110 (fun v h1 z => v = none ∧ z = c + 7 ∧ cr_O c cl hs num 0 0 0 h1 ∧ h1 (c + 2) = some (on_aq 7 4 (fun _ => none)) ∧ rW h1 (c + 3) 32 ∧ rW h1 (c + 4) 68 ∧ h1 (c + 5) = some (on_aq 6 np (fun _ => none)) ∧ h1 (c + 6) = some (on_aq 6 np (fun _ => none)) ∧ ∀ b, (b < c + 1 ∨ c + 7 ≤ b) → h1 b = h b) := by
  subst hsz
  have n31 : np < 2 ^ 31 := by omega
  refine on_Ct.of (by decide) v_Circuit_init (Nat.le_of_ble_eq_true rfl) ?_
  have nz : ¬ nI np < 0 := nI_pos n31
  have nc : (nI np).toNatClampNeg = np := nI_clamp n31
  first | refine on_aload_n (pc' := 1) rfl rfl rfl rfl ?_ | refine on_aload_nQ (pc' := 1) rfl rfl rfl rfl ?_
  refine on_objInit (pc' := 4) rfl rfl oi_Circuit_3 w_ob1 w_ob2 (Nat.le_of_ble_eq_true rfl) (Nat.le_of_ble_eq_true rfl) ?_
  first | refine on_aload_n (pc' := 5) rfl rfl rfl rfl ?_ | refine on_aload_nQ (pc' := 5) rfl rfl rfl rfl ?_
  refine on_iconst (pc' := 6) (v := 4) rfl rfl li_4 ?_
  refine on_anewarray (pc' := 9) (t := 7) (N := 4) rfl rfl rfl an_Circuit_9.1 an_Circuit_9.2 (by first | decide | assumption) (by first | rfl | assumption) (by first | decide | omega) (by omega) (by omega) ?_
  apply on_putF (pc' := 12) rfl rfl fp_Circuit_11 rfl
  · repeat (first | assumption | exact on_up_eq _ _ _ | refine (on_up_ne (by omega)).trans ?_)
  · first | rfl | assumption
  · first | rfl | assumption
  · exact Nat.le_of_ble_eq_true rfl
  first | refine on_aload_n (pc' := 13) rfl rfl rfl rfl ?_ | refine on_aload_nQ (pc' := 13) rfl rfl rfl rfl ?_
  refine on_bipush (pc' := 15) (v := 32) rfl rfl lb_32 ?_
  refine on_newarray (pc' := 17) (t := 0) (N := 32) (ty := .int) (a0 := (32, .inl (fun _ => 0))) rfl rfl rfl rfl (fun _ _ _ h1 h2 => Option.some.inj (h1.symm.trans h2)) w_arint (fun _ => rfl) (by decide) (by decide) (by decide) (by omega) (by omega) ?_
  apply on_putF (pc' := 20) rfl rfl fp_Circuit_17 rfl
  · repeat (first | assumption | exact on_up_eq _ _ _ | refine (on_up_ne (by omega)).trans ?_)
  · first | rfl | assumption
  · first | rfl | assumption
  · exact Nat.le_of_ble_eq_true rfl
  first | refine on_aload_n (pc' := 21) rfl rfl rfl rfl ?_ | refine on_aload_nQ (pc' := 21) rfl rfl rfl rfl ?_
  refine on_bipush (pc' := 23) (v := 68) rfl rfl lb_68 ?_
  refine on_newarray (pc' := 25) (t := 0) (N := 68) (ty := .int) (a0 := (68, .inl (fun _ => 0))) rfl rfl rfl rfl (fun _ _ _ h1 h2 => Option.some.inj (h1.symm.trans h2)) w_arint (fun _ => rfl) (by decide) (by decide) (by decide) (by omega) (by omega) ?_
  apply on_putF (pc' := 28) rfl rfl fp_Circuit_21 rfl
  · repeat (first | assumption | exact on_up_eq _ _ _ | refine (on_up_ne (by omega)).trans ?_)
  · first | rfl | assumption
  · first | rfl | assumption
  · exact Nat.le_of_ble_eq_true rfl
  first | refine on_aload_n (pc' := 29) rfl rfl rfl rfl ?_ | refine on_aload_nQ (pc' := 29) rfl rfl rfl rfl ?_
  refine on_iconst (pc' := 30) (v := 0) rfl rfl li_0 ?_
  first | apply on_put (pc' := 33) rfl rfl fp_Circuit_24 | apply on_putN (pc' := 33) rfl rfl fp_Circuit_24
  · repeat (first | assumption | exact on_up_eq _ _ _ | refine (on_up_ne (by omega)).trans ?_)
  · first | rfl | assumption
  · first | rfl | assumption
  · exact Nat.le_of_ble_eq_true rfl
  first | refine on_aload_n (pc' := 34) rfl rfl rfl rfl ?_ | refine on_aload_nQ (pc' := 34) rfl rfl rfl rfl ?_
  first | refine on_aload_n (pc' := 35) rfl rfl rfl rfl ?_ | refine on_aload_nQ (pc' := 35) rfl rfl rfl rfl ?_
  apply on_putF (pc' := 38) rfl rfl fp_Circuit_28 rfl
  · repeat (first | assumption | exact on_up_eq _ _ _ | refine (on_up_ne (by omega)).trans ?_)
  · first | rfl | assumption
  · first | rfl | assumption
  · exact Nat.le_of_ble_eq_true rfl
  first | refine on_aload_n (pc' := 39) rfl rfl rfl rfl ?_ | refine on_aload_nQ (pc' := 39) rfl rfl rfl rfl ?_
  refine on_iload_n (pc' := 40) rfl rfl rfl rfl ?_
  apply on_putF (pc' := 43) rfl rfl fp_Circuit_32 rfl
  · repeat (first | assumption | exact on_up_eq _ _ _ | refine (on_up_ne (by omega)).trans ?_)
  · first | rfl | assumption
  · first | rfl | assumption
  · exact Nat.le_of_ble_eq_true rfl
  first | refine on_aload_n (pc' := 44) rfl rfl rfl rfl ?_ | refine on_aload_nQ (pc' := 44) rfl rfl rfl rfl ?_
  first | refine on_aload_n (pc' := 45) rfl rfl rfl rfl ?_ | refine on_aload_nQ (pc' := 45) rfl rfl rfl rfl ?_
  apply on_putF (pc' := 48) rfl rfl fp_Circuit_35 rfl
  · repeat (first | assumption | exact on_up_eq _ _ _ | refine (on_up_ne (by omega)).trans ?_)
  · first | rfl | assumption
  · first | rfl | assumption
  · exact Nat.le_of_ble_eq_true rfl
  first | refine on_aload_n (pc' := 49) rfl rfl rfl rfl ?_ | refine on_aload_nQ (pc' := 49) rfl rfl rfl rfl ?_
  first | refine on_aload (pc' := 51) rfl rfl rfl ?_ | refine on_aloadQ (pc' := 51) rfl rfl rfl ?_
  apply on_putF (pc' := 54) rfl rfl fp_Circuit_39 rfl
  · repeat (first | assumption | exact on_up_eq _ _ _ | refine (on_up_ne (by omega)).trans ?_)
  · first | rfl | assumption
  · first | rfl | assumption
  · exact Nat.le_of_ble_eq_true rfl
  first | refine on_aload_n (pc' := 55) rfl rfl rfl rfl ?_ | refine on_aload_nQ (pc' := 55) rfl rfl rfl rfl ?_
  first | refine on_aload_n (pc' := 56) rfl rfl rfl rfl ?_ | refine on_aload_nQ (pc' := 56) rfl rfl rfl rfl ?_
  apply on_alenQ (pc' := 57) rfl rfl
  · repeat (first | assumption | exact on_up_eq _ _ _ | refine (on_up_ne (by omega)).trans ?_)
  · rfl
  refine on_anewarray (pc' := 60) (t := 6) (N := np) rfl rfl rfl an_Circuit_43.1 an_Circuit_43.2 nz nc (by omega) (by omega) (by omega) ?_
  apply on_putF (pc' := 63) rfl rfl fp_Circuit_45 rfl
  · repeat (first | assumption | exact on_up_eq _ _ _ | refine (on_up_ne (by omega)).trans ?_)
  · first | rfl | assumption
  · first | rfl | assumption
  · exact Nat.le_of_ble_eq_true rfl
  first | refine on_aload_n (pc' := 64) rfl rfl rfl rfl ?_ | refine on_aload_nQ (pc' := 64) rfl rfl rfl rfl ?_
  first | refine on_aload_n (pc' := 65) rfl rfl rfl rfl ?_ | refine on_aload_nQ (pc' := 65) rfl rfl rfl rfl ?_
  apply on_alenQ (pc' := 66) rfl rfl
  · repeat (first | assumption | exact on_up_eq _ _ _ | refine (on_up_ne (by omega)).trans ?_)
  · rfl
  refine on_anewarray (pc' := 69) (t := 6) (N := np) rfl rfl rfl an_Circuit_43.1 an_Circuit_43.2 nz nc (by omega) (by omega) (by omega) ?_
  apply on_putF (pc' := 72) rfl rfl fp_Circuit_49 rfl
  · repeat (first | assumption | exact on_up_eq _ _ _ | refine (on_up_ne (by omega)).trans ?_)
  · first | rfl | assumption
  · first | rfl | assumption
  · exact Nat.le_of_ble_eq_true rfl
  refine on_vreturn rfl rfl ?_
  refine ⟨rfl, rfl, on_up_eq _ _ _, ?_, ⟨fun _ => 0, ?_⟩, ⟨fun _ => 0, ?_⟩, ?_, ?_, fun b hb => ?_⟩
  · repeat (first | assumption | exact on_up_eq _ _ _ | refine (on_up_ne (by omega)).trans ?_)
  · repeat (first | assumption | exact on_up_eq _ _ _ | refine (on_up_ne (by omega)).trans ?_)
  · repeat (first | assumption | exact on_up_eq _ _ _ | refine (on_up_ne (by omega)).trans ?_)
  · repeat (first | assumption | exact on_up_eq _ _ _ | refine (on_up_ne (by omega)).trans ?_)
  · repeat (first | assumption | exact on_up_eq _ _ _ | refine (on_up_ne (by omega)).trans ?_)
  · repeat (first | assumption | exact on_up_eq _ _ _ | refine (on_up_ne (by omega)).trans ?_)
    all_goals rfl
set_option maxHeartbeats 8000000 in
/-- begin -/
theorem c_Circuit_begin {pa : List Nat} {seed : Int64} {draws nn next ph jo sc : Int32} {r : aR} (hd : hs + 29 ≤ u ∧ u + 8 ≤ cl ∧ cl + 2 ≤ c) (hC : cr_O c cl hs num ph jo sc h) (hP : pa_S c ra pa h) (hl : 0 < pa.length ∧ pa.length < 2 ^ 31) (R : rl_S (ra (pa.getD 0 0)) ot hs (pa.getD 0 0) r h) (hR : u + 8 ≤ ra (pa.getD 0 0) ∧ ra (pa.getD 0 0) + 260 ≤ c ∧ (ra (pa.getD 0 0) + 260 ≤ cl ∨ cl + 2 ≤ ra (pa.getD 0 0))) (ND : nd_S cl nn seed draws next h) (H : hk_W hs h) (K5 : rW h (c + 3) 32) (K6 : rW h (c + 4) 68) (O : ob_E u h) :
    on_Ct G M_Circuit_begin [.ref (c + 1), .ref u] h sz 0 0 (fun v h1 z => v = none ∧ z = sz ∧ hk_W hs h1 ∧ nd_S cl nn seed (draws + 1) next h1 ∧ rB h1 (c + 3) 32 (an_d seed draws) ∧ rB h1 (c + 4) 68 (of_b r.se (an_d seed draws)) ∧ ob_L u [(pa.getD 0 0, ce_k num 10 (of_b r.se (an_d seed draws)) 68)] h1 ∧ ∀ b, b ≠ cl → b ≠ c + 3 → b ≠ c + 4 → (b < hs ∨ hs + 29 ≤ b) → (b < u ∨ u + 8 ≤ b) → h1 b = h b) := by
  have c0 : h (c + 1) = some (.inr (9, [.ref cl, .int num, .ref c, .ref hs, .ref (c + 5), .ref (c + 6), .ref (c + 2), .ref (c + 3), .ref (c + 4), .int ph, .int jo, .int sc])) := hC
  obtain ⟨P, p1, p2⟩ := id hP
  refine on_Ct.of (by decide) v_Circuit_begin (Nat.le_of_ble_eq_true rfl) ?_
  first | refine on_aload_n (pc' := 1) rfl rfl rfl rfl ?_ | refine on_aload_nQ (pc' := 1) rfl rfl rfl rfl ?_
  first | apply on_get (pc' := 4) rfl rfl fl_Circuit_39 | apply on_getN (pc' := 4) rfl rfl fl_Circuit_39
  · repeat (first | assumption | exact on_up_eq _ _ _ | refine (on_up_ne (by omega)).trans ?_)
  · rfl
  first | refine on_aload_n (pc' := 5) rfl rfl rfl rfl ?_ | refine on_aload_nQ (pc' := 5) rfl rfl rfl rfl ?_
  first | refine on_aload_n (pc' := 6) rfl rfl rfl rfl ?_ | refine on_aload_nQ (pc' := 6) rfl rfl rfl rfl ?_
  first | apply on_get (pc' := 9) rfl rfl fl_Circuit_35 | apply on_getN (pc' := 9) rfl rfl fl_Circuit_35
  · repeat (first | assumption | exact on_up_eq _ _ _ | refine (on_up_ne (by omega)).trans ?_)
  · rfl
  refine on_iconst (pc' := 10) (v := 0) rfl rfl li_0 ?_
  apply on_aaloadK (pc' := 11) (k := 0) rfl rfl
  · repeat (first | assumption | exact on_up_eq _ _ _ | refine (on_up_ne (by omega)).trans ?_)
  · rfl
  · first | assumption | exact on_lit _ | rfl
  · first | assumption | omega | decide
  rw [p2 0 hl.1]
  show on_E G M_Circuit_begin 11 _ [.ref (ra (pa.getD 0 0)), .ref (c + 1), .ref hs] _ _ _ _ _
  refine on_callV (pc' := 14) (As := [.ref (c + 1), .ref (ra (pa.getD 0 0))]) (rest := []) (b := hs) rfl rfl cw_Circuit_begin_63 (H.ob) rfl rfl (Nat.le_of_ble_eq_true rfl) (Nat.zero_le _) (Nat.zero_le _) (c_offer (o := hs) (c := c) (cl := cl) H hC ND R.1 R.2.2.2.2.1 K5 K6 (by omega) (by omega) (by omega) (by omega) (by omega) (by omega)) ?_
  rintro v h1 sz ⟨rfl, rfl, H1, N1, D1, F1, t1⟩
  have c1 := (t1 (c + 1) (by omega) (by omega) (by omega) (by omega)).trans c0
  obtain ⟨Of, o1, Of'⟩ := id F1
  first | refine on_aload_n (pc' := 15) rfl rfl rfl rfl ?_ | refine on_aload_nQ (pc' := 15) rfl rfl rfl rfl ?_
  first | refine on_aload_n (pc' := 16) rfl rfl rfl rfl ?_ | refine on_aload_nQ (pc' := 16) rfl rfl rfl rfl ?_
  refine on_callV (pc' := 19) (As := []) (rest := [.ref u]) (b := c + 1) rfl rfl cw_Circuit_begin_68 (c1) rfl rfl (Nat.le_of_ble_eq_true rfl) (Nat.zero_le _) (Nat.zero_le _) (c_firstRelay c1 (hP.keep (t1 _ (by omega) (by omega) (by omega) (by omega))) hl (R.keep (fun b _ _ => t1 b (by omega) (by omega) (by omega) (by omega)))) ?_
  rintro v h1 sz ⟨rfl, rfl, rfl⟩
  have O1 : ob_E u h1 := ob_S.keep O (fun b _ _ => t1 b (by omega) (by omega) (by omega) (by omega))
  first | refine on_aload_n (pc' := 20) rfl rfl rfl rfl ?_ | refine on_aload_nQ (pc' := 20) rfl rfl rfl rfl ?_
  first | apply on_get (pc' := 23) rfl rfl fl_Circuit_32 | apply on_getN (pc' := 23) rfl rfl fl_Circuit_32
  · repeat (first | assumption | exact on_up_eq _ _ _ | refine (on_up_ne (by omega)).trans ?_)
  · rfl
  refine on_bipush (pc' := 25) (v := 10) rfl rfl lb_10 ?_
  refine on_callV (pc' := 28) (As := [.int (nI (pa.getD 0 0)), .int num, .int (nI 10)]) (rest := []) (b := u) rfl rfl cw_Circuit_begin_72 (O1.1) rfl rfl (Nat.le_of_ble_eq_true rfl) (Nat.zero_le _) (Nat.zero_le _) (c_addCell O1 (by decide) (by decide)) ?_
  rintro v h2 sz ⟨rfl, rfl, O2, t2⟩
  have c2 := (t2 (c + 1) (by omega)).trans c1
  have o2 := (t2 (c + 4) (by omega)).trans o1
  obtain ⟨A, a1, A'⟩ := rB.ite (O2.2.2.1 0 (by decide)) (by decide)
  rw [fu_s] at A'
  first | refine on_astore_n (pc' := 29) rfl rfl rfl (by decide) ?_ | refine on_astore_nQ (pc' := 29) rfl rfl rfl (by decide) ?_
  first | refine on_aload_n (pc' := 30) rfl rfl rfl rfl ?_ | refine on_aload_nQ (pc' := 30) rfl rfl rfl rfl ?_
  first | apply on_get (pc' := 33) rfl rfl fl_Circuit_21 | apply on_getN (pc' := 33) rfl rfl fl_Circuit_21
  · repeat (first | assumption | exact on_up_eq _ _ _ | refine (on_up_ne (by omega)).trans ?_)
  · rfl
  refine on_iconst (pc' := 34) (v := 0) rfl rfl li_0 ?_
  first | refine on_aload_n (pc' := 35) rfl rfl rfl rfl ?_ | refine on_aload_nQ (pc' := 35) rfl rfl rfl rfl ?_
  refine on_iconst (pc' := 36) (v := 5) rfl rfl li_5 ?_
  refine on_bipush (pc' := 38) (v := 68) rfl rfl lb_68 ?_
  apply on_acopy (pc' := 41) (i0 := 0) (j0 := 5) (k0 := 68) rfl rfl jm_Circuit_78 (Nat.le_of_ble_eq_true rfl) (Nat.le_of_ble_eq_true rfl)
  · repeat (first | assumption | exact on_up_eq _ _ _ | refine (on_up_ne (by omega)).trans ?_)
  · repeat (first | assumption | exact on_up_eq _ _ _ | refine (on_up_ne (by omega)).trans ?_)
  · first | assumption | exact on_lit _ | rfl
  · first | assumption | exact on_lit _ | rfl
  · first | assumption | exact on_lit _ | rfl
  · first | assumption | omega | decide
  · first | assumption | omega | decide
  refine on_vreturn rfl rfl ?_
  have S : ∀ b, (b < u ∨ u + 8 ≤ b) → on_up h2 (u + 2 + 0) (on_ai 0 140 (va_cpy Of A 0 5 68)) b = h1 b := fun b hb => (on_up_ne (by omega)).trans (t2 b hb)
  have O3 := O2.row (k := 0) (y := ce_k num 10 (of_b r.se (an_d seed draws)) 68) (h2 := on_up h2 (u + 2 + 0) (on_ai 0 140 (va_cpy Of A 0 5 68))) (by decide) (by decide) ⟨_, on_up_eq _ _ _, ce_dat A' (fun j hj => by rw [Nat.zero_add]; exact Of' j hj)⟩ (fun a h1 h2 h3 => on_up_ne h3)
  exact ⟨rfl, rfl, H1.keep (fun b _ _ => S b (by omega)), N1.keep (S _ (by omega)) (S _ (by omega)), D1.keep (S _ (by omega)), F1.keep (S _ (by omega)), ob_1 O3 fu_s (fun j _ => congrFun fu_s j), fun b b1 b2 b3 b4 b5 => (S b b5).trans (t1 b b1 b2 b3 b4)⟩
/-- a new stream -/
abbrev t_nw : aT := (0, 4, 0, [], [])
set_option maxHeartbeats 16000000 in
/-- addStream -/
theorem c_Circuit_addStream {port : Nat} {r : aR} (hp8 : port < 256) (hd : hs + 29 ≤ u ∧ u + 8 ≤ c ∧ c + 7 ≤ sz) (hlz : ∀ i, i < k.hp → la i + 16 ≤ sz) (hsz : ∀ i, i < k.st.length → sa i + 3 ≤ sz) (hL : ∀ i, i < k.hp → (k.la i).1.ms.length + 540 < 2 ^ 28) (K : cr_S c cl hs ra la sa rs k h) (I : cr_I c la sa k) (R : rl_S (ra (k.pa.getD 0 0)) ot hs (k.pa.getD 0 0) r h) (hR : u + 8 ≤ ra (k.pa.getD 0 0) ∧ ra (k.pa.getD 0 0) + 260 ≤ c) (H : hk_W hs h) (O : ob_E u h) {bc bs : Nat} (hb : k.ph = 1 ∧ k.st.length < 4 → 3 ≤ bc ∧ 2408 ≤ bs) :
    on_Ct G M_Circuit_addStream [.ref (c + 1), .int (nI port), .ref u] h sz bc bs (fun v h1 z => ((k.ph = 1 ∧ k.st.length < 4) ∧ v = some (.int (nI (k.st.length + 1))) ∧ z = sz + 3 ∧ cr_S c cl hs ra la (fu sa k.st.length sz) rs (c_fo (c_st k (k.st ++ [t_nw])) 1 (k.st.length + 1) 1 (fun _ => port)).1 h1 ∧ cr_I c la (fu sa k.st.length sz) (c_fo (c_st k (k.st ++ [t_nw])) 1 (k.st.length + 1) 1 (fun _ => port)).1 ∧ hk_W hs h1 ∧ ob_L u [(c_fo (c_st k (k.st ++ [t_nw])) 1 (k.st.length + 1) 1 (fun _ => port)).2] h1 ∧ ∀ b, b < sz → (b < c ∨ c + 7 ≤ b) → (b < hs ∨ hs + 29 ≤ b) → (b < u ∨ u + 8 ≤ b) → (∀ i, i < k.hp → b < la i ∨ la i + 16 ≤ b) → h1 b = h b) ∨ (¬ (k.ph = 1 ∧ k.st.length < 4) ∧ v = some (.int (-1)) ∧ z = sz ∧ h1 = h)) := by
  have c0 := K.ob
  obtain ⟨K1, K2, K3, K4, K5, K6, K7⟩ := id K
  obtain ⟨i1, i2, i3, i4, i5, i6, i7⟩ := id I
  obtain ⟨S, s1, s2, s3⟩ := id K4
  have hl : 0 < k.pa.length ∧ k.pa.length < 2 ^ 31 := by omega
  have no : ∀ lv bc bs, ¬ (k.ph = 1 ∧ k.st.length < 4) → on_E G M_Circuit_addStream 16 lv [] h sz bc bs (fun v h1 z => ((k.ph = 1 ∧ k.st.length < 4) ∧ v = some (.int (nI (k.st.length + 1))) ∧ z = sz + 3 ∧ cr_S c cl hs ra la (fu sa k.st.length sz) rs (c_fo (c_st k (k.st ++ [t_nw])) 1 (k.st.length + 1) 1 (fun _ => port)).1 h1 ∧ cr_I c la (fu sa k.st.length sz) (c_fo (c_st k (k.st ++ [t_nw])) 1 (k.st.length + 1) 1 (fun _ => port)).1 ∧ hk_W hs h1 ∧ ob_L u [(c_fo (c_st k (k.st ++ [t_nw])) 1 (k.st.length + 1) 1 (fun _ => port)).2] h1 ∧ ∀ b, b < sz → (b < c ∨ c + 7 ≤ b) → (b < hs ∨ hs + 29 ≤ b) → (b < u ∨ u + 8 ≤ b) → (∀ i, i < k.hp → b < la i ∨ la i + 16 ≤ b) → h1 b = h b) ∨ (¬ (k.ph = 1 ∧ k.st.length < 4) ∧ v = some (.int (-1)) ∧ z = sz ∧ h1 = h)) := fun lv bc bs z => by
    refine on_iconst (pc' := 17) (v := (-1)) rfl rfl li_m1 ?_
    refine on_ireturn rfl rfl ?_
    exact Or.inr ⟨z, rfl, rfl, rfl⟩
  refine on_Ct.of (by decide) v_Circuit_addStream (Nat.le_of_ble_eq_true rfl) ?_
  first | refine on_aload_n (pc' := 1) rfl rfl rfl rfl ?_ | refine on_aload_nQ (pc' := 1) rfl rfl rfl rfl ?_
  first | apply on_get (pc' := 4) rfl rfl fl_Circuit_24 | apply on_getN (pc' := 4) rfl rfl fl_Circuit_24
  · repeat (first | assumption | exact on_up_eq _ _ _ | refine (on_up_ne (by omega)).trans ?_)
  · rfl
  refine on_iconst (pc' := 5) (v := 1) rfl rfl li_1 ?_
  refine on_icmp_ne (pc' := 8) (tgt := 16) rfl rfl rfl (fun cq => ?_) (fun cq => ?_)
  · exact no _ _ _ (fun z => cq (by rw [z.1]; rfl))
  · have p1 : k.ph = 1 := (nI_eq (a := k.ph) (b := 1) (by omega) (by decide)).mp cq
    clear cq
    have hhp := i7 p1
    first | refine on_aload_n (pc' := 9) rfl rfl rfl rfl ?_ | refine on_aload_nQ (pc' := 9) rfl rfl rfl rfl ?_
    first | apply on_get (pc' := 12) rfl rfl fl_Circuit_60 | apply on_getN (pc' := 12) rfl rfl fl_Circuit_60
    · repeat (first | assumption | exact on_up_eq _ _ _ | refine (on_up_ne (by omega)).trans ?_)
    · rfl
    refine on_iconst (pc' := 13) (v := 4) rfl rfl li_4 ?_
    refine on_icmp_lt (pc' := 16) (tgt := 18) rfl rfl rfl (fun cq => ?_) (fun cq => ?_)
    rotate_left
    · exact no _ _ _ (fun z => cq (nI_lt (b := 4) z.2 (by decide)))
    · have l4 : k.st.length < 4 := by
        rcases Nat.lt_or_ge k.st.length 4 with z | z
        · exact z
        · exact absurd cq (nI_nlt (a := k.st.length) (b := 4) z (by omega))
      clear cq no
      have hb := hb ⟨p1, l4⟩
      have i4 : k.st.length < 4 ∧ 4 < 2 ^ 31 := ⟨l4, by decide⟩
      first | refine on_aload_n (pc' := 19) rfl rfl rfl rfl ?_ | refine on_aload_nQ (pc' := 19) rfl rfl rfl rfl ?_
      first | apply on_get (pc' := 22) rfl rfl fl_Circuit_11 | apply on_getN (pc' := 22) rfl rfl fl_Circuit_11
      · repeat (first | assumption | exact on_up_eq _ _ _ | refine (on_up_ne (by omega)).trans ?_)
      · rfl
      first | refine on_aload_n (pc' := 23) rfl rfl rfl rfl ?_ | refine on_aload_nQ (pc' := 23) rfl rfl rfl rfl ?_
      first | apply on_get (pc' := 26) rfl rfl fl_Circuit_60 | apply on_getN (pc' := 26) rfl rfl fl_Circuit_60
      · repeat (first | assumption | exact on_up_eq _ _ _ | refine (on_up_ne (by omega)).trans ?_)
      · rfl
      refine on_new (pc' := 29) (fs := [.null, .null, .int 0, .int 0, .int 0, .int 0, .int 0, .int 0]) rfl rfl nw_Circuit_9 (by intro j hj; match j, hj with | 0, _ => rfl | 1, _ => rfl | 2, _ => rfl | 3, _ => rfl | 4, _ => rfl | 5, _ => rfl | 6, _ => rfl | 7, _ => rfl | j + 8, hj => exact absurd hj (by omega)) (by omega) (by omega) ?_
      refine on_dup (pc' := 30) rfl rfl rfl ?_
      first | refine on_callI (pc' := 33) (As := []) (rest := [.ref sz, .int (nI k.st.length), .ref (c + 2)]) (b := sz) rfl rfl cw_Circuit_addStream_84 rfl rfl (Nat.le_of_ble_eq_true rfl) (by omega) (by omega) (c_Stream_init (on_up_eq _ _ _) rfl) ?_ | refine on_callIN (pc' := 33) (As := []) (rest := [.ref sz, .int (nI k.st.length), .ref (c + 2)]) (b := sz) rfl rfl cw_Circuit_addStream_84 rfl rfl (Nat.le_of_ble_eq_true rfl) (by omega) (by omega) (c_Stream_init (on_up_eq _ _ _) rfl) ?_
      rintro v h1 z ⟨rfl, rfl, n0, n1, n2, t1⟩
      have T1 : ∀ b, b < sz → h1 b = h b := fun b hb => (t1 b (by omega)).trans (on_up_ne (by omega))
      have s1' := (T1 (c + 2) (by omega)).trans s1
      have c1 := (T1 (c + 1) (by omega)).trans c0
      show on_E G M_Circuit_addStream 33 _ [.ref sz, .int (nI k.st.length), .ref (c + 2)] h1 (sz + 3) _ _ _
      apply on_aastoreK (pc' := 34) rfl rfl
      · repeat (first | assumption | exact on_up_eq _ _ _ | refine (on_up_ne (by omega)).trans ?_)
      rotate_left 2
      · repeat (first | assumption | exact on_up_eq _ _ _ | refine (on_up_ne (by omega)).trans ?_)
      rotate_right 2
      · rfl
      · rfl
      · first | assumption | exact on_lit _ | rfl
      · first | assumption | omega | decide
      first | refine on_aload_n (pc' := 35) rfl rfl rfl rfl ?_ | refine on_aload_nQ (pc' := 35) rfl rfl rfl rfl ?_
      refine on_dup (pc' := 36) rfl rfl rfl ?_
      first | apply on_get (pc' := 39) rfl rfl fl_Circuit_60 | apply on_getN (pc' := 39) rfl rfl fl_Circuit_60
      · repeat (first | assumption | exact on_up_eq _ _ _ | refine (on_up_ne (by omega)).trans ?_)
      · rfl
      refine on_iconst (pc' := 40) (v := 1) rfl rfl li_1 ?_
      refine on_iadd (pc' := 41) rfl rfl ?_
      rw [show nI k.st.length + 1 = nI (k.st.length + 1) from nI_1 _]
      first | apply on_put (pc' := 44) rfl rfl fp_Circuit_60 | apply on_putN (pc' := 44) rfl rfl fp_Circuit_60
      · repeat (first | assumption | exact on_up_eq _ _ _ | refine (on_up_ne (by omega)).trans ?_)
      · first | rfl | assumption
      · first | rfl | assumption
      · exact Nat.le_of_ble_eq_true rfl
      show on_E G M_Circuit_addStream 44 _ [] (on_up (on_up h1 (c + 2) (on_aq 7 4 (va_up S k.st.length (some sz)))) (c + 1) (.inr (9, [.ref cl, .int (nI k.nu), .ref c, .ref hs, .ref (c + 5), .ref (c + 6), .ref (c + 2), .ref (c + 3), .ref (c + 4), .int (nI k.ph), .int (nI k.hp), .int (nI (k.st.length + 1))]))) (sz + 3) _ _ _
      have e1 : (on_up (on_up h1 (c + 2) (on_aq 7 4 (va_up S k.st.length (some sz)))) (c + 1) (.inr (9, [.ref cl, .int (nI k.nu), .ref c, .ref hs, .ref (c + 5), .ref (c + 6), .ref (c + 2), .ref (c + 3), .ref (c + 4), .int (nI k.ph), .int (nI k.hp), .int (nI (k.st.length + 1))]))) (c + 1) = some (.inr (9, [.ref cl, .int (nI k.nu), .ref c, .ref hs, .ref (c + 5), .ref (c + 6), .ref (c + 2), .ref (c + 3), .ref (c + 4), .int (nI k.ph), .int (nI k.hp), .int (nI (k.st.length + 1))])) := on_up_eq _ _ _
      have e3 : (on_up (on_up h1 (c + 2) (on_aq 7 4 (va_up S k.st.length (some sz)))) (c + 1) (.inr (9, [.ref cl, .int (nI k.nu), .ref c, .ref hs, .ref (c + 5), .ref (c + 6), .ref (c + 2), .ref (c + 3), .ref (c + 4), .int (nI k.ph), .int (nI k.hp), .int (nI (k.st.length + 1))]))) (c + 2) = some (on_aq 7 4 (va_up S k.st.length (some sz))) := (on_up_ne (by omega)).trans (on_up_eq _ _ _)
      have e2 : ∀ b, b ≠ c + 1 → b ≠ c + 2 → (on_up (on_up h1 (c + 2) (on_aq 7 4 (va_up S k.st.length (some sz)))) (c + 1) (.inr (9, [.ref cl, .int (nI k.nu), .ref c, .ref hs, .ref (c + 5), .ref (c + 6), .ref (c + 2), .ref (c + 3), .ref (c + 4), .int (nI k.ph), .int (nI k.hp), .int (nI (k.st.length + 1))]))) b = h1 b := fun b b1 b2 => (on_up_ne b1).trans (on_up_ne b2)
      generalize (on_up (on_up h1 (c + 2) (on_aq 7 4 (va_up S k.st.length (some sz)))) (c + 1) (.inr (9, [.ref cl, .int (nI k.nu), .ref c, .ref hs, .ref (c + 5), .ref (c + 6), .ref (c + 2), .ref (c + 3), .ref (c + 4), .int (nI k.ph), .int (nI k.hp), .int (nI (k.st.length + 1))]))) = g at e1 e2 e3 ⊢
      have T2 : ∀ b, b < sz → b ≠ c + 1 → b ≠ c + 2 → g b = h b := fun b b1 b2 b3 => (e2 b b2 b3).trans (T1 b b1)
      first | refine on_aload_n (pc' := 45) rfl rfl rfl rfl ?_ | refine on_aload_nQ (pc' := 45) rfl rfl rfl rfl ?_
      first | refine on_aload_n (pc' := 46) rfl rfl rfl rfl ?_ | refine on_aload_nQ (pc' := 46) rfl rfl rfl rfl ?_
      refine on_iconst (pc' := 47) (v := 1) rfl rfl li_1 ?_
      first | refine on_aload_n (pc' := 48) rfl rfl rfl rfl ?_ | refine on_aload_nQ (pc' := 48) rfl rfl rfl rfl ?_
      first | apply on_get (pc' := 51) rfl rfl fl_Circuit_60 | apply on_getN (pc' := 51) rfl rfl fl_Circuit_60
      · repeat (first | assumption | exact on_up_eq _ _ _ | refine (on_up_ne (by omega)).trans ?_)
      · rfl
      refine on_iconst (pc' := 52) (v := 1) rfl rfl li_1 ?_
      refine on_callV (pc' := 55) (As := [.ref u, .int (nI 1), .int (nI (k.st.length + 1)), .int (nI 1)]) (rest := []) (b := c + 1) rfl rfl cw_Circuit_addStream_85 (e1) rfl rfl (Nat.le_of_ble_eq_true rfl) (Nat.zero_le _) (Nat.zero_le _) (c_toLast (ra := ra) (pa := k.pa) e1 (K2.keep (T2 _ (by omega) (by omega) (by omega))) hl (R.keep (fun b _ _ => T2 b (by omega) (by omega) (by omega))) (ob_S.keep O (fun b _ _ => T2 b (by omega) (by omega) (by omega))) (by decide) (by decide) (by omega) (by decide)) ?_
      rintro v h3 z ⟨rfl, rfl, O3, t3⟩
      obtain ⟨A, a1, A'⟩ := rB.ite (O3.2.2.1 0 (by decide)) (by decide)
      rw [fu_s] at A'
      have c3 := (t3 (c + 1) (by omega)).trans e1
      refine on_bipush (pc' := 57) (v := 16) rfl rfl lb_16 ?_
      refine on_iload_n (pc' := 58) rfl rfl rfl rfl ?_
      apply on_iastoreK (pc' := 59) (t := 0) rfl rfl
      · repeat (first | assumption | exact on_up_eq _ _ _ | refine (on_up_ne (by omega)).trans ?_)
      · rfl
      · first | assumption | exact on_lit _ | rfl
      · first | assumption | omega | decide
      show on_E G M_Circuit_addStream 59 _ [] (on_up h3 (u + 2 + 0) (on_ai 0 140 (upd A 16 (nI port)))) (sz + 3) _ _ _
      have O4 := O3.row (k := 0) (y := pl_c (nI k.nu) 1 (k.st.length + 1) 1 (fun _ => port)) (h2 := (on_up h3 (u + 2 + 0) (on_ai 0 140 (upd A 16 (nI port))))) (by decide) (by decide) ⟨_, on_up_eq _ _ _, fun i hi => ?_⟩ (fun a h1 h2 h3 => on_up_ne h3)
      · have g4 : ∀ b, (b < u ∨ u + 8 ≤ b) → (on_up h3 (u + 2 + 0) (on_ai 0 140 (upd A 16 (nI port)))) b = h3 b := fun b hb => on_up_ne (by omega)
        generalize (on_up h3 (u + 2 + 0) (on_ai 0 140 (upd A 16 (nI port)))) = h4 at O4 g4 ⊢
        have S4 : ∀ b, (b < u ∨ u + 8 ≤ b) → h4 b = g b := fun b hb => (g4 b hb).trans (t3 b hb)
        have c4 := (S4 (c + 1) (by omega)).trans e1
        have L4 : ls_S c (hs + 4) k.pa.length la k.hp k.la h4 := K3.keep ((S4 _ (by omega)).trans (T2 _ (by omega) (by omega) (by omega))) ((S4 _ (by omega)).trans (T2 _ (by omega) (by omega) (by omega))) (fun i hi b b1 b2 => by
          have g1 := (i1 i hi).1
          have g2 := hlz i hi
          exact (S4 _ (by omega)).trans (T2 _ (by omega) (by omega) (by omega)))
        have H4 : hk_W hs h4 := H.keep (fun b _ _ => (S4 _ (by omega)).trans (T2 _ (by omega) (by omega) (by omega)))
        have offl : ∀ b, b < c + 7 → ∀ i, i < k.hp → b < la i ∨ la i + 8 ≤ b := fun b hb i hi => Or.inl (by have := (i1 i hi).1; omega)
        first | refine on_aload_n (pc' := 60) rfl rfl rfl rfl ?_ | refine on_aload_nQ (pc' := 60) rfl rfl rfl rfl ?_
        first | refine on_aload_n (pc' := 61) rfl rfl rfl rfl ?_ | refine on_aload_nQ (pc' := 61) rfl rfl rfl rfl ?_
        refine on_callV (pc' := 64) (As := [.ref u]) (rest := []) (b := c + 1) rfl rfl cw_Circuit_addStream_89 (c4) rfl rfl (Nat.le_of_ble_eq_true rfl) (Nat.zero_le _) (Nat.zero_le _) (c_cseal1 (la := la) (np := k.pa.length) (f := k.la) i1 ⟨by omega, by omega⟩ ⟨by omega, by omega, by omega⟩ c4 O4 fu_s L4 H4.tr (hL _ (by omega))) ?_
        rintro v h5 z ⟨rfl, rfl, O5, L5, W5, t5⟩
        rw [show fu (fu (fun _ _ => 0) 0 (pl_c (nI k.nu) 1 (k.st.length + 1) 1 (fun _ => 0))) 0 (pl_c (nI k.nu) 1 (k.st.length + 1) 1 (fun _ => port)) 0 = pl_c (nI k.nu) 1 (k.st.length + 1) 1 (fun _ => port) from fu_s] at L5
        have c5 := (t5 (c + 1) (by omega) (by omega) (offl _ (by omega))).trans c4
        have S5 : ∀ b, (b < u ∨ u + 8 ≤ b) → (b < hs + 4 ∨ hs + 7 ≤ b) → (∀ i, i < k.hp → b < la i ∨ la i + 8 ≤ b) → h5 b = g b := fun b b1 b2 b3 => (t5 b b1 b2 b3).trans (S4 b b1)
        have T5 : ∀ b, b < sz → b ≠ c + 1 → b ≠ c + 2 → (b < u ∨ u + 8 ≤ b) → (b < hs + 4 ∨ hs + 7 ≤ b) → (∀ i, i < k.hp → b < la i ∨ la i + 8 ≤ b) → h5 b = h b := fun b b1 b2 b3 b4 b5 b6 => (S5 b b4 b5 b6).trans (T2 b b1 b2 b3)
        have el : (c_st k (k.st ++ [t_nw])).st.length = k.st.length + 1 := List.length_append
        first | refine on_aload_n (pc' := 65) rfl rfl rfl rfl ?_ | refine on_aload_nQ (pc' := 65) rfl rfl rfl rfl ?_
        first | apply on_get (pc' := 68) rfl rfl fl_Circuit_60 | apply on_getN (pc' := 68) rfl rfl fl_Circuit_60
        · repeat (first | assumption | exact on_up_eq _ _ _ | refine (on_up_ne (by omega)).trans ?_)
        · rfl
        refine on_ireturn rfl rfl ?_
        refine Or.inl ⟨⟨p1, l4⟩, rfl, rfl, ?_, ?_, H4.tru W5 (fun b b1 b2 b3 => t5 b (by omega) (by omega) (offl _ (by omega))), ob_1 O5 fu_s (fun j hj => (congrFun fu_s j).trans ((congrFun (congrArg (cs_c k.la k.hp) fu_s) j).trans (cfo_2 (k := (c_st k (k.st ++ [t_nw]))) hj))), fun b b0 b1 b2 b3 b4 => T5 b b0 (by omega) (by omega) b3 (by omega) (fun i hi => by have := b4 i hi; omega)⟩
        · rw [cfo_1 (num := nI k.nu)]
          refine ⟨?_, K2.keep (T5 _ (by omega) (by omega) (by omega) (by omega) (by omega) (offl _ (by omega))), L5, ⟨va_up S k.st.length (some sz), (S5 _ (by omega) (by omega) (offl _ (by omega))).trans e3, ?_, fun i hi => ?_⟩, K5.keep (T5 _ (by omega) (by omega) (by omega) (by omega) (by omega) (offl _ (by omega))), K6.keep (T5 _ (by omega) (by omega) (by omega) (by omega) (by omega) (offl _ (by omega))), fun z => absurd (show k.ph = 0 from z) (by omega)⟩
          · show cr_O c cl hs (nI k.nu) (nI k.ph) (nI k.hp) (nI (c_st k (k.st ++ [t_nw])).st.length) h5
            rw [el]
            exact c5
          · show (c_st k (k.st ++ [t_nw])).st.length ≤ 4
            rw [el]
            exact l4
          · have hi : i < (c_st k (k.st ++ [t_nw])).st.length := hi
            rw [el] at hi
            show va_up S k.st.length (some sz) i = some (fu sa k.st.length sz i) ∧ sm_S (fu sa k.st.length sz i) ((k.st ++ [t_nw]).getD i t0) h5
            rw [getD_snoc]
            by_cases z : i = k.st.length
            · rw [z, if_neg (Nat.lt_irrefl _), if_pos rfl, fu_s]
              have sg : ∀ b, sz ≤ b → b < sz + 3 → h5 b = h1 b := fun b b1 b2 => (S5 b (by omega) (by omega) (fun j hj => by have := hlz j hj; omega)).trans (e2 b (by omega) (by omega))
              exact ⟨if_pos rfl, 0, fun _ => 0, (sg _ (by omega) (by omega)).trans n0, (sg _ (by omega) (by omega)).trans n1, by decide, Nat.zero_le _, fun j hj => absurd hj (Nat.not_lt_zero j), ⟨⟨fun _ => 0, (sg _ (by omega) (by omega)).trans n2, fun j hj => absurd hj (Nat.not_lt_zero j)⟩, Nat.zero_le _⟩, Nat.zero_le _⟩
            · rw [if_pos (by omega), fu_n z]
              have d := i2 i (by omega)
              have d2 := hsz i (by omega)
              exact ⟨(if_neg z).trans (s3 i (by omega)).1, (s3 i (by omega)).2.keep (fun b b1 b2 => T5 b (by omega) (by omega) (by omega) (by omega) (by omega) (fun j hj => by have := d.2.2 j hj; omega))⟩
        · rw [cfo_1 (num := nI k.nu)]
          refine ⟨i1, fun i hi => ?_, i3, ‹k.ph ≤ 2›, i5, fun z => absurd (show k.ph = 0 from z) (by omega), i7⟩
          have hi : i < (c_st k (k.st ++ [t_nw])).st.length := hi
          rw [el] at hi
          by_cases z : i = k.st.length
          · rw [z, fu_s]
            exact ⟨by omega, fun j hj => by rw [fu_n (by omega)]; exact hsz j hj, hlz⟩
          · rw [fu_n z]
            exact ⟨(i2 i (by omega)).1, fun j hj => by rw [fu_n (by omega)]; exact (i2 i (by omega)).2.1 j hj, (i2 i (by omega)).2.2⟩
      · by_cases z : i = 16
        · subst z
          rw [pk_us]
          exact ⟨rfl, hp8⟩
        · rw [pk_un z]
          have := A' i hi
          rw [show pl_c (nI k.nu) 1 (k.st.length + 1) 1 (fun _ => port) i = pl_c (nI k.nu) 1 (k.st.length + 1) 1 (fun _ => 0) i from by
            unfold pl_c mk_c
            rw [if_neg (fun w : 16 ≤ i ∧ i < 16 + 1 => by omega), if_neg (fun w : 16 ≤ i ∧ i < 16 + 1 => by omega)]]
          exact this
end CMK
