/-! OnionNet: close, push, stream -/
theorem pl_dat2 {A C : Nat → Int32} {num : Int32} {cmd s n : Nat} {d : Nat → Nat} (A' : on_by A (pl_c num cmd s n (fun _ => 0)) 140) (hC : ∀ i, C i = if 16 ≤ i ∧ i < 16 + n then nI (d (i - 16)) else A i) (hd : ∀ j, j < n → d j < 256) : on_by C (pl_c num cmd s n d) 140 := fun i hi => by
  rw [hC]
  by_cases z : 16 ≤ i ∧ i < 16 + n
  · have e : pl_c num cmd s n d i = d (i - 16) := by
      unfold pl_c mk_c
      rw [if_neg (by omega), if_neg (by omega), if_neg (by omega), if_neg (by omega), if_neg (by omega), if_neg (by omega), if_pos z]
    rw [if_pos z, e]
    exact ⟨rfl, hd _ (by omega)⟩
  · have e : pl_c num cmd s n d i = pl_c num cmd s n (fun _ => 0) i := by
      unfold pl_c mk_c
      rw [if_neg z, if_neg z]
    rw [if_neg z, e]
    exact A' i hi
section CC2
variable {G : on_G} {o sz B bc bs : Nat} {L : nL} {a : aN} {M : aO} {h h2 : on_H} {x y w m : Int32}
set_option maxHeartbeats 16000000 in
theorem c_N_close (X : n_X o sz L a [] h) (V : n_V B a) (hB : B + 540 < 2 ^ 28) : on_Ct G M_N_close [.ref o, .int x, .int y] h sz 0 0 (fun v h1 z => v = some (.int (q_close a x y).1) ∧ n_R o sz z L (q_close a x y).2 h h1) := by
  have o1 : h o = some (.inr (11, [.ref (o + 1), .ref (o + 2), .ref (o + 3), .ref (o + 4), .ref (o + 5), .ref (o + 34), .ref (o + 42), .ref (o + 43), .int (nI a.nr), .int (nI a.nk), .int (nI a.nc)])) := X.1.1
  have no : ∀ lv, q_close a x y = (0, a) → on_E G M_N_close 32 lv [] h sz 0 0 (fun v h1 z => v = some (.int (q_close a x y).1) ∧ n_R o sz z L (q_close a x y).2 h h1) := fun lv e => by
    refine on_iconst (pc' := 33) (v := 0) rfl rfl li_0 ?_
    refine on_zreturn rfl rfl ?_ ?_
    · first | rfl | assumption
    rw [e]
    exact ⟨rfl, n_R.same X⟩
  refine on_Ct.of (by decide) v_N_close (Nat.le_of_ble_eq_true rfl) ?_
  first | refine on_aload_n (pc' := 1) rfl rfl rfl rfl ?_ | refine on_aload_nQ (pc' := 1) rfl rfl rfl rfl ?_
  refine on_iload_n (pc' := 2) rfl rfl rfl rfl ?_
  refine on_callV (pc' := 5) (As := [.int x]) (rest := []) (b := o) rfl rfl cw_N_close_118 (o1) rfl rfl (Nat.le_of_ble_eq_true rfl) (Nat.zero_le _) (Nat.zero_le _) (c_circuitAtP V.1.2.2 X.1.1 X.1.2.2.2.1) ?_
  rintro v h sz ⟨rfl, rfl, rfl⟩
  cases e1 : p_i a.nc x with
  | none =>
    have e : q_st a x y = none := by
      unfold q_st
      rw [e1]
      rfl
    have en : q_close a x y = (0, a) := by
      unfold q_close
      rw [e]
    show on_E G M_N_close 5 _ [va_rf none] h sz _ _ _
    first | refine on_astore_n (pc' := 6) rfl rfl rfl (by decide) ?_ | refine on_astore_nQ (pc' := 6) rfl rfl rfl (by decide) ?_
    first | refine on_aload_n (pc' := 7) rfl rfl rfl rfl ?_ | refine on_aload_nQ (pc' := 7) rfl rfl rfl rfl ?_
    refine on_iload_n (pc' := 8) rfl rfl rfl rfl ?_
    refine on_iload_n (pc' := 9) rfl rfl rfl rfl ?_
    refine on_callV (pc' := 12) (As := [.int x, .int y]) (rest := []) (b := o) rfl rfl cw_N_close_133 (o1) rfl rfl (Nat.le_of_ble_eq_true rfl) (Nat.zero_le _) (Nat.zero_le _) (c_streamAtW X V) ?_
    rintro v h sz ⟨rfl, rfl, rfl⟩
    rw [e]
    show on_E G M_N_close 12 _ [va_rf none] h sz _ _ _
    first | refine on_astore (pc' := 14) rfl rfl (by decide) ?_ | refine on_astoreQ (pc' := 14) rfl rfl (by decide) ?_
    first | refine on_aload_n (pc' := 15) rfl rfl rfl rfl ?_ | refine on_aload_nQ (pc' := 15) rfl rfl rfl rfl ?_
    exact on_ifnullN (tgt := 32) rfl rfl (no _ en)
  | some i' =>
   show on_E G M_N_close 5 _ [.ref (L.ca i' + 1)] h sz _ _ _
   first | refine on_astore_n (pc' := 6) rfl rfl rfl (by decide) ?_ | refine on_astore_nQ (pc' := 6) rfl rfl rfl (by decide) ?_
   first | refine on_aload_n (pc' := 7) rfl rfl rfl rfl ?_ | refine on_aload_nQ (pc' := 7) rfl rfl rfl rfl ?_
   refine on_iload_n (pc' := 8) rfl rfl rfl rfl ?_
   refine on_iload_n (pc' := 9) rfl rfl rfl rfl ?_
   refine on_callV (pc' := 12) (As := [.int x, .int y]) (rest := []) (b := o) rfl rfl cw_N_close_133 (o1) rfl rfl (Nat.le_of_ble_eq_true rfl) (Nat.zero_le _) (Nat.zero_le _) (c_streamAtW X V) ?_
   rintro v h sz ⟨rfl, rfl, rfl⟩
   cases e : q_st a x y with
   | none =>
    have en : q_close a x y = (0, a) := by
      unfold q_close
      rw [e]
    show on_E G M_N_close 12 _ [va_rf none] h sz _ _ _
    first | refine on_astore (pc' := 14) rfl rfl (by decide) ?_ | refine on_astoreQ (pc' := 14) rfl rfl (by decide) ?_
    first | refine on_aload_n (pc' := 15) rfl rfl rfl rfl ?_ | refine on_aload_nQ (pc' := 15) rfl rfl rfl rfl ?_
    refine on_ifnullR (pc' := 18) rfl rfl ?_
    first | refine on_aload (pc' := 20) rfl rfl rfl ?_ | refine on_aloadQ (pc' := 20) rfl rfl rfl ?_
    exact on_ifnullN (tgt := 32) rfl rfl (no _ en)
   | some p =>
    obtain ⟨i, s⟩ := p
    obtain ⟨e2, hi, hs, ey⟩ := q_st_some V.1.2.2 (fun i hi => (V.2.2.2.1 i hi).1.2.2.2.2.2.2.2.2.1) e
    have C := X.2.2.1.2.2 i hi
    have c0 := C.ob
    have I := X.2.1.2.2.2.2.1 i hi
    have ck := (V.2.2.2.1 i hi).1
    have p0 := ck.2.2.1 0 (by have := ck.2.1; omega)
    have R0 := X.2.2.1.1 _ p0
    have kc := X.2.1.2.2.2.1 (a.c i).cl ck.1
    have c6 := I.2.2.2.2.2.1
    have hp0 := ck.2.2.2.2.2.2.2.2.2 (by omega)
    have hms := Nat.le_trans (lz_ms _) (ck.2.2.2.2.2.2.2.1 ((a.c i).hp - 1) (by omega)).1
    obtain ⟨S, s1, s2, s3⟩ := C.2.2.2.1
    have sm := (s3 s hs).2
    have dc := I.1.2.1 s hs
    have tS := I.2.2.2.2.1 s hs
    obtain ⟨f, W, k0, k1, k2, k3, k4, k5, k6⟩ := id sm
    have eq : q_close a x y = if ((a.c i).st.getD s t0).ph = 2 then (0, a) else (1, n_fo a i (c_st (a.c i) ((a.c i).st.set s (2, ((a.c i).st.getD s t0).wi, ((a.c i).st.getD s t0).ca, ((a.c i).st.getD s t0).wa, ((a.c i).st.getD s t0).go))) 3 (s + 1) 0 (fun _ => 0)) := by
      unfold q_close
      rw [e]
    have ei : i = i' := Option.some.inj (e2.symm.trans e1)
    subst ei
    generalize (a.c i).st.getD s t0 = t at *
    show on_E G M_N_close 12 _ [.ref (L.sa i s)] h sz _ _ _
    first | refine on_astore (pc' := 14) rfl rfl (by decide) ?_ | refine on_astoreQ (pc' := 14) rfl rfl (by decide) ?_
    first | refine on_aload_n (pc' := 15) rfl rfl rfl rfl ?_ | refine on_aload_nQ (pc' := 15) rfl rfl rfl rfl ?_
    refine on_ifnullR (pc' := 18) rfl rfl ?_
    first | refine on_aload (pc' := 20) rfl rfl rfl ?_ | refine on_aloadQ (pc' := 20) rfl rfl rfl ?_
    refine on_ifnullR (pc' := 23) rfl rfl ?_
    first | refine on_aload (pc' := 25) rfl rfl rfl ?_ | refine on_aloadQ (pc' := 25) rfl rfl rfl ?_
    first | apply on_get (pc' := 28) rfl rfl fl_N_146 | apply on_getN (pc' := 28) rfl rfl fl_N_146
    · repeat (first | assumption | exact on_up_eq _ _ _ | refine (on_up_ne (by omega)).trans ?_)
    · rfl
    refine on_iconst (pc' := 29) (v := 2) rfl rfl li_2 ?_
    refine on_icmp_ne (pc' := 32) (tgt := 34) rfl rfl rfl (fun cq => ?_) (fun cq => ?_)
    rotate_left
    · have p2 : t.ph = 2 := (nI_eq (a := t.ph) (b := 2) (by omega) (by decide)).mp cq
      exact no _ (eq.trans (if_pos p2))
    · have p2 : ¬ t.ph = 2 := fun z => cq (by rw [z]; rfl)
      clear cq
      rw [if_neg p2] at eq
      subst ey
      first | refine on_aload_n (pc' := 35) rfl rfl rfl rfl ?_ | refine on_aload_nQ (pc' := 35) rfl rfl rfl rfl ?_
      first | refine on_aload_n (pc' := 36) rfl rfl rfl rfl ?_ | refine on_aload_nQ (pc' := 36) rfl rfl rfl rfl ?_
      first | apply on_get (pc' := 39) rfl rfl fl_N_43 | apply on_getN (pc' := 39) rfl rfl fl_N_43
      · repeat (first | assumption | exact on_up_eq _ _ _ | refine (on_up_ne (by omega)).trans ?_)
      · rfl
      refine on_iconst (pc' := 40) (v := 3) rfl rfl li_3 ?_
      refine on_iload_n (pc' := 41) rfl rfl rfl rfl ?_
      refine on_iconst (pc' := 42) (v := 0) rfl rfl li_0 ?_
      refine on_callV (pc' := 45) (As := [.ref (o + 34), .int (nI 3), .int (nI (s + 1)), .int (nI 0)]) (rest := []) (b := L.ca i + 1) rfl rfl cw_N_close_157 (c0) rfl rfl (Nat.le_of_ble_eq_true rfl) (Nat.zero_le _) (Nat.zero_le _) (c_toLast (ra := L.ra) (pa := (a.c i).pa) C.1 C.2.1 (by have := ck.2.1; omega) R0 X.1.2.2.2.2.2.2.1.e (by decide) (by decide) (by omega) (by decide)) ?_
      rintro v h1 sz ⟨rfl, rfl, O1, t1⟩
      have c1 := (t1 (L.ca i + 1) (by omega)).trans c0
      have K1 : cr_S (L.ca i) (L.ka (a.c i).cl) (o + 5) L.ra (L.la i) (L.sa i) a.r (a.c i) h1 := C.keep (fun b _ _ => t1 b (by omega)) (fun j hj b _ _ => t1 b (by have := (I.1.1 j hj).1; omega)) (fun j hj b _ _ => t1 b (by have := (I.1.2.1 j hj).1; omega))
      have H1 : hk_W (o + 5) h1 := X.1.2.2.2.2.2.1.keep (fun b _ _ => t1 b (by omega))
      have o2 : h1 o = some (.inr (11, [.ref (o + 1), .ref (o + 2), .ref (o + 3), .ref (o + 4), .ref (o + 5), .ref (o + 34), .ref (o + 42), .ref (o + 43), .int (nI a.nr), .int (nI a.nk), .int (nI a.nc)])) := (t1 o (by omega)).trans o1
      refine on_pop (pc' := 46) rfl rfl rfl ?_
      first | refine on_aload_n (pc' := 47) rfl rfl rfl rfl ?_ | refine on_aload_nQ (pc' := 47) rfl rfl rfl rfl ?_
      first | refine on_aload_n (pc' := 48) rfl rfl rfl rfl ?_ | refine on_aload_nQ (pc' := 48) rfl rfl rfl rfl ?_
      first | apply on_get (pc' := 51) rfl rfl fl_N_43 | apply on_getN (pc' := 51) rfl rfl fl_N_43
      · repeat (first | assumption | exact on_up_eq _ _ _ | refine (on_up_ne (by omega)).trans ?_)
      · rfl
      refine on_callV (pc' := 54) (As := [.ref (o + 34)]) (rest := []) (b := L.ca i + 1) rfl rfl cw_N_close_165 (c1) rfl rfl (Nat.le_of_ble_eq_true rfl) (Nat.zero_le _) (Nat.zero_le _) (c_cseal1 (la := L.la i) (np := (a.c i).pa.length) (f := (a.c i).la) (hp := (a.c i).hp) I.1.1 ⟨by omega, by omega⟩ ⟨hp0, ck.2.2.2.1, by have := ck.2.1; omega⟩ K1.1 O1 fu_s K1.2.2.1 H1.tr (by omega)) ?_
      rintro v h2 sz ⟨rfl, rfl, O2, L2, W2, t2⟩
      rw [show fu (fun _ _ => 0) 0 (pl_c (nI (a.c i).nu) 3 (s + 1) 0 (fun _ => 0)) 0 = pl_c (nI (a.c i).nu) 3 (s + 1) 0 (fun _ => 0) from fu_s] at L2 O2
      have offl : ∀ b, b < L.ca i + 7 → ∀ j, j < (a.c i).hp → b < L.la i j ∨ L.la i j + 8 ≤ b := fun b hb j hj => Or.inl (by have := (I.1.1 j hj).1; omega)
      obtain ⟨y1, y2⟩ := K1.lan I.1 L2 (fun b b1 b2 => t2 b (by omega) (by omega) (fun j hj => by have := b2 j hj; omega))
      have offs : ∀ b, L.sa i s ≤ b → b < L.sa i s + 3 → ∀ j, j < (a.c i).hp → b < L.la i j ∨ L.la i j + 8 ≤ b := fun b b1 b2 j hj => Or.inr (by have := dc.2.2 j hj; omega)
      have k0' := (t2 (L.sa i s) (by omega) (by omega) (offs _ (by omega) (by omega))).trans ((t1 (L.sa i s) (by omega)).trans k0)
      have c2 := (t2 (L.ca i + 1) (by omega) (by omega) (offl _ (by omega))).trans c1
      have o3 : h2 o = some (.inr (11, [.ref (o + 1), .ref (o + 2), .ref (o + 3), .ref (o + 4), .ref (o + 5), .ref (o + 34), .ref (o + 42), .ref (o + 43), .int (nI a.nr), .int (nI a.nk), .int (nI a.nc)])) := (t2 o (by omega) (by omega) (offl _ (by omega))).trans o2
      first | refine on_aload (pc' := 56) rfl rfl rfl ?_ | refine on_aloadQ (pc' := 56) rfl rfl rfl ?_
      refine on_iconst (pc' := 57) (v := 2) rfl rfl li_2 ?_
      first | apply on_put (pc' := 60) rfl rfl fp_N_146 | apply on_putN (pc' := 60) rfl rfl fp_N_146
      · repeat (first | assumption | exact on_up_eq _ _ _ | refine (on_up_ne (by omega)).trans ?_)
      · first | rfl | assumption
      · first | rfl | assumption
      · exact Nat.le_of_ble_eq_true rfl
      have g1 : ∀ b, b ≠ L.sa i s → on_up h2 (L.sa i s) (.inr (10, [.ref (L.sa i s + 1), .ref (L.sa i s + 2), .int (nI f), .int (nI t.wa.length), .int (nI t.go.length), .int 2, .int t.wi, .int t.ca])) b = h2 b := fun b hb => on_up_ne hb
      have g2 : on_up h2 (L.sa i s) (.inr (10, [.ref (L.sa i s + 1), .ref (L.sa i s + 2), .int (nI f), .int (nI t.wa.length), .int (nI t.go.length), .int 2, .int t.wi, .int t.ca])) (L.sa i s) = some (.inr (10, [.ref (L.sa i s + 1), .ref (L.sa i s + 2), .int (nI f), .int (nI t.wa.length), .int (nI t.go.length), .int 2, .int t.wi, .int t.ca])) := on_up_eq _ _ _
      show on_E G M_N_close 60 _ [] (on_up h2 (L.sa i s) (.inr (10, [.ref (L.sa i s + 1), .ref (L.sa i s + 2), .int (nI f), .int (nI t.wa.length), .int (nI t.go.length), .int 2, .int t.wi, .int t.ca]))) sz _ _ _
      generalize on_up h2 (L.sa i s) (.inr (10, [.ref (L.sa i s + 1), .ref (L.sa i s + 2), .int (nI f), .int (nI t.wa.length), .int (nI t.go.length), .int 2, .int t.wi, .int t.ca])) = h3 at g1 g2 ⊢
      have T3 : ∀ b, b ≠ L.sa i s → (b < o + 34 ∨ o + 34 + 8 ≤ b) → (b < o + 5 + 4 ∨ o + 5 + 7 ≤ b) → (∀ j, j < (a.c i).hp → b < L.la i j ∨ L.la i j + 8 ≤ b) → h3 b = h b := fun b b1 b2 b3 b4 => (g1 b b1).trans ((t2 b b2 b3 b4).trans (t1 b b2))
      have sm3 : sm_S (L.sa i s) (2, t.wi, t.ca, t.wa, t.go) h3 := ⟨f, W, g2, (T3 _ (by omega) (by omega) (by omega) (offs _ (by omega) (by omega))).trans k1, k2, k3, k4, k5.keep (T3 _ (by omega) (by omega) (by omega) (offs _ (by omega) (by omega))), Nat.le_refl 2⟩
      obtain ⟨z1, z2⟩ := y1.str y2 hs sm3 (fun b b1 b2 => g1 b (by omega))
      have ef : (c_fo (c_st (a.c i) ((a.c i).st.set s (2, t.wi, t.ca, t.wa, t.go))) 3 (s + 1) 0 (fun _ => 0)).1 = c_st (c_la (a.c i) (cs_q (a.c i).la (a.c i).hp (pl_c (nI (a.c i).nu) 3 (s + 1) 0 (fun _ => 0))).1) ((a.c i).st.set s (2, t.wi, t.ca, t.wa, t.go)) := cfo_1 (k := c_st (a.c i) ((a.c i).st.set s (2, t.wi, t.ca, t.wa, t.go)))
      have e2 : ∀ j, j < 140 → cs_c (a.c i).la (a.c i).hp (pl_c (nI (a.c i).nu) 3 (s + 1) 0 (fun _ => 0)) j = (c_fo (c_st (a.c i) ((a.c i).st.set s (2, t.wi, t.ca, t.wa, t.go))) 3 (s + 1) 0 (fun _ => 0)).2.2 j := fun j hj => cfo_2 (k := c_st (a.c i) ((a.c i).st.set s (2, t.wi, t.ca, t.wa, t.go))) hj
      have z1 : cr_S (L.ca i) (L.ka (a.c i).cl) (o + 5) L.ra (L.la i) (L.sa i) a.r (c_fo (c_st (a.c i) ((a.c i).st.set s (2, t.wi, t.ca, t.wa, t.go))) 3 (s + 1) 0 (fun _ => 0)).1 h3 := by rw [ef]; exact z1
      have z2 : cr_I (L.ca i) (L.la i) (L.sa i) (c_fo (c_st (a.c i) ((a.c i).st.set s (2, t.wi, t.ca, t.wa, t.go))) 3 (s + 1) 0 (fun _ => 0)).1 := by rw [ef]; exact z2
      obtain ⟨u1, u2⟩ := I.st (c2 := (c_fo (c_st (a.c i) ((a.c i).st.set s (2, t.wi, t.ca, t.wa, t.go))) 3 (s + 1) 0 (fun _ => 0)).1) rfl List.length_set
      have O3 : ob_L (o + 34) [(c_fo (c_st (a.c i) ((a.c i).st.set s (2, t.wi, t.ca, t.wa, t.go))) 3 (s + 1) 0 (fun _ => 0)).2] h3 := (ob_1 (t := (a.c i).pa.getD 0 0) (X := (c_fo (c_st (a.c i) ((a.c i).st.set s (2, t.wi, t.ca, t.wa, t.go))) 3 (s + 1) 0 (fun _ => 0)).2.2) O2 fu_s (fun j hj => (congrFun fu_s j).trans (e2 j hj))).keep (fun b _ _ => g1 b (by omega))
      have H3 : hk_W (o + 5) h3 := (H1.tru W2 (fun b b1 b2 b3 => t2 b (by omega) b3 (offl _ (by omega)))).keep (fun b _ _ => g1 b (by omega))
      have fr1 : ∀ b, b < sz → (b < o + 5 ∨ o + 43 ≤ b) → ¬ L.ow b = 12 + 3 * i → h3 b = h b := fun b b1 b2 b3 => T3 b (by have := tS.2.off b3; omega) (by omega) (by omega) (fun j hj => by have := (I.2.2.2.1 j hj).2.off b3; omega)
      have X3 := nx_cir0 (M := [(c_fo (c_st (a.c i) ((a.c i).st.set s (2, t.wi, t.ca, t.wa, t.go))) 3 (s + 1) 0 (fun _ => 0)).2]) (c2 := (c_fo (c_st (a.c i) ((a.c i).st.set s (2, t.wi, t.ca, t.wa, t.go))) 3 (s + 1) 0 (fun _ => 0)).1) (la2 := L.la i) (sa2 := L.sa i) X hi ck.1 (Nat.le_refl _) rfl rfl z2 u1 u2 z1 H3 O3 (X.1.2.2.2.2.2.2.2.1.keep (T3 _ (by omega) (by omega) (by omega) (offl _ (by omega)))) fr1
      have o4 : h3 o = some (.inr (11, [.ref (o + 1), .ref (o + 2), .ref (o + 3), .ref (o + 4), .ref (o + 5), .ref (o + 34), .ref (o + 42), .ref (o + 43), .int (nI a.nr), .int (nI a.nk), .int (nI a.nc)])) := X3.1.1
      have N3 : h3 (L.ka (a.c i).cl) = some (.inr (4, [.int (nI (8 + (a.c i).cl)), .ref (L.ka (a.c i).cl + 1), .int (a.k (a.c i).cl).dr, .int (nI ((a.k (a.c i).cl).nu + 1))])) := (X3.2.2.1.2.1 (a.c i).cl ck.1).1
      have C3 := (g1 (L.ca i + 1) (by omega)).trans c2
      first | refine on_aload_n (pc' := 61) rfl rfl rfl rfl ?_ | refine on_aload_nQ (pc' := 61) rfl rfl rfl rfl ?_
      first | refine on_aload_n (pc' := 62) rfl rfl rfl rfl ?_ | refine on_aload_nQ (pc' := 62) rfl rfl rfl rfl ?_
      first | apply on_get (pc' := 65) rfl rfl fl_N_126 | apply on_getN (pc' := 65) rfl rfl fl_N_126
      · repeat (first | assumption | exact on_up_eq _ _ _ | refine (on_up_ne (by omega)).trans ?_)
      · rfl
      first | apply on_get (pc' := 68) rfl rfl fl_N_130 | apply on_getN (pc' := 68) rfl rfl fl_N_130
      · repeat (first | assumption | exact on_up_eq _ _ _ | refine (on_up_ne (by omega)).trans ?_)
      · rfl
      refine on_callV (pc' := 71) (As := [.int (nI (8 + (a.c i).cl))]) (rest := []) (b := o) rfl rfl cw_N_close_115 (o4) rfl rfl (Nat.le_of_ble_eq_true rfl) (Nat.zero_le _) (Nat.zero_le _) (c_sendW X3 (by have := ck.1; have := V.1.2.1; omega) (ck.ms1 V.1.1)) ?_
      rintro v h5 sz ⟨rfl, rfl, X5, F5⟩
      refine on_iconst (pc' := 72) (v := 1) rfl rfl li_1 ?_
      refine on_zreturn rfl rfl ?_ ?_
      · first | rfl | assumption
      rw [eq]
      exact ⟨rfl, n_R.snd X5 (Nat.le_refl _) F5 (fun b b1 b2 => fr1 b b1 (by have := X.2.1.two (b := b) (by omega); omega) (by omega))⟩
theorem i_min_n {x : Nat} (hx : x < 2 ^ 31) : i_min (nI x) 124 = nI (min x 124) := by
  show (if nI 124 < nI x then nI 124 else nI x) = _
  rcases Nat.lt_or_ge 124 x with z | z
  · rw [if_pos (nI_lt (a := 124) z hx), Nat.min_eq_right (by omega)]
  · rw [if_neg (fun w => absurd ((nI_ltI (a := 124) (b := x) (by decide) hx).mp w) (by omega)), Nat.min_eq_left z]
set_option maxHeartbeats 16000000 in
theorem c_N_push (X : n_X o sz L a [] h) (V : n_V B a) (hB : B + 540 < 2 ^ 28) : on_Ct G M_N_push [.ref o, .int x, .int y] h sz 0 0 (fun v h1 z => v = some (.int (q_push a x y).1) ∧ n_R o sz z L (q_push a x y).2 h h1) := by
  have o1 : h o = some (.inr (11, [.ref (o + 1), .ref (o + 2), .ref (o + 3), .ref (o + 4), .ref (o + 5), .ref (o + 34), .ref (o + 42), .ref (o + 43), .int (nI a.nr), .int (nI a.nk), .int (nI a.nc)])) := X.1.1
  have no : ∀ lv, q_push a x y = (-1, a) → on_E G M_N_push 23 lv [] h sz 0 0 (fun v h1 z => v = some (.int (q_push a x y).1) ∧ n_R o sz z L (q_push a x y).2 h h1) := fun lv e => by
    refine on_iconst (pc' := 24) (v := (-1)) rfl rfl li_m1 ?_
    refine on_ireturn rfl rfl ?_
    rw [e]
    exact ⟨rfl, n_R.same X⟩
  have no0 : ∀ lv, q_push a x y = (0, a) → on_E G M_N_push 50 lv [] h sz 0 0 (fun v h1 z => v = some (.int (q_push a x y).1) ∧ n_R o sz z L (q_push a x y).2 h h1) := fun lv e => by
    refine on_iconst (pc' := 51) (v := 0) rfl rfl li_0 ?_
    refine on_ireturn rfl rfl ?_
    rw [e]
    exact ⟨rfl, n_R.same X⟩
  refine on_Ct.of (by decide) v_N_push (Nat.le_of_ble_eq_true rfl) ?_
  first | refine on_aload_n (pc' := 1) rfl rfl rfl rfl ?_ | refine on_aload_nQ (pc' := 1) rfl rfl rfl rfl ?_
  refine on_iload_n (pc' := 2) rfl rfl rfl rfl ?_
  refine on_callV (pc' := 5) (As := [.int x]) (rest := []) (b := o) rfl rfl cw_N_push_118 (o1) rfl rfl (Nat.le_of_ble_eq_true rfl) (Nat.zero_le _) (Nat.zero_le _) (c_circuitAtP V.1.2.2 X.1.1 X.1.2.2.2.1) ?_
  rintro v h sz ⟨rfl, rfl, rfl⟩
  cases e1 : p_i a.nc x with
  | none =>
    have e : q_st a x y = none := by
      unfold q_st
      rw [e1]
      rfl
    have en : q_push a x y = (-1, a) := by
      unfold q_push
      rw [e]
    show on_E G M_N_push 5 _ [va_rf none] h sz _ _ _
    first | refine on_astore_n (pc' := 6) rfl rfl rfl (by decide) ?_ | refine on_astore_nQ (pc' := 6) rfl rfl rfl (by decide) ?_
    first | refine on_aload_n (pc' := 7) rfl rfl rfl rfl ?_ | refine on_aload_nQ (pc' := 7) rfl rfl rfl rfl ?_
    refine on_iload_n (pc' := 8) rfl rfl rfl rfl ?_
    refine on_iload_n (pc' := 9) rfl rfl rfl rfl ?_
    refine on_callV (pc' := 12) (As := [.int x, .int y]) (rest := []) (b := o) rfl rfl cw_N_push_133 (o1) rfl rfl (Nat.le_of_ble_eq_true rfl) (Nat.zero_le _) (Nat.zero_le _) (c_streamAtW X V) ?_
    rintro v h sz ⟨rfl, rfl, rfl⟩
    rw [e]
    show on_E G M_N_push 12 _ [va_rf none] h sz _ _ _
    first | refine on_astore (pc' := 14) rfl rfl (by decide) ?_ | refine on_astoreQ (pc' := 14) rfl rfl (by decide) ?_
    first | refine on_aload_n (pc' := 15) rfl rfl rfl rfl ?_ | refine on_aload_nQ (pc' := 15) rfl rfl rfl rfl ?_
    exact on_ifnullN (tgt := 23) rfl rfl (no _ en)
  | some i' =>
   show on_E G M_N_push 5 _ [.ref (L.ca i' + 1)] h sz _ _ _
   first | refine on_astore_n (pc' := 6) rfl rfl rfl (by decide) ?_ | refine on_astore_nQ (pc' := 6) rfl rfl rfl (by decide) ?_
   first | refine on_aload_n (pc' := 7) rfl rfl rfl rfl ?_ | refine on_aload_nQ (pc' := 7) rfl rfl rfl rfl ?_
   refine on_iload_n (pc' := 8) rfl rfl rfl rfl ?_
   refine on_iload_n (pc' := 9) rfl rfl rfl rfl ?_
   refine on_callV (pc' := 12) (As := [.int x, .int y]) (rest := []) (b := o) rfl rfl cw_N_push_133 (o1) rfl rfl (Nat.le_of_ble_eq_true rfl) (Nat.zero_le _) (Nat.zero_le _) (c_streamAtW X V) ?_
   rintro v h sz ⟨rfl, rfl, rfl⟩
   cases e : q_st a x y with
   | none =>
    have en : q_push a x y = (-1, a) := by
      unfold q_push
      rw [e]
    show on_E G M_N_push 12 _ [va_rf none] h sz _ _ _
    first | refine on_astore (pc' := 14) rfl rfl (by decide) ?_ | refine on_astoreQ (pc' := 14) rfl rfl (by decide) ?_
    first | refine on_aload_n (pc' := 15) rfl rfl rfl rfl ?_ | refine on_aload_nQ (pc' := 15) rfl rfl rfl rfl ?_
    refine on_ifnullR (pc' := 18) rfl rfl ?_
    first | refine on_aload (pc' := 20) rfl rfl rfl ?_ | refine on_aloadQ (pc' := 20) rfl rfl rfl ?_
    exact on_ifnonnullN (pc' := 23) rfl rfl (no _ en)
   | some p =>
    obtain ⟨i, s⟩ := p
    obtain ⟨e2, hi, hs, ey⟩ := q_st_some V.1.2.2 (fun i hi => (V.2.2.2.1 i hi).1.2.2.2.2.2.2.2.2.1) e
    have C := X.2.2.1.2.2 i hi
    have c0 := C.ob
    have I := X.2.1.2.2.2.2.1 i hi
    have ck := (V.2.2.2.1 i hi).1
    have p0 := ck.2.2.1 0 (by have := ck.2.1; omega)
    have R0 := X.2.2.1.1 _ p0
    have kc := X.2.1.2.2.2.1 (a.c i).cl ck.1
    have c6 := I.2.2.2.2.2.1
    have hp0 := ck.2.2.2.2.2.2.2.2.2 (by omega)
    have hms := Nat.le_trans (lz_ms _) (ck.2.2.2.2.2.2.2.1 ((a.c i).hp - 1) (by omega)).1
    obtain ⟨S, s1, s2, s3⟩ := C.2.2.2.1
    have sm := (s3 s hs).2
    have dc := I.1.2.1 s hs
    have tS := I.2.2.2.2.1 s hs
    obtain ⟨f, W, k0, k1, k2, k3, k4, k5, k6⟩ := id sm
    have eq : q_push a x y = if ((a.c i).st.getD s t0).wa.length = 0 ∨ ¬ ((a.c i).st.getD s t0).ph = 1 ∨ ((a.c i).st.getD s t0).wi = 0 then (0, a) else (nI (min ((a.c i).st.getD s t0).wa.length 124), n_fo a i (c_st (a.c i) ((a.c i).st.set s (((a.c i).st.getD s t0).ph, ((a.c i).st.getD s t0).wi - 1, ((a.c i).st.getD s t0).ca, ((a.c i).st.getD s t0).wa.drop (min ((a.c i).st.getD s t0).wa.length 124), ((a.c i).st.getD s t0).go))) 2 (s + 1) (min ((a.c i).st.getD s t0).wa.length 124) (fun j => ((a.c i).st.getD s t0).wa.getD j 0)) := by
      unfold q_push
      rw [e]
    have ei : i = i' := Option.some.inj (e2.symm.trans e1)
    subst ei
    generalize (a.c i).st.getD s t0 = t at *
    show on_E G M_N_push 12 _ [.ref (L.sa i s)] h sz _ _ _
    first | refine on_astore (pc' := 14) rfl rfl (by decide) ?_ | refine on_astoreQ (pc' := 14) rfl rfl (by decide) ?_
    first | refine on_aload_n (pc' := 15) rfl rfl rfl rfl ?_ | refine on_aload_nQ (pc' := 15) rfl rfl rfl rfl ?_
    refine on_ifnullR (pc' := 18) rfl rfl ?_
    first | refine on_aload (pc' := 20) rfl rfl rfl ?_ | refine on_aloadQ (pc' := 20) rfl rfl rfl ?_
    refine on_ifnonnullR (tgt := 25) rfl rfl ?_
    first | refine on_aload (pc' := 27) rfl rfl rfl ?_ | refine on_aloadQ (pc' := 27) rfl rfl rfl ?_
    first | apply on_get (pc' := 30) rfl rfl fl_N_143 | apply on_getN (pc' := 30) rfl rfl fl_N_143
    · repeat (first | assumption | exact on_up_eq _ _ _ | refine (on_up_ne (by omega)).trans ?_)
    · rfl
    refine on_if_eq (pc' := 33) (tgt := 50) rfl rfl rfl (fun cq => ?_) (fun cq => ?_)
    · have z0 : t.wa.length = 0 := (nI_eq (a := t.wa.length) (b := 0) (by omega) (by decide)).mp cq
      exact no0 _ (eq.trans (if_pos (Or.inl z0)))
    · have z0 : ¬ t.wa.length = 0 := fun z => cq (by rw [z]; rfl)
      clear cq
      first | refine on_aload (pc' := 35) rfl rfl rfl ?_ | refine on_aloadQ (pc' := 35) rfl rfl rfl ?_
      first | apply on_get (pc' := 38) rfl rfl fl_N_146 | apply on_getN (pc' := 38) rfl rfl fl_N_146
      · repeat (first | assumption | exact on_up_eq _ _ _ | refine (on_up_ne (by omega)).trans ?_)
      · rfl
      refine on_iconst (pc' := 39) (v := 1) rfl rfl li_1 ?_
      refine on_icmp_ne (pc' := 42) (tgt := 50) rfl rfl rfl (fun cq => ?_) (fun cq => ?_)
      · have z1 : ¬ t.ph = 1 := fun z => cq (by rw [z]; rfl)
        exact no0 _ (eq.trans (if_pos (Or.inr (Or.inl z1))))
      · have z1 : t.ph = 1 := (nI_eq (a := t.ph) (b := 1) (by omega) (by decide)).mp cq
        clear cq
        first | refine on_aload (pc' := 44) rfl rfl rfl ?_ | refine on_aloadQ (pc' := 44) rfl rfl rfl ?_
        first | apply on_get (pc' := 47) rfl rfl fl_N_149 | apply on_getN (pc' := 47) rfl rfl fl_N_149
        · repeat (first | assumption | exact on_up_eq _ _ _ | refine (on_up_ne (by omega)).trans ?_)
        · rfl
        refine on_if_ne (pc' := 50) (tgt := 52) rfl rfl rfl (fun cq => ?_) (fun cq => ?_)
        rotate_left
        · exact no0 _ (eq.trans (if_pos (Or.inr (Or.inr cq))))
        · have z2 : ¬ t.wi = 0 := cq
          clear cq
          rw [if_neg (fun z => z.elim z0 (fun z => z.elim (fun z => z z1) z2))] at eq
          subst ey
          first | refine on_aload (pc' := 54) rfl rfl rfl ?_ | refine on_aloadQ (pc' := 54) rfl rfl rfl ?_
          first | apply on_get (pc' := 57) rfl rfl fl_N_143 | apply on_getN (pc' := 57) rfl rfl fl_N_143
          · repeat (first | assumption | exact on_up_eq _ _ _ | refine (on_up_ne (by omega)).trans ?_)
          · rfl
          refine on_bipush (pc' := 59) (v := 124) rfl rfl lb_124 ?_
          refine on_min (pc' := 62) rfl rfl jm_N_152 w_min1 w_mth w_min2 (Nat.le_of_ble_eq_true rfl) (Nat.le_of_ble_eq_true rfl) ?_
          rw [i_min_n (by omega)]
          have n1 : min t.wa.length 124 ≤ 124 ∧ min t.wa.length 124 ≤ t.wa.length := ⟨Nat.min_le_right _ _, Nat.min_le_left _ _⟩
          generalize min t.wa.length 124 = n at *
          refine on_istore (pc' := 64) rfl rfl (by decide) ?_
          first | refine on_aload (pc' := 66) rfl rfl rfl ?_ | refine on_aloadQ (pc' := 66) rfl rfl rfl ?_
          first | refine on_aload_n (pc' := 67) rfl rfl rfl rfl ?_ | refine on_aload_nQ (pc' := 67) rfl rfl rfl rfl ?_
          first | refine on_aload_n (pc' := 68) rfl rfl rfl rfl ?_ | refine on_aload_nQ (pc' := 68) rfl rfl rfl rfl ?_
          first | apply on_get (pc' := 71) rfl rfl fl_N_43 | apply on_getN (pc' := 71) rfl rfl fl_N_43
          · repeat (first | assumption | exact on_up_eq _ _ _ | refine (on_up_ne (by omega)).trans ?_)
          · rfl
          refine on_iconst (pc' := 72) (v := 2) rfl rfl li_2 ?_
          refine on_iload_n (pc' := 73) rfl rfl rfl rfl ?_
          refine on_iload (pc' := 75) rfl rfl rfl ?_
          refine on_callV (pc' := 78) (As := [.ref (o + 34), .int (nI 2), .int (nI (s + 1)), .int (nI n)]) (rest := [.ref (L.sa i s)]) (b := L.ca i + 1) rfl rfl cw_N_push_157 (c0) rfl rfl (Nat.le_of_ble_eq_true rfl) (Nat.zero_le _) (Nat.zero_le _) (c_toLast (ra := L.ra) (pa := (a.c i).pa) C.1 C.2.1 (by have := ck.2.1; omega) R0 X.1.2.2.2.2.2.2.1.e (by decide) (by decide) (by omega) n1.1) ?_
          rintro v h1 sz ⟨rfl, rfl, O1, t1⟩
          obtain ⟨A, a1, A'⟩ := rB.ite (O1.2.2.1 0 (by decide)) (by decide)
          rw [fu_s] at A'
          have c1 := (t1 (L.ca i + 1) (by omega)).trans c0
          have o2 : h1 o = some (.inr (11, [.ref (o + 1), .ref (o + 2), .ref (o + 3), .ref (o + 4), .ref (o + 5), .ref (o + 34), .ref (o + 42), .ref (o + 43), .int (nI a.nr), .int (nI a.nk), .int (nI a.nc)])) := (t1 o (by omega)).trans o1
          have sm1 : sm_S (L.sa i s) t h1 := sm.keep (fun b _ _ => t1 b (by omega))
          obtain ⟨f1, W1, q0, -⟩ := id sm1
          show on_E G M_N_push 78 _ [.ref (o + 34 + 2 + 0), .ref (L.sa i s)] h1 sz _ _ _
          refine on_iload (pc' := 80) rfl rfl rfl ?_
          refine on_callV (pc' := 83) (As := [.ref (o + 34 + 2 + 0), .int (nI n)]) (rest := []) (b := L.sa i s) rfl rfl cw_N_push_161 (q0) rfl rfl (Nat.le_of_ble_eq_true rfl) (Nat.zero_le _) (Nat.zero_le _) (c_unqueue sm1 n1 a1 (by omega)) ?_
          rintro v h2 sz ⟨rfl, rfl, sm2, ⟨D, d1, d2⟩, t2⟩
          obtain ⟨f2, W2, w0, w1, w2, w3, w4, w5, w6⟩ := id sm2
          have w0 : h2 (L.sa i s) = some (.inr (10, [.ref (L.sa i s + 1), .ref (L.sa i s + 2), .int (nI f2), .int (nI (t.wa.drop n).length), .int (nI t.go.length), .int (nI t.ph), .int t.wi, .int t.ca])) := w0
          have c2 := (t2 (L.ca i + 1) (by omega) (by omega)).trans c1
          have o3 : h2 o = some (.inr (11, [.ref (o + 1), .ref (o + 2), .ref (o + 3), .ref (o + 4), .ref (o + 5), .ref (o + 34), .ref (o + 42), .ref (o + 43), .int (nI a.nr), .int (nI a.nk), .int (nI a.nc)])) := (t2 o (by omega) (by omega)).trans o2
          have O2 := O1.row (k := 0) (y := pl_c (nI (a.c i).nu) 2 (s + 1) n (fun j => t.wa.getD j 0)) (h2 := h2) (by decide) (by decide) ⟨D, d1, pl_dat2 A' d2 (fun j hj => (k4 j (by omega)).2)⟩ (fun b _ _ b3 => t2 b (by omega) b3)
          first | refine on_aload (pc' := 85) rfl rfl rfl ?_ | refine on_aloadQ (pc' := 85) rfl rfl rfl ?_
          refine on_dup (pc' := 86) rfl rfl rfl ?_
          first | apply on_get (pc' := 89) rfl rfl fl_N_149 | apply on_getN (pc' := 89) rfl rfl fl_N_149
          · repeat (first | assumption | exact on_up_eq _ _ _ | refine (on_up_ne (by omega)).trans ?_)
          · rfl
          refine on_iconst (pc' := 90) (v := 1) rfl rfl li_1 ?_
          refine on_isub (pc' := 91) rfl rfl ?_
          first | apply on_put (pc' := 94) rfl rfl fp_N_149 | apply on_putN (pc' := 94) rfl rfl fp_N_149
          · repeat (first | assumption | exact on_up_eq _ _ _ | refine (on_up_ne (by omega)).trans ?_)
          · first | rfl | assumption
          · first | rfl | assumption
          · exact Nat.le_of_ble_eq_true rfl
          have g1 : ∀ b, b ≠ L.sa i s → on_up h2 (L.sa i s) (.inr (10, [.ref (L.sa i s + 1), .ref (L.sa i s + 2), .int (nI f2), .int (nI (t.wa.drop n).length), .int (nI t.go.length), .int (nI t.ph), .int (t.wi - 1), .int t.ca])) b = h2 b := fun b hb => on_up_ne hb
          have g2 : on_up h2 (L.sa i s) (.inr (10, [.ref (L.sa i s + 1), .ref (L.sa i s + 2), .int (nI f2), .int (nI (t.wa.drop n).length), .int (nI t.go.length), .int (nI t.ph), .int (t.wi - 1), .int t.ca])) (L.sa i s) = some (.inr (10, [.ref (L.sa i s + 1), .ref (L.sa i s + 2), .int (nI f2), .int (nI (t.wa.drop n).length), .int (nI t.go.length), .int (nI t.ph), .int (t.wi - 1), .int t.ca])) := on_up_eq _ _ _
          show on_E G M_N_push 94 _ [] (on_up h2 (L.sa i s) (.inr (10, [.ref (L.sa i s + 1), .ref (L.sa i s + 2), .int (nI f2), .int (nI (t.wa.drop n).length), .int (nI t.go.length), .int (nI t.ph), .int (t.wi - 1), .int t.ca]))) sz _ _ _
          generalize on_up h2 (L.sa i s) (.inr (10, [.ref (L.sa i s + 1), .ref (L.sa i s + 2), .int (nI f2), .int (nI (t.wa.drop n).length), .int (nI t.go.length), .int (nI t.ph), .int (t.wi - 1), .int t.ca])) = h3 at g1 g2 ⊢
          have sm3 : sm_S (L.sa i s) (t.ph, t.wi - 1, t.ca, t.wa.drop n, t.go) h3 := ⟨f2, W2, g2, (g1 _ (by omega)).trans w1, w2, w3, w4, w5.keep (g1 _ (by omega)), w6⟩
          have T3 : ∀ b, b ≠ L.sa i s → (b < o + 34 ∨ o + 34 + 8 ≤ b) → h3 b = h b := fun b b1 b2 => (g1 b b1).trans ((t2 b b1 (by omega)).trans (t1 b b2))
          obtain ⟨y1, y2⟩ := C.str I.1 hs sm3 (fun b b1 b2 => T3 b (by omega) (by omega))
          have O3 := O2.keep (h2 := h3) (fun b _ _ => g1 b (by omega))
          have H3 : hk_W (o + 5) h3 := X.1.2.2.2.2.2.1.keep (fun b _ _ => T3 b (by omega) (by omega))
          have c3 := y1.ob
          have o4 : h3 o = some (.inr (11, [.ref (o + 1), .ref (o + 2), .ref (o + 3), .ref (o + 4), .ref (o + 5), .ref (o + 34), .ref (o + 42), .ref (o + 43), .int (nI a.nr), .int (nI a.nk), .int (nI a.nc)])) := (T3 o (by omega) (by omega)).trans o1
          first | refine on_aload_n (pc' := 95) rfl rfl rfl rfl ?_ | refine on_aload_nQ (pc' := 95) rfl rfl rfl rfl ?_
          first | refine on_aload_n (pc' := 96) rfl rfl rfl rfl ?_ | refine on_aload_nQ (pc' := 96) rfl rfl rfl rfl ?_
          first | apply on_get (pc' := 99) rfl rfl fl_N_43 | apply on_getN (pc' := 99) rfl rfl fl_N_43
          · repeat (first | assumption | exact on_up_eq _ _ _ | refine (on_up_ne (by omega)).trans ?_)
          · rfl
          refine on_callV (pc' := 102) (As := [.ref (o + 34)]) (rest := []) (b := L.ca i + 1) rfl rfl cw_N_push_165 (c3) rfl rfl (Nat.le_of_ble_eq_true rfl) (Nat.zero_le _) (Nat.zero_le _) (c_cseal1 (la := L.la i) (np := (a.c i).pa.length) (f := (a.c i).la) (hp := (a.c i).hp) I.1.1 ⟨by omega, by omega⟩ ⟨hp0, ck.2.2.2.1, by have := ck.2.1; omega⟩ y1.1 O3 fu_s y1.2.2.1 H3.tr (by omega)) ?_
          rintro v h4 sz ⟨rfl, rfl, O4, L4, W4, t4⟩
          rw [show fu (fu (fun _ _ => 0) 0 (pl_c (nI (a.c i).nu) 2 (s + 1) n (fun _ => 0))) 0 (pl_c (nI (a.c i).nu) 2 (s + 1) n (fun j => t.wa.getD j 0)) 0 = pl_c (nI (a.c i).nu) 2 (s + 1) n (fun j => t.wa.getD j 0) from fu_s] at L4 O4
          have offl : ∀ b, b < L.ca i + 7 → ∀ j, j < (a.c i).hp → b < L.la i j ∨ L.la i j + 8 ≤ b := fun b hb j hj => Or.inl (by have := (I.1.1 j hj).1; omega)
          obtain ⟨z1', z2'⟩ := y1.lan y2 L4 (fun b b1 b2 => t4 b (by omega) (by omega) (fun j hj => by have := b2 j hj; omega))
          have ef : (c_fo (c_st (a.c i) ((a.c i).st.set s (t.ph, t.wi - 1, t.ca, t.wa.drop n, t.go))) 2 (s + 1) n (fun j => t.wa.getD j 0)).1 = c_la (c_st (a.c i) ((a.c i).st.set s (t.ph, t.wi - 1, t.ca, t.wa.drop n, t.go))) (cs_q (a.c i).la (a.c i).hp (pl_c (nI (a.c i).nu) 2 (s + 1) n (fun j => t.wa.getD j 0))).1 := cfo_1 (k := c_st (a.c i) ((a.c i).st.set s (t.ph, t.wi - 1, t.ca, t.wa.drop n, t.go)))
          have e2 : ∀ j, j < 140 → cs_c (a.c i).la (a.c i).hp (pl_c (nI (a.c i).nu) 2 (s + 1) n (fun j => t.wa.getD j 0)) j = (c_fo (c_st (a.c i) ((a.c i).st.set s (t.ph, t.wi - 1, t.ca, t.wa.drop n, t.go))) 2 (s + 1) n (fun j => t.wa.getD j 0)).2.2 j := fun j hj => cfo_2 (k := c_st (a.c i) ((a.c i).st.set s (t.ph, t.wi - 1, t.ca, t.wa.drop n, t.go))) hj
          have z1' : cr_S (L.ca i) (L.ka (a.c i).cl) (o + 5) L.ra (L.la i) (L.sa i) a.r (c_fo (c_st (a.c i) ((a.c i).st.set s (t.ph, t.wi - 1, t.ca, t.wa.drop n, t.go))) 2 (s + 1) n (fun j => t.wa.getD j 0)).1 h4 := by rw [ef]; exact z1'
          have z2' : cr_I (L.ca i) (L.la i) (L.sa i) (c_fo (c_st (a.c i) ((a.c i).st.set s (t.ph, t.wi - 1, t.ca, t.wa.drop n, t.go))) 2 (s + 1) n (fun j => t.wa.getD j 0)).1 := by rw [ef]; exact z2'
          obtain ⟨u1, u2⟩ := I.st (c2 := (c_fo (c_st (a.c i) ((a.c i).st.set s (t.ph, t.wi - 1, t.ca, t.wa.drop n, t.go))) 2 (s + 1) n (fun j => t.wa.getD j 0)).1) rfl List.length_set
          have O5 : ob_L (o + 34) [(c_fo (c_st (a.c i) ((a.c i).st.set s (t.ph, t.wi - 1, t.ca, t.wa.drop n, t.go))) 2 (s + 1) n (fun j => t.wa.getD j 0)).2] h4 := ob_1 (t := (a.c i).pa.getD 0 0) (X := (c_fo (c_st (a.c i) ((a.c i).st.set s (t.ph, t.wi - 1, t.ca, t.wa.drop n, t.go))) 2 (s + 1) n (fun j => t.wa.getD j 0)).2.2) O4 fu_s (fun j hj => (congrFun fu_s j).trans (e2 j hj))
          have H4 : hk_W (o + 5) h4 := H3.tru W4 (fun b b1 b2 b3 => t4 b (by omega) b3 (offl _ (by omega)))
          have fr1 : ∀ b, b < sz → (b < o + 5 ∨ o + 43 ≤ b) → ¬ L.ow b = 12 + 3 * i → h4 b = h b := fun b b1 b2 b3 => (t4 b (by omega) (by omega) (fun j hj => by have := (I.2.2.2.1 j hj).2.off b3; omega)).trans (T3 b (by have := tS.2.off b3; omega) (by omega))
          have X3 := nx_cir0 (M := [(c_fo (c_st (a.c i) ((a.c i).st.set s (t.ph, t.wi - 1, t.ca, t.wa.drop n, t.go))) 2 (s + 1) n (fun j => t.wa.getD j 0)).2]) (c2 := (c_fo (c_st (a.c i) ((a.c i).st.set s (t.ph, t.wi - 1, t.ca, t.wa.drop n, t.go))) 2 (s + 1) n (fun j => t.wa.getD j 0)).1) (la2 := L.la i) (sa2 := L.sa i) X hi ck.1 (Nat.le_refl _) rfl rfl z2' u1 u2 z1' H4 O5 (X.1.2.2.2.2.2.2.2.1.keep ((t4 _ (by omega) (by omega) (offl _ (by omega))).trans (T3 _ (by omega) (by omega)))) fr1
          have o5 : h4 o = some (.inr (11, [.ref (o + 1), .ref (o + 2), .ref (o + 3), .ref (o + 4), .ref (o + 5), .ref (o + 34), .ref (o + 42), .ref (o + 43), .int (nI a.nr), .int (nI a.nk), .int (nI a.nc)])) := X3.1.1
          have N3 : h4 (L.ka (a.c i).cl) = some (.inr (4, [.int (nI (8 + (a.c i).cl)), .ref (L.ka (a.c i).cl + 1), .int (a.k (a.c i).cl).dr, .int (nI ((a.k (a.c i).cl).nu + 1))])) := (X3.2.2.1.2.1 (a.c i).cl ck.1).1
          have C3 := z1'.ob
          first | refine on_aload_n (pc' := 103) rfl rfl rfl rfl ?_ | refine on_aload_nQ (pc' := 103) rfl rfl rfl rfl ?_
          first | refine on_aload_n (pc' := 104) rfl rfl rfl rfl ?_ | refine on_aload_nQ (pc' := 104) rfl rfl rfl rfl ?_
          first | apply on_get (pc' := 107) rfl rfl fl_N_126 | apply on_getN (pc' := 107) rfl rfl fl_N_126
          · repeat (first | assumption | exact on_up_eq _ _ _ | refine (on_up_ne (by omega)).trans ?_)
          · rfl
          first | apply on_get (pc' := 110) rfl rfl fl_N_130 | apply on_getN (pc' := 110) rfl rfl fl_N_130
          · repeat (first | assumption | exact on_up_eq _ _ _ | refine (on_up_ne (by omega)).trans ?_)
          · rfl
          refine on_callV (pc' := 113) (As := [.int (nI (8 + (a.c i).cl))]) (rest := []) (b := o) rfl rfl cw_N_push_115 (o5) rfl rfl (Nat.le_of_ble_eq_true rfl) (Nat.zero_le _) (Nat.zero_le _) (c_sendW X3 (by have := ck.1; have := V.1.2.1; omega) (ck.ms1 V.1.1)) ?_
          rintro v h5 sz ⟨rfl, rfl, X5, F5⟩
          refine on_iload (pc' := 115) rfl rfl rfl ?_
          refine on_ireturn rfl rfl ?_
          rw [eq]
          exact ⟨rfl, n_R.snd X5 (Nat.le_refl _) F5 (fun b b1 b2 => fr1 b b1 (by have := X.2.1.two (b := b) (by omega); omega) (by omega))⟩
theorem n_pc_s {i : Nat} {c2 : aC} {lk2 : Nat → List aB} (hi : i < a.nc) (hnc : a.nc ≤ 6) (h1 : c2.hp = (a.c i).hp) (h3 : c2.st.length = (a.c i).st.length + 1) (h4 : (a.c i).st.length < 4) : n_pc (n_lk (n_c a i c2) lk2) + 3 = n_pc a ∧ n_ps (n_lk (n_c a i c2) lk2) + 2408 = n_ps a := by
  have e1 := s6_up (f := fun j => if j < a.nc then 16 * (3 - (a.c j).hp) + 3 * (4 - (a.c j).st.length) else 80) (g := fun j => if j < a.nc then 16 * (3 - (fu a.c i c2 j).hp) + 3 * (4 - (fu a.c i c2 j).st.length) else 80) (i := i) (d := 3) (by omega) (fun j hj ne => by rw [fu_n ne]) (by rw [if_pos hi, if_pos hi, fu_s, h3, h1]; omega)
  have e2 := s6_up (f := fun j => if j < a.nc then 420 * (3 - (a.c j).hp) + 2408 * (4 - (a.c j).st.length) else 12000) (g := fun j => if j < a.nc then 420 * (3 - (fu a.c i c2 j).hp) + 2408 * (4 - (fu a.c i c2 j).st.length) else 12000) (i := i) (d := 2408) (by omega) (fun j hj ne => by rw [fu_n ne]) (by rw [if_pos hi, if_pos hi, fu_s, h3, h1]; omega)
  refine ⟨?_, ?_⟩
  · show (6 - a.nr) * 400 + (2 - a.nk) * 60 + s6 (fun j => if j < a.nc then 16 * (3 - (fu a.c i c2 j).hp) + 3 * (4 - (fu a.c i c2 j).st.length) else 80) + 3 = (6 - a.nr) * 400 + (2 - a.nk) * 60 + s6 (fun j => if j < a.nc then 16 * (3 - (a.c j).hp) + 3 * (4 - (a.c j).st.length) else 80)
    rw [Nat.add_assoc, e1]
  · show (6 - a.nr) * 40000 + (2 - a.nk) * 23000 + s6 (fun j => if j < a.nc then 420 * (3 - (fu a.c i c2 j).hp) + 2408 * (4 - (fu a.c i c2 j).st.length) else 12000) + 2408 = (6 - a.nr) * 40000 + (2 - a.nk) * 23000 + s6 (fun j => if j < a.nc then 420 * (3 - (a.c j).hp) + 2408 * (4 - (a.c j).st.length) else 12000)
    rw [Nat.add_assoc, e2]
set_option maxHeartbeats 16000000 in
theorem c_N_stream (X : n_X o sz L a [] h) (V : n_V B a) (hB : B + 540 < 2 ^ 28) (hb : n_pc a ≤ bc + n_pc (q_stream a x y).2 ∧ n_ps a ≤ bs + n_ps (q_stream a x y).2) : on_Ct G M_N_stream [.ref o, .int x, .int y] h sz bc bs (fun v h1 z => v = some (.int (q_stream a x y).1) ∧ n_R o sz z L (q_stream a x y).2 h h1) := by
  have o1 : h o = some (.inr (11, [.ref (o + 1), .ref (o + 2), .ref (o + 3), .ref (o + 4), .ref (o + 5), .ref (o + 34), .ref (o + 42), .ref (o + 43), .int (nI a.nr), .int (nI a.nk), .int (nI a.nc)])) := X.1.1
  have no : ∀ lv bc bs, q_stream a x y = (-1, a) → on_E G M_N_stream 21 lv [] h sz bc bs (fun v h1 z => v = some (.int (q_stream a x y).1) ∧ n_R o sz z L (q_stream a x y).2 h h1) := fun lv bc bs e => by
    refine on_iconst (pc' := 22) (v := (-1)) rfl rfl li_m1 ?_
    refine on_ireturn rfl rfl ?_
    rw [e]
    exact ⟨rfl, n_R.same X⟩
  refine on_Ct.of (by decide) v_N_stream (Nat.le_of_ble_eq_true rfl) ?_
  first | refine on_aload_n (pc' := 1) rfl rfl rfl rfl ?_ | refine on_aload_nQ (pc' := 1) rfl rfl rfl rfl ?_
  refine on_iload_n (pc' := 2) rfl rfl rfl rfl ?_
  refine on_callV (pc' := 5) (As := [.int x]) (rest := []) (b := o) rfl rfl cw_N_stream_118 (o1) rfl rfl (Nat.le_of_ble_eq_true rfl) (Nat.zero_le _) (Nat.zero_le _) (c_circuitAtP V.1.2.2 X.1.1 X.1.2.2.2.1) ?_
  rintro v h sz ⟨rfl, rfl, rfl⟩
  cases e : p_i a.nc x with
  | none =>
    show on_E G M_N_stream 5 _ [va_rf none] h sz _ _ _
    first | refine on_astore_n (pc' := 6) rfl rfl rfl (by decide) ?_ | refine on_astore_nQ (pc' := 6) rfl rfl rfl (by decide) ?_
    first | refine on_aload_n (pc' := 7) rfl rfl rfl rfl ?_ | refine on_aload_nQ (pc' := 7) rfl rfl rfl rfl ?_
    refine on_ifnullN (tgt := 21) rfl rfl (no _ _ _ ?_)
    unfold q_stream
    rw [e]
  | some i =>
    have hi := (p_i_some (by have := V.1.2.2; omega) e).1
    have C := X.2.2.1.2.2 i hi
    have c0 := C.ob
    have I := X.2.1.2.2.2.2.1 i hi
    have ck := (V.2.2.2.1 i hi).1
    have p0 := ck.2.2.1 0 (by have := ck.2.1; omega)
    have R0 := X.2.2.1.1 _ p0
    have kc := X.2.1.2.2.2.1 (a.c i).cl ck.1
    have rc := X.2.1.2.2.1 _ p0
    have r7 := I.2.2.2.2.2.2 0 (by have := ck.2.1; omega)
    have c6 := I.2.2.2.2.2.1
    have eq : q_stream a x y = match p_i 256 y with | none => (-1, a) | some port => if (a.c i).ph = 1 ∧ (a.c i).st.length < 4 then (nI ((a.c i).st.length + 1), n_fo a i (c_st (a.c i) ((a.c i).st ++ [t_nw])) 1 ((a.c i).st.length + 1) 1 (fun _ => port)) else (-1, a) := by
      unfold q_stream
      rw [e]
      rfl
    show on_E G M_N_stream 5 _ [.ref (L.ca i + 1)] h sz _ _ _
    first | refine on_astore_n (pc' := 6) rfl rfl rfl (by decide) ?_ | refine on_astore_nQ (pc' := 6) rfl rfl rfl (by decide) ?_
    first | refine on_aload_n (pc' := 7) rfl rfl rfl rfl ?_ | refine on_aload_nQ (pc' := 7) rfl rfl rfl rfl ?_
    refine on_ifnullR (pc' := 10) rfl rfl ?_
    refine on_iload_n (pc' := 11) rfl rfl rfl rfl ?_
    refine on_if_lt (pc' := 14) (tgt := 21) rfl rfl rfl (fun cq => ?_) (fun cq => ?_)
    · refine no _ _ _ (eq.trans ?_)
      rw [show p_i 256 y = none from if_neg (fun z => z.1 cq)]
    · have x0 := cq
      clear cq
      refine on_iload_n (pc' := 15) rfl rfl rfl rfl ?_
      refine on_sipush (pc' := 18) (v := 255) rfl rfl ls_255 ?_
      refine on_icmp_le (pc' := 21) (tgt := 23) rfl rfl rfl (fun cq => ?_) (fun cq => ?_)
      rotate_left
      · refine no _ _ _ (eq.trans ?_)
        rw [show p_i 256 y = none from if_neg (fun z => cq ((p_i_lt1 (n := 255) (by decide) x0).mp z.2))]
      · have x1 : y < nI 256 := (p_i_lt1 (n := 255) (by decide) x0).mpr cq
        clear cq
        have ep : p_i 256 y = some y.toNatClampNeg := if_pos ⟨x0, x1⟩
        obtain ⟨port, hpt, en, -, ec, -⟩ := pk_mu (L := 256) x0 (Int32.not_le.mpr x1) (by decide)
        rw [ep, ec] at eq
        have eq : q_stream a x y = if (a.c i).ph = 1 ∧ (a.c i).st.length < 4 then (nI ((a.c i).st.length + 1), n_fo a i (c_st (a.c i) ((a.c i).st ++ [t_nw])) 1 ((a.c i).st.length + 1) 1 (fun _ => port)) else (-1, a) := eq
        subst en
        have hbb : (a.c i).ph = 1 ∧ (a.c i).st.length < 4 → 3 ≤ bc ∧ 2408 ≤ bs := fun z => by
          rw [eq, if_pos z] at hb
          have := n_pc_s (a := a) (c2 := (c_fo (c_st (a.c i) ((a.c i).st ++ [t_nw])) 1 ((a.c i).st.length + 1) 1 (fun _ => port)).1) (lk2 := n_sd (8 + (a.c i).cl) a.lk [(c_fo (c_st (a.c i) ((a.c i).st ++ [t_nw])) 1 ((a.c i).st.length + 1) 1 (fun _ => port)).2]) hi V.1.2.2 rfl (show ((a.c i).st ++ [t_nw]).length = _ from List.length_append) z.2
          have hb : n_pc a ≤ bc + n_pc (n_lk (n_c a i (c_fo (c_st (a.c i) ((a.c i).st ++ [t_nw])) 1 ((a.c i).st.length + 1) 1 (fun _ => port)).1) (n_sd (8 + (a.c i).cl) a.lk [(c_fo (c_st (a.c i) ((a.c i).st ++ [t_nw])) 1 ((a.c i).st.length + 1) 1 (fun _ => port)).2])) ∧ n_ps a ≤ bs + n_ps (n_lk (n_c a i (c_fo (c_st (a.c i) ((a.c i).st ++ [t_nw])) 1 ((a.c i).st.length + 1) 1 (fun _ => port)).1) (n_sd (8 + (a.c i).cl) a.lk [(c_fo (c_st (a.c i) ((a.c i).st ++ [t_nw])) 1 ((a.c i).st.length + 1) 1 (fun _ => port)).2])) := hb
          omega
        first | refine on_aload_n (pc' := 24) rfl rfl rfl rfl ?_ | refine on_aload_nQ (pc' := 24) rfl rfl rfl rfl ?_
        refine on_iload_n (pc' := 25) rfl rfl rfl rfl ?_
        first | refine on_aload_n (pc' := 26) rfl rfl rfl rfl ?_ | refine on_aload_nQ (pc' := 26) rfl rfl rfl rfl ?_
        first | apply on_get (pc' := 29) rfl rfl fl_N_43 | apply on_getN (pc' := 29) rfl rfl fl_N_43
        · repeat (first | assumption | exact on_up_eq _ _ _ | refine (on_up_ne (by omega)).trans ?_)
        · rfl
        refine on_callV (pc' := 32) (As := [.int (nI port), .ref (o + 34)]) (rest := []) (b := L.ca i + 1) rfl rfl cw_N_stream_122 (c0) rfl rfl (Nat.le_of_ble_eq_true rfl) (by omega) (by omega) (c_Circuit_addStream (ot := o + 1) (bc := bc) (bs := bs) hpt ⟨by omega, by omega, I.2.1⟩ (fun j hj => (I.2.2.2.1 j hj).1) (fun j hj => (I.2.2.2.2.1 j hj).1) (fun j hj => by have := (ck.2.2.2.2.2.2.2.1 j hj).1; have := lz_ms ((a.c i).la j).1; omega) C I.1 R0 ⟨by omega, r7⟩ X.1.2.2.2.2.2.1 X.1.2.2.2.2.2.2.1.e hbb) ?_
        rintro v h1 z (⟨pz, rfl, rfl, C1, I1, H1, O1, t1⟩ | ⟨pz, rfl, rfl, rfl⟩)
        · rw [if_pos pz] at eq
          have fr1 : ∀ b, b < sz → (b < o + 5 ∨ o + 43 ≤ b) → ¬ L.ow b = 12 + 3 * i → h1 b = h b := fun b b1 b2 b3 => t1 b b1 (I.2.2.1.off b3) (by omega) (by omega) (fun j hj => (I.2.2.2.1 j hj).2.off b3)
          have offl : ∀ b, b < L.ca i + 7 → ∀ j, j < (a.c i).hp → b < L.la i j ∨ L.la i j + 16 ≤ b := fun b hb j hj => Or.inl (by have := (I.1.1 j hj).1; omega)
          have i2 := I.2.1
          have X3 := nx_cir0 (M := [(c_fo (c_st (a.c i) ((a.c i).st ++ [t_nw])) 1 ((a.c i).st.length + 1) 1 (fun _ => port)).2]) (c2 := (c_fo (c_st (a.c i) ((a.c i).st ++ [t_nw])) 1 ((a.c i).st.length + 1) 1 (fun _ => port)).1) (la2 := L.la i) (sa2 := fu (L.sa i) (a.c i).st.length sz) (z := sz + 3) X hi ck.1 (by omega) rfl rfl I1 (fun j hj => ⟨by have := (I.2.2.2.1 j hj).1; omega, Or.inl ⟨rfl, hj⟩⟩) (fun j hj => by
            have hj : j < ((a.c i).st ++ [t_nw]).length := hj
            rw [List.length_append] at hj
            have hj : j < (a.c i).st.length + 1 := hj
            by_cases w : j = (a.c i).st.length
            · rw [w, fu_s]
              exact ⟨Nat.le_refl _, Or.inr (Nat.le_refl _)⟩
            · rw [fu_n w]
              exact ⟨by have := (I.2.2.2.2.1 j (by omega)).1; omega, Or.inl ⟨rfl, by omega⟩⟩) C1 H1 O1 (X.1.2.2.2.2.2.2.2.1.keep (t1 _ (by omega) (by omega) (by omega) (by omega) (offl _ (by omega)))) fr1
          have o5 : h1 o = some (.inr (11, [.ref (o + 1), .ref (o + 2), .ref (o + 3), .ref (o + 4), .ref (o + 5), .ref (o + 34), .ref (o + 42), .ref (o + 43), .int (nI a.nr), .int (nI a.nk), .int (nI a.nc)])) := X3.1.1
          have N3 : h1 (L.ka (a.c i).cl) = some (.inr (4, [.int (nI (8 + (a.c i).cl)), .ref (L.ka (a.c i).cl + 1), .int (a.k (a.c i).cl).dr, .int (nI ((a.k (a.c i).cl).nu + 1))])) := (X3.2.2.1.2.1 (a.c i).cl ck.1).1
          have C3 := C1.ob
          refine on_istore (pc' := 34) rfl rfl (by decide) ?_
          first | refine on_aload_n (pc' := 35) rfl rfl rfl rfl ?_ | refine on_aload_nQ (pc' := 35) rfl rfl rfl rfl ?_
          first | refine on_aload_n (pc' := 36) rfl rfl rfl rfl ?_ | refine on_aload_nQ (pc' := 36) rfl rfl rfl rfl ?_
          first | apply on_get (pc' := 39) rfl rfl fl_N_126 | apply on_getN (pc' := 39) rfl rfl fl_N_126
          · repeat (first | assumption | exact on_up_eq _ _ _ | refine (on_up_ne (by omega)).trans ?_)
          · rfl
          first | apply on_get (pc' := 42) rfl rfl fl_N_130 | apply on_getN (pc' := 42) rfl rfl fl_N_130
          · repeat (first | assumption | exact on_up_eq _ _ _ | refine (on_up_ne (by omega)).trans ?_)
          · rfl
          refine on_callV (pc' := 45) (As := [.int (nI (8 + (a.c i).cl))]) (rest := []) (b := o) rfl rfl cw_N_stream_115 (o5) rfl rfl (Nat.le_of_ble_eq_true rfl) (Nat.zero_le _) (Nat.zero_le _) (c_sendW X3 (by have := ck.1; have := V.1.2.1; omega) (ck.ms1 V.1.1)) ?_
          rintro v h5 z ⟨rfl, rfl, X5, F5⟩
          refine on_iload (pc' := 47) rfl rfl rfl ?_
          refine on_ireturn rfl rfl ?_
          rw [eq]
          exact ⟨rfl, n_R.snd X5 (by omega) F5 (fun b b1 b2 => fr1 b b1 (by have := X.2.1.two (b := b) (by omega); omega) (by omega))⟩
        · rw [if_neg pz] at eq
          have N3 : h1 (L.ka (a.c i).cl) = some (.inr (4, [.int (nI (8 + (a.c i).cl)), .ref (L.ka (a.c i).cl + 1), .int (a.k (a.c i).cl).dr, .int (nI ((a.k (a.c i).cl).nu + 1))])) := (X.2.2.1.2.1 (a.c i).cl ck.1).1
          refine on_istore (pc' := 34) rfl rfl (by decide) ?_
          first | refine on_aload_n (pc' := 35) rfl rfl rfl rfl ?_ | refine on_aload_nQ (pc' := 35) rfl rfl rfl rfl ?_
          first | refine on_aload_n (pc' := 36) rfl rfl rfl rfl ?_ | refine on_aload_nQ (pc' := 36) rfl rfl rfl rfl ?_
          first | apply on_get (pc' := 39) rfl rfl fl_N_126 | apply on_getN (pc' := 39) rfl rfl fl_N_126
          · repeat (first | assumption | exact on_up_eq _ _ _ | refine (on_up_ne (by omega)).trans ?_)
          · rfl
          first | apply on_get (pc' := 42) rfl rfl fl_N_130 | apply on_getN (pc' := 42) rfl rfl fl_N_130
          · repeat (first | assumption | exact on_up_eq _ _ _ | refine (on_up_ne (by omega)).trans ?_)
          · rfl
          refine on_callV (pc' := 45) (As := [.int (nI (8 + (a.c i).cl))]) (rest := []) (b := o) rfl rfl cw_N_stream_115 (o1) rfl rfl (Nat.le_of_ble_eq_true rfl) (Nat.zero_le _) (Nat.zero_le _) (c_sendW X (by have := ck.1; have := V.1.2.1; omega) m_nil) ?_
          rintro v h5 z ⟨rfl, rfl, X5, F5⟩
          refine on_iload (pc' := 47) rfl rfl rfl ?_
          refine on_ireturn rfl rfl ?_
          rw [eq]
          exact ⟨rfl, n_R.sm X5 (fun b b1 b2 => F5 b b1 (by omega) (by omega))⟩
end CC2
