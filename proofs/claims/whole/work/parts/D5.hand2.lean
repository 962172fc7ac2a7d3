/-! OnionNet: handOver is n_ho -/
theorem p_i_hi {n i : Nat} (h : n ≤ i) (hi : i < 2 ^ 31) : p_i n (nI i) = none := if_neg (fun z => absurd ((nI_ltI hi (by omega)).mp z.2) (by omega))
section HOV
variable {G : on_G} {o sz B fr to bc bs : Nat} {L : nL} {a : aN} {M : aO} {h h2 : on_H} {x : aB} {l : List aB} {Q : Option Value → on_H → Nat → Prop}
theorem n_pc_c {i : Nat} {c2 : aC} {k2 : Nat → aK} {lk2 : Nat → List aB} (hi : i < a.nc) (hnc : a.nc ≤ 6) (h1 : (a.c i).hp ≤ c2.hp) (h2 : c2.hp ≤ 3) (h3 : c2.st.length = (a.c i).st.length) : n_pc (a.nr, a.r, a.nk, k2, a.nc, fu a.c i c2, lk2) + 16 * (c2.hp - (a.c i).hp) = n_pc a ∧ n_ps (a.nr, a.r, a.nk, k2, a.nc, fu a.c i c2, lk2) + 420 * (c2.hp - (a.c i).hp) = n_ps a := by
  have e1 := s6_up (f := fun j => if j < a.nc then 16 * (3 - (a.c j).hp) + 3 * (4 - (a.c j).st.length) else 80) (g := fun j => if j < a.nc then 16 * (3 - (fu a.c i c2 j).hp) + 3 * (4 - (fu a.c i c2 j).st.length) else 80) (i := i) (d := 16 * (c2.hp - (a.c i).hp)) (by omega) (fun j hj ne => by rw [fu_n ne]) (by rw [if_pos hi, if_pos hi, fu_s, h3]; omega)
  have e2 := s6_up (f := fun j => if j < a.nc then 420 * (3 - (a.c j).hp) + 2408 * (4 - (a.c j).st.length) else 12000) (g := fun j => if j < a.nc then 420 * (3 - (fu a.c i c2 j).hp) + 2408 * (4 - (fu a.c i c2 j).st.length) else 12000) (i := i) (d := 420 * (c2.hp - (a.c i).hp)) (by omega) (fun j hj ne => by rw [fu_n ne]) (by rw [if_pos hi, if_pos hi, fu_s, h3]; omega)
  refine ⟨?_, ?_⟩
  · show (6 - a.nr) * 400 + (2 - a.nk) * 60 + s6 (fun j => if j < a.nc then 16 * (3 - (fu a.c i c2 j).hp) + 3 * (4 - (fu a.c i c2 j).st.length) else 80) + 16 * (c2.hp - (a.c i).hp) = (6 - a.nr) * 400 + (2 - a.nk) * 60 + s6 (fun j => if j < a.nc then 16 * (3 - (a.c j).hp) + 3 * (4 - (a.c j).st.length) else 80)
    rw [Nat.add_assoc, e1]
  · show (6 - a.nr) * 40000 + (2 - a.nk) * 23000 + s6 (fun j => if j < a.nc then 420 * (3 - (fu a.c i c2 j).hp) + 2408 * (4 - (fu a.c i c2 j).st.length) else 12000) + 420 * (c2.hp - (a.c i).hp) = (6 - a.nr) * 40000 + (2 - a.nk) * 23000 + s6 (fun j => if j < a.nc then 420 * (3 - (a.c j).hp) + 2408 * (4 - (a.c j).st.length) else 12000)
    rw [Nat.add_assoc, e2]
theorem n_ho_r (hx : a.lk (10 * fr + to) = x :: l) (t8 : to < 8) : n_ho a fr to = (a.nr, fu a.r to (r_tk a.nr to (a.r to) fr x).1, a.nk, a.k, a.nc, a.c, n_sd to (fu a.lk (10 * fr + to) l) (r_tk a.nr to (a.r to) fr x).2) := by
  unfold n_ho
  rw [hx]
  dsimp only
  rw [if_pos t8]
theorem n_ho_n (hx : a.lk (10 * fr + to) = x :: l) (t8 : ¬ to < 8) (e : (List.range a.nc).find? (p_ci a.c to fr (ce_n x)) = none) : n_ho a fr to = n_lk a (fu a.lk (10 * fr + to) l) := by
  unfold n_ho
  rw [hx]
  dsimp only
  rw [if_neg t8, show n_ci a to fr (ce_n x) = none from e]
theorem n_ho_s {i : Nat} (hx : a.lk (10 * fr + to) = x :: l) (t8 : ¬ to < 8) (e : (List.range a.nc).find? (p_ci a.c to fr (ce_n x)) = some i) : n_ho a fr to = (a.nr, a.r, a.nk, fu a.k (to - 8) (c_tk a.r (a.c i) (a.k (to - 8)) x).2.1, a.nc, fu a.c i (c_tk a.r (a.c i) (a.k (to - 8)) x).1, n_sd to (fu a.lk (10 * fr + to) l) (c_tk a.r (a.c i) (a.k (to - 8)) x).2.2) := by
  unfold n_ho
  rw [hx]
  dsimp only
  rw [if_neg t8, show n_ci a to fr (ce_n x) = some i from e]
/-- what a hand-over makes comes out of the potential -/
theorem n_ho_pc (V : n_V B a) : n_pc (n_ho a fr to) ≤ n_pc a ∧ n_ps (n_ho a fr to) ≤ n_ps a := by
  cases hx : a.lk (10 * fr + to) with
  | nil =>
    have : n_ho a fr to = a := by
      unfold n_ho
      rw [hx]
    rw [this]
    exact ⟨Nat.le_refl _, Nat.le_refl _⟩
  | cons x l =>
    by_cases t8 : to < 8
    · rw [n_ho_r hx t8]
      exact ⟨Nat.le_refl _, Nat.le_refl _⟩
    · cases e : (List.range a.nc).find? (p_ci a.c to fr (ce_n x)) with
      | none =>
        rw [n_ho_n hx t8 e]
        exact ⟨Nat.le_refl _, Nat.le_refl _⟩
      | some i =>
        have hi : i < a.nc := List.mem_range.mp (List.mem_of_find?_eq_some e)
        have hq := List.find?_some e
        have hp := (Bool.and_eq_true_iff.mp hq).2
        have g := c_tk_ok (rs := a.r) (k := a.k (to - 8)) (x := x) V.1.1 (of_decide_eq_true hp) (V.2.2.2.1 i hi).1
        rw [n_ho_s hx t8 e]
        have := n_pc_c (a := a) (k2 := fu a.k (to - 8) (c_tk a.r (a.c i) (a.k (to - 8)) x).2.1) (lk2 := n_sd to (fu a.lk (10 * fr + to) l) (c_tk a.r (a.c i) (a.k (to - 8)) x).2.2) hi V.1.2.2 g.2.2.2.2.1 (by have := g.1.2.2.2.1; have := g.1.2.1; omega) g.2.2.2.2.2.1
        omega
theorem hov_t {v : Int32} (X : n_X o sz L a M h) (ht : to < 10) (hM : m_ok a.nr a.nk to M) (kk : ∀ h1, n_X o sz L (n_lk a (n_sd to a.lk M)) [] h1 → (∀ b, b < sz → ¬ L.ow b = 0 → ¬ L.ow b = 1 → h1 b = h b) → Q (some (.int v)) h1 sz) : on_E G M_N_handOver 94 (on_l [(0, .ref o), (2, .int (nI to)), (4, .int v)]) [] h sz bc bs Q := by
  have o1 : h o = some (.inr (11, [.ref (o + 1), .ref (o + 2), .ref (o + 3), .ref (o + 4), .ref (o + 5), .ref (o + 34), .ref (o + 42), .ref (o + 43), .int (nI a.nr), .int (nI a.nk), .int (nI a.nc)])) := X.1.1
  first | refine on_aload_n (pc' := 95) rfl rfl rfl rfl ?_ | refine on_aload_nQ (pc' := 95) rfl rfl rfl rfl ?_
  refine on_iload_n (pc' := 96) rfl rfl rfl rfl ?_
  refine on_callV (pc' := 99) (As := [.int (nI to)]) (rest := []) (b := o) rfl rfl cw_N_handOver_115 (o1) rfl rfl (Nat.le_of_ble_eq_true rfl) (Nat.zero_le _) (Nat.zero_le _) (c_sendW X ht hM) ?_
  rintro r h1 sz ⟨rfl, rfl, X1, e1⟩
  refine on_iload (pc' := 101) rfl rfl rfl ?_
  refine on_ireturn rfl rfl ?_
  exact kk h1 X1 e1
set_option maxHeartbeats 32000000 in
theorem c_handOver (X : n_X o sz L a [] h) (V : n_V B a) (hB : B + 540 < 2 ^ 28) (hf : fr < 10) (ht : to < 10) (he : n_ex a.nr a.nk (10 * fr + to) = true) (hx : a.lk (10 * fr + to) = x :: l) (hb : n_pc a ≤ bc + n_pc (n_ho a fr to) ∧ n_ps a ≤ bs + n_ps (n_ho a fr to)) :
    on_Ct G M_N_handOver [.ref o, .int (nI fr), .int (nI to), .ref (L.A (10 * fr + to))] h sz bc bs (fun v h1 z => v = some (.int (nI (x 4))) ∧ n_R o sz z L (n_ho a fr to) h h1) := by
  obtain ⟨W, T, P, K⟩ := id X
  obtain ⟨⟨nr6, nk2, nc6⟩, v2, v3, v4, v5, v6, v7⟩ := id V
  have j100 : 10 * fr + to < 100 := by omega
  have tl := T.2.2.2.2.2.2
  have D := T.2.2.2.2.2.1
  have dA := (D _ j100 he).1
  have lkS := K _ j100 he
  rw [hx] at lkS
  have o1 : h o = some (.inr (11, [.ref (o + 1), .ref (o + 2), .ref (o + 3), .ref (o + 4), .ref (o + 5), .ref (o + 34), .ref (o + 42), .ref (o + 43), .int (nI a.nr), .int (nI a.nk), .int (nI a.nc)])) := W.1
  obtain ⟨f, Xf, k1, -⟩ := id lkS
  obtain ⟨pf, pt, nft⟩ := n_ex_pr ht he
  refine on_Ct.of (by decide) v_N_handOver (Nat.le_of_ble_eq_true rfl) ?_
  first | refine on_aload_n (pc' := 1) rfl rfl rfl rfl ?_ | refine on_aload_nQ (pc' := 1) rfl rfl rfl rfl ?_
  first | refine on_aload_n (pc' := 2) rfl rfl rfl rfl ?_ | refine on_aload_nQ (pc' := 2) rfl rfl rfl rfl ?_
  first | apply on_get (pc' := 5) rfl rfl fl_N_47 | apply on_getN (pc' := 5) rfl rfl fl_N_47
  · repeat (first | assumption | exact on_up_eq _ _ _ | refine (on_up_ne (by omega)).trans ?_)
  · rfl
  refine on_callV (pc' := 8) (As := [.ref (o + 42)]) (rest := []) (b := L.A (10 * fr + to)) rfl rfl cw_N_handOver_183 (k1) rfl rfl (Nat.le_of_ble_eq_true rfl) (Nat.zero_le _) (Nat.zero_le _) (c_Link_takeFirst lkS W.2.2.2.2.2.2.2.1 ⟨by omega, by omega⟩) ?_
  rintro v h1 sz ⟨rfl, ⟨z, -⟩ | ⟨x', l', ez, rfl, K1, Q1, t1⟩⟩
  · exact nomatch z
  cases ez
  obtain ⟨X1, F1⟩ := nx_take X hf ht he K1 Q1.w (fun b b1 _ b3 => t1 b b1 b3)
  have o2 : h1 o = some (.inr (11, [.ref (o + 1), .ref (o + 2), .ref (o + 3), .ref (o + 4), .ref (o + 5), .ref (o + 34), .ref (o + 42), .ref (o + 43), .int (nI a.nr), .int (nI a.nk), .int (nI a.nc)])) := X1.1.1
  obtain ⟨Xq, q1, Xq'⟩ := id Q1
  refine on_pop (pc' := 9) rfl rfl rfl ?_
  first | refine on_aload_n (pc' := 10) rfl rfl rfl rfl ?_ | refine on_aload_nQ (pc' := 10) rfl rfl rfl rfl ?_
  first | apply on_get (pc' := 13) rfl rfl fl_N_47 | apply on_getN (pc' := 13) rfl rfl fl_N_47
  · repeat (first | assumption | exact on_up_eq _ _ _ | refine (on_up_ne (by omega)).trans ?_)
  · rfl
  refine on_iconst (pc' := 14) (v := 4) rfl rfl li_4 ?_
  apply on_ialoadK (pc' := 15) (t := 0) (k := 4) rfl rfl
  · repeat (first | assumption | exact on_up_eq _ _ _ | refine (on_up_ne (by omega)).trans ?_)
  · rfl
  · first | assumption | exact on_lit _ | rfl
  · first | assumption | omega | decide
  rw [(Xq' 4 (by decide)).1]
  refine on_istore (pc' := 17) rfl rfl (by decide) ?_
  first | refine on_aload_n (pc' := 18) rfl rfl rfl rfl ?_ | refine on_aload_nQ (pc' := 18) rfl rfl rfl rfl ?_
  first | apply on_get (pc' := 21) rfl rfl fl_N_47 | apply on_getN (pc' := 21) rfl rfl fl_N_47
  · repeat (first | assumption | exact on_up_eq _ _ _ | refine (on_up_ne (by omega)).trans ?_)
  · rfl
  refine on_callS (pc' := 24) (As := [.ref (o + 42)]) (rest := []) rfl rfl cw_N_handOver_217 rfl rfl (Nat.le_of_ble_eq_true rfl) (Nat.zero_le _) (Nat.zero_le _) (c_numberOf Q1) ?_
  rintro v h1 sz ⟨rfl, rfl, rfl⟩
  refine on_istore (pc' := 26) rfl rfl (by decide) ?_
  first | refine on_aload_n (pc' := 27) rfl rfl rfl rfl ?_ | refine on_aload_nQ (pc' := 27) rfl rfl rfl rfl ?_
  refine on_iload_n (pc' := 28) rfl rfl rfl rfl ?_
  refine on_callV (pc' := 31) (As := [.int (nI to)]) (rest := []) (b := o) rfl rfl cw_N_handOver_75 (o2) rfl rfl (Nat.le_of_ble_eq_true rfl) (Nat.zero_le _) (Nat.zero_le _) (c_relayAtP nr6 X1.1.1 X1.1.2.1) ?_
  rintro v h1 sz ⟨rfl, rfl, rfl⟩
  by_cases t8 : to < 8
  · have tr := n_pr_lo t8 pt
    have GG := r_tk_ok (x := x) nr6 tr ⟨hf, by rw [n_ex_at hf, pf, pt, decide_eq_true (show to ≠ fr from fun z => nft z.symm)]; rfl⟩ (v2 to tr)
    have R1 := X1.2.2.1.1 to tr
    obtain ⟨r1, r2, r3⟩ := T.2.2.1 to tr
    rw [p_i_nI (by omega) tr]
    show on_E G M_N_handOver 31 _ [.ref (L.ra to)] h1 sz _ _ _
    first | refine on_astore (pc' := 33) rfl rfl (by decide) ?_ | refine on_astoreQ (pc' := 33) rfl rfl (by decide) ?_
    first | refine on_aload (pc' := 35) rfl rfl rfl ?_ | refine on_aloadQ (pc' := 35) rfl rfl rfl ?_
    refine on_ifnonnullR (tgt := 49) rfl rfl ?_
    refine on_null (pc' := 50) rfl rfl ?_
    show on_E G M_N_handOver 50 _ [va_rf none] h1 sz _ _ _
    first | refine on_astore (pc' := 52) rfl rfl (by decide) ?_ | refine on_astoreQ (pc' := 52) rfl rfl (by decide) ?_
    first | refine on_aload (pc' := 54) rfl rfl rfl ?_ | refine on_aloadQ (pc' := 54) rfl rfl rfl ?_
    refine on_ifnullR (pc' := 57) rfl rfl ?_
    first | refine on_aload (pc' := 59) rfl rfl rfl ?_ | refine on_aloadQ (pc' := 59) rfl rfl rfl ?_
    refine on_iload_n (pc' := 60) rfl rfl rfl rfl ?_
    refine on_iload (pc' := 62) rfl rfl rfl ?_
    first | refine on_aload_n (pc' := 63) rfl rfl rfl rfl ?_ | refine on_aload_nQ (pc' := 63) rfl rfl rfl rfl ?_
    first | apply on_get (pc' := 66) rfl rfl fl_N_47 | apply on_getN (pc' := 66) rfl rfl fl_N_47
    · repeat (first | assumption | exact on_up_eq _ _ _ | refine (on_up_ne (by omega)).trans ?_)
    · rfl
    first | refine on_aload_n (pc' := 67) rfl rfl rfl rfl ?_ | refine on_aload_nQ (pc' := 67) rfl rfl rfl rfl ?_
    first | apply on_get (pc' := 70) rfl rfl fl_N_43 | apply on_getN (pc' := 70) rfl rfl fl_N_43
    · repeat (first | assumption | exact on_up_eq _ _ _ | refine (on_up_ne (by omega)).trans ?_)
    · rfl
    refine on_callV (pc' := 73) (As := [.int (nI fr), .int (ce_n x), .ref (o + 42), .ref (o + 34)]) (rest := []) (b := L.ra to) rfl rfl cw_N_handOver_225 (R1.1) rfl rfl (Nat.le_of_ble_eq_true rfl) (Nat.zero_le _) (Nat.zero_le _) (c_Relay_takeCell (nr := a.nr) (F := rf a.nr L.ra) nr6 t8 hf ⟨by omega, by omega, by omega⟩ (by omega) X1.1.2.1 (fun j hj => ⟨fun z => ⟨_, if_pos z⟩, fun z => if_neg z⟩) (fun j e hj => ⟨((v2 to tr).2.2.1 j e hj).1.1, fun q hq => by have := (((v2 to tr).2.2.1 j e hj).2.1 q hq).1; omega⟩) (fun j e hj => ⟨by have := ((v2 to tr).2.2.1 j e hj).2.2.1; have := lz_ms e.fw; omega, by have := ((v2 to tr).2.2.1 j e hj).2.2.2; have := lz_ms e.bw; omega⟩) R1 X1.1.2.2.2.2.2.1 X1.1.2.2.2.2.2.2.1.e Q1 rfl) ?_
    rintro v h2 sz ⟨rfl, rfl, Y⟩
    obtain ⟨X2, F2⟩ := nx_rel X1 tr GG.2.1 Y
    refine on_goto (tgt := 94) rfl rfl ?_
    rw [n_ho_r hx t8]
    exact on_relv (l := [(0, .ref o), (2, .int (nI to)), (4, .int (nI (x 4)))]) ⟨rfl, rfl, rfl, trivial⟩ (hov_t X2 ht GG.2.2 (fun h3 X3 F3 => ⟨rfl, L, X3, Nat.le_refl _, fun _ _ => rfl, fun b b1 b2 => (F3 b b1 (by omega) (by omega)).trans ((F2 b b1 (by omega) (by omega)).trans (F1 b b1 (by omega) (by omega)))⟩))
  · rw [p_i_hi (by omega) (by omega)]
    show on_E G M_N_handOver 31 _ [va_rf none] h1 sz _ _ _
    first | refine on_astore (pc' := 33) rfl rfl (by decide) ?_ | refine on_astoreQ (pc' := 33) rfl rfl (by decide) ?_
    first | refine on_aload (pc' := 35) rfl rfl rfl ?_ | refine on_aloadQ (pc' := 35) rfl rfl rfl ?_
    refine on_ifnonnullN (pc' := 38) rfl rfl ?_
    first | refine on_aload_n (pc' := 39) rfl rfl rfl rfl ?_ | refine on_aload_nQ (pc' := 39) rfl rfl rfl rfl ?_
    refine on_iload_n (pc' := 40) rfl rfl rfl rfl ?_
    refine on_iload_n (pc' := 41) rfl rfl rfl rfl ?_
    refine on_iload (pc' := 43) rfl rfl rfl ?_
    have hcb : ∀ i, i < a.nc → rf a.nc (fun i => L.ca i + 1) i = some (L.ca i + 1) ∧ cb_S L.ca L.ka L.ra (o + 1) (o + 5) a.r (a.c i) i h1 := fun i hi => by
      obtain ⟨c1, c2, c3⟩ := v4 i hi
      have C := X1.2.2.1.2.2 i hi
      have N := (X1.2.2.1.2.1 (a.c i).cl c1.1).1
      have p0 := c1.2.2.1 0 (by have := c1.2.1; omega)
      exact ⟨if_pos hi, ⟨_, _, C.1⟩, ⟨_, _, _, by rw [Nat.add_comm]; exact N⟩, C.2.1, by have := c1.2.1; omega, X1.2.2.1.1 _ p0, by have := c1.1; omega, by omega, c1.2.2.2.2.1⟩
    refine on_callV (pc' := 46) (As := [.int (nI to), .int (nI fr), .int (ce_n x)]) (rest := []) (b := o) rfl rfl cw_N_handOver_221 (o2) rfl rfl (Nat.le_of_ble_eq_true rfl) (Nat.zero_le _) (Nat.zero_le _) (c_circuitBy (nc := a.nc) X1.1.1 nc6 ht hf X1.1.2.2.2.1 hcb) ?_
    rintro v h1 sz ⟨rfl, rfl, rfl⟩
    cases e : (List.range a.nc).find? (p_ci a.c to fr (ce_n x)) with
    | none =>
      show on_E G M_N_handOver 46 _ [va_rf none] h1 sz _ _ _
      refine on_goto (tgt := 50) rfl rfl ?_
      first | refine on_astore (pc' := 52) rfl rfl (by decide) ?_ | refine on_astoreQ (pc' := 52) rfl rfl (by decide) ?_
      first | refine on_aload (pc' := 54) rfl rfl rfl ?_ | refine on_aloadQ (pc' := 54) rfl rfl rfl ?_
      refine on_ifnullN (tgt := 76) rfl rfl ?_
      first | refine on_aload (pc' := 78) rfl rfl rfl ?_ | refine on_aloadQ (pc' := 78) rfl rfl rfl ?_
      refine on_ifnullN (tgt := 94) rfl rfl ?_
      rw [n_ho_n hx t8 e]
      exact on_relv (l := [(0, .ref o), (2, .int (nI to)), (4, .int (nI (x 4)))]) ⟨rfl, rfl, rfl, trivial⟩ (hov_t X1 ht m_nil (fun h3 X3 F3 => ⟨rfl, L, X3, Nat.le_refl _, fun _ _ => rfl, fun b b1 b2 => (F3 b b1 (by omega) (by omega)).trans (F1 b b1 (by omega) (by omega))⟩))
    | some i =>
      have hi : i < a.nc := List.mem_range.mp (List.mem_of_find?_eq_some e)
      have hq := List.find?_some e
      have hp := Bool.and_eq_true_iff.mp hq
      have hg : (a.c i).ph ≠ 2 := of_decide_eq_true hp.2
      have ecl : (a.c i).cl + 8 = to := of_decide_eq_true (Bool.and_eq_true_iff.mp (Bool.and_eq_true_iff.mp hp.1).1).1
      obtain ⟨c1, c2, c3⟩ := v4 i hi
      have e8 : to - 8 = (a.c i).cl := by omega
      have eh := n_ho_s hx t8 e
      rw [e8] at eh
      have GG := c_tk_ok (rs := a.r) (k := a.k (a.c i).cl) (x := x) nr6 hg c1
      have C1 := X1.2.2.1.2.2 i hi
      have N1 := X1.2.2.1.2.1 (a.c i).cl c1.1
      obtain ⟨T1, T2, T3, T4, T5, T6, T7⟩ := T.2.2.2.2.1 i hi
      obtain ⟨n1, n2, n3⟩ := T.2.2.2.1 (a.c i).cl c1.1
      have hpc := n_pc_c (a := a) (c2 := (c_tk a.r (a.c i) (a.k (a.c i).cl) x).1) (k2 := fu a.k (a.c i).cl (c_tk a.r (a.c i) (a.k (a.c i).cl) x).2.1) (lk2 := n_sd to (fu a.lk (10 * fr + to) l) (c_tk a.r (a.c i) (a.k (a.c i).cl) x).2.2) hi nc6 GG.2.2.2.2.1 (by have := GG.1.2.2.2.1; have := GG.1.2.1; omega) GG.2.2.2.2.2.1
      rw [← eh] at hpc
      show on_E G M_N_handOver 46 _ [.ref (L.ca i + 1)] h1 sz _ _ _
      refine on_goto (tgt := 50) rfl rfl ?_
      first | refine on_astore (pc' := 52) rfl rfl (by decide) ?_ | refine on_astoreQ (pc' := 52) rfl rfl (by decide) ?_
      first | refine on_aload (pc' := 54) rfl rfl rfl ?_ | refine on_aloadQ (pc' := 54) rfl rfl rfl ?_
      refine on_ifnullN (tgt := 76) rfl rfl ?_
      first | refine on_aload (pc' := 78) rfl rfl rfl ?_ | refine on_aloadQ (pc' := 78) rfl rfl rfl ?_
      refine on_ifnullR (pc' := 81) rfl rfl ?_
      first | refine on_aload (pc' := 83) rfl rfl rfl ?_ | refine on_aloadQ (pc' := 83) rfl rfl rfl ?_
      first | refine on_aload_n (pc' := 84) rfl rfl rfl rfl ?_ | refine on_aload_nQ (pc' := 84) rfl rfl rfl rfl ?_
      first | apply on_get (pc' := 87) rfl rfl fl_N_47 | apply on_getN (pc' := 87) rfl rfl fl_N_47
      · repeat (first | assumption | exact on_up_eq _ _ _ | refine (on_up_ne (by omega)).trans ?_)
      · rfl
      first | refine on_aload_n (pc' := 88) rfl rfl rfl rfl ?_ | refine on_aload_nQ (pc' := 88) rfl rfl rfl rfl ?_
      first | apply on_get (pc' := 91) rfl rfl fl_N_43 | apply on_getN (pc' := 91) rfl rfl fl_N_43
      · repeat (first | assumption | exact on_up_eq _ _ _ | refine (on_up_ne (by omega)).trans ?_)
      · rfl
      refine on_callV (pc' := 94) (As := [.ref (o + 42), .ref (o + 34)]) (rest := []) (b := L.ca i + 1) rfl rfl cw_N_handOver_229 (C1.1) rfl rfl (Nat.le_of_ble_eq_true rfl) (by omega) (by omega) (c_Circuit_takeCell (bc := bc) (bs := bs) (ot := o + 1) (rs := a.r) (k := a.c i) (kk := a.k (a.c i).cl) (x := x) ⟨by omega, by omega, by omega, T6, T2⟩ hg (fun j hj => (T4 j hj).1) (fun j hj => (T5 j hj).1) (fun j hj => by have := c1.2.2.2.2.2.2.2.1 j hj; have := lz_ms ((a.c i).la j).1; have := lz_ms ((a.c i).la j).2; omega) C1 T1 (fun j hj => ⟨X1.2.2.1.1 _ (c1.2.2.1 j hj), by have := (T.2.2.1 _ (c1.2.2.1 j hj)).1; omega, T7 j hj, (T.2.2.1 _ (c1.2.2.1 j hj)).2.2.apart n3 (by omega) (by omega) (by omega), by have := c1.2.2.1 j hj; omega⟩) N1 X1.1.2.2.2.2.2.1 Q1 X1.1.2.2.2.2.2.2.1.e (by omega)) ?_
      rintro v h2 z ⟨rfl, la2, a1, a2, a3, a4, a5, a6, a7, a8, a9, a10, a11⟩
      rw [eh]
      generalize c_tk a.r (a.c i) (a.k (a.c i).cl) x = q at *
      have off : ∀ {lo hi t b : Nat}, n_T L.ow lo hi t → ¬ L.ow b = t → b < lo ∨ hi ≤ b := fun {lo hi t b} k ne => by
        rcases Nat.lt_or_ge b lo with w | w
        · exact Or.inl w
        · rcases Nat.lt_or_ge b hi with u | u
          · exact absurd (k b w u) ne
          · exact Or.inr u
      have F2 : ∀ b, b < sz → (b < o + 5 ∨ o + 43 ≤ b) → ¬ L.ow b = 12 + 3 * i → ¬ L.ow b = 11 + 3 * (a.c i).cl → h2 b = h1 b := fun b d0 d1 d2 d3 => a11 b d0 (off T3 d2) (off n3 d3) (by omega) (by omega) (by omega) (fun j hj => off (T4 j hj).2 d2) (fun j hj => off (T5 j hj).2 d2)
      have ks := GG.2.2.2.2.2.2.2.1
      have ks : q.2.1.nu = (a.k (a.c i).cl).nu := ks
      have X2 := nx_cir (M := q.2.2) (c2 := q.1) (k2 := q.2.1) (la2 := la2) (sa2 := L.sa i) (i := i) X1 hi c1.1 a2 GG.2.1 GG.2.2.2.1 a4 (fun j hj => ⟨a5 j hj, by
        rcases Nat.lt_or_ge j (a.c i).hp with w | w
        · exact Or.inl ⟨a1 j w, w⟩
        · exact Or.inr (a6 j w hj)⟩) (fun j hj => by
        have w : j < (a.c i).st.length := by
          have := GG.2.2.2.2.2.1
          omega
        exact ⟨by have := (T5 j w).1; omega, Or.inl ⟨rfl, w⟩⟩) a3 (by rw [ks]; exact a7) a8 a9 a10 F2
      have mo : m_ok a.nr a.nk to q.2.2 := by
        have := GG.2.2.2.2.2.2.2.2
        rw [show 8 + (a.c i).cl = to by omega] at this
        exact this
      exact on_relv (l := [(0, .ref o), (2, .int (nI to)), (4, .int (nI (x 4)))]) ⟨rfl, rfl, rfl, trivial⟩ (hov_t X2 ht mo (fun h3 X3 F3 => ⟨rfl, nL_c L sz i la2 (L.sa i), X3, a2, fun b hb => if_pos hb, fun b b1 b2 => (F3 b (by omega) (by rw [show (nL_c L sz i la2 (L.sa i)).ow b = L.ow b from if_pos b1]; omega) (by rw [show (nL_c L sz i la2 (L.sa i)).ow b = L.ow b from if_pos b1]; omega)).trans ((F2 b b1 (by
        rcases Nat.lt_or_ge b (o + 5) with w | w
        · exact Or.inl w
        · rcases Nat.lt_or_ge b (o + 44) with u | u
          · exact absurd (T.2.1 b (by omega) u) (by omega)
          · exact Or.inr (by omega)) (by omega) (by omega)).trans (F1 b b1 (by omega) (by omega)))⟩))
end HOV
