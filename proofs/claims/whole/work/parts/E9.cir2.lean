/-! OnionNet: circuit, from its beginning -/
section CI2
variable {G : on_G} {o sz B bc bs k : Nat} {L : nL} {a : aN} {h h1 : on_H} {cl x y z : Int32} {pa : List Nat} {Q : Option Value → on_H → Nat → Prop}
theorem i_pa_sp {nr : Nat} (hn : nr ≤ 6) (e : i_pa nr x y z = true) : ∃ i, p_i nr x = some i ∧ ((y = -1 ∧ z = -1) ∨ ∃ j, p_i nr y = some j ∧ ¬ y = -1 ∧ (z = -1 ∨ ∃ m, p_i nr z = some m ∧ ¬ z = -1)) := by
  unfold i_pa i_pb i_pc at e
  simp only [Bool.and_eq_true, Bool.or_eq_true, Bool.not_eq_true', decide_eq_true_eq, Bool.and_eq_false_iff, decide_eq_false_iff_not, Option.isSome_iff_exists] at e
  obtain ⟨⟨⟨i, hi⟩, h1⟩, h2, h3⟩ := e
  have m1 : ∀ {w : Int32} {q : Nat}, p_i nr w = some q → ¬ w = -1 := fun {w q} hq hw => by
    rw [hw] at hq
    exact absurd ((p_i_some (by omega) hq).2) (by
      have := (p_i_some (by omega) hq).1
      exact fun u => absurd u.symm ((by decide : ∀ j, j < 6 → ¬ nI j = -1) q (by omega)))
  refine ⟨i, hi, ?_⟩
  rcases h2 with h2 | ⟨⟨j, hj⟩, h2⟩
  · refine Or.inl ⟨h2, ?_⟩
    rcases h1 with h1 | h1
    · exact absurd h2 h1
    · by_cases w : z = -1
      · exact w
      · exact absurd w h1
  · refine Or.inr ⟨j, hj, m1 hj, ?_⟩
    rcases h3 with h3 | ⟨⟨m, hm⟩, h3⟩
    · exact Or.inl h3
    · exact Or.inr ⟨m, hm, m1 hm⟩
theorem x8_k {nk k : Nat} (hn : nk ≤ 2) (e : p_i nk (cl - 8) = some k) : k < nk ∧ cl = nI (8 + k) := by
  obtain ⟨h1, h2⟩ := p_i_some (by omega) e
  refine ⟨h1, ?_⟩
  have := congrArg (· + 8) h2
  rw [Int32.sub_add_cancel] at this
  rw [this, Nat.add_comm]
  exact nI_add k 8
set_option maxHeartbeats 32000000 in
theorem c_N_circuit (X : n_X o sz L a [] h) (V : n_V B a) (hb : n_pc a ≤ bc + n_pc (q_circuit a cl x y z).2 ∧ n_ps a ≤ bs + n_ps (q_circuit a cl x y z).2) : on_Ct G M_N_circuit [.ref o, .int cl, .int x, .int y, .int z] h sz bc bs (fun v h1 s => v = some (.int (q_circuit a cl x y z).1) ∧ n_R o sz s L (q_circuit a cl x y z).2 h h1) := by
  have o1 : h o = some (.inr (11, [.ref (o + 1), .ref (o + 2), .ref (o + 3), .ref (o + 4), .ref (o + 5), .ref (o + 34), .ref (o + 42), .ref (o + 43), .int (nI a.nr), .int (nI a.nk), .int (nI a.nc)])) := X.1.1
  obtain ⟨⟨nr6, nk2, nc6⟩, v2, v3, v4, v5, v6, v7⟩ := id V
  have r1 := X.1.2.1
  have no : ∀ lv bc bs, q_circuit a cl x y z = (-1, a) → on_E G M_N_circuit 32 lv [] h sz bc bs (fun v h1 s => v = some (.int (q_circuit a cl x y z).1) ∧ n_R o sz s L (q_circuit a cl x y z).2 h h1) := fun lv bc bs e => by
    refine on_iconst (pc' := 33) (v := (-1)) rfl rfl li_m1 ?_
    refine on_ireturn rfl rfl ?_
    rw [e]
    exact ⟨rfl, n_R.same X⟩
  refine on_Ct.of (by decide) v_N_circuit (Nat.le_of_ble_eq_true rfl) ?_
  first | refine on_aload_n (pc' := 1) rfl rfl rfl rfl ?_ | refine on_aload_nQ (pc' := 1) rfl rfl rfl rfl ?_
  refine on_iload_n (pc' := 2) rfl rfl rfl rfl ?_
  refine on_callV (pc' := 5) (As := [.int cl]) (rest := []) (b := o) rfl rfl cw_N_circuit_94 (o1) rfl rfl (Nat.le_of_ble_eq_true rfl) (Nat.zero_le _) (Nat.zero_le _) (c_clientAtP nk2 X.1.1 X.1.2.2.1) ?_
  rintro v h sz ⟨rfl, rfl, rfl⟩
  cases e : p_i a.nk (cl - 8) with
  | none =>
    show on_E G M_N_circuit 5 _ [va_rf none] h sz _ _ _
    first | refine on_astore (pc' := 7) rfl rfl (by decide) ?_ | refine on_astoreQ (pc' := 7) rfl rfl (by decide) ?_
    first | refine on_aload (pc' := 9) rfl rfl rfl ?_ | refine on_aloadQ (pc' := 9) rfl rfl rfl ?_
    refine on_ifnullN (tgt := 32) rfl rfl (no _ _ _ ?_)
    unfold q_circuit
    rw [e]
  | some k =>
    obtain ⟨hk, rfl⟩ := x8_k nk2 e
    have eq : q_circuit a (nI (8 + k)) x y z = if a.nc < 6 ∧ i_pa a.nr x y z = true then (nI a.nc, n_lk (n_nw a k (q_pa x y z)) (n_sd (8 + k) a.lk [((q_pa x y z).getD 0 0, ce_k (nI ((a.k k).nu + 1)) 10 (of_b (a.r ((q_pa x y z).getD 0 0)).se (an_d (a.k k).se (a.k k).dr)) 68)])) else (-1, a) := by
      unfold q_circuit
      rw [e]
    show on_E G M_N_circuit 5 _ [.ref (L.ka k)] h sz _ _ _
    first | refine on_astore (pc' := 7) rfl rfl (by decide) ?_ | refine on_astoreQ (pc' := 7) rfl rfl (by decide) ?_
    first | refine on_aload (pc' := 9) rfl rfl rfl ?_ | refine on_aloadQ (pc' := 9) rfl rfl rfl ?_
    refine on_ifnullR (pc' := 12) rfl rfl ?_
    first | refine on_aload_n (pc' := 13) rfl rfl rfl rfl ?_ | refine on_aload_nQ (pc' := 13) rfl rfl rfl rfl ?_
    first | apply on_get (pc' := 16) rfl rfl fl_N_98 | apply on_getN (pc' := 16) rfl rfl fl_N_98
    · repeat (first | assumption | exact on_up_eq _ _ _ | refine (on_up_ne (by omega)).trans ?_)
    · rfl
    refine on_bipush (pc' := 18) (v := 6) rfl rfl lb_6 ?_
    refine on_icmp_ge (pc' := 21) (tgt := 32) rfl rfl rfl (fun cq => ?_) (fun cq => ?_)
    · have c6 : ¬ a.nc < 6 := fun w => absurd cq (nI_ge (b := 6) w (by decide))
      exact no _ _ _ (eq.trans (if_neg (fun w => c6 w.1)))
    · have c6 : a.nc < 6 := by
        rcases Nat.lt_or_ge a.nc 6 with w | w
        · exact w
        · exact absurd (nI_le (a := 6) w (by omega)) cq
      clear cq
      first | refine on_aload_n (pc' := 22) rfl rfl rfl rfl ?_ | refine on_aload_nQ (pc' := 22) rfl rfl rfl rfl ?_
      refine on_iload_n (pc' := 23) rfl rfl rfl rfl ?_
      refine on_iload_n (pc' := 24) rfl rfl rfl rfl ?_
      refine on_iload (pc' := 26) rfl rfl rfl ?_
      refine on_callV (pc' := 29) (As := [.int x, .int y, .int z]) (rest := []) (b := o) rfl rfl cw_N_circuit_101 (o1) rfl rfl (Nat.le_of_ble_eq_true rfl) (Nat.zero_le _) (Nat.zero_le _) (c_isPath nr6 X.1.1 X.1.2.1) ?_
      rintro v h sz ⟨rfl, rfl, rfl⟩
      cases ep : i_pa a.nr x y z with
      | false =>
        show on_E G M_N_circuit 29 _ [.int 0] h sz _ _ _
        refine on_if_ne (pc' := 32) (tgt := 34) rfl rfl rfl (fun cq => ?_) (fun cq => ?_)
        · exact absurd rfl cq
        · exact no _ _ _ (eq.trans (if_neg (fun w => by rw [ep] at w; exact nomatch w.2)))
      | true =>
        rw [if_pos ⟨c6, ep⟩] at eq
        rw [eq] at hb ⊢
        have pcn := n_pc_n (a := a) (k := k) (pa := q_pa x y z) (lk := n_sd (8 + k) a.lk [((q_pa x y z).getD 0 0, ce_k (nI ((a.k k).nu + 1)) 10 (of_b (a.r ((q_pa x y z).getD 0 0)).se (an_d (a.k k).se (a.k k).dr)) 68)]) c6
        have hb2 : 20 ≤ bc ∧ 1108 ≤ bs := by
          have g1 := hb.1
          have g2 := hb.2
          dsimp only at g1 g2
          omega
        obtain ⟨i, hi, hyz⟩ := i_pa_sp nr6 ep
        obtain ⟨i1, i2⟩ := p_i_some (by omega) hi
        have ri := X.2.2.1.1 i i1
        have ro : h (L.ra i) = some (.inr (8, [.ref (L.ra i + 1), .ref (o + 1), .ref (o + 5), .ref (L.ra i + 3), .ref (L.ra i + 4), .ref (L.ra i + 5), .ref (L.ra i + 6), .ref (L.ra i + 7), .int (nI (a.r i).ke.length), .int (nI (a.r i).we)])) := ri.1
        have xi : x.toNatClampNeg = i := by rw [i2, nI_clamp (by omega)]
        have ti := X.2.1.2.2.1 i i1
        have u1 := X.2.1.1
        show on_E G M_N_circuit 29 _ [.int 1] h sz _ _ _
        refine on_if_ne (pc' := 32) (tgt := 34) rfl rfl rfl (fun cq => ?_) (fun cq => ?_)
        rotate_left
        · exact absurd cq (by decide)
        · clear cq
          rcases hyz with ⟨hy, hz⟩ | ⟨j, hj, hy, hz⟩
          · have eqp : q_pa x y z = [i] := by
              unfold q_pa
              rw [if_pos hy, xi]
            rw [eqp] at hb ⊢
            refine on_iload_n (pc' := 35) rfl rfl rfl rfl ?_
            refine on_iconst (pc' := 36) (v := (-1)) rfl rfl li_m1 ?_
            refine on_icmp_ne (pc' := 39) (tgt := 43) rfl rfl rfl (fun cq => ?_) (fun cq => ?_)
            · exact absurd hy cq
            · clear cq
              refine on_iconst (pc' := 40) (v := 1) rfl rfl li_1 ?_
              refine on_goto (tgt := 54) rfl rfl ?_
              refine on_istore (pc' := 56) rfl rfl (by decide) ?_
              refine on_iload (pc' := 58) rfl rfl rfl ?_
              refine on_anewarray (pc' := 61) (t := 4) (N := 1) rfl rfl rfl an_N_9.1 an_N_9.2 (by decide) rfl (by decide) (by omega) (by omega) ?_
              have z1 : (0 : Nat) < 1 ∧ 1 < 2 ^ 31 := by decide
              have o2 : on_up h sz (on_aq 4 1 (fun _ => none)) o = some (.inr (11, [.ref (o + 1), .ref (o + 2), .ref (o + 3), .ref (o + 4), .ref (o + 5), .ref (o + 34), .ref (o + 42), .ref (o + 43), .int (nI a.nr), .int (nI a.nk), .int (nI a.nc)])) := (on_up_ne (by omega)).trans o1
              have r2 : on_up h sz (on_aq 4 1 (fun _ => none)) (o + 1) = _ := (on_up_ne (by omega)).trans r1
              have w2 : on_up h sz (on_aq 4 1 (fun _ => none)) sz = _ := on_up_eq _ _ _
              have ro2 : on_up h sz (on_aq 4 1 (fun _ => none)) (L.ra i) = _ := (on_up_ne (by omega)).trans ro
              have T1 : ∀ b, b < sz → on_up h sz (on_aq 4 1 (fun _ => none)) b = h b := fun b hb => on_up_ne (by omega)
              generalize on_up h sz (on_aq 4 1 (fun _ => none)) = g at o2 r2 w2 ro2 T1 ⊢
              first | refine on_astore (pc' := 63) rfl rfl (by decide) ?_ | refine on_astoreQ (pc' := 63) rfl rfl (by decide) ?_
              first | refine on_aload (pc' := 65) rfl rfl rfl ?_ | refine on_aloadQ (pc' := 65) rfl rfl rfl ?_
              refine on_iconst (pc' := 66) (v := 0) rfl rfl li_0 ?_
              first | refine on_aload_n (pc' := 67) rfl rfl rfl rfl ?_ | refine on_aload_nQ (pc' := 67) rfl rfl rfl rfl ?_
              refine on_iload_n (pc' := 68) rfl rfl rfl rfl ?_
              refine on_callV (pc' := 71) (As := [.int x]) (rest := [.int 0, .ref sz]) (b := o) rfl rfl cw_N_circuit_75 (o2) rfl rfl (Nat.le_of_ble_eq_true rfl) (Nat.zero_le _) (Nat.zero_le _) (c_relayAtP nr6 o2 r2) ?_
              rintro v g s ⟨rfl, rfl, rfl⟩
              rw [hi]
              show on_E G M_N_circuit 71 _ [.ref (L.ra i), .int 0, .ref sz] g _ _ _ _
              apply on_aastoreK (pc' := 72) rfl rfl
              · repeat (first | assumption | exact on_up_eq _ _ _ | refine (on_up_ne (by omega)).trans ?_)
              rotate_left 2
              · repeat (first | assumption | exact on_up_eq _ _ _ | refine (on_up_ne (by omega)).trans ?_)
              rotate_right 2
              · rfl
              · rfl
              · first | assumption | exact on_lit _ | rfl
              · first | assumption | omega | decide
              refine on_iload (pc' := 74) rfl rfl rfl ?_
              refine on_iconst (pc' := 75) (v := 1) rfl rfl li_1 ?_
              refine on_icmp_le (pc' := 78) (tgt := 87) rfl rfl rfl (fun cq => ?_) (fun cq => ?_)
              rotate_left
              · exact absurd (by decide) cq
              · clear cq
                refine on_iload (pc' := 89) rfl rfl rfl ?_
                refine on_iconst (pc' := 90) (v := 2) rfl rfl li_2 ?_
                refine on_icmp_le (pc' := 93) (tgt := 103) rfl rfl rfl (fun cq => ?_) (fun cq => ?_)
                rotate_left
                · exact absurd (by decide) cq
                · refine on_relv (l := [(0, .ref o), (1, .int (nI (8 + k))), (5, .ref (L.ka k)), (7, .ref sz)]) ⟨rfl, rfl, rfl, rfl, trivial⟩ (cir_t (pa := [i]) X V hk c6 ⟨Nat.le_of_ble_eq_true rfl, Nat.le_of_ble_eq_true rfl⟩ (fun j hj => ?_) (fun b hb => (on_up_ne (by omega)).trans (T1 b hb)) (on_up_eq _ _ _) (fun j hj => ?_) (by omega) (fun h2 s2 R => ⟨rfl, R⟩))
                  · have hj : j < 1 := hj
                    obtain rfl : j = 0 := by omega
                    exact i1
                  · have hj : j < 1 := hj
                    obtain rfl : j = 0 := by omega
                    rfl
          · obtain ⟨j1, j2⟩ := p_i_some (by omega) hj
            have rj : h (L.ra j) = some (.inr (8, [.ref (L.ra j + 1), .ref (o + 1), .ref (o + 5), .ref (L.ra j + 3), .ref (L.ra j + 4), .ref (L.ra j + 5), .ref (L.ra j + 6), .ref (L.ra j + 7), .int (nI (a.r j).ke.length), .int (nI (a.r j).we)])) := (X.2.2.1.1 j j1).1
            have yj : y.toNatClampNeg = j := by rw [j2, nI_clamp (by omega)]
            have tj := X.2.1.2.2.1 j j1
            refine on_iload_n (pc' := 35) rfl rfl rfl rfl ?_
            refine on_iconst (pc' := 36) (v := (-1)) rfl rfl li_m1 ?_
            refine on_icmp_ne (pc' := 39) (tgt := 43) rfl rfl rfl (fun cq => ?_) (fun cq => ?_)
            rotate_left
            · exact absurd cq hy
            · clear cq
              rcases hz with hz | ⟨m, hm, hz⟩
              · have eqp : q_pa x y z = [i, j] := by
                  unfold q_pa
                  rw [if_neg hy, if_pos hz, xi, yj]
                rw [eqp] at hb ⊢
                refine on_iload (pc' := 45) rfl rfl rfl ?_
                refine on_iconst (pc' := 46) (v := (-1)) rfl rfl li_m1 ?_
                refine on_icmp_ne (pc' := 49) (tgt := 53) rfl rfl rfl (fun cq => ?_) (fun cq => ?_)
                · exact absurd hz cq
                · clear cq
                  refine on_iconst (pc' := 50) (v := 2) rfl rfl li_2 ?_
                  refine on_goto (tgt := 54) rfl rfl ?_
                  refine on_istore (pc' := 56) rfl rfl (by decide) ?_
                  refine on_iload (pc' := 58) rfl rfl rfl ?_
                  refine on_anewarray (pc' := 61) (t := 4) (N := 2) rfl rfl rfl an_N_9.1 an_N_9.2 (by decide) rfl (by decide) (by omega) (by omega) ?_
                  have w0 : on_up h sz (on_aq 4 2 (fun _ => none)) sz = some (on_aq 4 2 (fun _ => none)) := on_up_eq _ _ _
                  have T1 : ∀ b, b < sz → on_up h sz (on_aq 4 2 (fun _ => none)) b = h b := fun b hb => on_up_ne (by omega)
                  generalize on_up h sz (on_aq 4 2 (fun _ => none)) = g at w0 T1 ⊢
                  have o2 := (T1 o (by omega)).trans o1
                  have r2 := (T1 (o + 1) (by omega)).trans r1
                  have q2 := (T1 (L.ra i) (by omega)).trans ro
                  have z0 : (0 : Nat) < 2 ∧ 2 < 2 ^ 31 := by decide
                  first | refine on_astore (pc' := 63) rfl rfl (by decide) ?_ | refine on_astoreQ (pc' := 63) rfl rfl (by decide) ?_
                  first | refine on_aload (pc' := 65) rfl rfl rfl ?_ | refine on_aloadQ (pc' := 65) rfl rfl rfl ?_
                  refine on_iconst (pc' := 66) (v := 0) rfl rfl li_0 ?_
                  first | refine on_aload_n (pc' := 67) rfl rfl rfl rfl ?_ | refine on_aload_nQ (pc' := 67) rfl rfl rfl rfl ?_
                  refine on_iload_n (pc' := 68) rfl rfl rfl rfl ?_
                  refine on_callV (pc' := 71) (As := [.int x]) (rest := [.int 0, .ref sz]) (b := o) rfl rfl cw_N_circuit_75 (o2) rfl rfl (Nat.le_of_ble_eq_true rfl) (Nat.zero_le _) (Nat.zero_le _) (c_relayAtP nr6 o2 r2) ?_
                  rintro v g s ⟨rfl, rfl, rfl⟩
                  rw [hi]
                  show on_E G M_N_circuit 71 _ [.ref (L.ra i), .int 0, .ref sz] g _ _ _ _
                  apply on_aastoreK (pc' := 72) rfl rfl
                  · repeat (first | assumption | exact on_up_eq _ _ _ | refine (on_up_ne (by omega)).trans ?_)
                  rotate_left 2
                  · repeat (first | assumption | exact on_up_eq _ _ _ | refine (on_up_ne (by omega)).trans ?_)
                  rotate_right 2
                  · rfl
                  · rfl
                  · first | assumption | exact on_lit _ | rfl
                  · first | assumption | omega | decide
                  have w1 : on_up g sz (on_aq 4 2 (va_up (fun _ => none) 0 (some (L.ra i)))) sz = some (on_aq 4 2 (va_up (fun _ => none) 0 (some (L.ra i)))) := on_up_eq _ _ _
                  have T2 : ∀ b, b < sz → on_up g sz (on_aq 4 2 (va_up (fun _ => none) 0 (some (L.ra i)))) b = h b := fun b hb => (on_up_ne (by omega)).trans (T1 b hb)
                  generalize on_up g sz (on_aq 4 2 (va_up (fun _ => none) 0 (some (L.ra i)))) = g2 at w1 T2 ⊢
                  refine on_iload (pc' := 74) rfl rfl rfl ?_
                  refine on_iconst (pc' := 75) (v := 1) rfl rfl li_1 ?_
                  refine on_icmp_le (pc' := 78) (tgt := 87) rfl rfl rfl (fun cq => ?_) (fun cq => ?_)
                  · exact absurd cq (by decide)
                  · clear cq
                    have o3 := (T2 o (by omega)).trans o1
                    have r3 := (T2 (o + 1) (by omega)).trans r1
                    have q3 := (T2 (L.ra j) (by omega)).trans rj
                    have z1 : (1 : Nat) < 2 ∧ 2 < 2 ^ 31 := by decide
                    first | refine on_aload (pc' := 80) rfl rfl rfl ?_ | refine on_aloadQ (pc' := 80) rfl rfl rfl ?_
                    refine on_iconst (pc' := 81) (v := 1) rfl rfl li_1 ?_
                    first | refine on_aload_n (pc' := 82) rfl rfl rfl rfl ?_ | refine on_aload_nQ (pc' := 82) rfl rfl rfl rfl ?_
                    refine on_iload_n (pc' := 83) rfl rfl rfl rfl ?_
                    refine on_callV (pc' := 86) (As := [.int y]) (rest := [.int 1, .ref sz]) (b := o) rfl rfl cw_N_circuit_75 (o3) rfl rfl (Nat.le_of_ble_eq_true rfl) (Nat.zero_le _) (Nat.zero_le _) (c_relayAtP nr6 o3 r3) ?_
                    rintro v g2 s ⟨rfl, rfl, rfl⟩
                    rw [hj]
                    show on_E G M_N_circuit 86 _ [.ref (L.ra j), .int 1, .ref sz] g2 _ _ _ _
                    apply on_aastoreK (pc' := 87) rfl rfl
                    · repeat (first | assumption | exact on_up_eq _ _ _ | refine (on_up_ne (by omega)).trans ?_)
                    rotate_left 2
                    · repeat (first | assumption | exact on_up_eq _ _ _ | refine (on_up_ne (by omega)).trans ?_)
                    rotate_right 2
                    · rfl
                    · rfl
                    · first | assumption | exact on_lit _ | rfl
                    · first | assumption | omega | decide
                    have w2 : on_up g2 sz (on_aq 4 2 (va_up (va_up (fun _ => none) 0 (some (L.ra i))) 1 (some (L.ra j)))) sz = some (on_aq 4 2 (va_up (va_up (fun _ => none) 0 (some (L.ra i))) 1 (some (L.ra j)))) := on_up_eq _ _ _
                    have T3 : ∀ b, b < sz → on_up g2 sz (on_aq 4 2 (va_up (va_up (fun _ => none) 0 (some (L.ra i))) 1 (some (L.ra j)))) b = h b := fun b hb => (on_up_ne (by omega)).trans (T2 b hb)
                    generalize on_up g2 sz (on_aq 4 2 (va_up (va_up (fun _ => none) 0 (some (L.ra i))) 1 (some (L.ra j)))) = g3 at w2 T3 ⊢
                    refine on_iload (pc' := 89) rfl rfl rfl ?_
                    refine on_iconst (pc' := 90) (v := 2) rfl rfl li_2 ?_
                    refine on_icmp_le (pc' := 93) (tgt := 103) rfl rfl rfl (fun cq => ?_) (fun cq => ?_)
                    rotate_left
                    · exact absurd (by decide) cq
                    · clear cq
                      refine on_relv (l := [(0, .ref o), (1, .int (nI (8 + k))), (5, .ref (L.ka k)), (7, .ref sz)]) ⟨rfl, rfl, rfl, rfl, trivial⟩ (cir_t (pa := [i, j]) X V hk c6 ⟨Nat.le_of_ble_eq_true rfl, Nat.le_of_ble_eq_true rfl⟩ (fun n hn => ?_) T3 w2 (fun n hn => ?_) (by omega) (fun h2 s2 R => ⟨rfl, R⟩))
                      · have hn : n < 2 := hn
                        match n, hn with
                        | 0, _ => exact i1
                        | 1, _ => exact j1
                        | n + 2, w => exact absurd w (by omega)
                      · have hn : n < 2 := hn
                        match n, hn with
                        | 0, _ => rfl
                        | 1, _ => rfl
                        | n + 2, w => exact absurd w (by omega)
              · obtain ⟨m1, m2⟩ := p_i_some (by omega) hm
                have rm : h (L.ra m) = some (.inr (8, [.ref (L.ra m + 1), .ref (o + 1), .ref (o + 5), .ref (L.ra m + 3), .ref (L.ra m + 4), .ref (L.ra m + 5), .ref (L.ra m + 6), .ref (L.ra m + 7), .int (nI (a.r m).ke.length), .int (nI (a.r m).we)])) := (X.2.2.1.1 m m1).1
                have zm : z.toNatClampNeg = m := by rw [m2, nI_clamp (by omega)]
                have tm := X.2.1.2.2.1 m m1
                have eqp : q_pa x y z = [i, j, m] := by
                  unfold q_pa
                  rw [if_neg hy, if_neg hz, xi, yj, zm]
                rw [eqp] at hb ⊢
                refine on_iload (pc' := 45) rfl rfl rfl ?_
                refine on_iconst (pc' := 46) (v := (-1)) rfl rfl li_m1 ?_
                refine on_icmp_ne (pc' := 49) (tgt := 53) rfl rfl rfl (fun cq => ?_) (fun cq => ?_)
                rotate_left
                · exact absurd cq hz
                · clear cq
                  refine on_iconst (pc' := 54) (v := 3) rfl rfl li_3 ?_
                  refine on_istore (pc' := 56) rfl rfl (by decide) ?_
                  refine on_iload (pc' := 58) rfl rfl rfl ?_
                  refine on_anewarray (pc' := 61) (t := 4) (N := 3) rfl rfl rfl an_N_9.1 an_N_9.2 (by decide) rfl (by decide) (by omega) (by omega) ?_
                  have w0 : on_up h sz (on_aq 4 3 (fun _ => none)) sz = some (on_aq 4 3 (fun _ => none)) := on_up_eq _ _ _
                  have T1 : ∀ b, b < sz → on_up h sz (on_aq 4 3 (fun _ => none)) b = h b := fun b hb => on_up_ne (by omega)
                  generalize on_up h sz (on_aq 4 3 (fun _ => none)) = g at w0 T1 ⊢
                  have o2 := (T1 o (by omega)).trans o1
                  have r2 := (T1 (o + 1) (by omega)).trans r1
                  have q2 := (T1 (L.ra i) (by omega)).trans ro
                  have z0 : (0 : Nat) < 3 ∧ 3 < 2 ^ 31 := by decide
                  first | refine on_astore (pc' := 63) rfl rfl (by decide) ?_ | refine on_astoreQ (pc' := 63) rfl rfl (by decide) ?_
                  first | refine on_aload (pc' := 65) rfl rfl rfl ?_ | refine on_aloadQ (pc' := 65) rfl rfl rfl ?_
                  refine on_iconst (pc' := 66) (v := 0) rfl rfl li_0 ?_
                  first | refine on_aload_n (pc' := 67) rfl rfl rfl rfl ?_ | refine on_aload_nQ (pc' := 67) rfl rfl rfl rfl ?_
                  refine on_iload_n (pc' := 68) rfl rfl rfl rfl ?_
                  refine on_callV (pc' := 71) (As := [.int x]) (rest := [.int 0, .ref sz]) (b := o) rfl rfl cw_N_circuit_75 (o2) rfl rfl (Nat.le_of_ble_eq_true rfl) (Nat.zero_le _) (Nat.zero_le _) (c_relayAtP nr6 o2 r2) ?_
                  rintro v g s ⟨rfl, rfl, rfl⟩
                  rw [hi]
                  show on_E G M_N_circuit 71 _ [.ref (L.ra i), .int 0, .ref sz] g _ _ _ _
                  apply on_aastoreK (pc' := 72) rfl rfl
                  · repeat (first | assumption | exact on_up_eq _ _ _ | refine (on_up_ne (by omega)).trans ?_)
                  rotate_left 2
                  · repeat (first | assumption | exact on_up_eq _ _ _ | refine (on_up_ne (by omega)).trans ?_)
                  rotate_right 2
                  · rfl
                  · rfl
                  · first | assumption | exact on_lit _ | rfl
                  · first | assumption | omega | decide
                  have w1 : on_up g sz (on_aq 4 3 (va_up (fun _ => none) 0 (some (L.ra i)))) sz = some (on_aq 4 3 (va_up (fun _ => none) 0 (some (L.ra i)))) := on_up_eq _ _ _
                  have T2 : ∀ b, b < sz → on_up g sz (on_aq 4 3 (va_up (fun _ => none) 0 (some (L.ra i)))) b = h b := fun b hb => (on_up_ne (by omega)).trans (T1 b hb)
                  generalize on_up g sz (on_aq 4 3 (va_up (fun _ => none) 0 (some (L.ra i)))) = g2 at w1 T2 ⊢
                  refine on_iload (pc' := 74) rfl rfl rfl ?_
                  refine on_iconst (pc' := 75) (v := 1) rfl rfl li_1 ?_
                  refine on_icmp_le (pc' := 78) (tgt := 87) rfl rfl rfl (fun cq => ?_) (fun cq => ?_)
                  · exact absurd cq (by decide)
                  · clear cq
                    have o3 := (T2 o (by omega)).trans o1
                    have r3 := (T2 (o + 1) (by omega)).trans r1
                    have q3 := (T2 (L.ra j) (by omega)).trans rj
                    have z1 : (1 : Nat) < 3 ∧ 3 < 2 ^ 31 := by decide
                    first | refine on_aload (pc' := 80) rfl rfl rfl ?_ | refine on_aloadQ (pc' := 80) rfl rfl rfl ?_
                    refine on_iconst (pc' := 81) (v := 1) rfl rfl li_1 ?_
                    first | refine on_aload_n (pc' := 82) rfl rfl rfl rfl ?_ | refine on_aload_nQ (pc' := 82) rfl rfl rfl rfl ?_
                    refine on_iload_n (pc' := 83) rfl rfl rfl rfl ?_
                    refine on_callV (pc' := 86) (As := [.int y]) (rest := [.int 1, .ref sz]) (b := o) rfl rfl cw_N_circuit_75 (o3) rfl rfl (Nat.le_of_ble_eq_true rfl) (Nat.zero_le _) (Nat.zero_le _) (c_relayAtP nr6 o3 r3) ?_
                    rintro v g2 s ⟨rfl, rfl, rfl⟩
                    rw [hj]
                    show on_E G M_N_circuit 86 _ [.ref (L.ra j), .int 1, .ref sz] g2 _ _ _ _
                    apply on_aastoreK (pc' := 87) rfl rfl
                    · repeat (first | assumption | exact on_up_eq _ _ _ | refine (on_up_ne (by omega)).trans ?_)
                    rotate_left 2
                    · repeat (first | assumption | exact on_up_eq _ _ _ | refine (on_up_ne (by omega)).trans ?_)
                    rotate_right 2
                    · rfl
                    · rfl
                    · first | assumption | exact on_lit _ | rfl
                    · first | assumption | omega | decide
                    have w2 : on_up g2 sz (on_aq 4 3 (va_up (va_up (fun _ => none) 0 (some (L.ra i))) 1 (some (L.ra j)))) sz = some (on_aq 4 3 (va_up (va_up (fun _ => none) 0 (some (L.ra i))) 1 (some (L.ra j)))) := on_up_eq _ _ _
                    have T3 : ∀ b, b < sz → on_up g2 sz (on_aq 4 3 (va_up (va_up (fun _ => none) 0 (some (L.ra i))) 1 (some (L.ra j)))) b = h b := fun b hb => (on_up_ne (by omega)).trans (T2 b hb)
                    generalize on_up g2 sz (on_aq 4 3 (va_up (va_up (fun _ => none) 0 (some (L.ra i))) 1 (some (L.ra j)))) = g3 at w2 T3 ⊢
                    refine on_iload (pc' := 89) rfl rfl rfl ?_
                    refine on_iconst (pc' := 90) (v := 2) rfl rfl li_2 ?_
                    refine on_icmp_le (pc' := 93) (tgt := 103) rfl rfl rfl (fun cq => ?_) (fun cq => ?_)
                    · exact absurd cq (by decide)
                    · clear cq
                      have o4 := (T3 o (by omega)).trans o1
                      have r4 := (T3 (o + 1) (by omega)).trans r1
                      have q4 := (T3 (L.ra m) (by omega)).trans rm
                      have z2 : (2 : Nat) < 3 ∧ 3 < 2 ^ 31 := by decide
                      first | refine on_aload (pc' := 95) rfl rfl rfl ?_ | refine on_aloadQ (pc' := 95) rfl rfl rfl ?_
                      refine on_iconst (pc' := 96) (v := 2) rfl rfl li_2 ?_
                      first | refine on_aload_n (pc' := 97) rfl rfl rfl rfl ?_ | refine on_aload_nQ (pc' := 97) rfl rfl rfl rfl ?_
                      refine on_iload (pc' := 99) rfl rfl rfl ?_
                      refine on_callV (pc' := 102) (As := [.int z]) (rest := [.int 2, .ref sz]) (b := o) rfl rfl cw_N_circuit_75 (o4) rfl rfl (Nat.le_of_ble_eq_true rfl) (Nat.zero_le _) (Nat.zero_le _) (c_relayAtP nr6 o4 r4) ?_
                      rintro v g3 s ⟨rfl, rfl, rfl⟩
                      rw [hm]
                      show on_E G M_N_circuit 102 _ [.ref (L.ra m), .int 2, .ref sz] g3 _ _ _ _
                      apply on_aastoreK (pc' := 103) rfl rfl
                      · repeat (first | assumption | exact on_up_eq _ _ _ | refine (on_up_ne (by omega)).trans ?_)
                      rotate_left 2
                      · repeat (first | assumption | exact on_up_eq _ _ _ | refine (on_up_ne (by omega)).trans ?_)
                      rotate_right 2
                      · rfl
                      · rfl
                      · first | assumption | exact on_lit _ | rfl
                      · first | assumption | omega | decide
                      refine on_relv (l := [(0, .ref o), (1, .int (nI (8 + k))), (5, .ref (L.ka k)), (7, .ref sz)]) ⟨rfl, rfl, rfl, rfl, trivial⟩ (cir_t (pa := [i, j, m]) X V hk c6 ⟨Nat.le_of_ble_eq_true rfl, Nat.le_of_ble_eq_true rfl⟩ (fun n hn => ?_) (fun b hb => (on_up_ne (by omega)).trans (T3 b hb)) (on_up_eq _ _ _) (fun n hn => ?_) (by omega) (fun h2 s2 R => ⟨rfl, R⟩))
                      · have hn : n < 3 := hn
                        match n, hn with
                        | 0, _ => exact i1
                        | 1, _ => exact j1
                        | 2, _ => exact m1
                        | n + 3, w => exact absurd w (by omega)
                      · have hn : n < 3 := hn
                        match n, hn with
                        | 0, _ => rfl
                        | 1, _ => rfl
                        | 2, _ => rfl
                        | n + 3, w => exact absurd w (by omega)
end CI2
