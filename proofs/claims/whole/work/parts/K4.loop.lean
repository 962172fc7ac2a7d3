/-! the law: its loop -/
section LWL
variable {G : on_G} {o p : Nat} {Q : Nat × Nat × (Nat → Int32)}
theorem l_less5 : ∀ l, l < 5 → nI l - 5 < 0 := by decide
theorem l_sub5 {l : Nat} (h : 5 ≤ l) : nI l - 5 = nI (l - 5) := by
  have e := nI_add (l - 5) 5
  rw [show l - 5 + 5 = l by omega] at e
  rw [← e]
  exact Int32.add_sub_cancel _ _
theorem lw_sw (x : Int32) : ∃ t, t < 32 ∧ x &&& 31 = nI t := ⟨x.toBitVec.toNat % 32, Nat.mod_lt _ (by decide), pk_and x 5 rfl⟩
set_option maxHeartbeats 8000000 in
theorem lw_loop (hL : Q.2.1 ≤ 2560) : ∀ (m n sz bc bs : Nat) (L : nL) (RA CA : Nat → Nat) (a : aN) (h : on_H), Q.2.1 < 5 * (n + m) + 5 → 5 * n ≤ 2560 → lw_J o p sz L RA CA (n * 108540) a h → n_pc a + m_pc a ≤ bc → n_ps a + m_ps a ≤ bs → lx_E G M_Law_law 18 (on_l [(0, .ref Q.1), (1, .ref o), (2, .ref p), (3, .int (nI (5 * n)))]) [] h sz bc bs Q := by
  intro m
  induction m with
  | zero =>
    intro n sz bc bs L RA CA a h hm hn J hbc hbs
    refine lx_iload_n (pc' := 19) rfl rfl rfl rfl ?_
    refine lx_aload_n (pc' := 20) rfl rfl rfl rfl ?_
    refine lx_slen (pc' := 21) rfl rfl ?_
    refine lx_iconst (pc' := 22) (v := 5) rfl rfl li_5 ?_
    refine lx_isub (pc' := 23) rfl rfl ?_
    refine lx_icmp_gt (pc' := 26) (tgt := 1052) rfl rfl rfl (fun cq => ?_) (fun cq => ?_)
    · refine lx_iconst (pc' := 1053) (v := 1) rfl rfl li_1 ?_
      exact lx_ret rfl rfl rfl
    · refine absurd ?_ cq
      rcases Nat.lt_or_ge Q.2.1 5 with z | z
      · exact Int32.lt_of_lt_of_le (l_less5 _ z) (Int32.not_lt.mp (nI_pos (by omega)))
      · rw [l_sub5 z]
        exact nI_lt (by omega) (by omega)
  | succ m ih =>
    intro n sz bc bs L RA CA a h hm hn J hbc hbs
    refine lx_iload_n (pc' := 19) rfl rfl rfl rfl ?_
    refine lx_aload_n (pc' := 20) rfl rfl rfl rfl ?_
    refine lx_slen (pc' := 21) rfl rfl ?_
    refine lx_iconst (pc' := 22) (v := 5) rfl rfl li_5 ?_
    refine lx_isub (pc' := 23) rfl rfl ?_
    refine lx_icmp_gt (pc' := 26) (tgt := 1052) rfl rfl rfl (fun cq => ?_) (fun cq => ?_)
    · refine lx_iconst (pc' := 1053) (v := 1) rfl rfl li_1 ?_
      exact lx_ret rfl rfl rfl
    · have h5 : 5 * n + 5 ≤ Q.2.1 := by
        rcases Nat.lt_or_ge Q.2.1 5 with z | z
        · exact absurd (Int32.lt_of_lt_of_le (l_less5 _ z) (Int32.not_lt.mp (nI_pos (by omega)))) cq
        · rcases Nat.lt_or_ge Q.2.1 (5 * n + 5) with y | y
          · exact absurd (by rw [l_sub5 z]; exact nI_lt (by omega) (by omega)) cq
          · exact y
      clear cq
      have kk : lw_K G o p n Q := fun a2 L2 RA2 CA2 h2 z2 bc2 bs2 J2 c1 c2 => by
        refine lx_iinc (pc' := 1049) rfl rfl rfl rfl ?_
        refine lx_goto (tgt := 18) rfl rfl ?_
        refine lx_relv (l := [(0, .ref Q.1), (1, .ref o), (2, .ref p), (3, .int (nI (5 * (n + 1))))]) ⟨rfl, rfl, rfl, congrArg some (congrArg Value.int ?_), trivial⟩ (ih (n + 1) z2 bc2 bs2 L2 RA2 CA2 a2 h2 (by omega) (by omega) J2 c1 c2)
        show nI (5 * n) + nI 5 = nI (5 * (n + 1))
        rw [nI_add]
        exact congrArg nI (by omega)
      have i0 : 5 * n < Q.2.1 ∧ Q.2.1 < 2 ^ 31 := by omega
      refine lx_aload_n (pc' := 27) rfl rfl rfl rfl ?_
      refine lx_iload_n (pc' := 28) rfl rfl rfl rfl ?_
      apply lx_sld (pc' := 29) rfl rfl
      · first | assumption | rfl
      · assumption
      refine lx_bipush (pc' := 31) (v := 31) rfl rfl lb_31 ?_
      refine lx_iand (pc' := 32) rfl rfl ?_
      obtain ⟨t, ht, et⟩ := lw_sw (Q.2.2 (5 * n))
      rw [et]
      match t, ht with
      | 0, _ => exact lx_tableIn rfl (by decide) (by decide) rfl rfl (lw_c0 J h5 hL hbc hbs kk)
      | 1, _ => exact lx_tableIn rfl (by decide) (by decide) rfl rfl (lw_c1 J h5 hL hbc hbs kk)
      | 2, _ => exact lx_tableIn rfl (by decide) (by decide) rfl rfl (lw_c2 J h5 hL hbc hbs kk)
      | 3, _ => exact lx_tableIn rfl (by decide) (by decide) rfl rfl (lw_c3 J h5 hL hbc hbs kk)
      | 4, _ => exact lx_tableIn rfl (by decide) (by decide) rfl rfl (lw_c4 J h5 hL hbc hbs kk)
      | 5, _ => exact lx_tableIn rfl (by decide) (by decide) rfl rfl (lw_c5 J h5 hL hbc hbs kk)
      | 6, _ => exact lx_tableIn rfl (by decide) (by decide) rfl rfl (lw_c6 J h5 hL hbc hbs kk)
      | 7, _ => exact lx_tableIn rfl (by decide) (by decide) rfl rfl (lw_c7 J h5 hL hbc hbs kk)
      | 8, _ => exact lx_tableIn rfl (by decide) (by decide) rfl rfl (lw_c8 J h5 hL hbc hbs kk)
      | 9, _ => exact lx_tableIn rfl (by decide) (by decide) rfl rfl (lw_c9 J h5 hL hbc hbs kk)
      | 10, _ => exact lx_tableIn rfl (by decide) (by decide) rfl rfl (lw_c10 J h5 hL hbc hbs kk)
      | 11, _ => exact lx_tableIn rfl (by decide) (by decide) rfl rfl (lw_c11 J h5 hL hbc hbs kk)
      | 12, _ => exact lx_tableIn rfl (by decide) (by decide) rfl rfl (lw_c12 J h5 hL hbc hbs kk)
      | 13, _ => exact lx_tableIn rfl (by decide) (by decide) rfl rfl (lw_c13 J h5 hL hbc hbs kk)
      | 14, _ => exact lx_tableIn rfl (by decide) (by decide) rfl rfl (lw_c14 J h5 hL hbc hbs kk)
      | 15, _ => exact lx_tableIn rfl (by decide) (by decide) rfl rfl (lw_c15 J h5 hL hbc hbs kk)
      | 16, _ => exact lx_tableIn rfl (by decide) (by decide) rfl rfl (lw_c16 J h5 hL hbc hbs kk)
      | 17, _ => exact lx_tableIn rfl (by decide) (by decide) rfl rfl (lw_c17 J h5 hL hbc hbs kk)
      | 18, _ => exact lx_tableIn rfl (by decide) (by decide) rfl rfl (lw_c18 J h5 hL hbc hbs kk)
      | 19, _ => exact lx_tableIn rfl (by decide) (by decide) rfl rfl (lw_c19 J h5 hL hbc hbs kk)
      | 20, _ => exact lx_tableIn rfl (by decide) (by decide) rfl rfl (lw_c20 J h5 hL hbc hbs kk)
      | 21, _ => exact lx_tableIn rfl (by decide) (by decide) rfl rfl (lw_c21 J h5 hL hbc hbs kk)
      | 22, _ => exact lx_tableIn rfl (by decide) (by decide) rfl rfl (lw_c22 J h5 hL hbc hbs kk)
      | 23, _ => exact lx_tableIn rfl (by decide) (by decide) rfl rfl (lw_c23 J h5 hL hbc hbs kk)
      | 24, _ => exact lx_tableOut rfl (by decide) rfl (kk a L RA CA h sz bc bs (J.up (by omega)) hbc hbs)
      | 25, _ => exact lx_tableOut rfl (by decide) rfl (kk a L RA CA h sz bc bs (J.up (by omega)) hbc hbs)
      | 26, _ => exact lx_tableOut rfl (by decide) rfl (kk a L RA CA h sz bc bs (J.up (by omega)) hbc hbs)
      | 27, _ => exact lx_tableOut rfl (by decide) rfl (kk a L RA CA h sz bc bs (J.up (by omega)) hbc hbs)
      | 28, _ => exact lx_tableOut rfl (by decide) rfl (kk a L RA CA h sz bc bs (J.up (by omega)) hbc hbs)
      | 29, _ => exact lx_tableOut rfl (by decide) rfl (kk a L RA CA h sz bc bs (J.up (by omega)) hbc hbs)
      | 30, _ => exact lx_tableOut rfl (by decide) rfl (kk a L RA CA h sz bc bs (J.up (by omega)) hbc hbs)
      | 31, _ => exact lx_tableOut rfl (by decide) rfl (kk a L RA CA h sz bc bs (J.up (by omega)) hbc hbs)
      | t + 32, ht => exact absurd ht (by omega)
set_option maxHeartbeats 8000000 in
/-- the law from its first instruction -/
theorem lw_go (hL : Q.2.1 ≤ 2560) : lx_E G M_Law_law 0 (on_l [(0, .ref Q.1)]) [] (fun _ => none) o 600000 7302250 Q := by
  refine lx_new (pc' := 3) (fs := [.null, .null, .null, .null, .null, .null, .null, .null, .int 0, .int 0, .int 0]) rfl rfl nw_Law_7 (by intro j hj; match j, hj with | 0, _ => rfl | 1, _ => rfl | 2, _ => rfl | 3, _ => rfl | 4, _ => rfl | 5, _ => rfl | 6, _ => rfl | 7, _ => rfl | 8, _ => rfl | 9, _ => rfl | 10, _ => rfl | j + 11, hj => exact absurd hj (by omega)) (by omega) (by omega) ?_
  refine lx_dup (pc' := 4) rfl rfl rfl ?_
  refine lx_callI (pc' := 7) (As := []) (rest := [.ref o]) (b := o) rfl rfl cw_Law_law_9 rfl rfl (Nat.le_of_ble_eq_true rfl) (by omega) (by omega) (c_N_init (on_up_eq _ _ _) rfl) ?_
  rintro v h1 z ⟨rfl, rfl, X1, t1⟩
  show lx_E G M_Law_law 7 _ [.ref o] h1 (o + 44) _ _ _
  refine lx_astore_n (pc' := 8) rfl rfl rfl (by decide) ?_
  refine lx_new (pc' := 11) (fs := [.null, .int 0, .null, .null, .null, .int 0, .null, .int 0, .null, .null, .null, .null, .null, .null, .null, .null, .null, .null, .null, .null, .null, .null, .null, .null, .null, .null, .null, .null, .null, .null, .null, .null, .null, .null, .null, .null, .null, .null]) rfl rfl nw_Law_10 (by intro j hj; match j, hj with | 0, _ => rfl | 1, _ => rfl | 2, _ => rfl | 3, _ => rfl | 4, _ => rfl | 5, _ => rfl | 6, _ => rfl | 7, _ => rfl | 8, _ => rfl | 9, _ => rfl | 10, _ => rfl | 11, _ => rfl | 12, _ => rfl | 13, _ => rfl | 14, _ => rfl | 15, _ => rfl | 16, _ => rfl | 17, _ => rfl | 18, _ => rfl | 19, _ => rfl | 20, _ => rfl | 21, _ => rfl | 22, _ => rfl | 23, _ => rfl | 24, _ => rfl | 25, _ => rfl | 26, _ => rfl | 27, _ => rfl | 28, _ => rfl | 29, _ => rfl | 30, _ => rfl | 31, _ => rfl | 32, _ => rfl | 33, _ => rfl | 34, _ => rfl | 35, _ => rfl | 36, _ => rfl | 37, _ => rfl | j + 38, hj => exact absurd hj (by omega)) (by omega) (by omega) ?_
  refine lx_dup (pc' := 12) rfl rfl rfl ?_
  refine lx_callI (pc' := 15) (As := []) (rest := [.ref (o + 44)]) (b := o + 44) rfl rfl cw_Law_law_12 rfl rfl (Nat.le_of_ble_eq_true rfl) (by omega) (by omega) (c_M_init (RA := fun _ => 0) (CA := fun _ => 0) (on_up_eq _ _ _) rfl) ?_
  rintro v h2 z ⟨rfl, rfl, Y2, t2⟩
  show lx_E G M_Law_law 15 _ [.ref (o + 44)] h2 (o + 44 + 42) _ _ _
  have J : lw_J o (o + 44) (o + 44 + 42) ((L_0 o).ra, (L_0 o).ka, (L_0 o).ca, (L_0 o).la, (L_0 o).sa, (L_0 o).A, fun b => if b < o + 44 then (L_0 o).ow b else 2) (fun _ => 0) (fun _ => 0) (0 * 108540) a_0 h2 := by
    refine ⟨X1.frn (by omega) (fun b c1 _ => (t2 b c1).trans (on_up_ne (by omega))), Y2, V_0.up (Nat.zero_le _), fun b hb => ⟨Y2.lt hb, ?_⟩⟩
    rcases hb with hb | ⟨i, hi, hb⟩ | ⟨i, hi, hb⟩
    · exact if_neg (by omega)
    · exact absurd hi (Nat.not_lt_zero i)
    · exact absurd hi (Nat.not_lt_zero i)
  have q1 : n_pc a_0 + m_pc a_0 = 4272 := by decide
  have q2 : n_ps a_0 + m_ps a_0 = 450502 := by decide
  refine lx_astore_n (pc' := 16) rfl rfl rfl (by decide) ?_
  refine lx_iconst (pc' := 17) (v := 0) rfl rfl li_0 ?_
  refine lx_istore_n (pc' := 18) rfl rfl rfl (by decide) ?_
  refine lx_relv (l := [(0, .ref Q.1), (1, .ref o), (2, .ref (o + 44)), (3, .int (nI (5 * 0)))]) ⟨rfl, rfl, rfl, rfl, trivial⟩ (lw_loop hL 512 0 _ _ _ _ _ _ _ _ (by omega) (by omega) J (by omega) (by omega))
end LWL
