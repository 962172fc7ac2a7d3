/-! the reference: digests of cells -/
theorem e_shr {a k : Nat} (ha : a < 2 ^ 31) (hk : k < 32) : sh_r (nI a) (nI k) = nI (a / 2 ^ k) := by
  apply Int32.toInt_inj.mp
  have h2 : a / 2 ^ k < 2 ^ 31 := Nat.lt_of_le_of_lt (Nat.div_le_self _ _) ha
  rw [sh_r_int _ hk, nI_toInt ha, nI_toInt h2]
  exact (Int.natCast_ediv a (2 ^ k)).symm ▸ rfl
theorem rc_z_pl (x : Nat → Nat) (k : Nat) : (if 5 ≤ k ∧ k < 9 then 0 else x (5 + k)) = rc_z x (5 + k) := by
  unfold rc_z
  by_cases e : 5 ≤ k ∧ k < 9
  · rw [if_pos e, if_pos (by omega)]
  · rw [if_neg e, if_neg (by omega)]
/-- a payload's cell: command, stream, length, data -/
def mk_c (cmd s n : Nat) (d : Nat → Nat) : Nat → Nat := fun i => if i = 5 then cmd else if i = 8 then s / 256 else if i = 9 then s % 256 else if i = 14 then n / 256 else if i = 15 then n % 256 else if 16 ≤ i ∧ i < 16 + n then d (i - 16) else 0
theorem mk_c_lt {cmd s n : Nat} {d : Nat → Nat} (h1 : cmd < 256) (h2 : s < 65536) (h3 : n ≤ 124) (hd : ∀ i, i < n → d i < 256) (i : Nat) : mk_c cmd s n d i < 256 := by
  unfold mk_c
  split
  · exact h1
  · split
    · omega
    · split
      · omega
      · split
        · omega
        · split
          · omega
          · split
            · exact hd _ (by omega)
            · decide
theorem mk_c_z (cmd s n : Nat) (d : Nat → Nat) : rc_z (mk_c cmd s n d) = mk_c cmd s n d := by
  funext i
  unfold rc_z
  split
  · unfold mk_c
    rw [if_neg (by omega), if_neg (by omega), if_neg (by omega), if_neg (by omega), if_neg (by omega), if_neg (by omega)]
  · rfl
section MDU
variable {G : on_G} {o y sz bc bs : Nat} {x3 : Int32 × Int32 × Int32} {h : on_H} {Q : Option Value → on_H → Nat → Prop} {x : Nat → Nat} {ms : List Nat}
set_option maxHeartbeats 4000000 in
theorem mdu_l (hp : rB h (o + 25) 135 (fun k => x (5 + k))) (hL : ms.length + 135 < 2 ^ 28)
    (k : ∀ h2, mo_O o x3 h2 → ms_X (o + 14) (rc_m ms x) h2 → on_sm (o + 14) (o + 17) h h2 → on_E G M_M_due 55 (on_l [(0, .ref o)]) [] h2 sz bc bs Q) :
    ∀ (m i : Nat) (h1 : on_H), i + m = 135 → mo_O o x3 h1 → ms_X (o + 14) (ms ++ sp_sl (rc_z x) 5 i) h1 → on_sm (o + 14) (o + 17) h h1 → on_E G M_M_due 10 (on_l [(0, .ref o), (2, .int (nI i))]) [] h1 sz bc bs Q := by
  obtain ⟨P, hp, hP⟩ := hp
  intro m
  induction m with
  | zero =>
    intro i h1 hi hO hX hs
    obtain rfl : i = 135 := by omega
    refine on_iload_n (pc' := 11) rfl rfl rfl rfl ?_
    refine on_sipush (pc' := 14) (v := 135) rfl rfl ls_135 ?_
    refine on_icmp_ge (pc' := 17) (tgt := 55) rfl rfl rfl (fun cq => ?_) (fun cq => ?_)
    · exact on_relv (l := [(0, .ref o)]) ⟨rfl, trivial⟩ (k h1 hO hX hs)
    · exact absurd (nI_le (a := 135) (by omega) (by omega)) cq
  | succ m ih =>
    intro i h1 hi hO hX hs
    have ho := hO.1
    have hi2 : i < 135 ∧ 135 < 2 ^ 31 := by omega
    have p1 := (hs (o + 25) (by omega)).trans hp
    have hpi : P i = nI (x (5 + i)) ∧ x (5 + i) < 256 := hP i hi2.1
    obtain ⟨f0, g0, X0, -⟩ := id hX
    have hr := rc_z_pl x i
    have tail : ∀ b, b = rc_z x (5 + i) → b < 256 → on_E G M_M_due 42 (on_l [(0, .ref o), (2, .int (nI i))]) [.int (nI b), .ref (o + 14)] h1 sz bc bs Q := by
      intro b hb hb2
      first | refine on_aload_n (pc' := 43) rfl rfl rfl rfl ?_ | refine on_aload_nQ (pc' := 43) rfl rfl rfl rfl ?_
      first | apply on_get (pc' := 46) rfl rfl fl_M_52 | apply on_getN (pc' := 46) rfl rfl fl_M_52
      · repeat (first | assumption | exact on_up_eq _ _ _ | refine (on_up_ne (by omega)).trans ?_)
      · rfl
      refine on_callV (pc' := 49) (As := [.int (nI b), .ref (o + 17)]) (rest := []) (b := o + 14) rfl rfl cw_M_due_143 X0.1 rfl rfl (by decide) (Nat.zero_le _) (Nat.zero_le _) (c_MSha_add (b := b) hX (by rw [List.length_append, sp_sl_len]; omega) hO.2 (by omega) (nI_255 hb2) hb2) ?_
      rintro r h2 z ⟨rfl, rfl, X2, t2⟩
      refine on_iinc1 (pc' := 52) rfl rfl rfl ?_
      refine on_goto (tgt := 10) rfl rfl ?_
      refine on_relv (l := [(0, .ref o), (2, .int (nI (i + 1)))]) ⟨rfl, congrArg some (congrArg Value.int (nI_1 i)), trivial⟩ (ih (i + 1) h2 (by omega) (hO.keep (t2 _ (by omega)) (t2 _ (by omega))) ?_ (hs.trans t2))
      rw [sp_sl_s, ← List.append_assoc, ← hb]
      exact X2
    refine on_iload_n (pc' := 11) rfl rfl rfl rfl ?_
    refine on_sipush (pc' := 14) (v := 135) rfl rfl ls_135 ?_
    refine on_icmp_ge (pc' := 17) (tgt := 55) rfl rfl rfl (fun cq => ?_) (fun cq => ?_)
    · exact absurd cq (nI_ge (b := 135) (by omega) (by omega))
    · first | refine on_aload_n (pc' := 18) rfl rfl rfl rfl ?_ | refine on_aload_nQ (pc' := 18) rfl rfl rfl rfl ?_
      first | apply on_get (pc' := 21) rfl rfl fl_M_49 | apply on_getN (pc' := 21) rfl rfl fl_M_49
      · repeat (first | assumption | exact on_up_eq _ _ _ | refine (on_up_ne (by omega)).trans ?_)
      · rfl
      refine on_iload_n (pc' := 22) rfl rfl rfl rfl ?_
      refine on_iconst (pc' := 23) (v := 5) rfl rfl li_5 ?_
      refine on_icmp_lt (pc' := 26) (tgt := 36) rfl rfl rfl (fun cq => ?_) (fun cq => ?_)
      · have c5 : i < 5 := by
          rcases Nat.lt_or_ge i 5 with g | g
          · exact g
          · exact absurd cq (nI_nlt (a := i) (b := 5) g (by omega))
        first | refine on_aload_n (pc' := 37) rfl rfl rfl rfl ?_ | refine on_aload_nQ (pc' := 37) rfl rfl rfl rfl ?_
        first | apply on_get (pc' := 40) rfl rfl fl_M_76 | apply on_getN (pc' := 40) rfl rfl fl_M_76
        · repeat (first | assumption | exact on_up_eq _ _ _ | refine (on_up_ne (by omega)).trans ?_)
        · rfl
        refine on_iload_n (pc' := 41) rfl rfl rfl rfl ?_
        apply on_ialoadK (pc' := 42) (t := 0) rfl rfl
        · repeat (first | assumption | exact on_up_eq _ _ _ | refine (on_up_ne (by omega)).trans ?_)
        · rfl
        · first | assumption | exact on_lit _ | rfl
        · first | assumption | omega | decide
        rw [hpi.1]
        rw [if_neg (by omega)] at hr
        exact tail _ hr hpi.2
      · have c5 : ¬ i < 5 := fun e => cq (nI_lt (b := 5) e (by decide))
        refine on_iload_n (pc' := 27) rfl rfl rfl rfl ?_
        refine on_bipush (pc' := 29) (v := 9) rfl rfl lb_9 ?_
        refine on_icmp_ge (pc' := 32) (tgt := 36) rfl rfl rfl (fun cq => ?_) (fun cq => ?_)
        · have c9 : ¬ i < 9 := fun e => absurd cq (nI_ge (b := 9) e (by omega))
          first | refine on_aload_n (pc' := 37) rfl rfl rfl rfl ?_ | refine on_aload_nQ (pc' := 37) rfl rfl rfl rfl ?_
          first | apply on_get (pc' := 40) rfl rfl fl_M_76 | apply on_getN (pc' := 40) rfl rfl fl_M_76
          · repeat (first | assumption | exact on_up_eq _ _ _ | refine (on_up_ne (by omega)).trans ?_)
          · rfl
          refine on_iload_n (pc' := 41) rfl rfl rfl rfl ?_
          apply on_ialoadK (pc' := 42) (t := 0) rfl rfl
          · repeat (first | assumption | exact on_up_eq _ _ _ | refine (on_up_ne (by omega)).trans ?_)
          · rfl
          · first | assumption | exact on_lit _ | rfl
          · first | assumption | omega | decide
          rw [hpi.1]
          rw [if_neg (by omega)] at hr
          exact tail _ hr hpi.2
        · have c9 : i < 9 := by
            rcases Nat.lt_or_ge i 9 with g | g
            · exact g
            · exact absurd (nI_le (a := 9) g (by omega)) cq
          refine on_iconst (pc' := 33) (v := 0) rfl rfl li_0 ?_
          refine on_goto (tgt := 42) rfl rfl ?_
          rw [if_pos (by omega)] at hr
          exact tail 0 hr (by decide)
set_option maxHeartbeats 4000000 in
/-- due: the digest that a cell must have -/
theorem c_M_due (hO : mo_O o x3 h) (hI : ms_W (o + 11) h) (hT : ms_W (o + 14) h) (hY : ms_X y ms h) (hy : y + 3 ≤ o + 11 ∨ o + 19 ≤ y) (hp : rB h (o + 25) 135 (fun k => x (5 + k))) (hd : rW h (o + 18) 32) (hL : ms.length + 135 < 2 ^ 28) :
    on_Ct G M_M_due [.ref o, .ref y] h sz 0 0 (fun r h1 z => r = none ∧ z = sz ∧ mo_O o x3 h1 ∧ ms_W (o + 11) h1 ∧ ms_X (o + 14) (rc_m ms x) h1 ∧ rB h1 (o + 18) 32 (sp_d (rc_m ms x)) ∧ ∀ a, (a < o + 11 ∨ o + 17 ≤ a) → a ≠ o + 18 → h1 a = h a) := by
  have ho := hO.1
  obtain ⟨f0, g0, l0, T0⟩ := id hT
  obtain ⟨D, hd⟩ := hd
  refine on_Ct.of (by decide) v_M_due (Nat.le_of_ble_eq_true rfl) ?_
  first | refine on_aload_n (pc' := 1) rfl rfl rfl rfl ?_ | refine on_aload_nQ (pc' := 1) rfl rfl rfl rfl ?_
  first | apply on_get (pc' := 4) rfl rfl fl_M_49 | apply on_getN (pc' := 4) rfl rfl fl_M_49
  · repeat (first | assumption | exact on_up_eq _ _ _ | refine (on_up_ne (by omega)).trans ?_)
  · rfl
  first | refine on_aload_n (pc' := 5) rfl rfl rfl rfl ?_ | refine on_aload_nQ (pc' := 5) rfl rfl rfl rfl ?_
  refine on_callV (pc' := 8) (As := [.ref y]) (rest := []) (b := o + 14) rfl rfl cw_M_due_260 T0.1 rfl rfl (by decide) (Nat.zero_le _) (Nat.zero_le _) (c_MSha_copy hT hY (by omega)) ?_
  rintro r h1 z ⟨rfl, rfl, X1, t1⟩
  have O1 : mo_O o x3 h1 := hO.keep (t1 _ (by omega)) (t1 _ (by omega))
  refine on_iconst (pc' := 9) (v := 0) rfl rfl li_0 ?_
  refine on_istore_n (pc' := 10) rfl rfl rfl (by decide) ?_
  refine on_relv (l := [(0, .ref o), (2, .int (nI 0))]) ⟨rfl, rfl, trivial⟩ (mdu_l (h := h1) (ms := ms) (x := x) (hp.keep (t1 _ (by omega))) hL (fun h2 O2 X2 t2 => ?_) 135 0 h1 rfl O1 (by rw [show sp_sl (rc_z x) 5 0 = [] from rfl, List.append_nil]; exact X1) on_sm.rf)
  have tt2 := t1.trans t2
  have I2 := hI.keep (h2 := h2) (fun a h1 h2 => tt2 a (by omega))
  clear ho
  have ho := O2.1
  obtain ⟨f2, g2, l2, I2'⟩ := id I2
  first | refine on_aload_n (pc' := 56) rfl rfl rfl rfl ?_ | refine on_aload_nQ (pc' := 56) rfl rfl rfl rfl ?_
  first | apply on_get (pc' := 59) rfl rfl fl_M_46 | apply on_getN (pc' := 59) rfl rfl fl_M_46
  · repeat (first | assumption | exact on_up_eq _ _ _ | refine (on_up_ne (by omega)).trans ?_)
  · rfl
  first | refine on_aload_n (pc' := 60) rfl rfl rfl rfl ?_ | refine on_aload_nQ (pc' := 60) rfl rfl rfl rfl ?_
  first | apply on_get (pc' := 63) rfl rfl fl_M_49 | apply on_getN (pc' := 63) rfl rfl fl_M_49
  · repeat (first | assumption | exact on_up_eq _ _ _ | refine (on_up_ne (by omega)).trans ?_)
  · rfl
  refine on_callV (pc' := 66) (As := [.ref (o + 14)]) (rest := []) (b := o + 11) rfl rfl cw_M_due_260 I2'.1 rfl rfl (by decide) (Nat.zero_le _) (Nat.zero_le _) (c_MSha_copy I2 X2 (by omega)) ?_
  rintro r h3 z ⟨rfl, rfl, X3, t3⟩
  have O3 : mo_O o x3 h3 := O2.keep (t3 _ (by omega)) (t3 _ (by omega))
  clear ho
  have ho := O3.1
  obtain ⟨f3, g3, X3', -⟩ := id X3
  first | refine on_aload_n (pc' := 67) rfl rfl rfl rfl ?_ | refine on_aload_nQ (pc' := 67) rfl rfl rfl rfl ?_
  first | apply on_get (pc' := 70) rfl rfl fl_M_46 | apply on_getN (pc' := 70) rfl rfl fl_M_46
  · repeat (first | assumption | exact on_up_eq _ _ _ | refine (on_up_ne (by omega)).trans ?_)
  · rfl
  first | refine on_aload_n (pc' := 71) rfl rfl rfl rfl ?_ | refine on_aload_nQ (pc' := 71) rfl rfl rfl rfl ?_
  first | apply on_get (pc' := 74) rfl rfl fl_M_55 | apply on_getN (pc' := 74) rfl rfl fl_M_55
  · repeat (first | assumption | exact on_up_eq _ _ _ | refine (on_up_ne (by omega)).trans ?_)
  · rfl
  refine on_iconst (pc' := 75) (v := 0) rfl rfl li_0 ?_
  first | refine on_aload_n (pc' := 76) rfl rfl rfl rfl ?_ | refine on_aload_nQ (pc' := 76) rfl rfl rfl rfl ?_
  first | apply on_get (pc' := 79) rfl rfl fl_M_52 | apply on_getN (pc' := 79) rfl rfl fl_M_52
  · repeat (first | assumption | exact on_up_eq _ _ _ | refine (on_up_ne (by omega)).trans ?_)
  · rfl
  refine on_callV (pc' := 82) (As := [.ref (o + 18), .int 0, .ref (o + 17)]) (rest := []) (b := o + 11) rfl rfl cw_M_due_164 X3'.1 rfl rfl (by decide) (Nat.zero_le _) (Nat.zero_le _) (c_MSha_end X3 (by unfold rc_m; rw [List.length_append, sp_sl_len]; exact hL) O3.2 (by omega) ((t3 _ (by omega)).trans ((tt2 _ (by omega)).trans hd)) (by omega)) ?_
  rintro r h4 z ⟨rfl, rfl, I4, d4, t4⟩
  refine on_vreturn rfl rfl ?_
  exact ⟨rfl, rfl, O3.keep (t4 _ (by omega) (by omega)) (t4 _ (by omega) (by omega)), I4, X2.keep (fun a h1 h2 => (t4 a (by omega) (by omega)).trans (t3 a (by omega))), ⟨_, d4, fun i hi => ⟨on_tk_lt hi, sp_d_lt _ _⟩⟩, fun a h1 h2 => (t4 a h2 (by omega)).trans ((t3 a (by omega)).trans (tt2 a (by omega)))⟩
theorem c_M_lengthOf (ho : h o = some (.inr (17, mo_f o x3.1 x3.2.1 x3.2.2))) (hp : rB h (o + 25) 135 (fun k => x (5 + k))) : on_Ct G M_M_lengthOf [.ref o] h sz 0 0 (fun r h1 z => r = some (.int (nI (x 14 * 256 + x 15))) ∧ z = sz ∧ h1 = h) := by
  obtain ⟨P, hp, hP⟩ := hp
  have p9 : P 9 = nI (x 14) ∧ x 14 < 256 := hP 9 (by decide)
  have p10 : P 10 = nI (x 15) ∧ x 15 < 256 := hP 10 (by decide)
  refine on_Ct.of (by decide) v_M_lengthOf (Nat.le_of_ble_eq_true rfl) ?_
  first | refine on_aload_n (pc' := 1) rfl rfl rfl rfl ?_ | refine on_aload_nQ (pc' := 1) rfl rfl rfl rfl ?_
  first | apply on_get (pc' := 4) rfl rfl fl_M_76 | apply on_getN (pc' := 4) rfl rfl fl_M_76
  · repeat (first | assumption | exact on_up_eq _ _ _ | refine (on_up_ne (by omega)).trans ?_)
  · rfl
  refine on_bipush (pc' := 6) (v := 9) rfl rfl lb_9 ?_
  apply on_ialoadK (pc' := 7) (t := 0) (k := 9) rfl rfl
  · repeat (first | assumption | exact on_up_eq _ _ _ | refine (on_up_ne (by omega)).trans ?_)
  · rfl
  · first | assumption | exact on_lit _ | rfl
  · first | assumption | omega | decide
  rw [p9.1]
  refine on_bipush (pc' := 9) (v := 8) rfl rfl lb_8 ?_
  refine on_ishl (pc' := 10) rfl rfl ?_
  first | refine on_aload_n (pc' := 11) rfl rfl rfl rfl ?_ | refine on_aload_nQ (pc' := 11) rfl rfl rfl rfl ?_
  first | apply on_get (pc' := 14) rfl rfl fl_M_76 | apply on_getN (pc' := 14) rfl rfl fl_M_76
  · repeat (first | assumption | exact on_up_eq _ _ _ | refine (on_up_ne (by omega)).trans ?_)
  · rfl
  refine on_bipush (pc' := 16) (v := 10) rfl rfl lb_10 ?_
  apply on_ialoadK (pc' := 17) (t := 0) (k := 10) rfl rfl
  · repeat (first | assumption | exact on_up_eq _ _ _ | refine (on_up_ne (by omega)).trans ?_)
  · rfl
  · first | assumption | exact on_lit _ | rfl
  · first | assumption | omega | decide
  rw [p10.1]
  refine on_ior (pc' := 18) rfl rfl ?_
  rw [nI_pair p9.2 p10.2]
  refine on_ireturn rfl rfl ?_
  exact ⟨rfl, rfl, rfl⟩
theorem c_M_streamOf (ho : h o = some (.inr (17, mo_f o x3.1 x3.2.1 x3.2.2))) (hp : rB h (o + 25) 135 (fun k => x (5 + k))) : on_Ct G M_M_streamOf [.ref o] h sz 0 0 (fun r h1 z => r = some (.int (nI (x 8 * 256 + x 9))) ∧ z = sz ∧ h1 = h) := by
  obtain ⟨P, hp, hP⟩ := hp
  have p9 : P 3 = nI (x 8) ∧ x 8 < 256 := hP 3 (by decide)
  have p10 : P 4 = nI (x 9) ∧ x 9 < 256 := hP 4 (by decide)
  refine on_Ct.of (by decide) v_M_streamOf (Nat.le_of_ble_eq_true rfl) ?_
  first | refine on_aload_n (pc' := 1) rfl rfl rfl rfl ?_ | refine on_aload_nQ (pc' := 1) rfl rfl rfl rfl ?_
  first | apply on_get (pc' := 4) rfl rfl fl_M_76 | apply on_getN (pc' := 4) rfl rfl fl_M_76
  · repeat (first | assumption | exact on_up_eq _ _ _ | refine (on_up_ne (by omega)).trans ?_)
  · rfl
  refine on_iconst (pc' := 5) (v := 3) rfl rfl li_3 ?_
  apply on_ialoadK (pc' := 6) (t := 0) (k := 3) rfl rfl
  · repeat (first | assumption | exact on_up_eq _ _ _ | refine (on_up_ne (by omega)).trans ?_)
  · rfl
  · first | assumption | exact on_lit _ | rfl
  · first | assumption | omega | decide
  rw [p9.1]
  refine on_bipush (pc' := 8) (v := 8) rfl rfl lb_8 ?_
  refine on_ishl (pc' := 9) rfl rfl ?_
  first | refine on_aload_n (pc' := 10) rfl rfl rfl rfl ?_ | refine on_aload_nQ (pc' := 10) rfl rfl rfl rfl ?_
  first | apply on_get (pc' := 13) rfl rfl fl_M_76 | apply on_getN (pc' := 13) rfl rfl fl_M_76
  · repeat (first | assumption | exact on_up_eq _ _ _ | refine (on_up_ne (by omega)).trans ?_)
  · rfl
  refine on_iconst (pc' := 14) (v := 4) rfl rfl li_4 ?_
  apply on_ialoadK (pc' := 15) (t := 0) (k := 4) rfl rfl
  · repeat (first | assumption | exact on_up_eq _ _ _ | refine (on_up_ne (by omega)).trans ?_)
  · rfl
  · first | assumption | exact on_lit _ | rfl
  · first | assumption | omega | decide
  rw [p10.1]
  refine on_ior (pc' := 16) rfl rfl ?_
  rw [nI_pair p9.2 p10.2]
  refine on_ireturn rfl rfl ?_
  exact ⟨rfl, rfl, rfl⟩
/-- the first k places agree -/
def rq_k (d x : Nat → Nat) : Nat → Bool
  | 0 => true
  | k + 1 => rq_k d x k && decide (d k = x (10 + k))
set_option maxHeartbeats 4000000 in
theorem mre_l {D P : Nat → Int32} {d : Nat → Nat} (ho : h o = some (.inr (17, mo_f o x3.1 x3.2.1 x3.2.2))) (hd : h (o + 18) = some (on_ai 0 32 D)) (hD : on_by D d 32) (hp : h (o + 25) = some (on_ai 0 135 P)) (hP : on_by P (fun k => x (5 + k)) 135)
    (k : on_E G M_M_recognizes 76 (on_l [(0, .ref o), (1, .ref y), (2, .int (if rq_k d x 4 then 1 else 0))]) [] h sz bc bs Q) :
    ∀ (m i : Nat), i + m = 4 → on_E G M_M_recognizes 38 (on_l [(0, .ref o), (1, .ref y), (2, .int (if rq_k d x i then 1 else 0)), (3, .int (nI i))]) [] h sz bc bs Q := by
  intro m
  induction m with
  | zero =>
    intro i hi
    obtain rfl : i = 4 := by omega
    refine on_iload_n (pc' := 39) rfl rfl rfl rfl ?_
    refine on_iconst (pc' := 40) (v := 4) rfl rfl li_4 ?_
    refine on_icmp_ge (pc' := 43) (tgt := 76) rfl rfl rfl (fun cq => ?_) (fun cq => ?_)
    · exact on_relv (l := [(0, .ref o), (1, .ref y), (2, .int (if rq_k d x 4 then 1 else 0))]) ⟨rfl, rfl, rfl, trivial⟩ k
    · exact absurd (nI_le (a := 4) (by omega) (by omega)) cq
  | succ m ih =>
    intro i hi
    have hi2 : i < 32 ∧ 32 < 2 ^ 31 := by omega
    have hi3 : 5 + i < 135 ∧ 135 < 2 ^ 31 := by omega
    have e5 : (5 : Int32) + nI i = nI (5 + i) := nI_add 5 i
    have di := hD i hi2.1
    have pi : P (5 + i) = nI (x (5 + (5 + i))) ∧ x (5 + (5 + i)) < 256 := hP (5 + i) hi3.1
    rw [show 5 + (5 + i) = 10 + i by omega] at pi
    have tail : ∀ v : Int32, v = (if rq_k d x (i + 1) then 1 else 0) → on_E G M_M_recognizes 69 (on_l [(0, .ref o), (1, .ref y), (3, .int (nI i))]) [.int v] h sz bc bs Q := by
      intro v hv
      refine on_istore_n (pc' := 70) rfl rfl rfl (by decide) ?_
      refine on_iinc1 (pc' := 73) rfl rfl rfl ?_
      refine on_goto (tgt := 38) rfl rfl ?_
      exact on_relv (l := [(0, .ref o), (1, .ref y), (2, .int (if rq_k d x (i + 1) then 1 else 0)), (3, .int (nI (i + 1)))]) ⟨rfl, rfl, congrArg some (congrArg Value.int hv), congrArg some (congrArg Value.int (nI_1 i)), trivial⟩ (ih (i + 1) (by omega))
    refine on_iload_n (pc' := 39) rfl rfl rfl rfl ?_
    refine on_iconst (pc' := 40) (v := 4) rfl rfl li_4 ?_
    refine on_icmp_ge (pc' := 43) (tgt := 76) rfl rfl rfl (fun cq => ?_) (fun cq => ?_)
    · exact absurd cq (nI_ge (b := 4) (by omega) (by omega))
    · refine on_iload_n (pc' := 44) rfl rfl rfl rfl ?_
      refine on_if_eq (pc' := 47) (tgt := 68) rfl rfl rfl (fun cq => ?_) (fun cq => ?_)
      · have hf : rq_k d x i = false := by
          cases e : rq_k d x i with
          | false => rfl
          | true => rw [e] at cq; exact absurd cq (by decide)
        refine on_iconst (pc' := 69) (v := 0) rfl rfl li_0 ?_
        refine on_relv (l := [(0, .ref o), (1, .ref y), (3, .int (nI i))]) ⟨rfl, rfl, rfl, trivial⟩ (tail 0 ?_)
        show (0 : Int32) = if (rq_k d x i && decide (d i = x (10 + i))) = true then 1 else 0
        rw [hf]; rfl
      · have hf : rq_k d x i = true := by
          cases e : rq_k d x i with
          | true => rfl
          | false => rw [e] at cq; exact absurd rfl cq
        first | refine on_aload_n (pc' := 48) rfl rfl rfl rfl ?_ | refine on_aload_nQ (pc' := 48) rfl rfl rfl rfl ?_
        first | apply on_get (pc' := 51) rfl rfl fl_M_55 | apply on_getN (pc' := 51) rfl rfl fl_M_55
        · repeat (first | assumption | exact on_up_eq _ _ _ | refine (on_up_ne (by omega)).trans ?_)
        · rfl
        refine on_iload_n (pc' := 52) rfl rfl rfl rfl ?_
        apply on_ialoadK (pc' := 53) (t := 0) rfl rfl
        · repeat (first | assumption | exact on_up_eq _ _ _ | refine (on_up_ne (by omega)).trans ?_)
        · rfl
        · first | assumption | exact on_lit _ | rfl
        · first | assumption | omega | decide
        rw [di.1]
        first | refine on_aload_n (pc' := 54) rfl rfl rfl rfl ?_ | refine on_aload_nQ (pc' := 54) rfl rfl rfl rfl ?_
        first | apply on_get (pc' := 57) rfl rfl fl_M_76 | apply on_getN (pc' := 57) rfl rfl fl_M_76
        · repeat (first | assumption | exact on_up_eq _ _ _ | refine (on_up_ne (by omega)).trans ?_)
        · rfl
        refine on_iconst (pc' := 58) (v := 5) rfl rfl li_5 ?_
        refine on_iload_n (pc' := 59) rfl rfl rfl rfl ?_
        refine on_iadd (pc' := 60) rfl rfl ?_
        rw [e5]
        apply on_ialoadK (pc' := 61) (t := 0) rfl rfl
        · repeat (first | assumption | exact on_up_eq _ _ _ | refine (on_up_ne (by omega)).trans ?_)
        · rfl
        · first | assumption | exact on_lit _ | rfl
        · first | assumption | omega | decide
        rw [pi.1]
        refine on_icmp_ne (pc' := 64) (tgt := 68) rfl rfl rfl (fun cq => ?_) (fun cq => ?_)
        · have ne : ¬ d i = x (10 + i) := fun e => cq (by rw [e])
          refine on_iconst (pc' := 69) (v := 0) rfl rfl li_0 ?_
          refine on_relv (l := [(0, .ref o), (1, .ref y), (3, .int (nI i))]) ⟨rfl, rfl, rfl, trivial⟩ (tail 0 ?_)
          show (0 : Int32) = if (rq_k d x i && decide (d i = x (10 + i))) = true then 1 else 0
          rw [hf, decide_eq_false ne]; rfl
        · have e : d i = x (10 + i) := (nI_eq (by omega) (by omega)).mp cq
          refine on_iconst (pc' := 65) (v := 1) rfl rfl li_1 ?_
          refine on_goto (tgt := 69) rfl rfl ?_
          refine on_relv (l := [(0, .ref o), (1, .ref y), (3, .int (nI i))]) ⟨rfl, rfl, rfl, trivial⟩ (tail 1 ?_)
          show (1 : Int32) = if (rq_k d x i && decide (d i = x (10 + i))) = true then 1 else 0
          rw [hf, decide_eq_true e]; rfl
set_option maxHeartbeats 4000000 in
/-- recognizes -/
theorem c_M_recognizes (hO : mo_O o x3 h) (hI : ms_W (o + 11) h) (hT : ms_W (o + 14) h) (hY : ms_X y ms h) (hy : y + 3 ≤ o ∨ o + 42 ≤ y) (hp : rB h (o + 25) 135 (fun k => x (5 + k))) (hd : rW h (o + 18) 32) (hL : ms.length + 135 < 2 ^ 28) :
    on_Ct G M_M_recognizes [.ref o, .ref y] h sz 0 0 (fun r h1 z => r = some (.int (if rc_ok ms x then 1 else 0)) ∧ z = sz ∧ mo_O o x3 h1 ∧ ms_W (o + 11) h1 ∧ ms_W (o + 14) h1 ∧ ms_X y (if rc_ok ms x then rc_m ms x else ms) h1 ∧ rW h1 (o + 18) 32 ∧ ∀ a, (a < o + 11 ∨ o + 17 ≤ a) → a ≠ o + 18 → (a < y ∨ y + 3 ≤ a) → h1 a = h a) := by
  have ho := hO.1
  obtain ⟨P, p0, hP⟩ := id hp
  have x6 : P 1 = nI (x 6) ∧ x 6 < 256 := hP 1 (by decide)
  have x7 : P 2 = nI (x 7) ∧ x 7 < 256 := hP 2 (by decide)
  have x14 : P 9 = nI (x 14) ∧ x 14 < 256 := hP 9 (by decide)
  have x15 : P 10 = nI (x 15) ∧ x 15 < 256 := hP 10 (by decide)
  have out : ¬ (rc_ok ms x = true) → on_E G M_M_recognizes 27 (on_l [(0, .ref o), (1, .ref y)]) [] h sz 0 0 (fun r h1 z => r = some (.int (if rc_ok ms x then 1 else 0)) ∧ z = sz ∧ mo_O o x3 h1 ∧ ms_W (o + 11) h1 ∧ ms_W (o + 14) h1 ∧ ms_X y (if rc_ok ms x then rc_m ms x else ms) h1 ∧ rW h1 (o + 18) 32 ∧ ∀ a, (a < o + 11 ∨ o + 17 ≤ a) → a ≠ o + 18 → (a < y ∨ y + 3 ≤ a) → h1 a = h a) := fun n => by
    refine on_iconst (pc' := 28) (v := 0) rfl rfl li_0 ?_
    refine on_zreturn rfl rfl ?_ ?_
    · first | rfl | assumption
    rw [if_neg n, if_neg n]
    exact ⟨rfl, rfl, hO, hI, hT, hY, hd, fun _ _ _ _ => rfl⟩
  refine on_Ct.of (by decide) v_M_recognizes (Nat.le_of_ble_eq_true rfl) ?_
  first | refine on_aload_n (pc' := 1) rfl rfl rfl rfl ?_ | refine on_aload_nQ (pc' := 1) rfl rfl rfl rfl ?_
  first | apply on_get (pc' := 4) rfl rfl fl_M_76 | apply on_getN (pc' := 4) rfl rfl fl_M_76
  · repeat (first | assumption | exact on_up_eq _ _ _ | refine (on_up_ne (by omega)).trans ?_)
  · rfl
  refine on_iconst (pc' := 5) (v := 1) rfl rfl li_1 ?_
  apply on_ialoadK (pc' := 6) (t := 0) (k := 1) rfl rfl
  · repeat (first | assumption | exact on_up_eq _ _ _ | refine (on_up_ne (by omega)).trans ?_)
  · rfl
  · first | assumption | exact on_lit _ | rfl
  · first | assumption | omega | decide
  rw [x6.1]
  refine on_if_ne (pc' := 9) (tgt := 27) rfl rfl rfl (fun cq => ?_) (fun cq => ?_)
  · exact on_relv (l := [(0, .ref o), (1, .ref y)]) ⟨rfl, rfl, trivial⟩ (out (fun z => cq (by rw [((rc_ok_iff ms x).mp z).1]; rfl)))
  have z6 : x 6 = 0 := (nI_eq (b := 0) (by omega) (by omega)).mp cq
  clear cq
  first | refine on_aload_n (pc' := 10) rfl rfl rfl rfl ?_ | refine on_aload_nQ (pc' := 10) rfl rfl rfl rfl ?_
  first | apply on_get (pc' := 13) rfl rfl fl_M_76 | apply on_getN (pc' := 13) rfl rfl fl_M_76
  · repeat (first | assumption | exact on_up_eq _ _ _ | refine (on_up_ne (by omega)).trans ?_)
  · rfl
  refine on_iconst (pc' := 14) (v := 2) rfl rfl li_2 ?_
  apply on_ialoadK (pc' := 15) (t := 0) (k := 2) rfl rfl
  · repeat (first | assumption | exact on_up_eq _ _ _ | refine (on_up_ne (by omega)).trans ?_)
  · rfl
  · first | assumption | exact on_lit _ | rfl
  · first | assumption | omega | decide
  rw [x7.1]
  refine on_if_ne (pc' := 18) (tgt := 27) rfl rfl rfl (fun cq => ?_) (fun cq => ?_)
  · exact on_relv (l := [(0, .ref o), (1, .ref y)]) ⟨rfl, rfl, trivial⟩ (out (fun z => cq (by rw [((rc_ok_iff ms x).mp z).2.1]; rfl)))
  have z7 : x 7 = 0 := (nI_eq (b := 0) (by omega) (by omega)).mp cq
  clear cq
  first | refine on_aload_n (pc' := 19) rfl rfl rfl rfl ?_ | refine on_aload_nQ (pc' := 19) rfl rfl rfl rfl ?_
  refine on_callV (pc' := 22) (As := []) (rest := []) (b := o) rfl rfl cw_M_recognizes_267 ho rfl rfl (by decide) (Nat.zero_le _) (Nat.zero_le _) (c_M_lengthOf ho hp) ?_
  rintro r h1 z ⟨rfl, rfl, rfl⟩
  refine on_bipush (pc' := 24) (v := 124) rfl rfl lb_124 ?_
  refine on_icmp_le (pc' := 27) (tgt := 29) rfl rfl rfl (fun cq => ?_) (fun cq => ?_)
  rotate_left
  · exact on_relv (l := [(0, .ref o), (1, .ref y)]) ⟨rfl, rfl, trivial⟩ (out (fun z => cq (nI_le (a := x 14 * 256 + x 15) (b := 124) (((rc_ok_iff ms x).mp z).2.2.1) (by omega))))
  have z14 : x 14 * 256 + x 15 ≤ 124 := by
    rcases Nat.lt_or_ge 124 (x 14 * 256 + x 15) with g | g
    · exact absurd cq (nI_ge (a := 124) (b := x 14 * 256 + x 15) (by omega) (by omega))
    · exact g
  clear cq
  first | refine on_aload_n (pc' := 30) rfl rfl rfl rfl ?_ | refine on_aload_nQ (pc' := 30) rfl rfl rfl rfl ?_
  first | refine on_aload_n (pc' := 31) rfl rfl rfl rfl ?_ | refine on_aload_nQ (pc' := 31) rfl rfl rfl rfl ?_
  refine on_callV (pc' := 34) (As := [.ref y]) (rest := []) (b := o) rfl rfl cw_M_recognizes_264 ho rfl rfl (by decide) (Nat.zero_le _) (Nat.zero_le _) (c_M_due hO hI hT hY (by omega) hp hd hL) ?_
  rintro r h2 z ⟨rfl, rfl, O2, I2, X2, ⟨D2, d2, D2'⟩, t2⟩
  have Y2 := hY.keep (h2 := h2) (fun a h1 h2 => t2 a (by omega) (by omega))
  clear ho
  have ho := O2.1
  have p2 := (t2 (o + 25) (by omega) (by omega)).trans p0
  obtain ⟨f2, g2, Y2', -⟩ := id Y2
  have hrq : rq_k (sp_d (rc_m ms x)) x 4 = rc_ok ms x := by
    unfold rc_ok
    rw [decide_eq_true z6, decide_eq_true z7, decide_eq_true z14]
    rfl
  refine on_iconst (pc' := 35) (v := 1) rfl rfl li_1 ?_
  refine on_istore_n (pc' := 36) rfl rfl rfl (by decide) ?_
  refine on_iconst (pc' := 37) (v := 0) rfl rfl li_0 ?_
  refine on_istore_n (pc' := 38) rfl rfl rfl (by decide) ?_
  refine on_relv (l := [(0, .ref o), (1, .ref y), (2, .int (if rq_k (sp_d (rc_m ms x)) x 0 then 1 else 0)), (3, .int (nI 0))]) ⟨rfl, rfl, rfl, rfl, trivial⟩ (mre_l ho d2 D2' p2 hP ?_ 4 0 rfl)
  rw [hrq]
  refine on_iload_n (pc' := 77) rfl rfl rfl rfl ?_
  refine on_if_eq (pc' := 80) (tgt := 88) rfl rfl rfl (fun cq => ?_) (fun cq => ?_)
  · have hf : ¬ (rc_ok ms x = true) := fun e => by rw [if_pos e] at cq; exact absurd cq (by decide)
    rw [if_neg hf]
    refine on_iload_n (pc' := 89) rfl rfl rfl rfl ?_
    refine on_zreturn rfl rfl ?_ ?_
    · first | rfl | assumption
    exact ⟨rfl, rfl, O2, I2, X2.w, by rw [if_neg hf]; exact Y2, ⟨D2, d2⟩, fun a h1 h3 h4 => t2 a h1 h3⟩
  · have hf : rc_ok ms x = true := by
      cases e : rc_ok ms x with
      | true => rfl
      | false => rw [e] at cq; exact absurd rfl cq
    rw [if_pos hf]
    first | refine on_aload_n (pc' := 81) rfl rfl rfl rfl ?_ | refine on_aload_nQ (pc' := 81) rfl rfl rfl rfl ?_
    first | refine on_aload_n (pc' := 82) rfl rfl rfl rfl ?_ | refine on_aload_nQ (pc' := 82) rfl rfl rfl rfl ?_
    first | apply on_get (pc' := 85) rfl rfl fl_M_49 | apply on_getN (pc' := 85) rfl rfl fl_M_49
    · repeat (first | assumption | exact on_up_eq _ _ _ | refine (on_up_ne (by omega)).trans ?_)
    · rfl
    refine on_callV (pc' := 88) (As := [.ref (o + 14)]) (rest := []) (b := y) rfl rfl cw_M_recognizes_260 Y2'.1 rfl rfl (by decide) (Nat.zero_le _) (Nat.zero_le _) (c_MSha_copy Y2.w X2 (by omega)) ?_
    rintro r h3 z ⟨rfl, rfl, Y3, t3⟩
    refine on_iload_n (pc' := 89) rfl rfl rfl rfl ?_
    refine on_zreturn rfl rfl ?_ ?_
    · first | rfl | assumption
    exact ⟨rfl, rfl, O2.keep (t3 _ (by omega)) (t3 _ (by omega)), I2.keep (fun a h1 h2 => t3 a (by omega)), X2.w.keep (fun a h1 h2 => t3 a (by omega)), by rw [if_pos hf]; exact Y3, ⟨D2, (t3 _ (by omega)).trans d2⟩, fun a h1 h4 h5 => (t3 a h5).trans (t2 a h1 h4)⟩
end MDU
