/-! the reference: a cell is handed over -/
section MHD
variable {G : on_G} {o sz nr nk nc B fr to bc bs : Nat} {RA CA : Nat → Nat} {C : Nat → aC} {a : aN} {h : on_H} {num : Int32} {x : aB} {Q : Option Value → on_H → Nat → Prop} {x3 : Int32 × Int32 × Int32}
set_option maxHeartbeats 8000000 in
theorem mcl_l (ho : h o = some (.inr (17, mo_f o x3.1 x3.2.1 (nI nc)))) (hnc : nc ≤ 6) (hc : h (o + 5) = some (on_aq 14 6 (rf nc CA))) (hC : ∀ i, i < nc → mq_S (CA i) (C i) h ∧ 0 < (C i).pa.length ∧ (C i).pa.getD 0 0 < 10 ∧ (C i).cl < 2 ∧ (C i).ph ≤ 2) (hto : to < 10) (hfr : fr < 10) (hu : ∀ i j, i < nc → j < nc → p_ci C to fr num i = true → p_ci C to fr num j = true → i = j)
    (kk : on_E G M_M_clientTakes 82 (on_l [(0, .ref o), (4, va_rf (((List.range nc).find? (p_ci C to fr num)).map CA))]) [] h sz bc bs Q) :
    ∀ (m j : Nat), j + m = nc → on_E G M_M_clientTakes 11 (on_l [(0, .ref o), (1, .int (nI to)), (2, .int (nI fr)), (3, .int num), (4, va_rf (((List.range j).find? (p_ci C to fr num)).map CA)), (5, .int (nI j))]) [] h sz bc bs Q := by
  intro m
  induction m with
  | zero =>
    intro j hj
    have ej : j = nc := by omega
    subst ej
    refine on_iload (pc' := 13) rfl rfl rfl ?_
    first | refine on_aload_n (pc' := 14) rfl rfl rfl rfl ?_ | refine on_aload_nQ (pc' := 14) rfl rfl rfl rfl ?_
    first | apply on_get (pc' := 17) rfl rfl fl_M_459 | apply on_getN (pc' := 17) rfl rfl fl_M_459
    · repeat (first | assumption | exact on_up_eq _ _ _ | refine (on_up_ne (by omega)).trans ?_)
    · rfl
    refine on_icmp_ge (pc' := 20) (tgt := 82) rfl rfl rfl (fun cq => ?_) (fun cq => ?_)
    · exact on_relv (l := [(0, .ref o), (4, va_rf (((List.range j).find? (p_ci C to fr num)).map CA))]) ⟨rfl, by generalize va_rf (((List.range j).find? (p_ci C to fr num)).map CA) = v; rfl, trivial⟩ kk
    · exact absurd (nI_le (a := j) (Nat.le_refl _) (by omega)) cq
  | succ m ih =>
    intro j hj
    have hjc : j < nc := by omega
    have i1 : j < 6 ∧ 6 < 2 ^ 31 := by omega
    obtain ⟨K, hl, hp0, hcl, hph⟩ := hC j hjc
    have c0 : h (CA j) = some (.inr (16, [.int (nI (8 + (C j).cl)), .int (nI (C j).nu), .ref (CA j + 1), .int (nI (C j).pa.length), .int (nI (C j).hp), .int (nI (C j).ph), .ref (CA j + 2), .ref (CA j + 3), .int (nI (C j).st.length), .ref (CA j + 4), .ref (CA j + 5), .ref (CA j + 6), .ref (CA j + 7), .ref (CA j + 8), .ref (CA j + 9), .ref (CA j + 10)])) := K.1
    obtain ⟨P, p1, p2⟩ := K.2.1
    have stp : (List.range (j + 1)).find? (p_ci C to fr num) = if p_ci C to fr num j = true then some j else (List.range j).find? (p_ci C to fr num) := by
      rw [find_s]
      cases z : (List.range j).find? (p_ci C to fr num) with
      | none => rfl
      | some i =>
        by_cases w : p_ci C to fr num j = true
        · have hi : i < j := List.mem_range.mp (List.mem_of_find?_eq_some z)
          exact absurd (hu i j (by omega) hjc (List.find?_some z) w) (by omega)
        · show some i = _
          rw [if_neg w]
    have back : ∀ (lv : on_V) (v : Option Nat), lv 0 = some (.ref o) → lv 1 = some (.int (nI to)) → lv 2 = some (.int (nI fr)) → lv 3 = some (.int num) → lv 5 = some (.int (nI j)) → v = ((List.range (j + 1)).find? (p_ci C to fr num)).map CA → on_E G M_M_clientTakes 74 lv [va_rf v] h sz bc bs Q := fun lv v l0 l1 l2 l3 l5 ev => by
      refine on_relv (l := [(0, .ref o), (1, .int (nI to)), (2, .int (nI fr)), (3, .int num), (5, .int (nI j))]) ⟨l0, l1, l2, l3, l5, trivial⟩ ?_
      subst ev
      first | refine on_astore (pc' := 76) rfl rfl (by decide) ?_ | refine on_astoreQ (pc' := 76) rfl rfl (by decide) ?_
      refine on_iinc1 (pc' := 79) rfl rfl rfl ?_
      refine on_goto (tgt := 11) rfl rfl ?_
      refine on_relv (l := [(0, .ref o), (1, .int (nI to)), (2, .int (nI fr)), (3, .int num), (4, va_rf (((List.range (j + 1)).find? (p_ci C to fr num)).map CA)), (5, .int (nI (j + 1)))]) ⟨rfl, rfl, rfl, rfl, by generalize ((List.range (j + 1)).find? (p_ci C to fr num)).map CA = v; cases v <;> rfl, congrArg some (congrArg Value.int (nI_1 j)), trivial⟩ (ih (j + 1) (by omega))
    have no : ∀ lv : on_V, lv 0 = some (.ref o) → lv 1 = some (.int (nI to)) → lv 2 = some (.int (nI fr)) → lv 3 = some (.int num) → lv 4 = some (va_rf (((List.range j).find? (p_ci C to fr num)).map CA)) → lv 5 = some (.int (nI j)) → p_ci C to fr num j = false → on_E G M_M_clientTakes 72 lv [] h sz bc bs Q := fun lv l0 l1 l2 l3 l4 l5 pf => by
      refine on_relv (l := [(0, .ref o), (1, .int (nI to)), (2, .int (nI fr)), (3, .int num), (4, va_rf (((List.range j).find? (p_ci C to fr num)).map CA)), (5, .int (nI j))]) ⟨l0, l1, l2, l3, l4, l5, trivial⟩ ?_
      have e : (((List.range j).find? (p_ci C to fr num)).map CA) = ((List.range (j + 1)).find? (p_ci C to fr num)).map CA := by
        rw [stp, if_neg (by rw [pf]; decide)]
      generalize ((List.range j).find? (p_ci C to fr num)).map CA = v at e ⊢
      first | refine on_aload (pc' := 74) rfl rfl rfl ?_ | refine on_aloadQ (pc' := 74) rfl rfl rfl ?_
      exact back _ v rfl rfl rfl rfl rfl e
    have l4' : ∀ v : Value, (on_s1 (on_l [(0, .ref o), (1, .int (nI to)), (2, .int (nI fr)), (3, .int num), (4, v), (5, .int (nI j))]) 6 (.ref (CA j))) 4 = some v := fun v => rfl
    refine on_iload (pc' := 13) rfl rfl rfl ?_
    first | refine on_aload_n (pc' := 14) rfl rfl rfl rfl ?_ | refine on_aload_nQ (pc' := 14) rfl rfl rfl rfl ?_
    first | apply on_get (pc' := 17) rfl rfl fl_M_459 | apply on_getN (pc' := 17) rfl rfl fl_M_459
    · repeat (first | assumption | exact on_up_eq _ _ _ | refine (on_up_ne (by omega)).trans ?_)
    · rfl
    refine on_icmp_ge (pc' := 20) (tgt := 82) rfl rfl rfl (fun cq => ?_) (fun cq => ?_)
    · exact absurd cq (nI_ge (b := nc) (by omega) (by omega))
    clear cq
    first | refine on_aload_n (pc' := 21) rfl rfl rfl rfl ?_ | refine on_aload_nQ (pc' := 21) rfl rfl rfl rfl ?_
    first | apply on_get (pc' := 24) rfl rfl fl_M_28 | apply on_getN (pc' := 24) rfl rfl fl_M_28
    · repeat (first | assumption | exact on_up_eq _ _ _ | refine (on_up_ne (by omega)).trans ?_)
    · rfl
    refine on_iload (pc' := 26) rfl rfl rfl ?_
    apply on_aaloadK (pc' := 27) rfl rfl
    · repeat (first | assumption | exact on_up_eq _ _ _ | refine (on_up_ne (by omega)).trans ?_)
    · rfl
    · first | assumption | exact on_lit _ | rfl
    · first | assumption | omega | decide
    rw [rf_at hjc]
    show on_E G M_M_clientTakes 27 _ [.ref (CA j)] h sz _ _ _
    first | refine on_astore (pc' := 29) rfl rfl (by decide) ?_ | refine on_astoreQ (pc' := 29) rfl rfl (by decide) ?_
    first | refine on_aload (pc' := 31) rfl rfl rfl ?_ | refine on_aloadQ (pc' := 31) rfl rfl rfl ?_
    first | apply on_get (pc' := 34) rfl rfl fl_M_462 | apply on_getN (pc' := 34) rfl rfl fl_M_462
    · repeat (first | assumption | exact on_up_eq _ _ _ | refine (on_up_ne (by omega)).trans ?_)
    · rfl
    refine on_iload_n (pc' := 35) rfl rfl rfl rfl ?_
    refine on_icmp_ne (pc' := 38) (tgt := 72) rfl rfl rfl (fun cq => ?_) (fun cq => ?_)
    · have ne : ¬ (C j).cl + 8 = to := fun z => cq (by rw [← z, Nat.add_comm])
      exact no _ rfl rfl rfl rfl (l4' _) rfl (by unfold p_ci; rw [decide_eq_false ne]; rfl)
    have q1 : (C j).cl + 8 = to := by
      have := (nI_eq (by omega) (by omega)).mp cq
      omega
    clear cq
    first | refine on_aload (pc' := 40) rfl rfl rfl ?_ | refine on_aloadQ (pc' := 40) rfl rfl rfl ?_
    first | apply on_get (pc' := 43) rfl rfl fl_M_472 | apply on_getN (pc' := 43) rfl rfl fl_M_472
    · repeat (first | assumption | exact on_up_eq _ _ _ | refine (on_up_ne (by omega)).trans ?_)
    · rfl
    refine on_iconst (pc' := 44) (v := 0) rfl rfl li_0 ?_
    apply on_ialoadK (pc' := 45) (t := 0) (k := 0) rfl rfl
    · repeat (first | assumption | exact on_up_eq _ _ _ | refine (on_up_ne (by omega)).trans ?_)
    · rfl
    · first | assumption | exact on_lit _ | rfl
    · first | assumption | omega | decide
    rw [p2 0 hl]
    refine on_iload_n (pc' := 46) rfl rfl rfl rfl ?_
    refine on_icmp_ne (pc' := 49) (tgt := 72) rfl rfl rfl (fun cq => ?_) (fun cq => ?_)
    · have ne : ¬ (C j).pa.getD 0 0 = fr := fun z => cq (by rw [z])
      exact no _ rfl rfl rfl rfl (l4' _) rfl (by unfold p_ci; rw [decide_eq_false ne, Bool.and_false]; rfl)
    have q2 : (C j).pa.getD 0 0 = fr := (nI_eq (by omega) (by omega)).mp cq
    clear cq
    first | refine on_aload (pc' := 51) rfl rfl rfl ?_ | refine on_aloadQ (pc' := 51) rfl rfl rfl ?_
    first | apply on_get (pc' := 54) rfl rfl fl_M_469 | apply on_getN (pc' := 54) rfl rfl fl_M_469
    · repeat (first | assumption | exact on_up_eq _ _ _ | refine (on_up_ne (by omega)).trans ?_)
    · rfl
    refine on_iload_n (pc' := 55) rfl rfl rfl rfl ?_
    refine on_icmp_ne (pc' := 58) (tgt := 72) rfl rfl rfl (fun cq => ?_) (fun cq => ?_)
    · exact no _ rfl rfl rfl rfl (l4' _) rfl (by unfold p_ci; rw [decide_eq_false cq, Bool.and_false]; rfl)
    have q3 : nI (C j).nu = num := cq
    clear cq
    first | refine on_aload (pc' := 60) rfl rfl rfl ?_ | refine on_aloadQ (pc' := 60) rfl rfl rfl ?_
    first | apply on_get (pc' := 63) rfl rfl fl_M_489 | apply on_getN (pc' := 63) rfl rfl fl_M_489
    · repeat (first | assumption | exact on_up_eq _ _ _ | refine (on_up_ne (by omega)).trans ?_)
    · rfl
    refine on_iconst (pc' := 64) (v := 2) rfl rfl li_2 ?_
    refine on_icmp_eq (pc' := 67) (tgt := 72) rfl rfl rfl (fun cq => ?_) (fun cq => ?_)
    · have e2 : (C j).ph = 2 := (nI_eq (b := 2) (by omega) (by decide)).mp cq
      exact no _ rfl rfl rfl rfl (l4' _) rfl (by unfold p_ci; rw [decide_eq_false (show ¬ ((C j).ph ≠ 2) from fun z => z e2), Bool.and_false])
    have q4 : (C j).ph ≠ 2 := fun z => cq (by rw [z]; rfl)
    clear cq
    first | refine on_aload (pc' := 69) rfl rfl rfl ?_ | refine on_aloadQ (pc' := 69) rfl rfl rfl ?_
    refine on_goto (tgt := 74) rfl rfl ?_
    refine back _ (some (CA j)) rfl rfl rfl rfl rfl ?_
    rw [stp, if_pos (by unfold p_ci; rw [decide_eq_true q1, decide_eq_true q2, decide_eq_true q3, decide_eq_true q4]; rfl)]
    rfl
set_option maxHeartbeats 8000000 in
/-- clientTakes -/
theorem c_M_clientTakes (X : mX o sz RA CA a h) (V : n_V B a) (hB : B + 700 < 2 ^ 28) (hto : to < 10) (hto8 : 8 ≤ to) (hfr : fr < 10) (hq : rB h (o + 24) 140 x) :
    on_Ct G M_M_clientTakes [.ref o, .int (nI to), .int (nI fr)] h sz 0 0 (fun v h1 z => v = none ∧ z = sz ∧ mX o sz RA CA (match n_ci a to fr (ce_n x) with | none => a | some i => (a.nr, a.r, a.nk, fu a.k (to - 8) (c_tk a.r (a.c i) (a.k (to - 8)) x).2.1, a.nc, fu a.c i (c_tk a.r (a.c i) (a.k (to - 8)) x).1, n_sd to a.lk (c_tk a.r (a.c i) (a.k (to - 8)) x).2.2)) h1 ∧ m_fr o a.nr a.nc RA CA h h1) := by
  obtain ⟨⟨v0, v0', v0''⟩, v2, v3, v4, v5, v6, v7⟩ := id V
  obtain ⟨x1, x2, x3, x4, x5, x6⟩ := id X
  have o1 := x1.ob.1
  refine on_Ct.of (by decide) v_M_clientTakes (Nat.le_of_ble_eq_true rfl) ?_
  first | refine on_aload_n (pc' := 1) rfl rfl rfl rfl ?_ | refine on_aload_nQ (pc' := 1) rfl rfl rfl rfl ?_
  refine on_callV (pc' := 4) (As := []) (rest := []) (b := o) rfl rfl cw_M_clientTakes_356 (o1) rfl rfl (Nat.le_of_ble_eq_true rfl) (Nat.zero_le _) (Nat.zero_le _) (c_M_numberOf o1 hq) ?_
  rintro v h sz ⟨rfl, rfl, rfl⟩
  refine on_istore_n (pc' := 5) rfl rfl rfl (by decide) ?_
  refine on_null (pc' := 6) rfl rfl ?_
  show on_E G M_M_clientTakes 6 _ [va_rf none] h sz _ _ _
  first | refine on_astore (pc' := 8) rfl rfl (by decide) ?_ | refine on_astoreQ (pc' := 8) rfl rfl (by decide) ?_
  refine on_iconst (pc' := 9) (v := 0) rfl rfl li_0 ?_
  refine on_istore (pc' := 11) rfl rfl (by decide) ?_
  refine on_relv (l := [(0, .ref o), (1, .int (nI to)), (2, .int (nI fr)), (3, .int (ce_n x)), (4, va_rf (((List.range 0).find? (p_ci a.c to fr (ce_n x))).map CA)), (5, .int (nI 0))]) ⟨rfl, rfl, rfl, rfl, rfl, rfl, trivial⟩ ?_
  refine mcl_l (x3 := (nI a.nr, nI a.nk, nI a.nc)) o1 v0'' x3.2.2.2.2 (fun i hi => ?_) hto hfr (fun i j hi hj p1 p2 => ?_) ?_ a.nc 0 (Nat.zero_add _)
  · have := (v4 i hi).1
    have p := this.2.2.1 0 (by have := this.2.1; omega)
    exact ⟨(x6 i hi).1, by have := this.2.1; omega, by omega, by have := this.1; omega, this.2.2.2.2.1⟩
  · unfold p_ci at p1 p2
    rw [Bool.and_eq_true, Bool.and_eq_true, Bool.and_eq_true, decide_eq_true_eq, decide_eq_true_eq, decide_eq_true_eq] at p1 p2
    have b1 := (v4 i hi).2.2
    have b2 := (v4 j hj).2.2
    have c1 := v3 _ (v4 i hi).1.1
    have c2 := v3 _ (v4 j hj).1.1
    exact v5 i j hi hj (by have := p1.1.1.1; have := p2.1.1.1; omega) ((nI_eq (by omega) (by omega)).mp (p1.1.1.2.trans p2.1.1.2.symm))
  · have en : n_ci a to fr (ce_n x) = (List.range a.nc).find? (p_ci a.c to fr (ce_n x)) := rfl
    rw [en]
    cases z : (List.range a.nc).find? (p_ci a.c to fr (ce_n x)) with
    | none =>
      show on_E G M_M_clientTakes 82 (on_l [(0, .ref o), (4, va_rf none)]) [] h sz _ _ _
      refine on_aloadQ (pc' := 84) (r := none) rfl rfl rfl ?_
      refine on_ifnonnullN (pc' := 87) rfl rfl ?_
      refine on_vreturn rfl rfl ?_
      exact ⟨rfl, rfl, X, m_fr.id⟩
    | some i =>
      have hi : i < a.nc := List.mem_range.mp (List.mem_of_find?_eq_some z)
      have p1 : p_ci a.c to fr (ce_n x) i = true := List.find?_some z
      unfold p_ci at p1
      rw [Bool.and_eq_true, Bool.and_eq_true, Bool.and_eq_true, decide_eq_true_eq, decide_eq_true_eq, decide_eq_true_eq] at p1
      have ec : (a.c i).cl = to - 8 := by have := p1.1.1.1; omega
      have CK := (v4 i hi).1
      obtain ⟨SD, DR, KC, hD, hS⟩ := X.toC hi CK.1 v0'
      show on_E G M_M_clientTakes 82 (on_l [(0, .ref o), (4, .ref (CA i))]) [] h sz _ _ _
      first | refine on_aload (pc' := 84) rfl rfl rfl ?_ | refine on_aloadQ (pc' := 84) rfl rfl rfl ?_
      refine on_ifnonnullR (tgt := 88) rfl rfl ?_
      refine mct_do KC CK hB v0 hq (fun h1 Z => ?_)
      have gg := c_tk_ok (rs := a.r) (k := a.k (a.c i).cl) (x := x) v0 (of_decide_eq_true p1.2) CK
      obtain ⟨X1, f1⟩ := X.ofC hi CK.1 v0' hD hS Z.1 gg.2.2.2.2.2.2.2.1 Z.2
      rw [ec, show 8 + (to - 8) = to by omega] at X1
      exact ⟨rfl, rfl, X1, f1⟩
set_option maxHeartbeats 8000000 in
/-- hand -/
theorem c_M_hand {l : List aB} (X : mX o sz RA CA a h) (V : n_V B a) (hB : B + 700 < 2 ^ 28) (hto : to < 10) (hfr : fr < 10) (he : n_ex a.nr a.nk (10 * fr + to) = true) (hl : a.lk (10 * fr + to) = x :: l) :
    on_Ct G M_M_hand [.ref o, .int (nI fr), .int (nI to)] h sz 0 0 (fun v h1 z => v = some (.int (nI (x 4))) ∧ z = sz ∧ mX o sz RA CA (n_ho a fr to) h1 ∧ m_fr o a.nr a.nc RA CA h h1) := by
  obtain ⟨⟨v0, v0', v0''⟩, v2, v3, v4, v5, v6, v7⟩ := id V
  obtain ⟨x1, x2, x3, x4, x5, x6⟩ := id X
  have o1 := x1.ob.1
  refine on_Ct.of (by decide) v_M_hand (Nat.le_of_ble_eq_true rfl) ?_
  first | refine on_aload_n (pc' := 1) rfl rfl rfl rfl ?_ | refine on_aload_nQ (pc' := 1) rfl rfl rfl rfl ?_
  refine on_iload_n (pc' := 2) rfl rfl rfl rfl ?_
  refine on_iload_n (pc' := 3) rfl rfl rfl rfl ?_
  refine on_callV (pc' := 6) (As := [.int (nI fr), .int (nI to)]) (rest := []) (b := o) rfl rfl cw_M_hand_533 (o1) rfl rfl (Nat.le_of_ble_eq_true rfl) (Nat.zero_le _) (Nat.zero_le _) (c_M_takeFirst o1 x2 hfr hto x1.ce hl) ?_
  rintro v h1 sz ⟨rfl, rfl, Q1, L1, t1⟩
  have W1 : mw o (nI a.nr, nI a.nk, nI a.nc) h1 := (x1.row (q := o + 24) (h1 := fun b => if b = o + 6 ∨ b = o + 7 then h b else h1 b) (fun _ _ => by
      obtain ⟨f, hf, -⟩ := Q1
      refine ⟨f, ?_⟩
      dsimp only
      rw [if_neg (by omega), show o + 24 - o = 24 by omega]
      exact hf) (by omega) (fun b hb => by
      split
      · rfl
      · next w => exact t1 b (fun z => w (Or.inl z)) (fun z => w (Or.inr z)) hb)).keep (fun b _ _ hb => by
      rw [if_neg (by omega)])
  obtain ⟨X1, f1⟩ := X.wk W1 L1 (fun b hb => t1 b (by omega) (by omega) (by omega))
  obtain ⟨C, c1, C'⟩ := id Q1
  have xx := C' 4 (by decide)
  have o2 := W1.ob.1
  first | refine on_aload_n (pc' := 7) rfl rfl rfl rfl ?_ | refine on_aload_nQ (pc' := 7) rfl rfl rfl rfl ?_
  first | apply on_get (pc' := 10) rfl rfl fl_M_73 | apply on_getN (pc' := 10) rfl rfl fl_M_73
  · repeat (first | assumption | exact on_up_eq _ _ _ | refine (on_up_ne (by omega)).trans ?_)
  · rfl
  refine on_iconst (pc' := 11) (v := 4) rfl rfl li_4 ?_
  apply on_ialoadK (pc' := 12) (t := 0) (k := 4) rfl rfl
  · repeat (first | assumption | exact on_up_eq _ _ _ | refine (on_up_ne (by omega)).trans ?_)
  · rfl
  · first | assumption | exact on_lit _ | rfl
  · first | assumption | omega | decide
  rw [xx.1]
  have ho : n_ho a fr to = if to < 8 then ((a.nr, fu a.r to (r_tk a.nr to (a.r to) fr x).1, a.nk, a.k, a.nc, a.c, n_sd to (fu a.lk (10 * fr + to) l) (r_tk a.nr to (a.r to) fr x).2) : aN) else (match n_ci a to fr (ce_n x) with
      | none => n_lk a (fu a.lk (10 * fr + to) l)
      | some i => (a.nr, a.r, a.nk, fu a.k (to - 8) (c_tk a.r (a.c i) (a.k (to - 8)) x).2.1, a.nc, fu a.c i (c_tk a.r (a.c i) (a.k (to - 8)) x).1, n_sd to (fu a.lk (10 * fr + to) l) (c_tk a.r (a.c i) (a.k (to - 8)) x).2.2)) := by
    unfold n_ho
    rw [hl]
    rfl
  rw [ho]
  refine on_istore_n (pc' := 13) rfl rfl rfl (by decide) ?_
  refine on_iload_n (pc' := 14) rfl rfl rfl rfl ?_
  refine on_bipush (pc' := 16) (v := 8) rfl rfl lb_8 ?_
  refine on_icmp_ge (pc' := 19) (tgt := 28) rfl rfl rfl (fun cq => ?_) (fun cq => ?_)
  · have t8 : 8 ≤ to := by
      rcases Nat.lt_or_ge to 8 with z | z
      · exact absurd cq (nI_ge (b := 8) z (by decide))
      · exact z
    clear cq
    rw [if_neg (by omega)]
    have V1 : n_V B (n_lk a (fu a.lk (10 * fr + to) l)) := ⟨⟨v0, v0', v0''⟩, v2, v3, v4, v5, fun j hj e => by
      show fu a.lk (10 * fr + to) l j = []
      by_cases z : j = 10 * fr + to
      · rw [z] at e
        have e : n_ex a.nr a.nk (10 * fr + to) = false := e
        exact absurd he (by rw [e]; decide)
      · rw [fu_n z]
        exact v6 j hj e, fun j hj => by
      show (fu a.lk (10 * fr + to) l j).length ≤ 8
      by_cases z : j = 10 * fr + to
      · have := v7 j hj
        rw [z, hl] at this
        rw [z, fu_s]
        exact Nat.le_of_succ_le this
      · rw [fu_n z]
        exact v7 j hj⟩
    first | refine on_aload_n (pc' := 29) rfl rfl rfl rfl ?_ | refine on_aload_nQ (pc' := 29) rfl rfl rfl rfl ?_
    refine on_iload_n (pc' := 30) rfl rfl rfl rfl ?_
    refine on_iload_n (pc' := 31) rfl rfl rfl rfl ?_
    refine on_callV (pc' := 34) (As := [.int (nI to), .int (nI fr)]) (rest := []) (b := o) rfl rfl cw_M_hand_540 (o2) rfl rfl (Nat.le_of_ble_eq_true rfl) (Nat.zero_le _) (Nat.zero_le _) (c_M_clientTakes X1 V1 hB hto t8 hfr Q1) ?_
    rintro v h2 sz ⟨rfl, rfl, X2, f2⟩
    refine on_iload_n (pc' := 35) rfl rfl rfl rfl ?_
    refine on_ireturn rfl rfl ?_
    refine ⟨rfl, rfl, ?_, f1.trans f2⟩
    have en : n_ci (n_lk a (fu a.lk (10 * fr + to) l)) to fr (ce_n x) = n_ci a to fr (ce_n x) := rfl
    rw [en] at X2
    cases z : n_ci a to fr (ce_n x) with
    | none =>
      rw [z] at X2
      exact X2
    | some i =>
      rw [z] at X2
      exact X2
  · have t8 : to < 8 := by
      rcases Nat.lt_or_ge to 8 with z | z
      · exact z
      · exact absurd (nI_le (a := 8) z (by omega)) cq
    clear cq
    rw [if_pos t8]
    have tr : to < a.nr := by
      rw [n_ex_at hto, Bool.and_eq_true, Bool.and_eq_true] at he
      have := he.1.2
      unfold n_pr at this
      rw [Bool.or_eq_true, Bool.and_eq_true, decide_eq_true_eq, decide_eq_true_eq, decide_eq_true_eq] at this
      omega
    obtain ⟨n, ord, es, KR⟩ := X1.toR (i := to) tr v0
    first | refine on_aload_n (pc' := 20) rfl rfl rfl rfl ?_ | refine on_aload_nQ (pc' := 20) rfl rfl rfl rfl ?_
    refine on_iload_n (pc' := 21) rfl rfl rfl rfl ?_
    refine on_iload_n (pc' := 22) rfl rfl rfl rfl ?_
    refine on_callV (pc' := 25) (As := [.int (nI to), .int (nI fr)]) (rest := []) (b := o) rfl rfl cw_M_hand_537 (o2) rfl rfl (Nat.le_of_ble_eq_true rfl) (Nat.zero_le _) (Nat.zero_le _) (c_M_relayTakes (nk := a.nk) (B := B) KR (v2 to tr) (by omega) rfl v0 hfr Q1) ?_
    rintro v h2 sz ⟨rfl, rfl, Y⟩
    obtain ⟨⟨n2, ord2, es2, KR2⟩, fy⟩ := Y
    obtain ⟨X2, f2⟩ := X1.ofR tr KR2 fy
    refine on_goto (tgt := 34) rfl rfl ?_
    refine on_iload_n (pc' := 35) rfl rfl rfl rfl ?_
    refine on_ireturn rfl rfl ?_
    exact ⟨rfl, rfl, X2, f1.trans f2⟩
end MHD
