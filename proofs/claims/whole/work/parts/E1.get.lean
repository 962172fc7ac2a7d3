/-! OnionNet: calls that only ask -/
def p_s (n : Nat) (y : Int32) : Option Nat := if ¬ y < 1 ∧ y ≤ nI n then some (y.toNatClampNeg - 1) else none
/-- a stream by the numbers of the caller -/
def q_st (a : aN) (x y : Int32) : Option (Nat × Nat) := (p_i a.nc x).bind (fun i => (p_s (a.c i).st.length y).map (fun s => (i, s)))
/-- a link by the numbers of the caller -/
def q_lk (a : aN) (x y : Int32) : Option Nat := (p_i 10 x).bind (fun i => (p_i 10 y).bind (fun j => if n_ex a.nr a.nk (10 * i + j) = true then some (10 * i + j) else none))
def q_key (a : aN) (x i : Int32) : Int32 := match p_i a.nr x with
  | none => -1
  | some r => match p_i 36 i with
    | none => -1
    | some n => nI (rs_i (a.r r).se (if n < 32 then 4 + n else n - 32))
def q_state (a : aN) (x : Int32) : Int32 := match p_i a.nc x with | none => -1 | some i => nI (a.c i).ph
def q_hops (a : aN) (x : Int32) : Int32 := match p_i a.nc x with | none => -1 | some i => nI (a.c i).hp
def q_told (a : aN) (x y w : Int32) : Int32 := match q_st a x y with
  | none => -1
  | some p => if w = 0 then nI ((a.c p.1).st.getD p.2 t0).ph else if w = 1 then ((a.c p.1).st.getD p.2 t0).wi else if w = 2 then nI ((a.c p.1).st.getD p.2 t0).wa.length else if w = 3 then nI ((a.c p.1).st.getD p.2 t0).go.length else -1
def q_got (a : aN) (x y i : Int32) : Int32 := match q_st a x y with
  | none => -1
  | some p => match p_i ((a.c p.1).st.getD p.2 t0).go.length i with
    | none => -1
    | some n => nI (((a.c p.1).st.getD p.2 t0).go.getD n 0)
def q_kept (a : aN) (x i : Int32) : Int32 := match p_i a.nr x with
  | none => -1
  | some r => match p_i (a.r r).ke.length i with
    | none => -1
    | some n => nI ((a.r r).ke.getD n 0)
def q_has (a : aN) (x w : Int32) : Int32 := match p_i a.nr x with
  | none => -1
  | some r => if w = 0 then nI (e_ct (a.r r).en 12) else if w = 1 then nI (e_sc (a.r r).en 12) else if w = 2 then nI (a.r r).ke.length else -1
def q_wait (a : aN) (x y : Int32) : Int32 := match q_lk a x y with | none => -1 | some j => nI (a.lk j).length
def q_look (a : aN) (x y k i : Int32) : Int32 := match q_lk a x y with | none => -1 | some j => lk_b (a.lk j) k i
theorem p_s_some {n s : Nat} {y : Int32} (hn : n < 2 ^ 30) (e : p_s n y = some s) : s < n ∧ y = nI (s + 1) := by
  unfold p_s at e
  split at e
  next z =>
    have y0 : ¬ y < 0 := fun w => z.1 (Int32.lt_trans w (by decide))
    obtain ⟨j, hj, ej, -, en, -⟩ := pk_mu (L := n + 1) y0 (fun w => by
      have := Int32.le_trans w z.2
      exact nI_ge (a := n) (b := n + 1) (Nat.lt_succ_self _) (by omega) this) (by omega)
    rw [en] at e
    cases e
    have j1 : ¬ j = 0 := fun w => z.1 (by rw [ej, w]; decide)
    exact ⟨by omega, by rw [ej]; congr 1; omega⟩
  next z => exact nomatch e
theorem q_st_some {a : aN} {x y : Int32} {i s : Nat} (V : a.nc ≤ 6) (hl : ∀ i, i < a.nc → (a.c i).st.length ≤ 4) (e : q_st a x y = some (i, s)) : p_i a.nc x = some i ∧ i < a.nc ∧ s < (a.c i).st.length ∧ y = nI (s + 1) := by
  unfold q_st at e
  cases h : p_i a.nc x with
  | none => rw [h] at e; exact nomatch e
  | some k =>
    rw [h] at e
    have e : (p_s (a.c k).st.length y).map (fun s => (k, s)) = some (i, s) := e
    obtain ⟨hk, -⟩ := p_i_some (by omega) h
    cases h2 : p_s (a.c k).st.length y with
    | none => rw [h2] at e; exact nomatch e
    | some m =>
      rw [h2] at e
      cases e
      obtain ⟨g1, g2⟩ := p_s_some (by have := hl _ hk; omega) h2
      exact ⟨rfl, hk, g1, g2⟩
theorem q_lk_some {a : aN} {x y : Int32} {j : Nat} (e : q_lk a x y = some j) : ∃ f t, f < 10 ∧ t < 10 ∧ x = nI f ∧ y = nI t ∧ j = 10 * f + t ∧ n_ex a.nr a.nk j = true := by
  unfold q_lk at e
  cases h : p_i 10 x with
  | none => rw [h] at e; exact nomatch e
  | some f =>
    rw [h] at e
    have e : (p_i 10 y).bind (fun j => if n_ex a.nr a.nk (10 * f + j) = true then some (10 * f + j) else none) = some j := e
    cases h2 : p_i 10 y with
    | none => rw [h2] at e; exact nomatch e
    | some t =>
      rw [h2] at e
      have e : (if n_ex a.nr a.nk (10 * f + t) = true then some (10 * f + t) else none) = some j := e
      split at e
      next z =>
        cases e
        exact ⟨f, t, (p_i_some (by decide) h).1, (p_i_some (by decide) h2).1, (p_i_some (by decide) h).2, (p_i_some (by decide) h2).2, rfl, z⟩
      next => exact nomatch e
theorem sw_not {x : Int32} {n : Nat} (hn : n < 2 ^ 31) (h : ¬ x = nI n) : x.toInt ≠ (n : Int) := fun z => h (Int32.toInt_inj.mp (z.trans (nI_toInt hn).symm))
section GET
variable {G : on_G} {o sz B bc bs : Nat} {L : nL} {a : aN} {h : on_H} {x y w i : Int32}
theorem c_linkAtW (X : n_X o sz L a [] h) : on_Ct G M_N_linkAt [.ref o, .int x, .int y] h sz 0 0 (fun v h1 z => v = some (va_rf ((q_lk a x y).map L.A)) ∧ z = sz ∧ h1 = h) := by
  refine on_Ct.to (c_linkAt (x := x) (y := y) X.1.1 X.1.2.2.2.2.1) ?_
  rintro v h1 z ⟨rfl, rfl, rfl⟩
  refine ⟨congrArg some (congrArg va_rf ?_), rfl, rfl⟩
  unfold n_la q_lk p_i
  by_cases z1 : ¬ x < 0 ∧ x < nI 10
  · by_cases z2 : ¬ y < 0 ∧ y < nI 10
    · rw [if_pos ⟨z1, z2⟩, if_pos z1, if_pos z2]
      show lf (n_ex a.nr a.nk) L.A _ = Option.map L.A (if n_ex a.nr a.nk (10 * x.toNatClampNeg + y.toNatClampNeg) = true then some (10 * x.toNatClampNeg + y.toNatClampNeg) else none)
      unfold lf
      split <;> rfl
    · rw [if_neg (fun w => z2 w.2), if_pos z1, if_neg z2]
      rfl
  · rw [if_neg (fun w => z1 w.1), if_neg z1]
    rfl
theorem c_streamAtW (X : n_X o sz L a [] h) (V : n_V B a) : on_Ct G M_N_streamAt [.ref o, .int x, .int y] h sz 0 0 (fun v h1 z => v = some (va_rf ((q_st a x y).map (fun p => L.sa p.1 p.2))) ∧ z = sz ∧ h1 = h) := by
  refine on_Ct.to (c_streamAt (x := x) (y := y) (st := fun i => (a.c i).st) (sa := L.sa) V.1.2.2 X.1.1 X.1.2.2.2.1 (fun i hi => ⟨⟨_, _, _, _, _, (X.2.2.1.2.2 i hi).1⟩, (X.2.2.1.2.2 i hi).2.2.2.1⟩)) ?_
  rintro v h1 z ⟨rfl, rfl, rfl⟩
  refine ⟨congrArg some (congrArg va_rf ?_), rfl, rfl⟩
  unfold q_st n_so p_s
  cases p_i a.nc x with
  | none => rfl
  | some k =>
    show (if ¬ y < 1 ∧ y ≤ nI (a.c k).st.length then _ else _) = Option.map _ (Option.map _ (if ¬ y < 1 ∧ y ≤ nI (a.c k).st.length then _ else _))
    split <;> rfl
theorem c_N_state (X : n_X o sz L a [] h) (V : n_V B a) : on_Ct G M_N_state [.ref o, .int x] h sz 0 0 (fun v h1 z => v = some (.int (q_state a x)) ∧ z = sz ∧ h1 = h) := by
  have o1 : h o = some (.inr (11, [.ref (o + 1), .ref (o + 2), .ref (o + 3), .ref (o + 4), .ref (o + 5), .ref (o + 34), .ref (o + 42), .ref (o + 43), .int (nI a.nr), .int (nI a.nk), .int (nI a.nc)])) := X.1.1
  refine on_Ct.of (by decide) v_N_state (Nat.le_of_ble_eq_true rfl) ?_
  first | refine on_aload_n (pc' := 1) rfl rfl rfl rfl ?_ | refine on_aload_nQ (pc' := 1) rfl rfl rfl rfl ?_
  refine on_iload_n (pc' := 2) rfl rfl rfl rfl ?_
  refine on_callV (pc' := 5) (As := [.int x]) (rest := []) (b := o) rfl rfl cw_N_state_118 (o1) rfl rfl (Nat.le_of_ble_eq_true rfl) (Nat.zero_le _) (Nat.zero_le _) (c_circuitAtP V.1.2.2 X.1.1 X.1.2.2.2.1) ?_
  rintro v h sz ⟨rfl, rfl, rfl⟩
  unfold q_state
  cases e : p_i a.nc x with
  | none =>
    show on_E G M_N_state 5 _ [va_rf none] h sz _ _ _
    first | refine on_astore_n (pc' := 6) rfl rfl rfl (by decide) ?_ | refine on_astore_nQ (pc' := 6) rfl rfl rfl (by decide) ?_
    first | refine on_aload_n (pc' := 7) rfl rfl rfl rfl ?_ | refine on_aload_nQ (pc' := 7) rfl rfl rfl rfl ?_
    refine on_ifnonnullN (pc' := 10) rfl rfl ?_
    refine on_iconst (pc' := 11) (v := (-1)) rfl rfl li_m1 ?_
    refine on_goto (tgt := 18) rfl rfl ?_
    refine on_ireturn rfl rfl ?_
    exact ⟨rfl, rfl, rfl⟩
  | some i =>
    have c0 := (X.2.2.1.2.2 i (p_i_some (by have := V.1.2.2; omega) e).1).ob
    show on_E G M_N_state 5 _ [.ref (L.ca i + 1)] h sz _ _ _
    first | refine on_astore_n (pc' := 6) rfl rfl rfl (by decide) ?_ | refine on_astore_nQ (pc' := 6) rfl rfl rfl (by decide) ?_
    first | refine on_aload_n (pc' := 7) rfl rfl rfl rfl ?_ | refine on_aload_nQ (pc' := 7) rfl rfl rfl rfl ?_
    refine on_ifnonnullR (tgt := 14) rfl rfl ?_
    first | refine on_aload_n (pc' := 15) rfl rfl rfl rfl ?_ | refine on_aload_nQ (pc' := 15) rfl rfl rfl rfl ?_
    first | apply on_get (pc' := 18) rfl rfl fl_N_168 | apply on_getN (pc' := 18) rfl rfl fl_N_168
    · repeat (first | assumption | exact on_up_eq _ _ _ | refine (on_up_ne (by omega)).trans ?_)
    · rfl
    refine on_ireturn rfl rfl ?_
    exact ⟨rfl, rfl, rfl⟩
theorem c_N_hops (X : n_X o sz L a [] h) (V : n_V B a) : on_Ct G M_N_hops [.ref o, .int x] h sz 0 0 (fun v h1 z => v = some (.int (q_hops a x)) ∧ z = sz ∧ h1 = h) := by
  have o1 : h o = some (.inr (11, [.ref (o + 1), .ref (o + 2), .ref (o + 3), .ref (o + 4), .ref (o + 5), .ref (o + 34), .ref (o + 42), .ref (o + 43), .int (nI a.nr), .int (nI a.nk), .int (nI a.nc)])) := X.1.1
  refine on_Ct.of (by decide) v_N_hops (Nat.le_of_ble_eq_true rfl) ?_
  first | refine on_aload_n (pc' := 1) rfl rfl rfl rfl ?_ | refine on_aload_nQ (pc' := 1) rfl rfl rfl rfl ?_
  refine on_iload_n (pc' := 2) rfl rfl rfl rfl ?_
  refine on_callV (pc' := 5) (As := [.int x]) (rest := []) (b := o) rfl rfl cw_N_hops_118 (o1) rfl rfl (Nat.le_of_ble_eq_true rfl) (Nat.zero_le _) (Nat.zero_le _) (c_circuitAtP V.1.2.2 X.1.1 X.1.2.2.2.1) ?_
  rintro v h sz ⟨rfl, rfl, rfl⟩
  unfold q_hops
  cases e : p_i a.nc x with
  | none =>
    show on_E G M_N_hops 5 _ [va_rf none] h sz _ _ _
    first | refine on_astore_n (pc' := 6) rfl rfl rfl (by decide) ?_ | refine on_astore_nQ (pc' := 6) rfl rfl rfl (by decide) ?_
    first | refine on_aload_n (pc' := 7) rfl rfl rfl rfl ?_ | refine on_aload_nQ (pc' := 7) rfl rfl rfl rfl ?_
    refine on_ifnonnullN (pc' := 10) rfl rfl ?_
    refine on_iconst (pc' := 11) (v := (-1)) rfl rfl li_m1 ?_
    refine on_goto (tgt := 18) rfl rfl ?_
    refine on_ireturn rfl rfl ?_
    exact ⟨rfl, rfl, rfl⟩
  | some i =>
    have c0 := (X.2.2.1.2.2 i (p_i_some (by have := V.1.2.2; omega) e).1).ob
    show on_E G M_N_hops 5 _ [.ref (L.ca i + 1)] h sz _ _ _
    first | refine on_astore_n (pc' := 6) rfl rfl rfl (by decide) ?_ | refine on_astore_nQ (pc' := 6) rfl rfl rfl (by decide) ?_
    first | refine on_aload_n (pc' := 7) rfl rfl rfl rfl ?_ | refine on_aload_nQ (pc' := 7) rfl rfl rfl rfl ?_
    refine on_ifnonnullR (tgt := 14) rfl rfl ?_
    first | refine on_aload_n (pc' := 15) rfl rfl rfl rfl ?_ | refine on_aload_nQ (pc' := 15) rfl rfl rfl rfl ?_
    first | apply on_get (pc' := 18) rfl rfl fl_N_194 | apply on_getN (pc' := 18) rfl rfl fl_N_194
    · repeat (first | assumption | exact on_up_eq _ _ _ | refine (on_up_ne (by omega)).trans ?_)
    · rfl
    refine on_ireturn rfl rfl ?_
    exact ⟨rfl, rfl, rfl⟩
theorem c_N_waiting (X : n_X o sz L a [] h) : on_Ct G M_N_waiting [.ref o, .int x, .int y] h sz 0 0 (fun v h1 z => v = some (.int (q_wait a x y)) ∧ z = sz ∧ h1 = h) := by
  have o1 : h o = some (.inr (11, [.ref (o + 1), .ref (o + 2), .ref (o + 3), .ref (o + 4), .ref (o + 5), .ref (o + 34), .ref (o + 42), .ref (o + 43), .int (nI a.nr), .int (nI a.nk), .int (nI a.nc)])) := X.1.1
  refine on_Ct.of (by decide) v_N_waiting (Nat.le_of_ble_eq_true rfl) ?_
  first | refine on_aload_n (pc' := 1) rfl rfl rfl rfl ?_ | refine on_aload_nQ (pc' := 1) rfl rfl rfl rfl ?_
  refine on_iload_n (pc' := 2) rfl rfl rfl rfl ?_
  refine on_iload_n (pc' := 3) rfl rfl rfl rfl ?_
  refine on_callV (pc' := 6) (As := [.int x, .int y]) (rest := []) (b := o) rfl rfl cw_N_waiting_172 (o1) rfl rfl (Nat.le_of_ble_eq_true rfl) (Nat.zero_le _) (Nat.zero_le _) (c_linkAtW X) ?_
  rintro v h sz ⟨rfl, rfl, rfl⟩
  unfold q_wait
  cases e : q_lk a x y with
  | none =>
    show on_E G M_N_waiting 6 _ [va_rf none] h sz _ _ _
    first | refine on_astore_n (pc' := 7) rfl rfl rfl (by decide) ?_ | refine on_astore_nQ (pc' := 7) rfl rfl rfl (by decide) ?_
    first | refine on_aload_n (pc' := 8) rfl rfl rfl rfl ?_ | refine on_aload_nQ (pc' := 8) rfl rfl rfl rfl ?_
    refine on_ifnonnullN (pc' := 11) rfl rfl ?_
    refine on_iconst (pc' := 12) (v := (-1)) rfl rfl li_m1 ?_
    refine on_goto (tgt := 19) rfl rfl ?_
    refine on_ireturn rfl rfl ?_
    exact ⟨rfl, rfl, rfl⟩
  | some j =>
    obtain ⟨f, t, hf, ht, -, -, rfl, he⟩ := q_lk_some e
    obtain ⟨g, Xf, k1, -⟩ := X.2.2.2 _ (by omega) he
    show on_E G M_N_waiting 6 _ [.ref (L.A (10 * f + t))] h sz _ _ _
    first | refine on_astore_n (pc' := 7) rfl rfl rfl (by decide) ?_ | refine on_astore_nQ (pc' := 7) rfl rfl rfl (by decide) ?_
    first | refine on_aload_n (pc' := 8) rfl rfl rfl rfl ?_ | refine on_aload_nQ (pc' := 8) rfl rfl rfl rfl ?_
    refine on_ifnonnullR (tgt := 15) rfl rfl ?_
    first | refine on_aload_n (pc' := 16) rfl rfl rfl rfl ?_ | refine on_aload_nQ (pc' := 16) rfl rfl rfl rfl ?_
    first | apply on_get (pc' := 19) rfl rfl fl_N_176 | apply on_getN (pc' := 19) rfl rfl fl_N_176
    · repeat (first | assumption | exact on_up_eq _ _ _ | refine (on_up_ne (by omega)).trans ?_)
    · rfl
    refine on_ireturn rfl rfl ?_
    exact ⟨rfl, rfl, rfl⟩
theorem c_N_look {k : Int32} (X : n_X o sz L a [] h) : on_Ct G M_N_look [.ref o, .int x, .int y, .int k, .int i] h sz 0 0 (fun v h1 z => v = some (.int (q_look a x y k i)) ∧ z = sz ∧ h1 = h) := by
  have o1 : h o = some (.inr (11, [.ref (o + 1), .ref (o + 2), .ref (o + 3), .ref (o + 4), .ref (o + 5), .ref (o + 34), .ref (o + 42), .ref (o + 43), .int (nI a.nr), .int (nI a.nk), .int (nI a.nc)])) := X.1.1
  refine on_Ct.of (by decide) v_N_look (Nat.le_of_ble_eq_true rfl) ?_
  first | refine on_aload_n (pc' := 1) rfl rfl rfl rfl ?_ | refine on_aload_nQ (pc' := 1) rfl rfl rfl rfl ?_
  refine on_iload_n (pc' := 2) rfl rfl rfl rfl ?_
  refine on_iload_n (pc' := 3) rfl rfl rfl rfl ?_
  refine on_callV (pc' := 6) (As := [.int x, .int y]) (rest := []) (b := o) rfl rfl cw_N_look_172 (o1) rfl rfl (Nat.le_of_ble_eq_true rfl) (Nat.zero_le _) (Nat.zero_le _) (c_linkAtW X) ?_
  rintro v h sz ⟨rfl, rfl, rfl⟩
  unfold q_look
  cases e : q_lk a x y with
  | none =>
    show on_E G M_N_look 6 _ [va_rf none] h sz _ _ _
    first | refine on_astore (pc' := 8) rfl rfl (by decide) ?_ | refine on_astoreQ (pc' := 8) rfl rfl (by decide) ?_
    first | refine on_aload (pc' := 10) rfl rfl rfl ?_ | refine on_aloadQ (pc' := 10) rfl rfl rfl ?_
    refine on_ifnonnullN (pc' := 13) rfl rfl ?_
    refine on_iconst (pc' := 14) (v := (-1)) rfl rfl li_m1 ?_
    refine on_goto (tgt := 25) rfl rfl ?_
    refine on_ireturn rfl rfl ?_
    exact ⟨rfl, rfl, rfl⟩
  | some j =>
    obtain ⟨f, t, hf, ht, -, -, rfl, he⟩ := q_lk_some e
    have lS := X.2.2.2 _ (by omega) he
    obtain ⟨g, Xf, k1, -⟩ := id lS
    show on_E G M_N_look 6 _ [.ref (L.A (10 * f + t))] h sz _ _ _
    first | refine on_astore (pc' := 8) rfl rfl (by decide) ?_ | refine on_astoreQ (pc' := 8) rfl rfl (by decide) ?_
    first | refine on_aload (pc' := 10) rfl rfl rfl ?_ | refine on_aloadQ (pc' := 10) rfl rfl rfl ?_
    refine on_ifnonnullR (tgt := 17) rfl rfl ?_
    first | refine on_aload (pc' := 19) rfl rfl rfl ?_ | refine on_aloadQ (pc' := 19) rfl rfl rfl ?_
    refine on_iload_n (pc' := 20) rfl rfl rfl rfl ?_
    refine on_iload (pc' := 22) rfl rfl rfl ?_
    refine on_callV (pc' := 25) (As := [.int k, .int i]) (rest := []) (b := L.A (10 * f + t)) rfl rfl cw_N_look_191 (k1) rfl rfl (Nat.le_of_ble_eq_true rfl) (Nat.zero_le _) (Nat.zero_le _) (c_byteOf lS) ?_
    rintro v h sz ⟨rfl, rfl, rfl⟩
    refine on_ireturn rfl rfl ?_
    exact ⟨rfl, rfl, rfl⟩
set_option maxHeartbeats 4000000 in
theorem c_N_key (X : n_X o sz L a [] h) (V : n_V B a) : on_Ct G M_N_key [.ref o, .int x, .int i] h sz 0 0 (fun v h1 z => v = some (.int (q_key a x i)) ∧ z = sz ∧ h1 = h) := by
  have o1 : h o = some (.inr (11, [.ref (o + 1), .ref (o + 2), .ref (o + 3), .ref (o + 4), .ref (o + 5), .ref (o + 34), .ref (o + 42), .ref (o + 43), .int (nI a.nr), .int (nI a.nk), .int (nI a.nc)])) := X.1.1
  have no : ∀ lv, q_key a x i = -1 → on_E G M_N_key 20 lv [] h sz 0 0 (fun v h1 z => v = some (.int (q_key a x i)) ∧ z = sz ∧ h1 = h) := fun lv e => by
    refine on_iconst (pc' := 21) (v := (-1)) rfl rfl li_m1 ?_
    refine on_ireturn rfl rfl ?_
    rw [e]
    exact ⟨rfl, rfl, rfl⟩
  refine on_Ct.of (by decide) v_N_key (Nat.le_of_ble_eq_true rfl) ?_
  first | refine on_aload_n (pc' := 1) rfl rfl rfl rfl ?_ | refine on_aload_nQ (pc' := 1) rfl rfl rfl rfl ?_
  refine on_iload_n (pc' := 2) rfl rfl rfl rfl ?_
  refine on_callV (pc' := 5) (As := [.int x]) (rest := []) (b := o) rfl rfl cw_N_key_75 (o1) rfl rfl (Nat.le_of_ble_eq_true rfl) (Nat.zero_le _) (Nat.zero_le _) (c_relayAtP V.1.1 X.1.1 X.1.2.1) ?_
  rintro v h sz ⟨rfl, rfl, rfl⟩
  cases e : p_i a.nr x with
  | none =>
    show on_E G M_N_key 5 _ [va_rf none] h sz _ _ _
    first | refine on_astore_n (pc' := 6) rfl rfl rfl (by decide) ?_ | refine on_astore_nQ (pc' := 6) rfl rfl rfl (by decide) ?_
    first | refine on_aload_n (pc' := 7) rfl rfl rfl rfl ?_ | refine on_aload_nQ (pc' := 7) rfl rfl rfl rfl ?_
    refine on_ifnullN (tgt := 20) rfl rfl (no _ ?_)
    unfold q_key
    rw [e]
  | some r =>
    have R := X.2.2.1.1 r (p_i_some (by have := V.1.1; omega) e).1
    have r0 := R.1
    have r0 : h (L.ra r) = some (.inr (8, [.ref (L.ra r + 1), .ref (o + 1), .ref (o + 5), .ref (L.ra r + 3), .ref (L.ra r + 4), .ref (L.ra r + 5), .ref (L.ra r + 6), .ref (L.ra r + 7), .int (nI (a.r r).ke.length), .int (nI (a.r r).we)])) := r0
    obtain ⟨I, i0, i1⟩ := R.2.2.2.2.1
    have eq : q_key a x i = match p_i 36 i with | none => -1 | some n => nI (rs_i (a.r r).se (if n < 32 then 4 + n else n - 32)) := by
      unfold q_key
      rw [e]
    show on_E G M_N_key 5 _ [.ref (L.ra r)] h sz _ _ _
    first | refine on_astore_n (pc' := 6) rfl rfl rfl (by decide) ?_ | refine on_astore_nQ (pc' := 6) rfl rfl rfl (by decide) ?_
    first | refine on_aload_n (pc' := 7) rfl rfl rfl rfl ?_ | refine on_aload_nQ (pc' := 7) rfl rfl rfl rfl ?_
    refine on_ifnullR (pc' := 10) rfl rfl ?_
    refine on_iload_n (pc' := 11) rfl rfl rfl rfl ?_
    refine on_if_lt (pc' := 14) (tgt := 20) rfl rfl rfl (fun cq => ?_) (fun cq => ?_)
    · refine no _ (eq.trans ?_)
      rw [show p_i 36 i = none from if_neg (fun z => z.1 cq)]
    · have x0 := cq
      clear cq
      refine on_iload_n (pc' := 15) rfl rfl rfl rfl ?_
      refine on_bipush (pc' := 17) (v := 36) rfl rfl lb_36 ?_
      refine on_icmp_lt (pc' := 20) (tgt := 22) rfl rfl rfl (fun cq => ?_) (fun cq => ?_)
      rotate_left
      · refine no _ (eq.trans ?_)
        rw [show p_i 36 i = none from if_neg (fun z => cq z.2)]
      · have x1 : i < nI 36 := cq
        clear cq
        have ep : p_i 36 i = some i.toNatClampNeg := if_pos ⟨x0, x1⟩
        obtain ⟨n, hn, en, -, ec, -⟩ := pk_mu (L := 36) x0 (Int32.not_le.mpr x1) (by decide)
        rw [ep, ec] at eq
        have eq : q_key a x i = nI (rs_i (a.r r).se (if n < 32 then 4 + n else n - 32)) := eq
        subst en
        refine on_iload_n (pc' := 23) rfl rfl rfl rfl ?_
        refine on_bipush (pc' := 25) (v := 32) rfl rfl lb_32 ?_
        refine on_icmp_ge (pc' := 28) (tgt := 39) rfl rfl rfl (fun cq => ?_) (fun cq => ?_)
        · have n32 : ¬ n < 32 := fun z => nI_ge (b := 32) z (by decide) cq
          clear cq
          have nn : n - 32 < 36 ∧ 36 < 2 ^ 31 := by omega
          first | refine on_aload_n (pc' := 40) rfl rfl rfl rfl ?_ | refine on_aload_nQ (pc' := 40) rfl rfl rfl rfl ?_
          first | apply on_get (pc' := 43) rfl rfl fl_N_79 | apply on_getN (pc' := 43) rfl rfl fl_N_79
          · repeat (first | assumption | exact on_up_eq _ _ _ | refine (on_up_ne (by omega)).trans ?_)
          · rfl
          refine on_iload_n (pc' := 44) rfl rfl rfl rfl ?_
          refine on_bipush (pc' := 46) (v := 32) rfl rfl lb_32 ?_
          refine on_isub (pc' := 47) rfl rfl ?_
          rw [show nI n - 32 = nI (n - 32) from pk_sub (a := n) (b := 32) (by omega)]
          apply on_ialoadK (pc' := 48) (t := 0) rfl rfl
          · repeat (first | assumption | exact on_up_eq _ _ _ | refine (on_up_ne (by omega)).trans ?_)
          · rfl
          · first | assumption | exact on_lit _ | rfl
          · first | assumption | omega | decide
          rw [(i1 (n - 32) nn.1).1]
          refine on_ireturn rfl rfl ?_
          rw [eq, if_neg n32]
          exact ⟨rfl, rfl, rfl⟩
        · have n32 : n < 32 := by
            rcases Nat.lt_or_ge n 32 with z | z
            · exact z
            · exact absurd (nI_le (a := 32) z (by omega)) cq
          clear cq
          have nn : 4 + n < 36 ∧ 36 < 2 ^ 31 := by omega
          first | refine on_aload_n (pc' := 29) rfl rfl rfl rfl ?_ | refine on_aload_nQ (pc' := 29) rfl rfl rfl rfl ?_
          first | apply on_get (pc' := 32) rfl rfl fl_N_79 | apply on_getN (pc' := 32) rfl rfl fl_N_79
          · repeat (first | assumption | exact on_up_eq _ _ _ | refine (on_up_ne (by omega)).trans ?_)
          · rfl
          refine on_iconst (pc' := 33) (v := 4) rfl rfl li_4 ?_
          refine on_iload_n (pc' := 34) rfl rfl rfl rfl ?_
          refine on_iadd (pc' := 35) rfl rfl ?_
          rw [show (4 : Int32) + nI n = nI (4 + n) from nI_add 4 n]
          apply on_ialoadK (pc' := 36) (t := 0) rfl rfl
          · repeat (first | assumption | exact on_up_eq _ _ _ | refine (on_up_ne (by omega)).trans ?_)
          · rfl
          · first | assumption | exact on_lit _ | rfl
          · first | assumption | omega | decide
          rw [(i1 (4 + n) nn.1).1]
          refine on_goto (tgt := 48) rfl rfl ?_
          refine on_ireturn rfl rfl ?_
          rw [eq, if_pos n32]
          exact ⟨rfl, rfl, rfl⟩
set_option maxHeartbeats 4000000 in
theorem c_N_kept (X : n_X o sz L a [] h) (V : n_V B a) : on_Ct G M_N_kept [.ref o, .int x, .int i] h sz 0 0 (fun v h1 z => v = some (.int (q_kept a x i)) ∧ z = sz ∧ h1 = h) := by
  have o1 : h o = some (.inr (11, [.ref (o + 1), .ref (o + 2), .ref (o + 3), .ref (o + 4), .ref (o + 5), .ref (o + 34), .ref (o + 42), .ref (o + 43), .int (nI a.nr), .int (nI a.nk), .int (nI a.nc)])) := X.1.1
  have no : ∀ lv, q_kept a x i = -1 → on_E G M_N_kept 22 lv [] h sz 0 0 (fun v h1 z => v = some (.int (q_kept a x i)) ∧ z = sz ∧ h1 = h) := fun lv e => by
    refine on_iconst (pc' := 23) (v := (-1)) rfl rfl li_m1 ?_
    refine on_ireturn rfl rfl ?_
    rw [e]
    exact ⟨rfl, rfl, rfl⟩
  refine on_Ct.of (by decide) v_N_kept (Nat.le_of_ble_eq_true rfl) ?_
  first | refine on_aload_n (pc' := 1) rfl rfl rfl rfl ?_ | refine on_aload_nQ (pc' := 1) rfl rfl rfl rfl ?_
  refine on_iload_n (pc' := 2) rfl rfl rfl rfl ?_
  refine on_callV (pc' := 5) (As := [.int x]) (rest := []) (b := o) rfl rfl cw_N_kept_75 (o1) rfl rfl (Nat.le_of_ble_eq_true rfl) (Nat.zero_le _) (Nat.zero_le _) (c_relayAtP V.1.1 X.1.1 X.1.2.1) ?_
  rintro v h sz ⟨rfl, rfl, rfl⟩
  cases e : p_i a.nr x with
  | none =>
    show on_E G M_N_kept 5 _ [va_rf none] h sz _ _ _
    first | refine on_astore_n (pc' := 6) rfl rfl rfl (by decide) ?_ | refine on_astore_nQ (pc' := 6) rfl rfl rfl (by decide) ?_
    first | refine on_aload_n (pc' := 7) rfl rfl rfl rfl ?_ | refine on_aload_nQ (pc' := 7) rfl rfl rfl rfl ?_
    refine on_ifnullN (tgt := 22) rfl rfl (no _ ?_)
    unfold q_kept
    rw [e]
  | some r =>
    have R := X.2.2.1.1 r (p_i_some (by have := V.1.1; omega) e).1
    have r0 := R.1
    have r0 : h (L.ra r) = some (.inr (8, [.ref (L.ra r + 1), .ref (o + 1), .ref (o + 5), .ref (L.ra r + 3), .ref (L.ra r + 4), .ref (L.ra r + 5), .ref (L.ra r + 6), .ref (L.ra r + 7), .int (nI (a.r r).ke.length), .int (nI (a.r r).we)])) := r0
    obtain ⟨I, i0, i1⟩ := R.2.2.2.2.2.2.1
    have kl := R.2.2.2.2.2.2.2
    have eq : q_kept a x i = match p_i (a.r r).ke.length i with | none => -1 | some n => nI ((a.r r).ke.getD n 0) := by
      unfold q_kept
      rw [e]
    show on_E G M_N_kept 5 _ [.ref (L.ra r)] h sz _ _ _
    first | refine on_astore_n (pc' := 6) rfl rfl rfl (by decide) ?_ | refine on_astore_nQ (pc' := 6) rfl rfl rfl (by decide) ?_
    first | refine on_aload_n (pc' := 7) rfl rfl rfl rfl ?_ | refine on_aload_nQ (pc' := 7) rfl rfl rfl rfl ?_
    refine on_ifnullR (pc' := 10) rfl rfl ?_
    refine on_iload_n (pc' := 11) rfl rfl rfl rfl ?_
    refine on_if_lt (pc' := 14) (tgt := 22) rfl rfl rfl (fun cq => ?_) (fun cq => ?_)
    · refine no _ (eq.trans ?_)
      rw [show p_i (a.r r).ke.length i = none from if_neg (fun z => z.1 cq)]
    · have x0 := cq
      clear cq
      refine on_iload_n (pc' := 15) rfl rfl rfl rfl ?_
      first | refine on_aload_n (pc' := 16) rfl rfl rfl rfl ?_ | refine on_aload_nQ (pc' := 16) rfl rfl rfl rfl ?_
      first | apply on_get (pc' := 19) rfl rfl fl_N_203 | apply on_getN (pc' := 19) rfl rfl fl_N_203
      · repeat (first | assumption | exact on_up_eq _ _ _ | refine (on_up_ne (by omega)).trans ?_)
      · rfl
      refine on_icmp_lt (pc' := 22) (tgt := 24) rfl rfl rfl (fun cq => ?_) (fun cq => ?_)
      rotate_left
      · refine no _ (eq.trans ?_)
        rw [show p_i (a.r r).ke.length i = none from if_neg (fun z => cq z.2)]
      · have x1 : i < nI (a.r r).ke.length := cq
        clear cq
        have ep : p_i (a.r r).ke.length i = some i.toNatClampNeg := if_pos ⟨x0, x1⟩
        obtain ⟨n, hn, en, -, ec, -⟩ := pk_mu (L := (a.r r).ke.length) x0 (Int32.not_le.mpr x1) (by omega)
        rw [ep, ec] at eq
        have eq : q_kept a x i = nI ((a.r r).ke.getD n 0) := eq
        subst en
        have nn : n < 2000 ∧ 2000 < 2 ^ 31 := by omega
        first | refine on_aload_n (pc' := 25) rfl rfl rfl rfl ?_ | refine on_aload_nQ (pc' := 25) rfl rfl rfl rfl ?_
        first | apply on_get (pc' := 28) rfl rfl fl_N_204 | apply on_getN (pc' := 28) rfl rfl fl_N_204
        · repeat (first | assumption | exact on_up_eq _ _ _ | refine (on_up_ne (by omega)).trans ?_)
        · rfl
        refine on_iload_n (pc' := 29) rfl rfl rfl rfl ?_
        apply on_ialoadK (pc' := 30) (t := 0) rfl rfl
        · repeat (first | assumption | exact on_up_eq _ _ _ | refine (on_up_ne (by omega)).trans ?_)
        · rfl
        · first | assumption | exact on_lit _ | rfl
        · first | assumption | omega | decide
        rw [(i1 n hn).1]
        refine on_ireturn rfl rfl ?_
        rw [eq]
        exact ⟨rfl, rfl, rfl⟩
set_option maxHeartbeats 4000000 in
theorem c_N_got (X : n_X o sz L a [] h) (V : n_V B a) : on_Ct G M_N_got [.ref o, .int x, .int y, .int i] h sz 0 0 (fun v h1 z => v = some (.int (q_got a x y i)) ∧ z = sz ∧ h1 = h) := by
  have o1 : h o = some (.inr (11, [.ref (o + 1), .ref (o + 2), .ref (o + 3), .ref (o + 4), .ref (o + 5), .ref (o + 34), .ref (o + 42), .ref (o + 43), .int (nI a.nr), .int (nI a.nk), .int (nI a.nc)])) := X.1.1
  have no : ∀ lv, q_got a x y i = -1 → on_E G M_N_got 26 lv [] h sz 0 0 (fun v h1 z => v = some (.int (q_got a x y i)) ∧ z = sz ∧ h1 = h) := fun lv e => by
    refine on_iconst (pc' := 27) (v := (-1)) rfl rfl li_m1 ?_
    refine on_ireturn rfl rfl ?_
    rw [e]
    exact ⟨rfl, rfl, rfl⟩
  refine on_Ct.of (by decide) v_N_got (Nat.le_of_ble_eq_true rfl) ?_
  first | refine on_aload_n (pc' := 1) rfl rfl rfl rfl ?_ | refine on_aload_nQ (pc' := 1) rfl rfl rfl rfl ?_
  refine on_iload_n (pc' := 2) rfl rfl rfl rfl ?_
  refine on_iload_n (pc' := 3) rfl rfl rfl rfl ?_
  refine on_callV (pc' := 6) (As := [.int x, .int y]) (rest := []) (b := o) rfl rfl cw_N_got_133 (o1) rfl rfl (Nat.le_of_ble_eq_true rfl) (Nat.zero_le _) (Nat.zero_le _) (c_streamAtW X V) ?_
  rintro v h sz ⟨rfl, rfl, rfl⟩
  cases e : q_st a x y with
  | none =>
    show on_E G M_N_got 6 _ [va_rf none] h sz _ _ _
    first | refine on_astore (pc' := 8) rfl rfl (by decide) ?_ | refine on_astoreQ (pc' := 8) rfl rfl (by decide) ?_
    first | refine on_aload (pc' := 10) rfl rfl rfl ?_ | refine on_aloadQ (pc' := 10) rfl rfl rfl ?_
    refine on_ifnullN (tgt := 26) rfl rfl (no _ ?_)
    unfold q_got
    rw [e]
  | some p =>
    obtain ⟨c, s⟩ := p
    obtain ⟨-, hc, hs, -⟩ := q_st_some V.1.2.2 (fun i hi => (V.2.2.2.1 i hi).1.2.2.2.2.2.2.2.2.1) e
    obtain ⟨S, s1, s2, s3⟩ := (X.2.2.1.2.2 c hc).2.2.2.1
    obtain ⟨f, W, t0', t1, t2, t3, t4, ⟨⟨K, k1, k2⟩, k3⟩, t6⟩ := (s3 s hs).2
    have eq : q_got a x y i = match p_i ((a.c c).st.getD s t0).go.length i with | none => -1 | some n => nI (((a.c c).st.getD s t0).go.getD n 0) := by
      unfold q_got
      rw [e]
    generalize (a.c c).st.getD s t0 = t at *
    show on_E G M_N_got 6 _ [.ref (L.sa c s)] h sz _ _ _
    first | refine on_astore (pc' := 8) rfl rfl (by decide) ?_ | refine on_astoreQ (pc' := 8) rfl rfl (by decide) ?_
    first | refine on_aload (pc' := 10) rfl rfl rfl ?_ | refine on_aloadQ (pc' := 10) rfl rfl rfl ?_
    refine on_ifnullR (pc' := 13) rfl rfl ?_
    refine on_iload_n (pc' := 14) rfl rfl rfl rfl ?_
    refine on_if_lt (pc' := 17) (tgt := 26) rfl rfl rfl (fun cq => ?_) (fun cq => ?_)
    · refine no _ (eq.trans ?_)
      rw [show p_i t.go.length i = none from if_neg (fun z => z.1 cq)]
    · have x0 := cq
      clear cq
      refine on_iload_n (pc' := 18) rfl rfl rfl rfl ?_
      first | refine on_aload (pc' := 20) rfl rfl rfl ?_ | refine on_aloadQ (pc' := 20) rfl rfl rfl ?_
      first | apply on_get (pc' := 23) rfl rfl fl_N_197 | apply on_getN (pc' := 23) rfl rfl fl_N_197
      · repeat (first | assumption | exact on_up_eq _ _ _ | refine (on_up_ne (by omega)).trans ?_)
      · rfl
      refine on_icmp_lt (pc' := 26) (tgt := 28) rfl rfl rfl (fun cq => ?_) (fun cq => ?_)
      rotate_left
      · refine no _ (eq.trans ?_)
        rw [show p_i t.go.length i = none from if_neg (fun z => cq z.2)]
      · have x1 : i < nI t.go.length := cq
        clear cq
        have ep : p_i t.go.length i = some i.toNatClampNeg := if_pos ⟨x0, x1⟩
        obtain ⟨n, hn, en, -, ec, -⟩ := pk_mu (L := t.go.length) x0 (Int32.not_le.mpr x1) (by omega)
        rw [ep, ec] at eq
        have eq : q_got a x y i = nI (t.go.getD n 0) := eq
        subst en
        have nn : n < 2000 ∧ 2000 < 2 ^ 31 := by omega
        first | refine on_aload (pc' := 30) rfl rfl rfl ?_ | refine on_aloadQ (pc' := 30) rfl rfl rfl ?_
        first | apply on_get (pc' := 33) rfl rfl fl_N_200 | apply on_getN (pc' := 33) rfl rfl fl_N_200
        · repeat (first | assumption | exact on_up_eq _ _ _ | refine (on_up_ne (by omega)).trans ?_)
        · rfl
        refine on_iload_n (pc' := 34) rfl rfl rfl rfl ?_
        apply on_ialoadK (pc' := 35) (t := 0) rfl rfl
        · repeat (first | assumption | exact on_up_eq _ _ _ | refine (on_up_ne (by omega)).trans ?_)
        · rfl
        · first | assumption | exact on_lit _ | rfl
        · first | assumption | omega | decide
        rw [(k2 n hn).1]
        refine on_ireturn rfl rfl ?_
        rw [eq]
        exact ⟨rfl, rfl, rfl⟩
set_option maxHeartbeats 4000000 in
theorem c_N_told (X : n_X o sz L a [] h) (V : n_V B a) : on_Ct G M_N_told [.ref o, .int x, .int y, .int w] h sz 0 0 (fun v h1 z => v = some (.int (q_told a x y w)) ∧ z = sz ∧ h1 = h) := by
  have o1 : h o = some (.inr (11, [.ref (o + 1), .ref (o + 2), .ref (o + 3), .ref (o + 4), .ref (o + 5), .ref (o + 34), .ref (o + 42), .ref (o + 43), .int (nI a.nr), .int (nI a.nk), .int (nI a.nc)])) := X.1.1
  refine on_Ct.of (by decide) v_N_told (Nat.le_of_ble_eq_true rfl) ?_
  first | refine on_aload_n (pc' := 1) rfl rfl rfl rfl ?_ | refine on_aload_nQ (pc' := 1) rfl rfl rfl rfl ?_
  refine on_iload_n (pc' := 2) rfl rfl rfl rfl ?_
  refine on_iload_n (pc' := 3) rfl rfl rfl rfl ?_
  refine on_callV (pc' := 6) (As := [.int x, .int y]) (rest := []) (b := o) rfl rfl cw_N_told_133 (o1) rfl rfl (Nat.le_of_ble_eq_true rfl) (Nat.zero_le _) (Nat.zero_le _) (c_streamAtW X V) ?_
  rintro v h sz ⟨rfl, rfl, rfl⟩
  unfold q_told
  cases e : q_st a x y with
  | none =>
    show on_E G M_N_told 6 _ [va_rf none] h sz _ _ _
    first | refine on_astore (pc' := 8) rfl rfl (by decide) ?_ | refine on_astoreQ (pc' := 8) rfl rfl (by decide) ?_
    first | refine on_aload (pc' := 10) rfl rfl rfl ?_ | refine on_aloadQ (pc' := 10) rfl rfl rfl ?_
    refine on_ifnonnullN (pc' := 13) rfl rfl ?_
    refine on_iconst (pc' := 14) (v := (-1)) rfl rfl li_m1 ?_
    refine on_ireturn rfl rfl ?_
    exact ⟨rfl, rfl, rfl⟩
  | some p =>
    obtain ⟨c, s⟩ := p
    obtain ⟨-, hc, hs, -⟩ := q_st_some V.1.2.2 (fun i hi => (V.2.2.2.1 i hi).1.2.2.2.2.2.2.2.2.1) e
    obtain ⟨S, s1, s2, s3⟩ := (X.2.2.1.2.2 c hc).2.2.2.1
    obtain ⟨f, W, k0, -⟩ := (s3 s hs).2
    show on_E G M_N_told 6 _ [.ref (L.sa c s)] h sz _ _ _
    dsimp only
    generalize (a.c c).st.getD s t0 = t at *
    first | refine on_astore (pc' := 8) rfl rfl (by decide) ?_ | refine on_astoreQ (pc' := 8) rfl rfl (by decide) ?_
    first | refine on_aload (pc' := 10) rfl rfl rfl ?_ | refine on_aloadQ (pc' := 10) rfl rfl rfl ?_
    refine on_ifnonnullR (tgt := 15) rfl rfl ?_
    refine on_iload_n (pc' := 16) rfl rfl rfl rfl ?_
    by_cases w0 : w = 0
    · subst w0
      refine on_tableIn (tgt := 48) rfl (by decide) (by decide) rfl rfl ?_
      first | refine on_aload (pc' := 50) rfl rfl rfl ?_ | refine on_aloadQ (pc' := 50) rfl rfl rfl ?_
      first | apply on_get (pc' := 53) rfl rfl fl_N_146 | apply on_getN (pc' := 53) rfl rfl fl_N_146
      · repeat (first | assumption | exact on_up_eq _ _ _ | refine (on_up_ne (by omega)).trans ?_)
      · rfl
      refine on_ireturn rfl rfl ?_
      exact ⟨rfl, rfl, rfl⟩
    by_cases w1 : w = 1
    · subst w1
      refine on_tableIn (tgt := 54) rfl (by decide) (by decide) rfl rfl ?_
      first | refine on_aload (pc' := 56) rfl rfl rfl ?_ | refine on_aloadQ (pc' := 56) rfl rfl rfl ?_
      first | apply on_get (pc' := 59) rfl rfl fl_N_149 | apply on_getN (pc' := 59) rfl rfl fl_N_149
      · repeat (first | assumption | exact on_up_eq _ _ _ | refine (on_up_ne (by omega)).trans ?_)
      · rfl
      refine on_ireturn rfl rfl ?_
      exact ⟨rfl, rfl, rfl⟩
    by_cases w2 : w = 2
    · subst w2
      refine on_tableIn (tgt := 60) rfl (by decide) (by decide) rfl rfl ?_
      first | refine on_aload (pc' := 62) rfl rfl rfl ?_ | refine on_aloadQ (pc' := 62) rfl rfl rfl ?_
      first | apply on_get (pc' := 65) rfl rfl fl_N_143 | apply on_getN (pc' := 65) rfl rfl fl_N_143
      · repeat (first | assumption | exact on_up_eq _ _ _ | refine (on_up_ne (by omega)).trans ?_)
      · rfl
      refine on_ireturn rfl rfl ?_
      exact ⟨rfl, rfl, rfl⟩
    by_cases w3 : w = 3
    · subst w3
      refine on_tableIn (tgt := 66) rfl (by decide) (by decide) rfl rfl ?_
      first | refine on_aload (pc' := 68) rfl rfl rfl ?_ | refine on_aloadQ (pc' := 68) rfl rfl rfl ?_
      first | apply on_get (pc' := 71) rfl rfl fl_N_197 | apply on_getN (pc' := 71) rfl rfl fl_N_197
      · repeat (first | assumption | exact on_up_eq _ _ _ | refine (on_up_ne (by omega)).trans ?_)
      · rfl
      refine on_ireturn rfl rfl ?_
      exact ⟨rfl, rfl, rfl⟩
    have u0 := sw_not (n := 0) (by decide) w0
    have u1 := sw_not (n := 1) (by decide) w1
    have u2 := sw_not (n := 2) (by decide) w2
    have u3 := sw_not (n := 3) (by decide) w3
    refine on_tableOut (tgt := 72) rfl (by omega) rfl ?_
    refine on_iconst (pc' := 73) (v := (-1)) rfl rfl li_m1 ?_
    refine on_ireturn rfl rfl ?_
    rw [if_neg w0, if_neg w1, if_neg w2, if_neg w3]
    exact ⟨rfl, rfl, rfl⟩
set_option maxHeartbeats 4000000 in
theorem c_N_has (X : n_X o sz L a [] h) (V : n_V B a) : on_Ct G M_N_has [.ref o, .int x, .int w] h sz 0 0 (fun v h1 z => v = some (.int (q_has a x w)) ∧ z = sz ∧ h1 = h) := by
  have o1 : h o = some (.inr (11, [.ref (o + 1), .ref (o + 2), .ref (o + 3), .ref (o + 4), .ref (o + 5), .ref (o + 34), .ref (o + 42), .ref (o + 43), .int (nI a.nr), .int (nI a.nk), .int (nI a.nc)])) := X.1.1
  refine on_Ct.of (by decide) v_N_has (Nat.le_of_ble_eq_true rfl) ?_
  first | refine on_aload_n (pc' := 1) rfl rfl rfl rfl ?_ | refine on_aload_nQ (pc' := 1) rfl rfl rfl rfl ?_
  refine on_iload_n (pc' := 2) rfl rfl rfl rfl ?_
  refine on_callV (pc' := 5) (As := [.int x]) (rest := []) (b := o) rfl rfl cw_N_has_75 (o1) rfl rfl (Nat.le_of_ble_eq_true rfl) (Nat.zero_le _) (Nat.zero_le _) (c_relayAtP V.1.1 X.1.1 X.1.2.1) ?_
  rintro v h sz ⟨rfl, rfl, rfl⟩
  unfold q_has
  cases e : p_i a.nr x with
  | none =>
    show on_E G M_N_has 5 _ [va_rf none] h sz _ _ _
    first | refine on_astore_n (pc' := 6) rfl rfl rfl (by decide) ?_ | refine on_astore_nQ (pc' := 6) rfl rfl rfl (by decide) ?_
    first | refine on_aload_n (pc' := 7) rfl rfl rfl rfl ?_ | refine on_aload_nQ (pc' := 7) rfl rfl rfl rfl ?_
    refine on_ifnonnullN (pc' := 10) rfl rfl ?_
    refine on_iconst (pc' := 11) (v := (-1)) rfl rfl li_m1 ?_
    refine on_ireturn rfl rfl ?_
    exact ⟨rfl, rfl, rfl⟩
  | some r =>
    have R := X.2.2.1.1 r (p_i_some (by have := V.1.1; omega) e).1
    have r0 : h (L.ra r) = some (.inr (8, [.ref (L.ra r + 1), .ref (o + 1), .ref (o + 5), .ref (L.ra r + 3), .ref (L.ra r + 4), .ref (L.ra r + 5), .ref (L.ra r + 6), .ref (L.ra r + 7), .int (nI (a.r r).ke.length), .int (nI (a.r r).we)])) := R.1
    show on_E G M_N_has 5 _ [.ref (L.ra r)] h sz _ _ _
    dsimp only
    first | refine on_astore_n (pc' := 6) rfl rfl rfl (by decide) ?_ | refine on_astore_nQ (pc' := 6) rfl rfl rfl (by decide) ?_
    first | refine on_aload_n (pc' := 7) rfl rfl rfl rfl ?_ | refine on_aload_nQ (pc' := 7) rfl rfl rfl rfl ?_
    refine on_ifnonnullR (tgt := 12) rfl rfl ?_
    refine on_iload_n (pc' := 13) rfl rfl rfl rfl ?_
    by_cases w0 : w = 0
    · subst w0
      refine on_tableIn (tgt := 40) rfl (by decide) (by decide) rfl rfl ?_
      first | refine on_aload_n (pc' := 41) rfl rfl rfl rfl ?_ | refine on_aload_nQ (pc' := 41) rfl rfl rfl rfl ?_
      refine on_callV (pc' := 44) (As := []) (rest := []) (b := L.ra r) rfl rfl cw_N_has_205 (r0) rfl rfl (Nat.le_of_ble_eq_true rfl) (Nat.zero_le _) (Nat.zero_le _) (c_entryCount R.1 R.2.2.2.2.2.1) ?_
      rintro v h sz ⟨rfl, rfl, rfl⟩
      refine on_ireturn rfl rfl ?_
      exact ⟨rfl, rfl, rfl⟩
    by_cases w1 : w = 1
    · subst w1
      refine on_tableIn (tgt := 45) rfl (by decide) (by decide) rfl rfl ?_
      first | refine on_aload_n (pc' := 46) rfl rfl rfl rfl ?_ | refine on_aload_nQ (pc' := 46) rfl rfl rfl rfl ?_
      refine on_callV (pc' := 49) (As := []) (rest := []) (b := L.ra r) rfl rfl cw_N_has_209 (r0) rfl rfl (Nat.le_of_ble_eq_true rfl) (Nat.zero_le _) (Nat.zero_le _) (c_streamCount R.1 R.2.2.2.2.2.1) ?_
      rintro v h sz ⟨rfl, rfl, rfl⟩
      refine on_ireturn rfl rfl ?_
      exact ⟨rfl, rfl, rfl⟩
    by_cases w2 : w = 2
    · subst w2
      refine on_tableIn (tgt := 50) rfl (by decide) (by decide) rfl rfl ?_
      first | refine on_aload_n (pc' := 51) rfl rfl rfl rfl ?_ | refine on_aload_nQ (pc' := 51) rfl rfl rfl rfl ?_
      first | apply on_get (pc' := 54) rfl rfl fl_N_203 | apply on_getN (pc' := 54) rfl rfl fl_N_203
      · repeat (first | assumption | exact on_up_eq _ _ _ | refine (on_up_ne (by omega)).trans ?_)
      · rfl
      refine on_ireturn rfl rfl ?_
      exact ⟨rfl, rfl, rfl⟩
    have u0 := sw_not (n := 0) (by decide) w0
    have u1 := sw_not (n := 1) (by decide) w1
    have u2 := sw_not (n := 2) (by decide) w2
    refine on_tableOut (tgt := 55) rfl (by omega) rfl ?_
    refine on_iconst (pc' := 56) (v := (-1)) rfl rfl li_m1 ?_
    refine on_ireturn rfl rfl ?_
    rw [if_neg w0, if_neg w1, if_neg w2]
    exact ⟨rfl, rfl, rfl⟩
end GET
