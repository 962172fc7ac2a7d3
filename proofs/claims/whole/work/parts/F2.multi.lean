/-! rows of rows are made at once; a new OnionNet -/
theorem ma_out (cA : ClassId) (z : Nat) : mg_o cA z 4 = vp_cell cA (4, .inr (.inr (.inr (.inr (fun i => some (z + 1 + i)))))) := rfl
theorem ma_inn (cI : ClassId) : mg_a cI = vp_cell cI (140, .inl (fun _ => 0)) := arrV_new cI 140 (.int 0)
section MLT
variable {G : on_G} {M : on_M} {pc pc' sz bc bs : Nat} {lv : on_V} {st : List Value} {h : on_H} {Q : Option Value → on_H → Nat → Prop}
/-- the heap behind new int[4][140] -/
def ma_h (h : on_H) (z : Nat) : on_H := fun a => if a = z then some (on_aq 3 4 (fun i => some (z + 1 + i))) else if z < a ∧ a < z + 5 then some (on_ai 0 140 (fun _ => 0)) else h a
set_option maxHeartbeats 4000000 in
theorem on_multi (hd : on_tb M pc = some (.multianewarray 11 2, 4)) (hp : pc + 4 = pc') (w1 : Cond.classLink (on_y M).cls 11 "[[I" ∈ on_W) (w2 : Cond.arrayOver (.array .int) ∈ on_W2) (w3 : Cond.arrayClass .int ∈ on_W) (hbc : 5 ≤ bc) (hbs : 564 ≤ bs)
    (kk : on_E G M pc' lv (.ref sz :: st) (ma_h h sz) (sz + 5) (bc - 5) (bs - 564) Q) : on_E G M pc lv (.int 140 :: .int 4 :: st) h sz bc bs Q := by
  subst hp
  intro p l e R s m args below meth c H locs cells slots ls S hl hR hS hc hs
  have hts := S.2.2.2.2.2.2.2.1
  have hK := S.2.2.2.2.2.2.2.2.1
  have hbz : on_b G ≤ sz := Nat.le_trans S.2.2.2.2.2.2.2.2.2.2.2.1 (by rw [← hR.1]; exact hS.1)
  intro T hT X
  obtain ⟨vm₁, cA, comp, hW, hfA, hfC, X1, step⟩ := mg_multi X S.1 (own := (on_y M).cls) (index := 11) S.2.2.2.2.2.2.1 (hts _ w1) (hK.nest w2) (hts _ w3) (g := F0 m pc ls (.int 140 :: .int 4 :: st)) rfl (by rw [S.2.1]; exact S.dec hd) (rest := st) rfl (by omega) (by omega)
  have e3 : G.2.1 3 = cA := Option.some.inj ((hK.2.1 3 _ rfl).2.symm.trans hfA)
  have e0 : G.2.1 0 = comp := Option.some.inj ((hK.2.1 0 _ rfl).2.symm.trans hfC)
  obtain ⟨f1, f2, f3, f4, f5, f6⟩ := mg_In (T.setVm vm₁) cA comp 4
  have hz : (T.setVm vm₁).heap.size = sz := by
    show T.heap.size = sz
    rw [hT]
    exact hR.1
  have old : ∀ q : Nat, q < sz → (mg_n (T.setVm vm₁) cA comp 4).heap[q]? = H[q]? := fun q hq => by
    rw [f5 q (by rw [hz]; exact hq)]
    show T.heap[q]? = _
    rw [hT]
  rw [hz] at f1 f2
  have hR1 : on_R G (ma_h h sz) (sz + 5) (mg_n (T.setVm vm₁) cA comp 4).heap := by
    refine ⟨f1, fun a e2 ha => ?_⟩
    unfold ma_h at ha
    split at ha
    next w =>
      obtain rfl := Option.some.inj ha
      subst w
      refine ⟨hbz, ?_⟩
      show _ = some (vp_cell (G.2.1 3) _)
      rw [f2, e3, ma_out]
    next w =>
      split at ha
      next w2 =>
        obtain rfl := Option.some.inj ha
        refine ⟨by omega, ?_⟩
        show _ = some (vp_cell (G.2.1 0) _)
        have := f6 (a - sz - 1) (by omega)
        rw [hz, show sz + 1 + (a - sz - 1) = a by omega] at this
        rw [this, e0, ma_inn]
      next w2 =>
        obtain ⟨h1, h2⟩ := hR.2 a e2 ha
        have hlt : a < H.size := h2.lt
        exact ⟨h1, h2.kept (old a (by rw [← hR.1]; exact hlt))⟩
  have hS1 : va_S (on_A G) s.heap (mg_n (T.setVm vm₁) cA comp 4).heap locs := by
    refine ⟨Nat.le_trans hS.1 (by rw [f1, hR.1]; omega), fun q h1 h2 => (old q ?_).trans (hS.2.1 q h1 h2), hS.2.2⟩
    have := hS.1
    have := hR.1
    omega
  obtain ⟨t, a1, b1⟩ := kk p l e R s m args below meth c _ locs (cells + 5) (slots + 564) ls S hl hR1 hS1 (by omega) (by omega) _ rfl X1
  refine ⟨t, step t ?_, b1⟩
  rw [show T.heap.size = sz from hz]
  exact a1
end MLT
section NIN
variable {G : on_G} {o u sz : Nat} {h : on_H}
theorem c_Outbox_init (h0 : h u = some (.inr (6, [.null, .null, .null, .int 0]))) (hsz : sz = u + 1) : on_Ct G M_Outbox_init [.ref u] h sz 7 572 (fun v h1 z => v = none ∧ z = u + 8 ∧ ob_E u h1 ∧ on_sm u (u + 8) h h1) := by
  subst hsz
  refine on_Ct.of (by decide) v_Outbox_init (Nat.le_of_ble_eq_true rfl) ?_
  first | refine on_aload_n (pc' := 1) rfl rfl rfl rfl ?_ | refine on_aload_nQ (pc' := 1) rfl rfl rfl rfl ?_
  refine on_objInit (pc' := 4) rfl rfl oi_Outbox_3 w_ob1 w_ob2 (Nat.le_of_ble_eq_true rfl) (Nat.le_of_ble_eq_true rfl) ?_
  first | refine on_aload_n (pc' := 5) rfl rfl rfl rfl ?_ | refine on_aload_nQ (pc' := 5) rfl rfl rfl rfl ?_
  refine on_iconst (pc' := 6) (v := 4) rfl rfl li_4 ?_
  refine on_sipush (pc' := 9) (v := 140) rfl rfl ls_140 ?_
  refine on_multi (pc' := 13) rfl rfl (on_w 260 rfl rfl) (on_w2 261 rfl rfl) w_arint (by omega) (by omega) ?_
  have g0 : ma_h h (u + 1) u = some (.inr (6, [.null, .null, .null, .int 0])) := (if_neg (by omega)).trans ((if_neg (by omega)).trans h0)
  have g1 : ma_h h (u + 1) (u + 1) = some (on_aq 3 4 (fun i => some (u + 1 + 1 + i))) := if_pos rfl
  have g2 : ∀ i, i < 4 → ma_h h (u + 1) (u + 2 + i) = some (on_ai 0 140 (fun _ => 0)) := fun i hi => (if_neg (by omega)).trans (if_pos (by omega))
  have g3 : ∀ a, (a < u + 1 ∨ u + 6 ≤ a) → ma_h h (u + 1) a = h a := fun a ha => (if_neg (by omega)).trans (if_neg (by omega))
  generalize ma_h h (u + 1) = g at *
  apply on_putF (pc' := 16) rfl rfl fp_Outbox_13 rfl
  · repeat (first | assumption | exact on_up_eq _ _ _ | refine (on_up_ne (by omega)).trans ?_)
  · first | rfl | assumption
  · first | rfl | assumption
  · exact Nat.le_of_ble_eq_true rfl
  first | refine on_aload_n (pc' := 17) rfl rfl rfl rfl ?_ | refine on_aload_nQ (pc' := 17) rfl rfl rfl rfl ?_
  refine on_iconst (pc' := 18) (v := 4) rfl rfl li_4 ?_
  refine on_newarray (pc' := 20) (t := 0) (N := 4) (ty := .int) (a0 := (4, .inl (fun _ => 0))) rfl rfl rfl rfl (fun _ _ _ h1 h2 => Option.some.inj (h1.symm.trans h2)) w_arint (fun _ => rfl) (by decide) (by decide) (by decide) (by omega) (by omega) ?_
  apply on_putF (pc' := 23) rfl rfl fp_Outbox_16 rfl
  · repeat (first | assumption | exact on_up_eq _ _ _ | refine (on_up_ne (by omega)).trans ?_)
  · first | rfl | assumption
  · first | rfl | assumption
  · exact Nat.le_of_ble_eq_true rfl
  first | refine on_aload_n (pc' := 24) rfl rfl rfl rfl ?_ | refine on_aload_nQ (pc' := 24) rfl rfl rfl rfl ?_
  refine on_iconst (pc' := 25) (v := 4) rfl rfl li_4 ?_
  refine on_newarray (pc' := 27) (t := 2) (N := 4) (ty := .boolean) (a0 := (4, .inl (fun _ => 0))) rfl rfl rfl rfl (fun _ _ _ h1 h2 => Option.some.inj (h1.symm.trans h2)) w_arboolean (fun _ => rfl) (by decide) (by decide) (by decide) (by omega) (by omega) ?_
  apply on_putF (pc' := 30) rfl rfl fp_Outbox_20 rfl
  · repeat (first | assumption | exact on_up_eq _ _ _ | refine (on_up_ne (by omega)).trans ?_)
  · first | rfl | assumption
  · first | rfl | assumption
  · exact Nat.le_of_ble_eq_true rfl
  refine on_vreturn rfl rfl ?_
  refine ⟨rfl, rfl, ⟨on_up_eq _ _ _, ?_, fun i hi => ?_, ⟨fun _ => 0, ?_, fun i hi => absurd hi (Nat.not_lt_zero i)⟩, ⟨fun _ => 0, ?_, fun i hi => (if_neg (fun z => absurd z.1 (Nat.not_lt_zero i))).symm⟩⟩, fun a ha => ?_⟩
  · rw [on_up_ne (by omega), on_up_ne (by omega), on_up_ne (by omega), on_up_ne (by omega), on_up_ne (by omega), g1]
    exact congrArg some (congrArg (on_aq 3 4) (funext fun i => congrArg some (by omega)))
  · rw [if_neg (Nat.not_lt_zero i)]
    refine ⟨fun _ => 0, ?_, fun j _ => ⟨rfl, (show 0 < 256 by decide)⟩⟩
    rw [on_up_ne (by omega), on_up_ne (by omega), on_up_ne (by omega), on_up_ne (by omega), on_up_ne (by omega)]
    exact g2 i hi
  · repeat (first | assumption | exact on_up_eq _ _ _ | refine (on_up_ne (by omega)).trans ?_)
  · repeat (first | assumption | exact on_up_eq _ _ _ | refine (on_up_ne (by omega)).trans ?_)
  · rw [on_up_ne (by omega), on_up_ne (by omega), on_up_ne (by omega), on_up_ne (by omega), on_up_ne (by omega)]
    exact g3 a (by omega)
/-- the network at its start -/
def a_0 : aN := (0, (fun _ => (0, 0, 0, 0, (fun _ => none), [])), 0, (fun _ => (0, 0, 0)), 0, (fun _ => (0, 0, [], 0, 0, (fun _ => l00), (fun _ => 0), [])), fun _ => [])
def L_0 (o : Nat) : nL := ((fun _ => 0), (fun _ => 0), (fun _ => 0), (fun _ _ => 0), (fun _ _ => 0), (fun _ => 0), fun b => if b < o then 2 else 0)
theorem rf_0 {A : Nat → Nat} : rf 0 A = fun _ => none := funext fun j => if_neg (Nat.not_lt_zero j)
theorem n_ex_0 (j : Nat) : n_ex 0 0 j = false := by
  cases z : n_ex 0 0 j with
  | false => rfl
  | true =>
    have := (n_ex_iff.mp z).1.1
    unfold n_pr at this
    rw [decide_eq_false (Nat.not_lt_zero _), ← Bool.decide_and, decide_eq_false (by omega)] at this
    exact nomatch this
theorem lf_0 {A : Nat → Nat} : lf (n_ex 0 0) A = fun _ => none := funext fun j => if_neg (by rw [n_ex_0]; decide)
theorem V_0 : n_V 0 a_0 := ⟨⟨Nat.zero_le _, Nat.zero_le _, Nat.zero_le _⟩, fun i hi => absurd hi (Nat.not_lt_zero i), fun i hi => absurd hi (Nat.not_lt_zero i), fun i hi => absurd hi (Nat.not_lt_zero i), fun i j hi => absurd hi (Nat.not_lt_zero i), fun _ _ _ => rfl, fun _ _ => Nat.zero_le _⟩
set_option maxHeartbeats 16000000 in
theorem c_N_init (h0 : h o = some (.inr (11, [.null, .null, .null, .null, .null, .null, .null, .null, .int 0, .int 0, .int 0]))) (hsz : sz = o + 1) : on_Ct G M_N_init [.ref o] h sz 43 1609 (fun v h1 z => v = none ∧ z = o + 44 ∧ n_X o (o + 44) (L_0 o) a_0 [] h1 ∧ on_sm o (o + 44) h h1) := by
  subst hsz
  refine on_Ct.of (by decide) v_N_init (Nat.le_of_ble_eq_true rfl) ?_
  first | refine on_aload_n (pc' := 1) rfl rfl rfl rfl ?_ | refine on_aload_nQ (pc' := 1) rfl rfl rfl rfl ?_
  refine on_objInit (pc' := 4) rfl rfl oi_N_1 w_ob1 w_ob2 (Nat.le_of_ble_eq_true rfl) (Nat.le_of_ble_eq_true rfl) ?_
  first | refine on_aload_n (pc' := 5) rfl rfl rfl rfl ?_ | refine on_aload_nQ (pc' := 5) rfl rfl rfl rfl ?_
  refine on_bipush (pc' := 7) (v := 6) rfl rfl lb_6 ?_
  refine on_anewarray (pc' := 10) (t := 4) (N := 6) rfl rfl rfl an_N_9.1 an_N_9.2 (by first | decide | assumption) (by first | rfl | assumption) (by first | decide | omega) (by omega) (by omega) ?_
  apply on_putF (pc' := 13) rfl rfl fp_N_11 rfl
  · repeat (first | assumption | exact on_up_eq _ _ _ | refine (on_up_ne (by omega)).trans ?_)
  · first | rfl | assumption
  · first | rfl | assumption
  · exact Nat.le_of_ble_eq_true rfl
  first | refine on_aload_n (pc' := 14) rfl rfl rfl rfl ?_ | refine on_aload_nQ (pc' := 14) rfl rfl rfl rfl ?_
  refine on_iconst (pc' := 15) (v := 2) rfl rfl li_2 ?_
  refine on_anewarray (pc' := 18) (t := 8) (N := 2) rfl rfl rfl an_N_15.1 an_N_15.2 (by first | decide | assumption) (by first | rfl | assumption) (by first | decide | omega) (by omega) (by omega) ?_
  apply on_putF (pc' := 21) rfl rfl fp_N_17 rfl
  · repeat (first | assumption | exact on_up_eq _ _ _ | refine (on_up_ne (by omega)).trans ?_)
  · first | rfl | assumption
  · first | rfl | assumption
  · exact Nat.le_of_ble_eq_true rfl
  first | refine on_aload_n (pc' := 22) rfl rfl rfl rfl ?_ | refine on_aload_nQ (pc' := 22) rfl rfl rfl rfl ?_
  refine on_bipush (pc' := 24) (v := 6) rfl rfl lb_6 ?_
  refine on_anewarray (pc' := 27) (t := 9) (N := 6) rfl rfl rfl an_N_21.1 an_N_21.2 (by first | decide | assumption) (by first | rfl | assumption) (by first | decide | omega) (by omega) (by omega) ?_
  apply on_putF (pc' := 30) rfl rfl fp_N_23 rfl
  · repeat (first | assumption | exact on_up_eq _ _ _ | refine (on_up_ne (by omega)).trans ?_)
  · first | rfl | assumption
  · first | rfl | assumption
  · exact Nat.le_of_ble_eq_true rfl
  first | refine on_aload_n (pc' := 31) rfl rfl rfl rfl ?_ | refine on_aload_nQ (pc' := 31) rfl rfl rfl rfl ?_
  refine on_bipush (pc' := 33) (v := 100) rfl rfl lb_100 ?_
  refine on_anewarray (pc' := 36) (t := 10) (N := 100) rfl rfl rfl an_N_27.1 an_N_27.2 (by first | decide | assumption) (by first | rfl | assumption) (by first | decide | omega) (by omega) (by omega) ?_
  apply on_putF (pc' := 39) rfl rfl fp_N_29 rfl
  · repeat (first | assumption | exact on_up_eq _ _ _ | refine (on_up_ne (by omega)).trans ?_)
  · first | rfl | assumption
  · first | rfl | assumption
  · exact Nat.le_of_ble_eq_true rfl
  first | refine on_aload_n (pc' := 40) rfl rfl rfl rfl ?_ | refine on_aload_nQ (pc' := 40) rfl rfl rfl rfl ?_
  refine on_new (pc' := 43) (fs := [.null, .null, .null, .null, .null, .null, .null, .null, .null, .null, .null, .null, .null]) rfl rfl nw_N_33 (by intro j hj; match j, hj with | 0, _ => rfl | 1, _ => rfl | 2, _ => rfl | 3, _ => rfl | 4, _ => rfl | 5, _ => rfl | 6, _ => rfl | 7, _ => rfl | 8, _ => rfl | 9, _ => rfl | 10, _ => rfl | 11, _ => rfl | 12, _ => rfl | j + 13, hj => exact absurd hj (by omega)) (by omega) (by omega) ?_
  refine on_dup (pc' := 44) rfl rfl rfl ?_
  first | refine on_callI (pc' := 47) (As := []) (rest := [.ref (o + 5), .ref o]) (b := o + 5) rfl rfl cw_N_init_35 rfl rfl (Nat.le_of_ble_eq_true rfl) (by omega) (by omega) (c_Handshake_init (on_up_eq _ _ _) rfl) ?_ | refine on_callIN (pc' := 47) (As := []) (rest := [.ref (o + 5), .ref o]) (b := o + 5) rfl rfl cw_N_init_35 rfl rfl (Nat.le_of_ble_eq_true rfl) (by omega) (by omega) (c_Handshake_init (on_up_eq _ _ _) rfl) ?_
  rintro v h1 z ⟨rfl, rfl, H1, t1⟩
  have T1 : ∀ b, (b < o + 5 ∨ o + 34 ≤ b) → h1 b = _ := t1
  have q0 : h1 o = some (.inr (11, [.ref (o + 1), .ref (o + 2), .ref (o + 3), .ref (o + 4), .null, .null, .null, .null, .int 0, .int 0, .int 0])) := (t1 o (by omega)).trans ((on_up_ne (by omega)).trans (on_up_eq _ _ _))
  have q1 : h1 (o + 1) = some (on_aq 4 6 (fun _ => none)) := (t1 _ (by omega)).trans (by repeat (first | assumption | exact on_up_eq _ _ _ | refine (on_up_ne (by omega)).trans ?_))
  have q2 : h1 (o + 2) = some (on_aq 8 2 (fun _ => none)) := (t1 _ (by omega)).trans (by repeat (first | assumption | exact on_up_eq _ _ _ | refine (on_up_ne (by omega)).trans ?_))
  have q3 : h1 (o + 3) = some (on_aq 9 6 (fun _ => none)) := (t1 _ (by omega)).trans (by repeat (first | assumption | exact on_up_eq _ _ _ | refine (on_up_ne (by omega)).trans ?_))
  have q4 : h1 (o + 4) = some (on_aq 10 100 (fun _ => none)) := (t1 _ (by omega)).trans (by repeat (first | assumption | exact on_up_eq _ _ _ | refine (on_up_ne (by omega)).trans ?_))
  have qf : ∀ b, (b < o ∨ o + 34 ≤ b) → h1 b = h b := fun b hb => (t1 b (by omega)).trans (by
    repeat (first | assumption | exact on_up_eq _ _ _ | refine (on_up_ne (by omega)).trans ?_)
    all_goals rfl)
  show on_E G M_N_init 47 _ [.ref (o + 5), .ref o] h1 (o + 34) _ _ _
  clear t1 T1
  apply on_putF (pc' := 50) rfl rfl fp_N_36 rfl
  · repeat (first | assumption | exact on_up_eq _ _ _ | refine (on_up_ne (by omega)).trans ?_)
  · first | rfl | assumption
  · first | rfl | assumption
  · exact Nat.le_of_ble_eq_true rfl
  first | refine on_aload_n (pc' := 51) rfl rfl rfl rfl ?_ | refine on_aload_nQ (pc' := 51) rfl rfl rfl rfl ?_
  refine on_new (pc' := 54) (fs := [.null, .null, .null, .int 0]) rfl rfl nw_N_40 (by intro j hj; match j, hj with | 0, _ => rfl | 1, _ => rfl | 2, _ => rfl | 3, _ => rfl | j + 4, hj => exact absurd hj (by omega)) (by omega) (by omega) ?_
  refine on_dup (pc' := 55) rfl rfl rfl ?_
  first | refine on_callI (pc' := 58) (As := []) (rest := [.ref (o + 34), .ref o]) (b := o + 34) rfl rfl cw_N_init_42 rfl rfl (Nat.le_of_ble_eq_true rfl) (by omega) (by omega) (c_Outbox_init (on_up_eq _ _ _) rfl) ?_ | refine on_callIN (pc' := 58) (As := []) (rest := [.ref (o + 34), .ref o]) (b := o + 34) rfl rfl cw_N_init_42 rfl rfl (Nat.le_of_ble_eq_true rfl) (by omega) (by omega) (c_Outbox_init (on_up_eq _ _ _) rfl) ?_
  rintro v h2 z ⟨rfl, rfl, O2, t2⟩
  have q5 : h2 o = some (.inr (11, [.ref (o + 1), .ref (o + 2), .ref (o + 3), .ref (o + 4), .ref (o + 5), .null, .null, .null, .int 0, .int 0, .int 0])) := (t2 o (by omega)).trans ((on_up_ne (by omega)).trans (on_up_eq _ _ _))
  have T2 : ∀ b, (b < o + 34 ∨ o + 42 ≤ b) → b ≠ o → h2 b = h1 b := fun b b1 b2 => (t2 b (by omega)).trans ((on_up_ne (by omega)).trans (on_up_ne b2))
  show on_E G M_N_init 58 _ [.ref (o + 34), .ref o] h2 (o + 42) _ _ _
  clear t2
  apply on_putF (pc' := 61) rfl rfl fp_N_43 rfl
  · repeat (first | assumption | exact on_up_eq _ _ _ | refine (on_up_ne (by omega)).trans ?_)
  · first | rfl | assumption
  · first | rfl | assumption
  · exact Nat.le_of_ble_eq_true rfl
  first | refine on_aload_n (pc' := 62) rfl rfl rfl rfl ?_ | refine on_aload_nQ (pc' := 62) rfl rfl rfl rfl ?_
  refine on_sipush (pc' := 65) (v := 140) rfl rfl ls_140 ?_
  refine on_newarray (pc' := 67) (t := 0) (N := 140) (ty := .int) (a0 := (140, .inl (fun _ => 0))) rfl rfl rfl rfl (fun _ _ _ h1 h2 => Option.some.inj (h1.symm.trans h2)) w_arint (fun _ => rfl) (by decide) (by decide) (by decide) (by omega) (by omega) ?_
  apply on_putF (pc' := 70) rfl rfl fp_N_47 rfl
  · repeat (first | assumption | exact on_up_eq _ _ _ | refine (on_up_ne (by omega)).trans ?_)
  · first | rfl | assumption
  · first | rfl | assumption
  · exact Nat.le_of_ble_eq_true rfl
  first | refine on_aload_n (pc' := 71) rfl rfl rfl rfl ?_ | refine on_aload_nQ (pc' := 71) rfl rfl rfl rfl ?_
  refine on_bipush (pc' := 73) (v := 32) rfl rfl lb_32 ?_
  refine on_newarray (pc' := 75) (t := 0) (N := 32) (ty := .int) (a0 := (32, .inl (fun _ => 0))) rfl rfl rfl rfl (fun _ _ _ h1 h2 => Option.some.inj (h1.symm.trans h2)) w_arint (fun _ => rfl) (by decide) (by decide) (by decide) (by omega) (by omega) ?_
  apply on_putF (pc' := 78) rfl rfl fp_N_51 rfl
  · repeat (first | assumption | exact on_up_eq _ _ _ | refine (on_up_ne (by omega)).trans ?_)
  · first | rfl | assumption
  · first | rfl | assumption
  · exact Nat.le_of_ble_eq_true rfl
  refine on_vreturn rfl rfl ?_
  have F : ∀ b, b ≠ o → b ≠ o + 42 → b ≠ o + 43 → (on_up (on_up (on_up (on_up (on_up h2 o (.inr (11, [.ref (o + 1), .ref (o + 2), .ref (o + 3), .ref (o + 4), .ref (o + 5), .ref (o + 34), .null, .null, .int 0, .int 0, .int 0]))) (o + 42) (on_ai 0 140 (fun _ => 0))) o (.inr (11, [.ref (o + 1), .ref (o + 2), .ref (o + 3), .ref (o + 4), .ref (o + 5), .ref (o + 34), .ref (o + 42), .null, .int 0, .int 0, .int 0]))) (o + 43) (on_ai 0 32 (fun _ => 0))) o (.inr (11, [.ref (o + 1), .ref (o + 2), .ref (o + 3), .ref (o + 4), .ref (o + 5), .ref (o + 34), .ref (o + 42), .ref (o + 43), .int 0, .int 0, .int 0]))) b = h2 b := fun b b1 b2 b3 => (on_up_ne b1).trans ((on_up_ne b3).trans ((on_up_ne b1).trans ((on_up_ne b2).trans (on_up_ne b1))))
  refine ⟨rfl, rfl, ⟨⟨on_up_eq _ _ _, ?_, ?_, ?_, ?_, ?_, ?_, ⟨fun _ => 0, ?_⟩, ⟨fun _ => 0, ?_⟩⟩, ⟨Nat.le_refl _, fun b b1 b2 => if_neg (by omega), fun i hi => absurd hi (Nat.not_lt_zero i), fun i hi => absurd hi (Nat.not_lt_zero i), fun i hi => absurd hi (Nat.not_lt_zero i), fun i hi ei => ?_, fun j hj ej => ?_⟩, ⟨fun i hi => absurd hi (Nat.not_lt_zero i), fun i hi => absurd hi (Nat.not_lt_zero i), fun i hi => absurd hi (Nat.not_lt_zero i)⟩, fun j hj ej => ?_⟩, fun b hb => ?_⟩
  · refine (F _ (by omega) (by omega) (by omega)).trans ((T2 _ (by omega) (by omega)).trans (q1.trans ?_))
    rw [show rf a_0.nr (L_0 o).ra = fun _ => none from rf_0]
  · refine (F _ (by omega) (by omega) (by omega)).trans ((T2 _ (by omega) (by omega)).trans (q2.trans ?_))
    rw [show rf a_0.nk (L_0 o).ka = fun _ => none from rf_0]
  · refine (F _ (by omega) (by omega) (by omega)).trans ((T2 _ (by omega) (by omega)).trans (q3.trans ?_))
    rw [show rf a_0.nc (fun i => (L_0 o).ca i + 1) = fun _ => none from rf_0]
  · refine (F _ (by omega) (by omega) (by omega)).trans ((T2 _ (by omega) (by omega)).trans (q4.trans ?_))
    rw [show lf (n_ex a_0.nr a_0.nk) (L_0 o).A = fun _ => none from lf_0]
  · exact H1.keep (fun b b1 b2 => (F b (by omega) (by omega) (by omega)).trans (T2 b (by omega) (by omega)))
  · exact (ob_0 O2).keep (fun b b1 b2 => F b (by omega) (by omega) (by omega))
  · exact (on_up_ne (by omega)).trans ((on_up_ne (by omega)).trans ((on_up_ne (by omega)).trans (on_up_eq _ _ _)))
  · exact (on_up_ne (by omega)).trans (on_up_eq _ _ _)
  · exact absurd ((n_ex_0 i).symm.trans ei) (by decide)
  · exact absurd ((n_ex_0 j).symm.trans ej) (by decide)
  · exact absurd ((n_ex_0 j).symm.trans ej) (by decide)
  · exact (F b (by omega) (by omega) (by omega)).trans ((T2 b (by omega) (by omega)).trans (qf b (by omega)))
end NIN
