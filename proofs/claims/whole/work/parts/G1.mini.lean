/-! the reference's objects are made -/
/-- an entry of the reference at y -/
def me_B (y : Nat) (fr fn to tn wt sc : Int32) (S V W C : Nat → Int32) (h : on_H) : Prop := h y = some (.inr (14, [.int fr, .int fn, .int to, .int tn, .int wt, .ref (y + 1), .int sc, .ref (y + 10), .ref (y + 11), .ref (y + 12), .ref (y + 13)])) ∧ h (y + 10) = some (on_ai 0 4 S) ∧ h (y + 11) = some (on_ai 0 4 V) ∧ h (y + 12) = some (on_ai 0 4 W) ∧ h (y + 13) = some (on_ai 0 4 C)
def me_W (y : Nat) (h : on_H) : Prop := ∃ (fr fn to tn wt sc : Int32) (S V W C : Nat → Int32), me_B y fr fn to tn wt sc S V W C h ∧ ml_W (y + 1) h
def me_S (y : Nat) (e : aE) (h : on_H) : Prop := ∃ (tn : Int32) (S V W C : Nat → Int32), me_B y (nI e.fr) e.fn (oI e.on) tn (bI e.wt) (nI e.st.length) S V W C h ∧ (∀ q, e.on = some q → tn = nI q.2) ∧ st_r e.st S V W C ∧ ml_S (y + 1) e.fw e.bw h
theorem me_B.keep {y : Nat} {fr fn to tn wt sc : Int32} {S V W C : Nat → Int32} {h h2 : on_H} (k : me_B y fr fn to tn wt sc S V W C h) (e : ∀ a, y ≤ a → a < y + 14 → h2 a = h a) : me_B y fr fn to tn wt sc S V W C h2 := ⟨(e _ (by omega) (by omega)).trans k.1, (e _ (by omega) (by omega)).trans k.2.1, (e _ (by omega) (by omega)).trans k.2.2.1, (e _ (by omega) (by omega)).trans k.2.2.2.1, (e _ (by omega) (by omega)).trans k.2.2.2.2⟩
theorem me_W.keep {y : Nat} {h h2 : on_H} (k : me_W y h) (e : ∀ a, y ≤ a → a < y + 14 → h2 a = h a) : me_W y h2 := by
  obtain ⟨fr, fn, to, tn, wt, sc, S, V, W, C, k1, k2⟩ := k
  exact ⟨fr, fn, to, tn, wt, sc, S, V, W, C, k1.keep e, k2.keep (fun a h1 h2 => e a (by omega) (by omega))⟩
theorem me_S.keep {y : Nat} {x : aE} {h h2 : on_H} (k : me_S y x h) (e : ∀ a, y ≤ a → a < y + 14 → h2 a = h a) : me_S y x h2 := by
  obtain ⟨tn, S, V, W, C, k1, k2, k3, k4⟩ := k
  exact ⟨tn, S, V, W, C, k1.keep e, k2, k3, k4.keep (fun a h1 h2 => e a (by omega) (by omega))⟩
theorem me_S.w {y : Nat} {x : aE} {h : on_H} (k : me_S y x h) : me_W y h := by
  obtain ⟨tn, S, V, W, C, k1, k2, k3, k4⟩ := k
  exact ⟨_, _, _, _, _, _, S, V, W, C, k1, k4.w⟩
section MIN
variable {G : on_G} {o y a c sz : Nat} {h : on_H}
set_option maxHeartbeats 8000000 in
theorem c_MLayer_init (h0 : h y = some (.inr (13, [.null, .null, .null, .null, .long 0, .long 0]))) (hsz : sz = y + 1) : on_Ct G M_MLayer_init [.ref y] h sz 8 214 (fun r h1 z => r = none ∧ z = y + 9 ∧ ml_W y h1 ∧ on_sm y (y + 9) h h1) := by
  subst hsz
  refine on_Ct.of (by decide) v_MLayer_init (Nat.le_of_ble_eq_true rfl) ?_
  first | refine on_aload_n (pc' := 1) rfl rfl rfl rfl ?_ | refine on_aload_nQ (pc' := 1) rfl rfl rfl rfl ?_
  refine on_objInit (pc' := 4) rfl rfl oi_MLayer_1 w_ob1 w_ob2 (Nat.le_of_ble_eq_true rfl) (Nat.le_of_ble_eq_true rfl) ?_
  first | refine on_aload_n (pc' := 5) rfl rfl rfl rfl ?_ | refine on_aload_nQ (pc' := 5) rfl rfl rfl rfl ?_
  refine on_new (pc' := 8) (fs := [.null, .null, .long 0]) rfl rfl nw_MLayer_7 (by intro j hj; match j, hj with | 0, _ => rfl | 1, _ => rfl | 2, _ => rfl | j + 3, hj => exact absurd hj (by omega)) (by omega) (by omega) ?_
  refine on_dup (pc' := 9) rfl rfl rfl ?_
  first | refine on_callI (pc' := 12) (As := []) (rest := [.ref (y + 1), .ref y]) (b := y + 1) rfl rfl cw_MLayer_init_9 rfl rfl (Nat.le_of_ble_eq_true rfl) (by omega) (by omega) (c_MSha_init (on_up_eq _ _ _) rfl) ?_ | refine on_callIN (pc' := 12) (As := []) (rest := [.ref (y + 1), .ref y]) (b := y + 1) rfl rfl cw_MLayer_init_9 rfl rfl (Nat.le_of_ble_eq_true rfl) (by omega) (by omega) (c_MSha_init (on_up_eq _ _ _) rfl) ?_
  rintro v h1 z ⟨rfl, rfl, S1, t1⟩
  have q1 : h1 y = some (.inr (13, [.null, .null, .null, .null, .long 0, .long 0])) := (t1 y (by omega)).trans ((on_up_ne (by omega)).trans h0)
  show on_E G M_MLayer_init 12 _ [.ref (y + 1), .ref y] h1 (y + 1 + 3) _ _ _
  apply on_putF (pc' := 15) rfl rfl fp_MLayer_10 rfl
  · repeat (first | assumption | exact on_up_eq _ _ _ | refine (on_up_ne (by omega)).trans ?_)
  · first | rfl | assumption
  · first | rfl | assumption
  · exact Nat.le_of_ble_eq_true rfl
  first | refine on_aload_n (pc' := 16) rfl rfl rfl rfl ?_ | refine on_aload_nQ (pc' := 16) rfl rfl rfl rfl ?_
  refine on_new (pc' := 19) (fs := [.null, .null, .long 0]) rfl rfl nw_MLayer_7 (by intro j hj; match j, hj with | 0, _ => rfl | 1, _ => rfl | 2, _ => rfl | j + 3, hj => exact absurd hj (by omega)) (by omega) (by omega) ?_
  refine on_dup (pc' := 20) rfl rfl rfl ?_
  first | refine on_callI (pc' := 23) (As := []) (rest := [.ref (y + 4), .ref y]) (b := y + 4) rfl rfl cw_MLayer_init_9 rfl rfl (Nat.le_of_ble_eq_true rfl) (by omega) (by omega) (c_MSha_init (on_up_eq _ _ _) rfl) ?_ | refine on_callIN (pc' := 23) (As := []) (rest := [.ref (y + 4), .ref y]) (b := y + 4) rfl rfl cw_MLayer_init_9 rfl rfl (Nat.le_of_ble_eq_true rfl) (by omega) (by omega) (c_MSha_init (on_up_eq _ _ _) rfl) ?_
  rintro v h2 z ⟨rfl, rfl, S2, t2⟩
  have q2 : h2 y = some (.inr (13, [.ref (y + 1), .null, .null, .null, .long 0, .long 0])) := (t2 y (by omega)).trans ((on_up_ne (by omega)).trans (on_up_eq _ _ _))
  show on_E G M_MLayer_init 23 _ [.ref (y + 4), .ref y] h2 (y + 4 + 3) _ _ _
  apply on_putF (pc' := 26) rfl rfl fp_MLayer_16 rfl
  · repeat (first | assumption | exact on_up_eq _ _ _ | refine (on_up_ne (by omega)).trans ?_)
  · first | rfl | assumption
  · first | rfl | assumption
  · exact Nat.le_of_ble_eq_true rfl
  first | refine on_aload_n (pc' := 27) rfl rfl rfl rfl ?_ | refine on_aload_nQ (pc' := 27) rfl rfl rfl rfl ?_
  refine on_bipush (pc' := 29) (v := 32) rfl rfl lb_32 ?_
  refine on_newarray (pc' := 31) (t := 0) (N := 32) (ty := .int) (a0 := (32, .inl (fun _ => 0))) rfl rfl rfl rfl (fun _ _ _ h1 h2 => Option.some.inj (h1.symm.trans h2)) w_arint (fun _ => rfl) (by decide) (by decide) (by decide) (by omega) (by omega) ?_
  apply on_putF (pc' := 34) rfl rfl fp_MLayer_19 rfl
  · repeat (first | assumption | exact on_up_eq _ _ _ | refine (on_up_ne (by omega)).trans ?_)
  · first | rfl | assumption
  · first | rfl | assumption
  · exact Nat.le_of_ble_eq_true rfl
  first | refine on_aload_n (pc' := 35) rfl rfl rfl rfl ?_ | refine on_aload_nQ (pc' := 35) rfl rfl rfl rfl ?_
  refine on_bipush (pc' := 37) (v := 32) rfl rfl lb_32 ?_
  refine on_newarray (pc' := 39) (t := 0) (N := 32) (ty := .int) (a0 := (32, .inl (fun _ => 0))) rfl rfl rfl rfl (fun _ _ _ h1 h2 => Option.some.inj (h1.symm.trans h2)) w_arint (fun _ => rfl) (by decide) (by decide) (by decide) (by omega) (by omega) ?_
  apply on_putF (pc' := 42) rfl rfl fp_MLayer_23 rfl
  · repeat (first | assumption | exact on_up_eq _ _ _ | refine (on_up_ne (by omega)).trans ?_)
  · first | rfl | assumption
  · first | rfl | assumption
  · exact Nat.le_of_ble_eq_true rfl
  refine on_vreturn rfl rfl ?_
  have f2 : ∀ b, b ≠ y → (b < y + 4 ∨ y + 7 ≤ b) → h2 b = h1 b := fun b b1 b2 => (t2 b (by omega)).trans ((on_up_ne (by omega)).trans (on_up_ne b1))
  refine ⟨rfl, rfl, ⟨⟨0, 0, on_up_eq _ _ _⟩, ?_, ?_, ?_, ?_⟩, fun b hb => ?_⟩
  · exact ms_W.keep ⟨_, _, _, S1⟩ (fun b b1 b2 => (on_up_ne (by omega)).trans ((on_up_ne (by omega)).trans ((on_up_ne (by omega)).trans ((on_up_ne (by omega)).trans ((on_up_ne (by omega)).trans (f2 b (by omega) (by omega)))))))
  · exact ms_W.keep ⟨_, _, _, S2⟩ (fun b b1 b2 => (on_up_ne (by omega)).trans ((on_up_ne (by omega)).trans ((on_up_ne (by omega)).trans ((on_up_ne (by omega)).trans (on_up_ne (by omega))))))
  · refine ⟨fun _ => 0, ?_⟩
    repeat (first | assumption | exact on_up_eq _ _ _ | refine (on_up_ne (by omega)).trans ?_)
  · refine ⟨fun _ => 0, ?_⟩
    repeat (first | assumption | exact on_up_eq _ _ _ | refine (on_up_ne (by omega)).trans ?_)
  · refine (on_up_ne (by omega)).trans ((on_up_ne (by omega)).trans ((on_up_ne (by omega)).trans ((on_up_ne (by omega)).trans ((on_up_ne (by omega)).trans ((f2 b (by omega) (by omega)).trans ((t1 b (by omega)).trans ?_))))))
    exact on_up_ne (by omega)
set_option maxHeartbeats 8000000 in
theorem c_MEntry_init (h0 : h y = some (.inr (14, [.int 0, .int 0, .int 0, .int 0, .int 0, .null, .int 0, .null, .null, .null, .null]))) (hsz : sz = y + 1) : on_Ct G M_MEntry_init [.ref y] h sz 13 236 (fun r h1 z => r = none ∧ z = y + 14 ∧ me_W y h1 ∧ on_sm y (y + 14) h h1) := by
  subst hsz
  refine on_Ct.of (by decide) v_MEntry_init (Nat.le_of_ble_eq_true rfl) ?_
  first | refine on_aload_n (pc' := 1) rfl rfl rfl rfl ?_ | refine on_aload_nQ (pc' := 1) rfl rfl rfl rfl ?_
  refine on_objInit (pc' := 4) rfl rfl oi_MEntry_1 w_ob1 w_ob2 (Nat.le_of_ble_eq_true rfl) (Nat.le_of_ble_eq_true rfl) ?_
  first | refine on_aload_n (pc' := 5) rfl rfl rfl rfl ?_ | refine on_aload_nQ (pc' := 5) rfl rfl rfl rfl ?_
  refine on_new (pc' := 8) (fs := [.null, .null, .null, .null, .long 0, .long 0]) rfl rfl nw_MEntry_7 (by intro j hj; match j, hj with | 0, _ => rfl | 1, _ => rfl | 2, _ => rfl | 3, _ => rfl | 4, _ => rfl | 5, _ => rfl | j + 6, hj => exact absurd hj (by omega)) (by omega) (by omega) ?_
  refine on_dup (pc' := 9) rfl rfl rfl ?_
  first | refine on_callI (pc' := 12) (As := []) (rest := [.ref (y + 1), .ref y]) (b := y + 1) rfl rfl cw_MEntry_init_9 rfl rfl (Nat.le_of_ble_eq_true rfl) (by omega) (by omega) (c_MLayer_init (on_up_eq _ _ _) rfl) ?_ | refine on_callIN (pc' := 12) (As := []) (rest := [.ref (y + 1), .ref y]) (b := y + 1) rfl rfl cw_MEntry_init_9 rfl rfl (Nat.le_of_ble_eq_true rfl) (by omega) (by omega) (c_MLayer_init (on_up_eq _ _ _) rfl) ?_
  rintro v h1 z ⟨rfl, rfl, S1, t1⟩
  have q1 : h1 y = some (.inr (14, [.int 0, .int 0, .int 0, .int 0, .int 0, .null, .int 0, .null, .null, .null, .null])) := (t1 y (by omega)).trans ((on_up_ne (by omega)).trans h0)
  show on_E G M_MEntry_init 12 _ [.ref (y + 1), .ref y] h1 (y + 1 + 9) _ _ _
  apply on_putF (pc' := 15) rfl rfl fp_MEntry_10 rfl
  · repeat (first | assumption | exact on_up_eq _ _ _ | refine (on_up_ne (by omega)).trans ?_)
  · first | rfl | assumption
  · first | rfl | assumption
  · exact Nat.le_of_ble_eq_true rfl
  first | refine on_aload_n (pc' := 16) rfl rfl rfl rfl ?_ | refine on_aload_nQ (pc' := 16) rfl rfl rfl rfl ?_
  refine on_iconst (pc' := 17) (v := 4) rfl rfl li_4 ?_
  refine on_newarray (pc' := 19) (t := 0) (N := 4) (ty := .int) (a0 := (4, .inl (fun _ => 0))) rfl rfl rfl rfl (fun _ _ _ h1 h2 => Option.some.inj (h1.symm.trans h2)) w_arint (fun _ => rfl) (by decide) (by decide) (by decide) (by omega) (by omega) ?_
  apply on_putF (pc' := 22) rfl rfl fp_MEntry_16 rfl
  · repeat (first | assumption | exact on_up_eq _ _ _ | refine (on_up_ne (by omega)).trans ?_)
  · first | rfl | assumption
  · first | rfl | assumption
  · exact Nat.le_of_ble_eq_true rfl
  first | refine on_aload_n (pc' := 23) rfl rfl rfl rfl ?_ | refine on_aload_nQ (pc' := 23) rfl rfl rfl rfl ?_
  refine on_iconst (pc' := 24) (v := 4) rfl rfl li_4 ?_
  refine on_newarray (pc' := 26) (t := 0) (N := 4) (ty := .int) (a0 := (4, .inl (fun _ => 0))) rfl rfl rfl rfl (fun _ _ _ h1 h2 => Option.some.inj (h1.symm.trans h2)) w_arint (fun _ => rfl) (by decide) (by decide) (by decide) (by omega) (by omega) ?_
  apply on_putF (pc' := 29) rfl rfl fp_MEntry_20 rfl
  · repeat (first | assumption | exact on_up_eq _ _ _ | refine (on_up_ne (by omega)).trans ?_)
  · first | rfl | assumption
  · first | rfl | assumption
  · exact Nat.le_of_ble_eq_true rfl
  first | refine on_aload_n (pc' := 30) rfl rfl rfl rfl ?_ | refine on_aload_nQ (pc' := 30) rfl rfl rfl rfl ?_
  refine on_iconst (pc' := 31) (v := 4) rfl rfl li_4 ?_
  refine on_newarray (pc' := 33) (t := 0) (N := 4) (ty := .int) (a0 := (4, .inl (fun _ => 0))) rfl rfl rfl rfl (fun _ _ _ h1 h2 => Option.some.inj (h1.symm.trans h2)) w_arint (fun _ => rfl) (by decide) (by decide) (by decide) (by omega) (by omega) ?_
  apply on_putF (pc' := 36) rfl rfl fp_MEntry_23 rfl
  · repeat (first | assumption | exact on_up_eq _ _ _ | refine (on_up_ne (by omega)).trans ?_)
  · first | rfl | assumption
  · first | rfl | assumption
  · exact Nat.le_of_ble_eq_true rfl
  first | refine on_aload_n (pc' := 37) rfl rfl rfl rfl ?_ | refine on_aload_nQ (pc' := 37) rfl rfl rfl rfl ?_
  refine on_iconst (pc' := 38) (v := 4) rfl rfl li_4 ?_
  refine on_newarray (pc' := 40) (t := 0) (N := 4) (ty := .int) (a0 := (4, .inl (fun _ => 0))) rfl rfl rfl rfl (fun _ _ _ h1 h2 => Option.some.inj (h1.symm.trans h2)) w_arint (fun _ => rfl) (by decide) (by decide) (by decide) (by omega) (by omega) ?_
  apply on_putF (pc' := 43) rfl rfl fp_MEntry_26 rfl
  · repeat (first | assumption | exact on_up_eq _ _ _ | refine (on_up_ne (by omega)).trans ?_)
  · first | rfl | assumption
  · first | rfl | assumption
  · exact Nat.le_of_ble_eq_true rfl
  refine on_vreturn rfl rfl ?_
  refine ⟨rfl, rfl, ⟨0, 0, 0, 0, 0, 0, (fun _ => 0), (fun _ => 0), (fun _ => 0), (fun _ => 0), ⟨on_up_eq _ _ _, ?_, ?_, ?_, ?_⟩, S1.keep (fun b b1 b2 => ?_)⟩, fun b hb => ?_⟩
  · repeat (first | assumption | exact on_up_eq _ _ _ | refine (on_up_ne (by omega)).trans ?_)
  · repeat (first | assumption | exact on_up_eq _ _ _ | refine (on_up_ne (by omega)).trans ?_)
  · repeat (first | assumption | exact on_up_eq _ _ _ | refine (on_up_ne (by omega)).trans ?_)
  · repeat (first | assumption | exact on_up_eq _ _ _ | refine (on_up_ne (by omega)).trans ?_)
  · repeat (first | assumption | exact on_up_eq _ _ _ | refine (on_up_ne (by omega)).trans ?_)
    all_goals rfl
  · refine Eq.trans (b := h1 b) ?_ ((t1 b (by omega)).trans (on_up_ne (by omega)))
    repeat (first | assumption | exact on_up_eq _ _ _ | refine (on_up_ne (by omega)).trans ?_)
    all_goals rfl
set_option maxHeartbeats 8000000 in
theorem c_MRelay_init (h0 : h a = some (.inr (15, [.long 0, .int 0, .null, .null, .null, .int 0, .int 0, .null, .int 0, .null, .int 0]))) (hsz : sz = a + 1) : on_Ct G M_MRelay_init [.ref a] h sz 5 2108 (fun r h1 z => r = none ∧ z = a + 6 ∧ h1 a = some (.inr (15, [.long 0, .int 0, .ref (a + 1), .ref (a + 2), .ref (a + 3), .int 0, .int 1000, .ref (a + 4), .int 0, .ref (a + 5), .int 0])) ∧ rW h1 (a + 1) 32 ∧ rW h1 (a + 2) 32 ∧ rW h1 (a + 3) 32 ∧ h1 (a + 4) = some (on_aq 11 12 (fun _ => none)) ∧ rW h1 (a + 5) 2000 ∧ on_sm a (a + 6) h h1) := by
  subst hsz
  refine on_Ct.of (by decide) v_MRelay_init (Nat.le_of_ble_eq_true rfl) ?_
  first | refine on_aload_n (pc' := 1) rfl rfl rfl rfl ?_ | refine on_aload_nQ (pc' := 1) rfl rfl rfl rfl ?_
  refine on_objInit (pc' := 4) rfl rfl oi_MRelay_1 w_ob1 w_ob2 (Nat.le_of_ble_eq_true rfl) (Nat.le_of_ble_eq_true rfl) ?_
  first | refine on_aload_n (pc' := 5) rfl rfl rfl rfl ?_ | refine on_aload_nQ (pc' := 5) rfl rfl rfl rfl ?_
  refine on_bipush (pc' := 7) (v := 32) rfl rfl lb_32 ?_
  refine on_newarray (pc' := 9) (t := 0) (N := 32) (ty := .int) (a0 := (32, .inl (fun _ => 0))) rfl rfl rfl rfl (fun _ _ _ h1 h2 => Option.some.inj (h1.symm.trans h2)) w_arint (fun _ => rfl) (by decide) (by decide) (by decide) (by omega) (by omega) ?_
  apply on_putF (pc' := 12) rfl rfl fp_MRelay_7 rfl
  · repeat (first | assumption | exact on_up_eq _ _ _ | refine (on_up_ne (by omega)).trans ?_)
  · first | rfl | assumption
  · first | rfl | assumption
  · exact Nat.le_of_ble_eq_true rfl
  first | refine on_aload_n (pc' := 13) rfl rfl rfl rfl ?_ | refine on_aload_nQ (pc' := 13) rfl rfl rfl rfl ?_
  refine on_bipush (pc' := 15) (v := 32) rfl rfl lb_32 ?_
  refine on_newarray (pc' := 17) (t := 0) (N := 32) (ty := .int) (a0 := (32, .inl (fun _ => 0))) rfl rfl rfl rfl (fun _ _ _ h1 h2 => Option.some.inj (h1.symm.trans h2)) w_arint (fun _ => rfl) (by decide) (by decide) (by decide) (by omega) (by omega) ?_
  apply on_putF (pc' := 20) rfl rfl fp_MRelay_13 rfl
  · repeat (first | assumption | exact on_up_eq _ _ _ | refine (on_up_ne (by omega)).trans ?_)
  · first | rfl | assumption
  · first | rfl | assumption
  · exact Nat.le_of_ble_eq_true rfl
  first | refine on_aload_n (pc' := 21) rfl rfl rfl rfl ?_ | refine on_aload_nQ (pc' := 21) rfl rfl rfl rfl ?_
  refine on_bipush (pc' := 23) (v := 32) rfl rfl lb_32 ?_
  refine on_newarray (pc' := 25) (t := 0) (N := 32) (ty := .int) (a0 := (32, .inl (fun _ => 0))) rfl rfl rfl rfl (fun _ _ _ h1 h2 => Option.some.inj (h1.symm.trans h2)) w_arint (fun _ => rfl) (by decide) (by decide) (by decide) (by omega) (by omega) ?_
  apply on_putF (pc' := 28) rfl rfl fp_MRelay_16 rfl
  · repeat (first | assumption | exact on_up_eq _ _ _ | refine (on_up_ne (by omega)).trans ?_)
  · first | rfl | assumption
  · first | rfl | assumption
  · exact Nat.le_of_ble_eq_true rfl
  first | refine on_aload_n (pc' := 29) rfl rfl rfl rfl ?_ | refine on_aload_nQ (pc' := 29) rfl rfl rfl rfl ?_
  refine on_sipush (pc' := 32) (v := 1000) rfl rfl ls_1000 ?_
  first | apply on_put (pc' := 35) rfl rfl fp_MRelay_19 | apply on_putN (pc' := 35) rfl rfl fp_MRelay_19
  · repeat (first | assumption | exact on_up_eq _ _ _ | refine (on_up_ne (by omega)).trans ?_)
  · first | rfl | assumption
  · first | rfl | assumption
  · exact Nat.le_of_ble_eq_true rfl
  first | refine on_aload_n (pc' := 36) rfl rfl rfl rfl ?_ | refine on_aload_nQ (pc' := 36) rfl rfl rfl rfl ?_
  refine on_bipush (pc' := 38) (v := 12) rfl rfl lb_12 ?_
  refine on_anewarray (pc' := 41) (t := 11) (N := 12) rfl rfl rfl an_MRelay_23.1 an_MRelay_23.2 (by first | decide | assumption) (by first | rfl | assumption) (by first | decide | omega) (by omega) (by omega) ?_
  apply on_putF (pc' := 44) rfl rfl fp_MRelay_25 rfl
  · repeat (first | assumption | exact on_up_eq _ _ _ | refine (on_up_ne (by omega)).trans ?_)
  · first | rfl | assumption
  · first | rfl | assumption
  · exact Nat.le_of_ble_eq_true rfl
  first | refine on_aload_n (pc' := 45) rfl rfl rfl rfl ?_ | refine on_aload_nQ (pc' := 45) rfl rfl rfl rfl ?_
  refine on_sipush (pc' := 48) (v := 2000) rfl rfl ls_2000 ?_
  refine on_newarray (pc' := 50) (t := 0) (N := 2000) (ty := .int) (a0 := (2000, .inl (fun _ => 0))) rfl rfl rfl rfl (fun _ _ _ h1 h2 => Option.some.inj (h1.symm.trans h2)) w_arint (fun _ => rfl) (by decide) (by decide) (by decide) (by omega) (by omega) ?_
  apply on_putF (pc' := 53) rfl rfl fp_MRelay_29 rfl
  · repeat (first | assumption | exact on_up_eq _ _ _ | refine (on_up_ne (by omega)).trans ?_)
  · first | rfl | assumption
  · first | rfl | assumption
  · exact Nat.le_of_ble_eq_true rfl
  refine on_vreturn rfl rfl ?_
  refine ⟨rfl, rfl, on_up_eq _ _ _, ⟨fun _ => 0, ?_⟩, ⟨fun _ => 0, ?_⟩, ⟨fun _ => 0, ?_⟩, ?_, ⟨fun _ => 0, ?_⟩, fun b hb => ?_⟩
  · repeat (first | assumption | exact on_up_eq _ _ _ | refine (on_up_ne (by omega)).trans ?_)
  · repeat (first | assumption | exact on_up_eq _ _ _ | refine (on_up_ne (by omega)).trans ?_)
  · repeat (first | assumption | exact on_up_eq _ _ _ | refine (on_up_ne (by omega)).trans ?_)
  · repeat (first | assumption | exact on_up_eq _ _ _ | refine (on_up_ne (by omega)).trans ?_)
  · repeat (first | assumption | exact on_up_eq _ _ _ | refine (on_up_ne (by omega)).trans ?_)
  · repeat (first | assumption | exact on_up_eq _ _ _ | refine (on_up_ne (by omega)).trans ?_)
    all_goals rfl
set_option maxHeartbeats 8000000 in
theorem c_MCircuit_init (h0 : h c = some (.inr (16, [.int 0, .int 0, .null, .int 0, .int 0, .int 0, .null, .null, .int 0, .null, .null, .null, .null, .null, .null, .null]))) (hsz : sz = c + 1) : on_Ct G M_MCircuit_init [.ref c] h sz 10 9658 (fun r h1 z => r = none ∧ z = c + 11 ∧ h1 c = some (.inr (16, [.int 0, .int 0, .ref (c + 1), .int 0, .int 0, .int 0, .ref (c + 2), .ref (c + 3), .int 0, .ref (c + 4), .ref (c + 5), .ref (c + 6), .ref (c + 7), .ref (c + 8), .ref (c + 9), .ref (c + 10)])) ∧ h1 (c + 1) = some (on_ai 0 3 (fun _ => 0)) ∧ h1 (c + 2) = some (on_aq 12 3 (fun _ => none)) ∧ rW h1 (c + 3) 32 ∧ h1 (c + 4) = some (on_ai 0 4 (fun _ => 0)) ∧ h1 (c + 5) = some (on_ai 0 4 (fun _ => 0)) ∧ h1 (c + 6) = some (on_ai 0 4 (fun _ => 0)) ∧ h1 (c + 7) = some (on_ai 0 1600 (fun _ => 0)) ∧ h1 (c + 8) = some (on_ai 0 4 (fun _ => 0)) ∧ h1 (c + 9) = some (on_ai 0 8000 (fun _ => 0)) ∧ h1 (c + 10) = some (on_ai 0 4 (fun _ => 0)) ∧ on_sm c (c + 11) h h1) := by
  subst hsz
  refine on_Ct.of (by decide) v_MCircuit_init (Nat.le_of_ble_eq_true rfl) ?_
  first | refine on_aload_n (pc' := 1) rfl rfl rfl rfl ?_ | refine on_aload_nQ (pc' := 1) rfl rfl rfl rfl ?_
  refine on_objInit (pc' := 4) rfl rfl oi_MCircuit_1 w_ob1 w_ob2 (Nat.le_of_ble_eq_true rfl) (Nat.le_of_ble_eq_true rfl) ?_
  first | refine on_aload_n (pc' := 5) rfl rfl rfl rfl ?_ | refine on_aload_nQ (pc' := 5) rfl rfl rfl rfl ?_
  refine on_iconst (pc' := 6) (v := 3) rfl rfl li_3 ?_
  refine on_newarray (pc' := 8) (t := 0) (N := 3) (ty := .int) (a0 := (3, .inl (fun _ => 0))) rfl rfl rfl rfl (fun _ _ _ h1 h2 => Option.some.inj (h1.symm.trans h2)) w_arint (fun _ => rfl) (by decide) (by decide) (by decide) (by omega) (by omega) ?_
  apply on_putF (pc' := 11) rfl rfl fp_MCircuit_7 rfl
  · repeat (first | assumption | exact on_up_eq _ _ _ | refine (on_up_ne (by omega)).trans ?_)
  · first | rfl | assumption
  · first | rfl | assumption
  · exact Nat.le_of_ble_eq_true rfl
  first | refine on_aload_n (pc' := 12) rfl rfl rfl rfl ?_ | refine on_aload_nQ (pc' := 12) rfl rfl rfl rfl ?_
  refine on_iconst (pc' := 13) (v := 3) rfl rfl li_3 ?_
  refine on_anewarray (pc' := 16) (t := 12) (N := 3) rfl rfl rfl an_MCircuit_13.1 an_MCircuit_13.2 (by first | decide | assumption) (by first | rfl | assumption) (by first | decide | omega) (by omega) (by omega) ?_
  apply on_putF (pc' := 19) rfl rfl fp_MCircuit_15 rfl
  · repeat (first | assumption | exact on_up_eq _ _ _ | refine (on_up_ne (by omega)).trans ?_)
  · first | rfl | assumption
  · first | rfl | assumption
  · exact Nat.le_of_ble_eq_true rfl
  first | refine on_aload_n (pc' := 20) rfl rfl rfl rfl ?_ | refine on_aload_nQ (pc' := 20) rfl rfl rfl rfl ?_
  refine on_bipush (pc' := 22) (v := 32) rfl rfl lb_32 ?_
  refine on_newarray (pc' := 24) (t := 0) (N := 32) (ty := .int) (a0 := (32, .inl (fun _ => 0))) rfl rfl rfl rfl (fun _ _ _ h1 h2 => Option.some.inj (h1.symm.trans h2)) w_arint (fun _ => rfl) (by decide) (by decide) (by decide) (by omega) (by omega) ?_
  apply on_putF (pc' := 27) rfl rfl fp_MCircuit_19 rfl
  · repeat (first | assumption | exact on_up_eq _ _ _ | refine (on_up_ne (by omega)).trans ?_)
  · first | rfl | assumption
  · first | rfl | assumption
  · exact Nat.le_of_ble_eq_true rfl
  first | refine on_aload_n (pc' := 28) rfl rfl rfl rfl ?_ | refine on_aload_nQ (pc' := 28) rfl rfl rfl rfl ?_
  refine on_iconst (pc' := 29) (v := 4) rfl rfl li_4 ?_
  refine on_newarray (pc' := 31) (t := 0) (N := 4) (ty := .int) (a0 := (4, .inl (fun _ => 0))) rfl rfl rfl rfl (fun _ _ _ h1 h2 => Option.some.inj (h1.symm.trans h2)) w_arint (fun _ => rfl) (by decide) (by decide) (by decide) (by omega) (by omega) ?_
  apply on_putF (pc' := 34) rfl rfl fp_MCircuit_22 rfl
  · repeat (first | assumption | exact on_up_eq _ _ _ | refine (on_up_ne (by omega)).trans ?_)
  · first | rfl | assumption
  · first | rfl | assumption
  · exact Nat.le_of_ble_eq_true rfl
  first | refine on_aload_n (pc' := 35) rfl rfl rfl rfl ?_ | refine on_aload_nQ (pc' := 35) rfl rfl rfl rfl ?_
  refine on_iconst (pc' := 36) (v := 4) rfl rfl li_4 ?_
  refine on_newarray (pc' := 38) (t := 0) (N := 4) (ty := .int) (a0 := (4, .inl (fun _ => 0))) rfl rfl rfl rfl (fun _ _ _ h1 h2 => Option.some.inj (h1.symm.trans h2)) w_arint (fun _ => rfl) (by decide) (by decide) (by decide) (by omega) (by omega) ?_
  apply on_putF (pc' := 41) rfl rfl fp_MCircuit_25 rfl
  · repeat (first | assumption | exact on_up_eq _ _ _ | refine (on_up_ne (by omega)).trans ?_)
  · first | rfl | assumption
  · first | rfl | assumption
  · exact Nat.le_of_ble_eq_true rfl
  first | refine on_aload_n (pc' := 42) rfl rfl rfl rfl ?_ | refine on_aload_nQ (pc' := 42) rfl rfl rfl rfl ?_
  refine on_iconst (pc' := 43) (v := 4) rfl rfl li_4 ?_
  refine on_newarray (pc' := 45) (t := 0) (N := 4) (ty := .int) (a0 := (4, .inl (fun _ => 0))) rfl rfl rfl rfl (fun _ _ _ h1 h2 => Option.some.inj (h1.symm.trans h2)) w_arint (fun _ => rfl) (by decide) (by decide) (by decide) (by omega) (by omega) ?_
  apply on_putF (pc' := 48) rfl rfl fp_MCircuit_28 rfl
  · repeat (first | assumption | exact on_up_eq _ _ _ | refine (on_up_ne (by omega)).trans ?_)
  · first | rfl | assumption
  · first | rfl | assumption
  · exact Nat.le_of_ble_eq_true rfl
  first | refine on_aload_n (pc' := 49) rfl rfl rfl rfl ?_ | refine on_aload_nQ (pc' := 49) rfl rfl rfl rfl ?_
  refine on_sipush (pc' := 52) (v := 1600) rfl rfl ls_1600 ?_
  refine on_newarray (pc' := 54) (t := 0) (N := 1600) (ty := .int) (a0 := (1600, .inl (fun _ => 0))) rfl rfl rfl rfl (fun _ _ _ h1 h2 => Option.some.inj (h1.symm.trans h2)) w_arint (fun _ => rfl) (by decide) (by decide) (by decide) (by omega) (by omega) ?_
  apply on_putF (pc' := 57) rfl rfl fp_MCircuit_31 rfl
  · repeat (first | assumption | exact on_up_eq _ _ _ | refine (on_up_ne (by omega)).trans ?_)
  · first | rfl | assumption
  · first | rfl | assumption
  · exact Nat.le_of_ble_eq_true rfl
  first | refine on_aload_n (pc' := 58) rfl rfl rfl rfl ?_ | refine on_aload_nQ (pc' := 58) rfl rfl rfl rfl ?_
  refine on_iconst (pc' := 59) (v := 4) rfl rfl li_4 ?_
  refine on_newarray (pc' := 61) (t := 0) (N := 4) (ty := .int) (a0 := (4, .inl (fun _ => 0))) rfl rfl rfl rfl (fun _ _ _ h1 h2 => Option.some.inj (h1.symm.trans h2)) w_arint (fun _ => rfl) (by decide) (by decide) (by decide) (by omega) (by omega) ?_
  apply on_putF (pc' := 64) rfl rfl fp_MCircuit_34 rfl
  · repeat (first | assumption | exact on_up_eq _ _ _ | refine (on_up_ne (by omega)).trans ?_)
  · first | rfl | assumption
  · first | rfl | assumption
  · exact Nat.le_of_ble_eq_true rfl
  first | refine on_aload_n (pc' := 65) rfl rfl rfl rfl ?_ | refine on_aload_nQ (pc' := 65) rfl rfl rfl rfl ?_
  refine on_sipush (pc' := 68) (v := 8000) rfl rfl ls_8000 ?_
  refine on_newarray (pc' := 70) (t := 0) (N := 8000) (ty := .int) (a0 := (8000, .inl (fun _ => 0))) rfl rfl rfl rfl (fun _ _ _ h1 h2 => Option.some.inj (h1.symm.trans h2)) w_arint (fun _ => rfl) (by decide) (by decide) (by decide) (by omega) (by omega) ?_
  apply on_putF (pc' := 73) rfl rfl fp_MCircuit_37 rfl
  · repeat (first | assumption | exact on_up_eq _ _ _ | refine (on_up_ne (by omega)).trans ?_)
  · first | rfl | assumption
  · first | rfl | assumption
  · exact Nat.le_of_ble_eq_true rfl
  first | refine on_aload_n (pc' := 74) rfl rfl rfl rfl ?_ | refine on_aload_nQ (pc' := 74) rfl rfl rfl rfl ?_
  refine on_iconst (pc' := 75) (v := 4) rfl rfl li_4 ?_
  refine on_newarray (pc' := 77) (t := 0) (N := 4) (ty := .int) (a0 := (4, .inl (fun _ => 0))) rfl rfl rfl rfl (fun _ _ _ h1 h2 => Option.some.inj (h1.symm.trans h2)) w_arint (fun _ => rfl) (by decide) (by decide) (by decide) (by omega) (by omega) ?_
  apply on_putF (pc' := 80) rfl rfl fp_MCircuit_40 rfl
  · repeat (first | assumption | exact on_up_eq _ _ _ | refine (on_up_ne (by omega)).trans ?_)
  · first | rfl | assumption
  · first | rfl | assumption
  · exact Nat.le_of_ble_eq_true rfl
  refine on_vreturn rfl rfl ?_
  refine ⟨rfl, rfl, on_up_eq _ _ _, ?_, ?_, ⟨fun _ => 0, ?_⟩, ?_, ?_, ?_, ?_, ?_, ?_, ?_, fun b hb => ?_⟩
  · repeat (first | assumption | exact on_up_eq _ _ _ | refine (on_up_ne (by omega)).trans ?_)
  · repeat (first | assumption | exact on_up_eq _ _ _ | refine (on_up_ne (by omega)).trans ?_)
  · repeat (first | assumption | exact on_up_eq _ _ _ | refine (on_up_ne (by omega)).trans ?_)
  · repeat (first | assumption | exact on_up_eq _ _ _ | refine (on_up_ne (by omega)).trans ?_)
  · repeat (first | assumption | exact on_up_eq _ _ _ | refine (on_up_ne (by omega)).trans ?_)
  · repeat (first | assumption | exact on_up_eq _ _ _ | refine (on_up_ne (by omega)).trans ?_)
  · repeat (first | assumption | exact on_up_eq _ _ _ | refine (on_up_ne (by omega)).trans ?_)
  · repeat (first | assumption | exact on_up_eq _ _ _ | refine (on_up_ne (by omega)).trans ?_)
  · repeat (first | assumption | exact on_up_eq _ _ _ | refine (on_up_ne (by omega)).trans ?_)
  · repeat (first | assumption | exact on_up_eq _ _ _ | refine (on_up_ne (by omega)).trans ?_)
  · repeat (first | assumption | exact on_up_eq _ _ _ | refine (on_up_ne (by omega)).trans ?_)
    all_goals rfl
end MIN
