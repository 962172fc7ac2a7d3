/-! Entry and Relay are made -/
section RIN
variable {G : on_G} {e tr a ot hs sz bc bs : Nat} {h : on_H} {Q : Option Value → on_H → Nat → Prop}
set_option maxHeartbeats 8000000 in
/-- new Entry -/
theorem c_Entry_init (h0 : h e = some (.inr (7, [.null, .null, .null, .null, .null, .null, .int 0, .int 0, .int 0, .int 0, .int 0, .int 0, .int 0]))) (hsz : sz = e + 1) :
    on_Ct G M_Entry_init [.ref e, .ref tr] h sz 20 436 (fun r h1 z => r = none ∧ z = e + 21 ∧ en_N e tr h1 ∧ on_sm e (e + 21) h h1) := by
  subst hsz
  refine on_Ct.of (by decide) v_Entry_init (Nat.le_of_ble_eq_true rfl) ?_
  first | refine on_aload_n (pc' := 1) rfl rfl rfl rfl ?_ | refine on_aload_nQ (pc' := 1) rfl rfl rfl rfl ?_
  refine on_objInit (pc' := 4) rfl rfl oi_Entry_3 w_ob1 w_ob2 (Nat.le_of_ble_eq_true rfl) (Nat.le_of_ble_eq_true rfl) ?_
  first | refine on_aload_n (pc' := 5) rfl rfl rfl rfl ?_ | refine on_aload_nQ (pc' := 5) rfl rfl rfl rfl ?_
  refine on_iconst (pc' := 6) (v := 4) rfl rfl li_4 ?_
  refine on_newarray (pc' := 8) (t := 0) (N := 4) (ty := .int) (a0 := (4, .inl (fun _ => 0))) rfl rfl rfl rfl (fun _ _ _ h1 h2 => Option.some.inj (h1.symm.trans h2)) w_arint (fun _ => rfl) (by decide) (by decide) (by decide) (by omega) (by omega) ?_
  apply on_putF (pc' := 11) rfl rfl fp_Entry_9 rfl
  · repeat (first | assumption | exact on_up_eq _ _ _ | refine (on_up_ne (by omega)).trans ?_)
  · first | rfl | assumption
  · first | rfl | assumption
  · exact Nat.le_of_ble_eq_true rfl
  first | refine on_aload_n (pc' := 12) rfl rfl rfl rfl ?_ | refine on_aload_nQ (pc' := 12) rfl rfl rfl rfl ?_
  refine on_iconst (pc' := 13) (v := 4) rfl rfl li_4 ?_
  refine on_newarray (pc' := 15) (t := 0) (N := 4) (ty := .int) (a0 := (4, .inl (fun _ => 0))) rfl rfl rfl rfl (fun _ _ _ h1 h2 => Option.some.inj (h1.symm.trans h2)) w_arint (fun _ => rfl) (by decide) (by decide) (by decide) (by omega) (by omega) ?_
  apply on_putF (pc' := 18) rfl rfl fp_Entry_15 rfl
  · repeat (first | assumption | exact on_up_eq _ _ _ | refine (on_up_ne (by omega)).trans ?_)
  · first | rfl | assumption
  · first | rfl | assumption
  · exact Nat.le_of_ble_eq_true rfl
  first | refine on_aload_n (pc' := 19) rfl rfl rfl rfl ?_ | refine on_aload_nQ (pc' := 19) rfl rfl rfl rfl ?_
  refine on_iconst (pc' := 20) (v := 4) rfl rfl li_4 ?_
  refine on_newarray (pc' := 22) (t := 0) (N := 4) (ty := .int) (a0 := (4, .inl (fun _ => 0))) rfl rfl rfl rfl (fun _ _ _ h1 h2 => Option.some.inj (h1.symm.trans h2)) w_arint (fun _ => rfl) (by decide) (by decide) (by decide) (by omega) (by omega) ?_
  apply on_putF (pc' := 25) rfl rfl fp_Entry_18 rfl
  · repeat (first | assumption | exact on_up_eq _ _ _ | refine (on_up_ne (by omega)).trans ?_)
  · first | rfl | assumption
  · first | rfl | assumption
  · exact Nat.le_of_ble_eq_true rfl
  first | refine on_aload_n (pc' := 26) rfl rfl rfl rfl ?_ | refine on_aload_nQ (pc' := 26) rfl rfl rfl rfl ?_
  refine on_iconst (pc' := 27) (v := 4) rfl rfl li_4 ?_
  refine on_newarray (pc' := 29) (t := 0) (N := 4) (ty := .int) (a0 := (4, .inl (fun _ => 0))) rfl rfl rfl rfl (fun _ _ _ h1 h2 => Option.some.inj (h1.symm.trans h2)) w_arint (fun _ => rfl) (by decide) (by decide) (by decide) (by omega) (by omega) ?_
  apply on_putF (pc' := 32) rfl rfl fp_Entry_21 rfl
  · repeat (first | assumption | exact on_up_eq _ _ _ | refine (on_up_ne (by omega)).trans ?_)
  · first | rfl | assumption
  · first | rfl | assumption
  · exact Nat.le_of_ble_eq_true rfl
  first | refine on_aload_n (pc' := 33) rfl rfl rfl rfl ?_ | refine on_aload_nQ (pc' := 33) rfl rfl rfl rfl ?_
  refine on_new (pc' := 36) (fs := [.null, .null, .null, .null, .null, .null, .int 0]) rfl rfl nw_Entry_24 (by intro j hj; match j, hj with | 0, _ => rfl | 1, _ => rfl | 2, _ => rfl | 3, _ => rfl | 4, _ => rfl | 5, _ => rfl | 6, _ => rfl | j + 7, hj => exact absurd hj (by omega)) (by omega) (by omega) ?_
  refine on_dup (pc' := 37) rfl rfl rfl ?_
  first | refine on_aload_n (pc' := 38) rfl rfl rfl rfl ?_ | refine on_aload_nQ (pc' := 38) rfl rfl rfl rfl ?_
  refine on_callI (pc' := 41) (As := [.ref tr]) (rest := [.ref (e + 5), .ref e]) (b := e + 5) rfl rfl cw_Entry_init_26 rfl rfl (Nat.le_of_ble_eq_true rfl) (by omega) (by omega) (c_Lane_init (on_up_eq _ _ _) rfl) ?_
  rintro r h1 z ⟨rfl, rfl, L1, t1⟩
  have k0 : h1 e = some (.inr (7, [.null, .null, .ref (e + 1), .ref (e + 2), .ref (e + 3), .ref (e + 4), .int 0, .int 0, .int 0, .int 0, .int 0, .int 0, .int 0])) := (t1 _ (by omega)).trans ((on_up_ne (by omega)).trans (on_up_eq _ _ _))
  have k1 : h1 (e + 1) = some (on_ai 0 4 (fun _ => 0)) := (t1 _ (by omega)).trans (by repeat (first | assumption | exact on_up_eq _ _ _ | refine (on_up_ne (by omega)).trans ?_))
  have k2 : h1 (e + 2) = some (on_ai 0 4 (fun _ => 0)) := (t1 _ (by omega)).trans (by repeat (first | assumption | exact on_up_eq _ _ _ | refine (on_up_ne (by omega)).trans ?_))
  have k3 : h1 (e + 3) = some (on_ai 0 4 (fun _ => 0)) := (t1 _ (by omega)).trans (by repeat (first | assumption | exact on_up_eq _ _ _ | refine (on_up_ne (by omega)).trans ?_))
  have k4 : h1 (e + 4) = some (on_ai 0 4 (fun _ => 0)) := (t1 _ (by omega)).trans (by repeat (first | assumption | exact on_up_eq _ _ _ | refine (on_up_ne (by omega)).trans ?_))
  have u1 : ∀ x, (x < e ∨ e + 21 ≤ x) → h1 x = h x := fun x hx => by
    refine (t1 _ (by omega)).trans ?_
    repeat (first | assumption | exact on_up_eq _ _ _ | refine (on_up_ne (by omega)).trans ?_)
    all_goals rfl
  clear t1
  show on_E G M_Entry_init 41 _ [.ref (e + 5), .ref e] h1 (e + 13) 8 210 _
  apply on_putF (pc' := 44) rfl rfl fp_Entry_29 rfl
  · repeat (first | assumption | exact on_up_eq _ _ _ | refine (on_up_ne (by omega)).trans ?_)
  · first | rfl | assumption
  · first | rfl | assumption
  · exact Nat.le_of_ble_eq_true rfl
  first | refine on_aload_n (pc' := 45) rfl rfl rfl rfl ?_ | refine on_aload_nQ (pc' := 45) rfl rfl rfl rfl ?_
  refine on_new (pc' := 48) (fs := [.null, .null, .null, .null, .null, .null, .int 0]) rfl rfl nw_Entry_24 (by intro j hj; match j, hj with | 0, _ => rfl | 1, _ => rfl | 2, _ => rfl | 3, _ => rfl | 4, _ => rfl | 5, _ => rfl | 6, _ => rfl | j + 7, hj => exact absurd hj (by omega)) (by omega) (by omega) ?_
  refine on_dup (pc' := 49) rfl rfl rfl ?_
  first | refine on_aload_n (pc' := 50) rfl rfl rfl rfl ?_ | refine on_aload_nQ (pc' := 50) rfl rfl rfl rfl ?_
  refine on_callI (pc' := 53) (As := [.ref tr]) (rest := [.ref (e + 13), .ref e]) (b := e + 13) rfl rfl cw_Entry_init_26 rfl rfl (Nat.le_of_ble_eq_true rfl) (by omega) (by omega) (c_Lane_init (on_up_eq _ _ _) rfl) ?_
  rintro r h2 z ⟨rfl, rfl, L2, t2⟩
  have g : ∀ x, x ≠ e → x ≠ e + 13 → (x < e + 13 ∨ e + 21 ≤ x) → h2 x = h1 x := fun x x1 x2 x3 => (t2 _ (by omega)).trans ((on_up_ne x2).trans (on_up_ne x1))
  have k5 : h2 e = some (.inr (7, [.ref (e + 5), .null, .ref (e + 1), .ref (e + 2), .ref (e + 3), .ref (e + 4), .int 0, .int 0, .int 0, .int 0, .int 0, .int 0, .int 0])) := (t2 _ (by omega)).trans ((on_up_ne (by omega)).trans (on_up_eq _ _ _))
  show on_E G M_Entry_init 53 _ [.ref (e + 13), .ref e] h2 (e + 21) 0 0 _
  apply on_putF (pc' := 56) rfl rfl fp_Entry_33 rfl
  · repeat (first | assumption | exact on_up_eq _ _ _ | refine (on_up_ne (by omega)).trans ?_)
  · first | rfl | assumption
  · first | rfl | assumption
  · exact Nat.le_of_ble_eq_true rfl
  refine on_vreturn rfl rfl ?_
  refine ⟨rfl, rfl, ⟨0, 0, 0, 0, 0, 0, fun _ => 0, fun _ => 0, fun _ => 0, fun _ => 0, ⟨on_up_eq _ _ _, ?_, ?_, ?_, ?_⟩, L1.keep (fun x h1 h2 => (on_up_ne (by omega)).trans (g x (by omega) (by omega) (by omega))), L2.keep (fun x h1 h2 => on_up_ne (by omega))⟩, fun x hx => ?_⟩
  · exact (on_up_ne (by omega)).trans ((g _ (by omega) (by omega) (by omega)).trans k1)
  · exact (on_up_ne (by omega)).trans ((g _ (by omega) (by omega) (by omega)).trans k2)
  · exact (on_up_ne (by omega)).trans ((g _ (by omega) (by omega) (by omega)).trans k3)
  · exact (on_up_ne (by omega)).trans ((g _ (by omega) (by omega) (by omega)).trans k4)
  · exact (on_up_ne (by omega)).trans ((g _ (by omega) (by omega) (by omega)).trans (u1 x hx))
/-- the row of entries, i of them made -/
def re_f (a i : Nat) : Nat → Option Nat := fun j => if j < i then some (a + 8 + 21 * j) else none
set_option maxHeartbeats 8000000 in
theorem rin_l (ho : h a = some (.inr (8, [.ref (a + 1), .ref ot, .ref hs, .ref (a + 3), .ref (a + 4), .ref (a + 5), .ref (a + 6), .ref (a + 7), .int 0, .int 10]))) (hh : h hs = some (.inr (3, hk_f hs))) (hah : hs + 29 ≤ a)
    (k : ∀ h2, h2 (a + 6) = some (on_aq 5 12 (re_f a 12)) → (∀ j, j < 12 → en_N (a + 8 + 21 * j) (hs + 4) h2) → (∀ x, x ≠ a + 6 → (x < a + 8 ∨ a + 260 ≤ x) → h2 x = h x) → on_E G M_Relay_init 101 (on_l []) [] h2 (a + 260) 0 0 Q) :
    ∀ (m i : Nat) (h1 : on_H), i + m = 12 → h1 (a + 6) = some (on_aq 5 12 (re_f a i)) → (∀ j, j < i → en_N (a + 8 + 21 * j) (hs + 4) h1) → (∀ x, x ≠ a + 6 → (x < a + 8 ∨ a + 260 ≤ x) → h1 x = h x) → on_E G M_Relay_init 70 (on_l [(0, .ref a), (3, .ref hs), (4, .int (nI i))]) [] h1 (a + 8 + 21 * i) (21 * m) (449 * m) Q := by
  intro m
  induction m with
  | zero =>
    intro i h1 hi h6 hE hs1
    obtain rfl : i = 12 := by omega
    refine on_iload (pc' := 72) rfl rfl rfl ?_
    refine on_bipush (pc' := 74) (v := 12) rfl rfl lb_12 ?_
    refine on_icmp_ge (pc' := 77) (tgt := 101) rfl rfl rfl (fun cq => ?_) (fun cq => ?_)
    · exact on_relv (l := []) trivial (k h1 h6 hE hs1)
    · exact absurd (nI_le (a := 12) (by omega) (by omega)) cq
  | succ m ih =>
    intro i h1 hi h6 hE hs1
    have i12 : i < 12 ∧ 12 < 2 ^ 31 := by omega
    have o1 := (hs1 a (by omega) (by omega)).trans ho
    have g1 := (hs1 hs (by omega) (by omega)).trans hh
    refine on_iload (pc' := 72) rfl rfl rfl ?_
    refine on_bipush (pc' := 74) (v := 12) rfl rfl lb_12 ?_
    refine on_icmp_ge (pc' := 77) (tgt := 101) rfl rfl rfl (fun cq => ?_) (fun cq => ?_)
    · exact absurd cq (nI_ge (b := 12) (by omega) (by omega))
    · first | refine on_aload_n (pc' := 78) rfl rfl rfl rfl ?_ | refine on_aload_nQ (pc' := 78) rfl rfl rfl rfl ?_
      first | apply on_get (pc' := 81) rfl rfl fl_Relay_23 | apply on_getN (pc' := 81) rfl rfl fl_Relay_23
      · repeat (first | assumption | exact on_up_eq _ _ _ | refine (on_up_ne (by omega)).trans ?_)
      · rfl
      refine on_iload (pc' := 83) rfl rfl rfl ?_
      refine on_new (pc' := 86) (fs := [.null, .null, .null, .null, .null, .null, .int 0, .int 0, .int 0, .int 0, .int 0, .int 0, .int 0]) rfl rfl nw_Relay_21 (by intro j hj; match j, hj with | 0, _ => rfl | 1, _ => rfl | 2, _ => rfl | 3, _ => rfl | 4, _ => rfl | 5, _ => rfl | 6, _ => rfl | 7, _ => rfl | 8, _ => rfl | 9, _ => rfl | 10, _ => rfl | 11, _ => rfl | 12, _ => rfl | j + 13, hj => exact absurd hj (by omega)) (by omega) (by omega) ?_
      refine on_dup (pc' := 87) rfl rfl rfl ?_
      first | refine on_aload_n (pc' := 88) rfl rfl rfl rfl ?_ | refine on_aload_nQ (pc' := 88) rfl rfl rfl rfl ?_
      first | apply on_get (pc' := 91) rfl rfl fl_Relay_46 | apply on_getN (pc' := 91) rfl rfl fl_Relay_46
      · repeat (first | assumption | exact on_up_eq _ _ _ | refine (on_up_ne (by omega)).trans ?_)
      · rfl
      refine on_callI (pc' := 94) (As := [.ref (hs + 4)]) (rest := [.ref (a + 8 + 21 * i), .int (nI i), .ref (a + 6)]) (b := a + 8 + 21 * i) rfl rfl cw_Relay_init_52 rfl rfl (Nat.le_of_ble_eq_true rfl) (by omega) (by omega) (c_Entry_init (on_up_eq _ _ _) rfl) ?_
      rintro r h2 z ⟨rfl, rfl, N2, t2⟩
      have f6 : h2 (a + 6) = some (on_aq 5 12 (re_f a i)) := (t2 _ (by omega)).trans ((on_up_ne (by omega)).trans h6)
      obtain ⟨sc, fr, fn, on_, onn, wt, S, V, W, C, ⟨b0, -⟩, -⟩ := id N2
      apply on_aastoreK (pc' := 95) rfl rfl
      · repeat (first | assumption | exact on_up_eq _ _ _ | refine (on_up_ne (by omega)).trans ?_)
      rotate_left 2
      · repeat (first | assumption | exact on_up_eq _ _ _ | refine (on_up_ne (by omega)).trans ?_)
      rotate_right 2
      · rfl
      · rfl
      · first | assumption | exact on_lit _ | rfl
      · first | assumption | omega | decide
      refine on_iinc1 (pc' := 98) rfl rfl rfl ?_
      refine on_goto (tgt := 70) rfl rfl ?_
      refine on_relv (l := [(0, .ref a), (3, .ref hs), (4, .int (nI (i + 1)))]) ⟨rfl, rfl, congrArg some (congrArg Value.int (nI_1 i)), trivial⟩ ?_
      have z := ih (i + 1) (on_up h2 (a + 6) (on_aq 5 12 (va_up (re_f a i) i (some (a + 8 + 21 * i))))) (by omega) ?_ (fun j hj => ?_) (fun x x1 x2 => ?_)
      · rw [show a + 8 + 21 * (i + 1) = a + 8 + 21 * i + 21 by omega] at z
        rw [show 21 * (m + 1) - 1 - 20 = 21 * m by omega, show 449 * (m + 1) - 13 - 436 = 449 * m by omega]
        exact z
      · rw [on_up_eq]
        refine congrArg some (congrArg (on_aq 5 12) (funext fun j => ?_))
        unfold re_f va_up
        by_cases e1 : j = i
        · subst e1; rw [if_pos rfl, if_pos (by omega)]
        · rw [if_neg e1]
          dsimp only
          by_cases e2 : j < i
          · rw [if_pos e2, if_pos (by omega)]
          · rw [if_neg e2, if_neg (by omega)]
      · by_cases e1 : j = i
        · subst e1
          exact N2.keep (fun x h1 h2 => on_up_ne (by omega))
        · exact (hE j (by omega)).keep (fun x h1 h2 => (on_up_ne (by omega)).trans ((t2 x (by omega)).trans (on_up_ne (by omega))))
      · exact (on_up_ne x1).trans ((t2 x (by omega)).trans ((on_up_ne (by omega)).trans (hs1 x x1 x2)))
set_option maxHeartbeats 8000000 in
/-- new Relay -/
theorem c_Relay_init (h0 : h a = some (.inr (8, [.null, .null, .null, .null, .null, .null, .null, .null, .int 0, .int 0]))) (hh : h hs = some (.inr (3, hk_f hs))) (hah : hs + 29 ≤ a) (hsz : sz = a + 3) :
    on_Ct G M_Relay_init [.ref a, .ref (a + 1), .ref ot, .ref hs] h sz 257 7500 (fun r h1 z => r = none ∧ z = a + 260 ∧ rl_O a ot hs 0 10 h1 ∧ rW h1 (a + 3) 32 ∧ rW h1 (a + 4) 32 ∧ rW h1 (a + 5) 36 ∧ h1 (a + 6) = some (on_aq 5 12 (re_f a 12)) ∧ rW h1 (a + 7) 2000 ∧ (∀ j, j < 12 → en_N (a + 8 + 21 * j) (hs + 4) h1) ∧ ∀ x, (x < a ∨ a + 260 ≤ x ∨ x = a + 1 ∨ x = a + 2) → h1 x = h x) := by
  subst hsz
  refine on_Ct.of (by decide) v_Relay_init (Nat.le_of_ble_eq_true rfl) ?_
  first | refine on_aload_n (pc' := 1) rfl rfl rfl rfl ?_ | refine on_aload_nQ (pc' := 1) rfl rfl rfl rfl ?_
  refine on_objInit (pc' := 4) rfl rfl oi_Relay_3 w_ob1 w_ob2 (Nat.le_of_ble_eq_true rfl) (Nat.le_of_ble_eq_true rfl) ?_
  first | refine on_aload_n (pc' := 5) rfl rfl rfl rfl ?_ | refine on_aload_nQ (pc' := 5) rfl rfl rfl rfl ?_
  refine on_bipush (pc' := 7) (v := 32) rfl rfl lb_32 ?_
  refine on_newarray (pc' := 9) (t := 0) (N := 32) (ty := .int) (a0 := (32, .inl (fun _ => 0))) rfl rfl rfl rfl (fun _ _ _ h1 h2 => Option.some.inj (h1.symm.trans h2)) w_arint (fun _ => rfl) (by decide) (by decide) (by decide) (by omega) (by omega) ?_
  apply on_putF (pc' := 12) rfl rfl fp_Relay_9 rfl
  · repeat (first | assumption | exact on_up_eq _ _ _ | refine (on_up_ne (by omega)).trans ?_)
  · first | rfl | assumption
  · first | rfl | assumption
  · exact Nat.le_of_ble_eq_true rfl
  first | refine on_aload_n (pc' := 13) rfl rfl rfl rfl ?_ | refine on_aload_nQ (pc' := 13) rfl rfl rfl rfl ?_
  refine on_bipush (pc' := 15) (v := 32) rfl rfl lb_32 ?_
  refine on_newarray (pc' := 17) (t := 0) (N := 32) (ty := .int) (a0 := (32, .inl (fun _ => 0))) rfl rfl rfl rfl (fun _ _ _ h1 h2 => Option.some.inj (h1.symm.trans h2)) w_arint (fun _ => rfl) (by decide) (by decide) (by decide) (by omega) (by omega) ?_
  apply on_putF (pc' := 20) rfl rfl fp_Relay_15 rfl
  · repeat (first | assumption | exact on_up_eq _ _ _ | refine (on_up_ne (by omega)).trans ?_)
  · first | rfl | assumption
  · first | rfl | assumption
  · exact Nat.le_of_ble_eq_true rfl
  first | refine on_aload_n (pc' := 21) rfl rfl rfl rfl ?_ | refine on_aload_nQ (pc' := 21) rfl rfl rfl rfl ?_
  refine on_bipush (pc' := 23) (v := 36) rfl rfl lb_36 ?_
  refine on_newarray (pc' := 25) (t := 0) (N := 36) (ty := .int) (a0 := (36, .inl (fun _ => 0))) rfl rfl rfl rfl (fun _ _ _ h1 h2 => Option.some.inj (h1.symm.trans h2)) w_arint (fun _ => rfl) (by decide) (by decide) (by decide) (by omega) (by omega) ?_
  apply on_putF (pc' := 28) rfl rfl fp_Relay_18 rfl
  · repeat (first | assumption | exact on_up_eq _ _ _ | refine (on_up_ne (by omega)).trans ?_)
  · first | rfl | assumption
  · first | rfl | assumption
  · exact Nat.le_of_ble_eq_true rfl
  first | refine on_aload_n (pc' := 29) rfl rfl rfl rfl ?_ | refine on_aload_nQ (pc' := 29) rfl rfl rfl rfl ?_
  refine on_bipush (pc' := 31) (v := 12) rfl rfl lb_12 ?_
  refine on_anewarray (pc' := 34) (t := 5) (N := 12) rfl rfl rfl an_Relay_21.1 an_Relay_21.2 (by first | decide | assumption) (by first | rfl | assumption) (by first | decide | omega) (by omega) (by omega) ?_
  apply on_putF (pc' := 37) rfl rfl fp_Relay_23 rfl
  · repeat (first | assumption | exact on_up_eq _ _ _ | refine (on_up_ne (by omega)).trans ?_)
  · first | rfl | assumption
  · first | rfl | assumption
  · exact Nat.le_of_ble_eq_true rfl
  first | refine on_aload_n (pc' := 38) rfl rfl rfl rfl ?_ | refine on_aload_nQ (pc' := 38) rfl rfl rfl rfl ?_
  refine on_sipush (pc' := 41) (v := 2000) rfl rfl ls_2000 ?_
  refine on_newarray (pc' := 43) (t := 0) (N := 2000) (ty := .int) (a0 := (2000, .inl (fun _ => 0))) rfl rfl rfl rfl (fun _ _ _ h1 h2 => Option.some.inj (h1.symm.trans h2)) w_arint (fun _ => rfl) (by decide) (by decide) (by decide) (by omega) (by omega) ?_
  apply on_putF (pc' := 46) rfl rfl fp_Relay_27 rfl
  · repeat (first | assumption | exact on_up_eq _ _ _ | refine (on_up_ne (by omega)).trans ?_)
  · first | rfl | assumption
  · first | rfl | assumption
  · exact Nat.le_of_ble_eq_true rfl
  first | refine on_aload_n (pc' := 47) rfl rfl rfl rfl ?_ | refine on_aload_nQ (pc' := 47) rfl rfl rfl rfl ?_
  refine on_bipush (pc' := 49) (v := 10) rfl rfl lb_10 ?_
  first | apply on_put (pc' := 52) rfl rfl fp_Relay_30 | apply on_putN (pc' := 52) rfl rfl fp_Relay_30
  · repeat (first | assumption | exact on_up_eq _ _ _ | refine (on_up_ne (by omega)).trans ?_)
  · first | rfl | assumption
  · first | rfl | assumption
  · exact Nat.le_of_ble_eq_true rfl
  first | refine on_aload_n (pc' := 53) rfl rfl rfl rfl ?_ | refine on_aload_nQ (pc' := 53) rfl rfl rfl rfl ?_
  first | refine on_aload_n (pc' := 54) rfl rfl rfl rfl ?_ | refine on_aload_nQ (pc' := 54) rfl rfl rfl rfl ?_
  apply on_putF (pc' := 57) rfl rfl fp_Relay_34 rfl
  · repeat (first | assumption | exact on_up_eq _ _ _ | refine (on_up_ne (by omega)).trans ?_)
  · first | rfl | assumption
  · first | rfl | assumption
  · exact Nat.le_of_ble_eq_true rfl
  first | refine on_aload_n (pc' := 58) rfl rfl rfl rfl ?_ | refine on_aload_nQ (pc' := 58) rfl rfl rfl rfl ?_
  first | refine on_aload_n (pc' := 59) rfl rfl rfl rfl ?_ | refine on_aload_nQ (pc' := 59) rfl rfl rfl rfl ?_
  apply on_putF (pc' := 62) rfl rfl fp_Relay_38 rfl
  · repeat (first | assumption | exact on_up_eq _ _ _ | refine (on_up_ne (by omega)).trans ?_)
  · first | rfl | assumption
  · first | rfl | assumption
  · exact Nat.le_of_ble_eq_true rfl
  first | refine on_aload_n (pc' := 63) rfl rfl rfl rfl ?_ | refine on_aload_nQ (pc' := 63) rfl rfl rfl rfl ?_
  first | refine on_aload_n (pc' := 64) rfl rfl rfl rfl ?_ | refine on_aload_nQ (pc' := 64) rfl rfl rfl rfl ?_
  apply on_putF (pc' := 67) rfl rfl fp_Relay_42 rfl
  · repeat (first | assumption | exact on_up_eq _ _ _ | refine (on_up_ne (by omega)).trans ?_)
  · first | rfl | assumption
  · first | rfl | assumption
  · exact Nat.le_of_ble_eq_true rfl
  refine on_iconst (pc' := 68) (v := 0) rfl rfl li_0 ?_
  refine on_istore (pc' := 70) rfl rfl (by decide) ?_
  have ob : ∀ H, (H = on_up (on_up (on_up (on_up (on_up (on_up (on_up (on_up (on_up (on_up (on_up (on_up (on_up (on_up h (a + 3) (on_ai 0 32 (fun _ => 0))) a (.inr (8, [.null, .null, .null, .ref (a + 3), .null, .null, .null, .null, .int 0, .int 0]))) (a + 4) (on_ai 0 32 (fun _ => 0))) a (.inr (8, [.null, .null, .null, .ref (a + 3), .ref (a + 4), .null, .null, .null, .int 0, .int 0]))) (a + 5) (on_ai 0 36 (fun _ => 0))) a (.inr (8, [.null, .null, .null, .ref (a + 3), .ref (a + 4), .ref (a + 5), .null, .null, .int 0, .int 0]))) (a + 6) (on_aq 5 12 (fun _ => none))) a (.inr (8, [.null, .null, .null, .ref (a + 3), .ref (a + 4), .ref (a + 5), .ref (a + 6), .null, .int 0, .int 0]))) (a + 7) (on_ai 0 2000 (fun _ => 0))) a (.inr (8, [.null, .null, .null, .ref (a + 3), .ref (a + 4), .ref (a + 5), .ref (a + 6), .ref (a + 7), .int 0, .int 0]))) a (.inr (8, [.null, .null, .null, .ref (a + 3), .ref (a + 4), .ref (a + 5), .ref (a + 6), .ref (a + 7), .int 0, .int 10]))) a (.inr (8, [.ref (a + 1), .null, .null, .ref (a + 3), .ref (a + 4), .ref (a + 5), .ref (a + 6), .ref (a + 7), .int 0, .int 10]))) a (.inr (8, [.ref (a + 1), .ref ot, .null, .ref (a + 3), .ref (a + 4), .ref (a + 5), .ref (a + 6), .ref (a + 7), .int 0, .int 10]))) a (.inr (8, [.ref (a + 1), .ref ot, .ref hs, .ref (a + 3), .ref (a + 4), .ref (a + 5), .ref (a + 6), .ref (a + 7), .int 0, .int 10]))) → on_E G M_Relay_init 70 (on_l [(0, .ref a), (3, .ref hs), (4, .int (nI 0))]) [] H (a + 8) 252 5388 (fun r h1 z => r = none ∧ z = a + 260 ∧ rl_O a ot hs 0 10 h1 ∧ rW h1 (a + 3) 32 ∧ rW h1 (a + 4) 32 ∧ rW h1 (a + 5) 36 ∧ h1 (a + 6) = some (on_aq 5 12 (re_f a 12)) ∧ rW h1 (a + 7) 2000 ∧ (∀ j, j < 12 → en_N (a + 8 + 21 * j) (hs + 4) h1) ∧ ∀ x, (x < a ∨ a + 260 ≤ x ∨ x = a + 1 ∨ x = a + 2) → h1 x = h x) := by
    intro H hH
    have g0 : H a = some (.inr (8, [.ref (a + 1), .ref ot, .ref hs, .ref (a + 3), .ref (a + 4), .ref (a + 5), .ref (a + 6), .ref (a + 7), .int 0, .int 10])) := by rw [hH]; exact on_up_eq _ _ _
    have g3 : H (a + 3) = some (on_ai 0 32 (fun _ => 0)) := by
      rw [hH]
      repeat (first | assumption | exact on_up_eq _ _ _ | refine (on_up_ne (by omega)).trans ?_)
    have g4 : H (a + 4) = some (on_ai 0 32 (fun _ => 0)) := by
      rw [hH]
      repeat (first | assumption | exact on_up_eq _ _ _ | refine (on_up_ne (by omega)).trans ?_)
    have g5 : H (a + 5) = some (on_ai 0 36 (fun _ => 0)) := by
      rw [hH]
      repeat (first | assumption | exact on_up_eq _ _ _ | refine (on_up_ne (by omega)).trans ?_)
    have g6 : H (a + 6) = some (on_aq 5 12 (fun _ => none)) := by
      rw [hH]
      repeat (first | assumption | exact on_up_eq _ _ _ | refine (on_up_ne (by omega)).trans ?_)
    have g7 : H (a + 7) = some (on_ai 0 2000 (fun _ => 0)) := by
      rw [hH]
      repeat (first | assumption | exact on_up_eq _ _ _ | refine (on_up_ne (by omega)).trans ?_)
    have gx : ∀ x, (x < a ∨ a + 8 ≤ x ∨ x = a + 1 ∨ x = a + 2) → H x = h x := fun x hx => by
      rw [hH]
      repeat (first | assumption | exact on_up_eq _ _ _ | refine (on_up_ne (by omega)).trans ?_)
      all_goals rfl
    clear hH
    refine rin_l g0 ((gx hs (by omega)).trans hh) hah (fun h2 k6 kE kx => ?_) 12 0 H rfl ?_ (fun j hj => absurd hj (by omega)) (fun _ _ _ => rfl)
    · refine on_vreturn rfl rfl ?_
      exact ⟨rfl, rfl, (kx _ (by omega) (by omega)).trans g0, ⟨_, (kx _ (by omega) (by omega)).trans g3⟩, ⟨_, (kx _ (by omega) (by omega)).trans g4⟩, ⟨_, (kx _ (by omega) (by omega)).trans g5⟩, k6, ⟨_, (kx _ (by omega) (by omega)).trans g7⟩, kE, fun x hx => (kx _ (by omega) (by omega)).trans (gx x (by omega))⟩
    · rw [g6]
      refine congrArg some (congrArg (on_aq 5 12) (funext fun j => ?_))
      unfold re_f
      rw [if_neg (by omega)]
  exact on_relv (l := [(0, .ref a), (3, .ref hs), (4, .int (nI 0))]) ⟨rfl, rfl, rfl, trivial⟩ (ob _ rfl)
end RIN
