section CIN
variable {G : on_G} {o sz bc bs : Nat} {h : on_H} {Q : Option Value → on_H → Nat → Prop}
theorem ip_k {F : Nat → Int64} (v : Nat) (hv : v < 1000000) (h0 : F 0 = lN v) (h : ∀ i, 0 < i → i < 10 → F i = 0) : ip F v := rp_ip (rp_k v hv h0 h)
set_option maxHeartbeats 4000000 in
/-- new Curve -/
theorem c_Curve_init (h0 : h o = some (.inr (1, [.null, .null, .null, .null, .null, .null, .null, .null, .null, .null, .null]))) (hsz : sz = o + 1) : on_Ct G M_Curve_init [.ref o] h sz 11 132 (fun r h1 z => r = none ∧ z = o + 12 ∧ cu_K o h1 ∧ on_sm o (o + 12) h h1) := by
  subst hsz
  have h10 : (0 : Nat) < 10 ∧ 10 < 2 ^ 31 := by decide
  refine on_Ct.of (by decide) v_Curve_init (Nat.le_of_ble_eq_true rfl) ?_
  first | refine on_aload_n (pc' := 1) rfl rfl rfl rfl ?_ | refine on_aload_nQ (pc' := 1) rfl rfl rfl rfl ?_
  refine on_objInit (pc' := 4) rfl rfl oi_Curve_3 w_ob1 w_ob2 (Nat.le_of_ble_eq_true rfl) (Nat.le_of_ble_eq_true rfl) ?_
  first | refine on_aload_n (pc' := 5) rfl rfl rfl rfl ?_ | refine on_aload_nQ (pc' := 5) rfl rfl rfl rfl ?_
  refine on_bipush (pc' := 7) (v := 10) rfl rfl lb_10 ?_
  refine on_newarray (pc' := 9) (t := 1) (N := 10) (ty := .long) (a0 := (10, .inr (.inl (fun _ => 0)))) rfl rfl rfl rfl (fun _ _ _ h1 h2 => Option.some.inj (h1.symm.trans h2)) w_arlong (fun _ => rfl) (by decide) (by decide) (by decide) (by omega) (by omega) ?_
  apply on_putF (pc' := 12) rfl rfl fp_Curve_11 rfl
  · repeat (first | assumption | exact on_up_eq _ _ _ | refine (on_up_ne (by omega)).trans ?_)
  · first | rfl | assumption
  · first | rfl | assumption
  · exact Nat.le_of_ble_eq_true rfl
  first | refine on_aload_n (pc' := 13) rfl rfl rfl rfl ?_ | refine on_aload_nQ (pc' := 13) rfl rfl rfl rfl ?_
  refine on_bipush (pc' := 15) (v := 10) rfl rfl lb_10 ?_
  refine on_newarray (pc' := 17) (t := 1) (N := 10) (ty := .long) (a0 := (10, .inr (.inl (fun _ => 0)))) rfl rfl rfl rfl (fun _ _ _ h1 h2 => Option.some.inj (h1.symm.trans h2)) w_arlong (fun _ => rfl) (by decide) (by decide) (by decide) (by omega) (by omega) ?_
  apply on_putF (pc' := 20) rfl rfl fp_Curve_15 rfl
  · repeat (first | assumption | exact on_up_eq _ _ _ | refine (on_up_ne (by omega)).trans ?_)
  · first | rfl | assumption
  · first | rfl | assumption
  · exact Nat.le_of_ble_eq_true rfl
  first | refine on_aload_n (pc' := 21) rfl rfl rfl rfl ?_ | refine on_aload_nQ (pc' := 21) rfl rfl rfl rfl ?_
  refine on_bipush (pc' := 23) (v := 10) rfl rfl lb_10 ?_
  refine on_newarray (pc' := 25) (t := 1) (N := 10) (ty := .long) (a0 := (10, .inr (.inl (fun _ => 0)))) rfl rfl rfl rfl (fun _ _ _ h1 h2 => Option.some.inj (h1.symm.trans h2)) w_arlong (fun _ => rfl) (by decide) (by decide) (by decide) (by omega) (by omega) ?_
  apply on_putF (pc' := 28) rfl rfl fp_Curve_18 rfl
  · repeat (first | assumption | exact on_up_eq _ _ _ | refine (on_up_ne (by omega)).trans ?_)
  · first | rfl | assumption
  · first | rfl | assumption
  · exact Nat.le_of_ble_eq_true rfl
  first | refine on_aload_n (pc' := 29) rfl rfl rfl rfl ?_ | refine on_aload_nQ (pc' := 29) rfl rfl rfl rfl ?_
  refine on_bipush (pc' := 31) (v := 10) rfl rfl lb_10 ?_
  refine on_newarray (pc' := 33) (t := 1) (N := 10) (ty := .long) (a0 := (10, .inr (.inl (fun _ => 0)))) rfl rfl rfl rfl (fun _ _ _ h1 h2 => Option.some.inj (h1.symm.trans h2)) w_arlong (fun _ => rfl) (by decide) (by decide) (by decide) (by omega) (by omega) ?_
  apply on_putF (pc' := 36) rfl rfl fp_Curve_21 rfl
  · repeat (first | assumption | exact on_up_eq _ _ _ | refine (on_up_ne (by omega)).trans ?_)
  · first | rfl | assumption
  · first | rfl | assumption
  · exact Nat.le_of_ble_eq_true rfl
  first | refine on_aload_n (pc' := 37) rfl rfl rfl rfl ?_ | refine on_aload_nQ (pc' := 37) rfl rfl rfl rfl ?_
  refine on_bipush (pc' := 39) (v := 10) rfl rfl lb_10 ?_
  refine on_newarray (pc' := 41) (t := 1) (N := 10) (ty := .long) (a0 := (10, .inr (.inl (fun _ => 0)))) rfl rfl rfl rfl (fun _ _ _ h1 h2 => Option.some.inj (h1.symm.trans h2)) w_arlong (fun _ => rfl) (by decide) (by decide) (by decide) (by omega) (by omega) ?_
  apply on_putF (pc' := 44) rfl rfl fp_Curve_24 rfl
  · repeat (first | assumption | exact on_up_eq _ _ _ | refine (on_up_ne (by omega)).trans ?_)
  · first | rfl | assumption
  · first | rfl | assumption
  · exact Nat.le_of_ble_eq_true rfl
  first | refine on_aload_n (pc' := 45) rfl rfl rfl rfl ?_ | refine on_aload_nQ (pc' := 45) rfl rfl rfl rfl ?_
  refine on_bipush (pc' := 47) (v := 10) rfl rfl lb_10 ?_
  refine on_newarray (pc' := 49) (t := 1) (N := 10) (ty := .long) (a0 := (10, .inr (.inl (fun _ => 0)))) rfl rfl rfl rfl (fun _ _ _ h1 h2 => Option.some.inj (h1.symm.trans h2)) w_arlong (fun _ => rfl) (by decide) (by decide) (by decide) (by omega) (by omega) ?_
  apply on_putF (pc' := 52) rfl rfl fp_Curve_27 rfl
  · repeat (first | assumption | exact on_up_eq _ _ _ | refine (on_up_ne (by omega)).trans ?_)
  · first | rfl | assumption
  · first | rfl | assumption
  · exact Nat.le_of_ble_eq_true rfl
  first | refine on_aload_n (pc' := 53) rfl rfl rfl rfl ?_ | refine on_aload_nQ (pc' := 53) rfl rfl rfl rfl ?_
  refine on_bipush (pc' := 55) (v := 10) rfl rfl lb_10 ?_
  refine on_newarray (pc' := 57) (t := 1) (N := 10) (ty := .long) (a0 := (10, .inr (.inl (fun _ => 0)))) rfl rfl rfl rfl (fun _ _ _ h1 h2 => Option.some.inj (h1.symm.trans h2)) w_arlong (fun _ => rfl) (by decide) (by decide) (by decide) (by omega) (by omega) ?_
  apply on_putF (pc' := 60) rfl rfl fp_Curve_30 rfl
  · repeat (first | assumption | exact on_up_eq _ _ _ | refine (on_up_ne (by omega)).trans ?_)
  · first | rfl | assumption
  · first | rfl | assumption
  · exact Nat.le_of_ble_eq_true rfl
  first | refine on_aload_n (pc' := 61) rfl rfl rfl rfl ?_ | refine on_aload_nQ (pc' := 61) rfl rfl rfl rfl ?_
  refine on_bipush (pc' := 63) (v := 10) rfl rfl lb_10 ?_
  refine on_newarray (pc' := 65) (t := 1) (N := 10) (ty := .long) (a0 := (10, .inr (.inl (fun _ => 0)))) rfl rfl rfl rfl (fun _ _ _ h1 h2 => Option.some.inj (h1.symm.trans h2)) w_arlong (fun _ => rfl) (by decide) (by decide) (by decide) (by omega) (by omega) ?_
  apply on_putF (pc' := 68) rfl rfl fp_Curve_33 rfl
  · repeat (first | assumption | exact on_up_eq _ _ _ | refine (on_up_ne (by omega)).trans ?_)
  · first | rfl | assumption
  · first | rfl | assumption
  · exact Nat.le_of_ble_eq_true rfl
  first | refine on_aload_n (pc' := 69) rfl rfl rfl rfl ?_ | refine on_aload_nQ (pc' := 69) rfl rfl rfl rfl ?_
  refine on_bipush (pc' := 71) (v := 10) rfl rfl lb_10 ?_
  refine on_newarray (pc' := 73) (t := 1) (N := 10) (ty := .long) (a0 := (10, .inr (.inl (fun _ => 0)))) rfl rfl rfl rfl (fun _ _ _ h1 h2 => Option.some.inj (h1.symm.trans h2)) w_arlong (fun _ => rfl) (by decide) (by decide) (by decide) (by omega) (by omega) ?_
  apply on_putF (pc' := 76) rfl rfl fp_Curve_36 rfl
  · repeat (first | assumption | exact on_up_eq _ _ _ | refine (on_up_ne (by omega)).trans ?_)
  · first | rfl | assumption
  · first | rfl | assumption
  · exact Nat.le_of_ble_eq_true rfl
  first | refine on_aload_n (pc' := 77) rfl rfl rfl rfl ?_ | refine on_aload_nQ (pc' := 77) rfl rfl rfl rfl ?_
  refine on_bipush (pc' := 79) (v := 10) rfl rfl lb_10 ?_
  refine on_newarray (pc' := 81) (t := 1) (N := 10) (ty := .long) (a0 := (10, .inr (.inl (fun _ => 0)))) rfl rfl rfl rfl (fun _ _ _ h1 h2 => Option.some.inj (h1.symm.trans h2)) w_arlong (fun _ => rfl) (by decide) (by decide) (by decide) (by omega) (by omega) ?_
  apply on_putF (pc' := 84) rfl rfl fp_Curve_39 rfl
  · repeat (first | assumption | exact on_up_eq _ _ _ | refine (on_up_ne (by omega)).trans ?_)
  · first | rfl | assumption
  · first | rfl | assumption
  · exact Nat.le_of_ble_eq_true rfl
  first | refine on_aload_n (pc' := 85) rfl rfl rfl rfl ?_ | refine on_aload_nQ (pc' := 85) rfl rfl rfl rfl ?_
  refine on_bipush (pc' := 87) (v := 32) rfl rfl lb_32 ?_
  refine on_newarray (pc' := 89) (t := 0) (N := 32) (ty := .int) (a0 := (32, .inl (fun _ => 0))) rfl rfl rfl rfl (fun _ _ _ h1 h2 => Option.some.inj (h1.symm.trans h2)) w_arint (fun _ => rfl) (by decide) (by decide) (by decide) (by omega) (by omega) ?_
  apply on_putF (pc' := 92) rfl rfl fp_Curve_42 rfl
  · repeat (first | assumption | exact on_up_eq _ _ _ | refine (on_up_ne (by omega)).trans ?_)
  · first | rfl | assumption
  · first | rfl | assumption
  · exact Nat.le_of_ble_eq_true rfl
  first | refine on_aload_n (pc' := 93) rfl rfl rfl rfl ?_ | refine on_aload_nQ (pc' := 93) rfl rfl rfl rfl ?_
  first | apply on_get (pc' := 96) rfl rfl fl_Curve_39 | apply on_getN (pc' := 96) rfl rfl fl_Curve_39
  · repeat (first | assumption | exact on_up_eq _ _ _ | refine (on_up_ne (by omega)).trans ?_)
  · rfl
  refine on_iconst (pc' := 97) (v := 0) rfl rfl li_0 ?_
  refine on_ldc2 (pc' := 100) rfl rfl ld_Curve_46 ?_
  apply on_lastoreK (pc' := 101) (t := 1) rfl rfl
  · repeat (first | assumption | exact on_up_eq _ _ _ | refine (on_up_ne (by omega)).trans ?_)
  · rfl
  · first | assumption | exact on_lit _ | rfl
  · first | assumption | omega | decide
  refine on_vreturn rfl rfl ?_
  refine ⟨rfl, rfl, ⟨fun k => if k = 9 then vp_updL (fun _ => 0) 0 121665 else fun _ => 0, fun _ => 0, ?_, ?_, ?_⟩, fun a ha => ?_⟩
  · refine ⟨?_, ?_, ?_, ?_, ?_, ?_, ?_, ?_, ?_, ?_, ?_⟩ <;> repeat (first | assumption | exact on_up_eq _ _ _ | refine (on_up_ne (by omega)).trans ?_)
  · show ip (vp_updL (fun _ => 0) 0 121665) 121665
    exact ip_k 121665 (by decide) pk_uLs (fun i i0 i1 => pk_uLn (by omega))
  · repeat (first | assumption | exact on_up_eq _ _ _ | refine (on_up_ne (by omega)).trans ?_)
  · repeat (first | assumption | exact on_up_eq _ _ _ | refine (on_up_ne (by omega)).trans ?_)
    all_goals rfl
/-- the reference's base point: 9 -/
def bs_p : Nat → Nat := fun i => if i = 0 then 9 else 0
theorem bs_lt : ∀ i, bs_p i < 256 := fun i => by unfold bs_p; split <;> omega
set_option maxHeartbeats 4000000 in
theorem mb_l {x3 : Int32 × Int32 × Int32} (ho : h o = some (.inr (17, mo_f o x3.1 x3.2.1 x3.2.2)))
    (k : ∀ T : Nat → Int32, (∀ i, i < 32 → T i = nI (bs_p i)) → on_E G M_M_base 30 (on_l []) [] (on_up h (o + 21) (on_ai 0 32 T)) sz bc bs Q) :
    ∀ (m i : Nat) (T : Nat → Int32), i + m = 32 → (∀ j, j < i → T j = nI (bs_p j)) → on_E G M_M_base 2 (on_l [(0, .ref o), (1, .int (nI i))]) [] (on_up h (o + 21) (on_ai 0 32 T)) sz bc bs Q := by
  intro m
  induction m with
  | zero =>
    intro i T hi hT
    obtain rfl : i = 32 := by omega
    refine on_iload_n (pc' := 3) rfl rfl rfl rfl ?_
    refine on_bipush (pc' := 5) (v := 32) rfl rfl lb_32 ?_
    refine on_icmp_ge (pc' := 8) (tgt := 30) rfl rfl rfl (fun cq => ?_) (fun cq => ?_)
    · exact on_relv (l := []) trivial (k T hT)
    · exact absurd (nI_le (a := 32) (by omega) (by omega)) cq
  | succ m ih =>
    intro i T hi hT
    have hi2 : i < 32 ∧ 32 < 2 ^ 31 := by omega
    refine on_iload_n (pc' := 3) rfl rfl rfl rfl ?_
    refine on_bipush (pc' := 5) (v := 32) rfl rfl lb_32 ?_
    refine on_icmp_ge (pc' := 8) (tgt := 30) rfl rfl rfl (fun cq => ?_) (fun cq => ?_)
    · exact absurd cq (nI_ge (b := 32) (by omega) (by omega))
    · first | refine on_aload_n (pc' := 9) rfl rfl rfl rfl ?_ | refine on_aload_nQ (pc' := 9) rfl rfl rfl rfl ?_
      first | apply on_get (pc' := 12) rfl rfl fl_M_64 | apply on_getN (pc' := 12) rfl rfl fl_M_64
      · repeat (first | assumption | exact on_up_eq _ _ _ | refine (on_up_ne (by omega)).trans ?_)
      · rfl
      refine on_iload_n (pc' := 13) rfl rfl rfl rfl ?_
      refine on_iload_n (pc' := 14) rfl rfl rfl rfl ?_
      refine on_if_ne (pc' := 17) (tgt := 22) rfl rfl rfl (fun cq => ?_) (fun cq => ?_)
      · have c0 : ¬ i = 0 := fun e => cq (by rw [e]; rfl)
        refine on_iconst (pc' := 23) (v := 0) rfl rfl li_0 ?_
        apply on_iastoreK (pc' := 24) (t := 0) rfl rfl
        · repeat (first | assumption | exact on_up_eq _ _ _ | refine (on_up_ne (by omega)).trans ?_)
        · rfl
        · first | assumption | exact on_lit _ | rfl
        · first | assumption | omega | decide
        refine on_iinc1 (pc' := 27) rfl rfl rfl ?_
        refine on_goto (tgt := 2) rfl rfl ?_
        rw [on_up_up]
        refine on_relv (l := [(0, .ref o), (1, .int (nI (i + 1)))]) ⟨rfl, congrArg some (congrArg Value.int (nI_1 i)), trivial⟩ (ih (i + 1) _ (by omega) (fun j hj => ?_))
        by_cases e : j = i
        · subst e
          rw [pk_us, show bs_p j = 0 from if_neg c0]
          rfl
        · rw [pk_un e]; exact hT j (by omega)
      · have c0 : i = 0 := (nI_eq (b := 0) (by omega) (by omega)).mp cq
        subst c0
        refine on_bipush (pc' := 19) (v := 9) rfl rfl lb_9 ?_
        refine on_goto (tgt := 23) rfl rfl ?_
        apply on_iastoreK (pc' := 24) (t := 0) rfl rfl
        · repeat (first | assumption | exact on_up_eq _ _ _ | refine (on_up_ne (by omega)).trans ?_)
        · rfl
        · first | assumption | exact on_lit _ | rfl
        · first | assumption | omega | decide
        refine on_iinc1 (pc' := 27) rfl rfl rfl ?_
        refine on_goto (tgt := 2) rfl rfl ?_
        rw [on_up_up]
        refine on_relv (l := [(0, .ref o), (1, .int (nI (0 + 1)))]) ⟨rfl, congrArg some (congrArg Value.int (nI_1 0)), trivial⟩ (ih (0 + 1) _ (by omega) (fun j hj => ?_))
        obtain rfl : j = 0 := by omega
        rw [pk_us]
        rfl
theorem c_M_base {x3 : Int32 × Int32 × Int32} {P : Nat → Int32} (ho : h o = some (.inr (17, mo_f o x3.1 x3.2.1 x3.2.2))) (hp : h (o + 21) = some (on_ai 0 32 P)) :
    on_Ct G M_M_base [.ref o] h sz 0 0 (fun r h1 z => r = none ∧ z = sz ∧ ∃ T, h1 = on_up h (o + 21) (on_ai 0 32 T) ∧ ∀ i, i < 32 → T i = nI (bs_p i)) := by
  refine on_Ct.of (by decide) v_M_base (Nat.le_of_ble_eq_true rfl) ?_
  refine on_iconst (pc' := 1) (v := 0) rfl rfl li_0 ?_
  refine on_istore_n (pc' := 2) rfl rfl rfl (by decide) ?_
  have := mb_l (G := G) (sz := sz) (bc := 0) (bs := 0) (Q := fun r h1 z => r = none ∧ z = sz ∧ ∃ T, h1 = on_up h (o + 21) (on_ai 0 32 T) ∧ ∀ i, i < 32 → T i = nI (bs_p i)) ho ?_ 32 0 P rfl (fun j hj => absurd hj (by omega))
  · rw [on_up_self hp] at this
    exact on_relv (l := [(0, .ref o), (1, .int (nI 0))]) ⟨rfl, rfl, trivial⟩ this
  · intro T hT
    refine on_vreturn rfl rfl ?_
    exact ⟨rfl, rfl, T, rfl, hT⟩
end CIN
