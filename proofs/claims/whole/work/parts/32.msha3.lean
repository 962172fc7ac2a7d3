section MSJ
variable {G : on_G} {o q sz bc bs : Nat} {h : on_H} {Q : Option Value → on_H → Nat → Prop}
theorem ms_beg_l {f g : Nat → Int32} {n : Int64} (k : ∀ g2, ms_B o f g2 n (on_up h (o + 2) (on_ai 0 64 g2)) → on_E G M_MSha_begin 92 (on_l []) [] (on_up h (o + 2) (on_ai 0 64 g2)) sz bc bs Q) (b1 : h o = some (.inr (12, [.ref (o + 1), .ref (o + 2), .long n]))) (b2 : h (o + 1) = some (on_ai 0 8 f)) :
    ∀ (m i : Nat), i + m = 16 → on_E G M_MSha_begin 73 (on_l [(0, .ref o), (1, .int (nI i))]) [] (on_up h (o + 2) (on_ai 0 64 (on_fl g 0 i 0))) sz bc bs Q := by
  intro m
  induction m with
  | zero =>
    intro i hi
    refine on_iload_n (pc' := 74) rfl rfl rfl rfl ?_
    refine on_bipush (pc' := 76) (v := 16) rfl rfl lb_16 ?_
    refine on_icmp_ge (pc' := 79) (tgt := 92) rfl rfl rfl (fun cq => ?_) (fun cq => ?_)
    · exact on_relv (l := []) trivial (k _ ⟨(on_up_ne (by omega)).trans b1, (on_up_ne (by omega)).trans b2, on_up_eq _ _ _⟩)
    · exact absurd (nI_le (a := 16) (by omega) (by omega)) cq
  | succ m ih =>
    intro i hi
    refine on_iload_n (pc' := 74) rfl rfl rfl rfl ?_
    refine on_bipush (pc' := 76) (v := 16) rfl rfl lb_16 ?_
    refine on_icmp_ge (pc' := 79) (tgt := 92) rfl rfl rfl (fun cq => ?_) (fun cq => ?_)
    · exact absurd cq (nI_ge (b := 16) (by omega) (by omega))
    · first | refine on_aload_n (pc' := 80) rfl rfl rfl rfl ?_ | refine on_aload_nQ (pc' := 80) rfl rfl rfl rfl ?_
      apply on_get (pc' := 83) rfl rfl fl_MSha_13
      · repeat (first | assumption | exact on_up_eq _ _ _ | refine (on_up_ne (by omega)).trans ?_)
      · rfl
      refine on_iload_n (pc' := 84) rfl rfl rfl rfl ?_
      refine on_iconst (pc' := 85) (v := 0) rfl rfl li_0 ?_
      apply on_iastoreK (pc' := 86) (t := 0) rfl rfl
      · repeat (first | assumption | exact on_up_eq _ _ _ | refine (on_up_ne (by omega)).trans ?_)
      · rfl
      · first | assumption | exact on_lit _ | rfl
      · first | assumption | omega | decide
      refine on_iinc1 (pc' := 89) rfl rfl rfl ?_
      refine on_goto (tgt := 73) rfl rfl ?_
      rw [on_up_up, on_fl_s (Nat.zero_le i)]
      exact on_relv (l := [(0, .ref o), (1, .int (nI (i + 1)))]) ⟨rfl, congrArg some (congrArg Value.int (nI_1 i)), trivial⟩ (ih (i + 1) (by omega))
set_option maxHeartbeats 4000000 in
theorem c_MSha_begin (hX : ms_W o h) : on_Ct G M_MSha_begin [.ref o] h sz 0 0 (fun r h1 z => r = none ∧ z = sz ∧ ms_X o [] h1 ∧ on_sm o (o + 3) h h1) := by
  obtain ⟨f, g, len, b1, b2, b3⟩ := hX
  refine on_Ct.of (by decide) v_MSha_begin (Nat.le_of_ble_eq_true rfl) ?_
  first | refine on_aload_n (pc' := 1) rfl rfl rfl rfl ?_ | refine on_aload_nQ (pc' := 1) rfl rfl rfl rfl ?_
  apply on_get (pc' := 4) rfl rfl fl_MSha_7
  · repeat (first | assumption | exact on_up_eq _ _ _ | refine (on_up_ne (by omega)).trans ?_)
  · rfl
  refine on_iconst (pc' := 5) (v := 0) rfl rfl li_0 ?_
  refine on_ldc (pc' := 7) rfl rfl ld_MSha_16 ?_
  apply on_iastoreK (pc' := 8) (t := 0) rfl rfl
  · repeat (first | assumption | exact on_up_eq _ _ _ | refine (on_up_ne (by omega)).trans ?_)
  · rfl
  · first | assumption | exact on_lit _ | rfl
  · first | assumption | omega | decide
  first | refine on_aload_n (pc' := 9) rfl rfl rfl rfl ?_ | refine on_aload_nQ (pc' := 9) rfl rfl rfl rfl ?_
  apply on_get (pc' := 12) rfl rfl fl_MSha_7
  · repeat (first | assumption | exact on_up_eq _ _ _ | refine (on_up_ne (by omega)).trans ?_)
  · rfl
  refine on_iconst (pc' := 13) (v := 1) rfl rfl li_1 ?_
  refine on_ldc (pc' := 15) rfl rfl ld_MSha_17 ?_
  apply on_iastoreK (pc' := 16) (t := 0) rfl rfl
  · repeat (first | assumption | exact on_up_eq _ _ _ | refine (on_up_ne (by omega)).trans ?_)
  · rfl
  · first | assumption | exact on_lit _ | rfl
  · first | assumption | omega | decide
  first | refine on_aload_n (pc' := 17) rfl rfl rfl rfl ?_ | refine on_aload_nQ (pc' := 17) rfl rfl rfl rfl ?_
  apply on_get (pc' := 20) rfl rfl fl_MSha_7
  · repeat (first | assumption | exact on_up_eq _ _ _ | refine (on_up_ne (by omega)).trans ?_)
  · rfl
  refine on_iconst (pc' := 21) (v := 2) rfl rfl li_2 ?_
  refine on_ldc (pc' := 23) rfl rfl ld_MSha_18 ?_
  apply on_iastoreK (pc' := 24) (t := 0) rfl rfl
  · repeat (first | assumption | exact on_up_eq _ _ _ | refine (on_up_ne (by omega)).trans ?_)
  · rfl
  · first | assumption | exact on_lit _ | rfl
  · first | assumption | omega | decide
  first | refine on_aload_n (pc' := 25) rfl rfl rfl rfl ?_ | refine on_aload_nQ (pc' := 25) rfl rfl rfl rfl ?_
  apply on_get (pc' := 28) rfl rfl fl_MSha_7
  · repeat (first | assumption | exact on_up_eq _ _ _ | refine (on_up_ne (by omega)).trans ?_)
  · rfl
  refine on_iconst (pc' := 29) (v := 3) rfl rfl li_3 ?_
  refine on_ldc (pc' := 31) rfl rfl ld_MSha_19 ?_
  apply on_iastoreK (pc' := 32) (t := 0) rfl rfl
  · repeat (first | assumption | exact on_up_eq _ _ _ | refine (on_up_ne (by omega)).trans ?_)
  · rfl
  · first | assumption | exact on_lit _ | rfl
  · first | assumption | omega | decide
  first | refine on_aload_n (pc' := 33) rfl rfl rfl rfl ?_ | refine on_aload_nQ (pc' := 33) rfl rfl rfl rfl ?_
  apply on_get (pc' := 36) rfl rfl fl_MSha_7
  · repeat (first | assumption | exact on_up_eq _ _ _ | refine (on_up_ne (by omega)).trans ?_)
  · rfl
  refine on_iconst (pc' := 37) (v := 4) rfl rfl li_4 ?_
  refine on_ldc (pc' := 39) rfl rfl ld_MSha_20 ?_
  apply on_iastoreK (pc' := 40) (t := 0) rfl rfl
  · repeat (first | assumption | exact on_up_eq _ _ _ | refine (on_up_ne (by omega)).trans ?_)
  · rfl
  · first | assumption | exact on_lit _ | rfl
  · first | assumption | omega | decide
  first | refine on_aload_n (pc' := 41) rfl rfl rfl rfl ?_ | refine on_aload_nQ (pc' := 41) rfl rfl rfl rfl ?_
  apply on_get (pc' := 44) rfl rfl fl_MSha_7
  · repeat (first | assumption | exact on_up_eq _ _ _ | refine (on_up_ne (by omega)).trans ?_)
  · rfl
  refine on_iconst (pc' := 45) (v := 5) rfl rfl li_5 ?_
  refine on_ldc (pc' := 47) rfl rfl ld_MSha_21 ?_
  apply on_iastoreK (pc' := 48) (t := 0) rfl rfl
  · repeat (first | assumption | exact on_up_eq _ _ _ | refine (on_up_ne (by omega)).trans ?_)
  · rfl
  · first | assumption | exact on_lit _ | rfl
  · first | assumption | omega | decide
  first | refine on_aload_n (pc' := 49) rfl rfl rfl rfl ?_ | refine on_aload_nQ (pc' := 49) rfl rfl rfl rfl ?_
  apply on_get (pc' := 52) rfl rfl fl_MSha_7
  · repeat (first | assumption | exact on_up_eq _ _ _ | refine (on_up_ne (by omega)).trans ?_)
  · rfl
  refine on_bipush (pc' := 54) (v := 6) rfl rfl lb_6 ?_
  refine on_ldc (pc' := 56) rfl rfl ld_MSha_22 ?_
  apply on_iastoreK (pc' := 57) (t := 0) rfl rfl
  · repeat (first | assumption | exact on_up_eq _ _ _ | refine (on_up_ne (by omega)).trans ?_)
  · rfl
  · first | assumption | exact on_lit _ | rfl
  · first | assumption | omega | decide
  first | refine on_aload_n (pc' := 58) rfl rfl rfl rfl ?_ | refine on_aload_nQ (pc' := 58) rfl rfl rfl rfl ?_
  apply on_get (pc' := 61) rfl rfl fl_MSha_7
  · repeat (first | assumption | exact on_up_eq _ _ _ | refine (on_up_ne (by omega)).trans ?_)
  · rfl
  refine on_bipush (pc' := 63) (v := 7) rfl rfl lb_7 ?_
  refine on_ldc (pc' := 65) rfl rfl ld_MSha_23 ?_
  apply on_iastoreK (pc' := 66) (t := 0) rfl rfl
  · repeat (first | assumption | exact on_up_eq _ _ _ | refine (on_up_ne (by omega)).trans ?_)
  · rfl
  · first | assumption | exact on_lit _ | rfl
  · first | assumption | omega | decide
  first | refine on_aload_n (pc' := 67) rfl rfl rfl rfl ?_ | refine on_aload_nQ (pc' := 67) rfl rfl rfl rfl ?_
  refine on_lconst (pc' := 68) (v := 0) rfl rfl ll_0 ?_
  apply on_put (pc' := 71) rfl rfl fp_MSha_24
  · repeat (first | assumption | exact on_up_eq _ _ _ | refine (on_up_ne (by omega)).trans ?_)
  · first | rfl | assumption
  · first | rfl | assumption
  · exact Nat.le_of_ble_eq_true rfl
  refine on_iconst (pc' := 72) (v := 0) rfl rfl li_0 ?_
  refine on_istore_n (pc' := 73) rfl rfl rfl (by decide) ?_
  generalize hF : upd (upd (upd (upd (upd (upd (upd (upd f 0 1779033703) 1 (-1150833019)) 2 1013904242) 3 (-1521486534)) 4 1359893119) 5 (-1694144372)) 6 528734635) 7 1541459225 = F
  have hF2 : ∀ i, i < 8 → F i = on_st0.getD i 0 := by
    intro i hi
    rw [← hF]
    match i, hi with
    | 0, _ | 1, _ | 2, _ | 3, _ | 4, _ | 5, _ | 6, _ | 7, _ => rfl
  simp only [on_up_up]
  have c1 : on_up (on_up h (o + 1) (on_ai 0 8 F)) o (.inr (12, [.ref (o + 1), .ref (o + 2), .long 0])) o = some (.inr (12, [.ref (o + 1), .ref (o + 2), .long 0])) := on_up_eq _ _ _
  have c2 : on_up (on_up h (o + 1) (on_ai 0 8 F)) o (.inr (12, [.ref (o + 1), .ref (o + 2), .long 0])) (o + 1) = some (on_ai 0 8 F) := (on_up_ne (by omega)).trans (on_up_eq _ _ _)
  have c3 : on_up (on_up h (o + 1) (on_ai 0 8 F)) o (.inr (12, [.ref (o + 1), .ref (o + 2), .long 0])) (o + 2) = some (on_ai 0 64 g) := (on_up_ne (by omega)).trans ((on_up_ne (by omega)).trans b3)
  show on_E G M_MSha_begin 73 _ _ (on_up (on_up h (o + 1) (on_ai 0 8 F)) o (.inr (12, [.ref (o + 1), .ref (o + 2), .long 0]))) sz 0 0 _
  have := ms_beg_l (G := G) (sz := sz) (bc := 0) (bs := 0) (g := g) (Q := fun r h1 z => r = none ∧ z = sz ∧ ms_X o [] h1 ∧ on_sm o (o + 3) h h1) ?_ c1 c2 16 0 rfl
  · rw [on_fl_0, on_up_self c3] at this
    exact on_relv (l := [(0, .ref o), (1, .int (nI 0))]) ⟨rfl, rfl, trivial⟩ this
  · intro g2 hB
    refine on_vreturn rfl rfl ?_
    refine ⟨rfl, rfl, ⟨F, g2, hB, fun i hi => hF2 i hi, fun j hj => ?_, ?_⟩, ((on_sm.rf.up (by omega) (by omega)).up (by omega) (by omega)).up (by omega) (by omega)⟩
    · simp at hj
    · simp [sp_q, Nat.mod_one]
theorem ms_cp1 {o2 : Nat} {f f2 : Nat → Int32} {g g2 : Nat → Int32} {n n2 : Int64} (ho : o2 + 3 ≤ o ∨ o + 3 ≤ o2) (b1 : h o = some (.inr (12, [.ref (o + 1), .ref (o + 2), .long n]))) (d1 : h o2 = some (.inr (12, [.ref (o2 + 1), .ref (o2 + 2), .long n2]))) (d2 : h (o2 + 1) = some (on_ai 0 8 f2))
    (k : on_E G M_MSha_copy 26 (on_l [(0, .ref o), (1, .ref o2)]) [] (on_up h (o + 1) (on_ai 0 8 (on_tk f2 f 8))) sz bc bs Q) :
    ∀ (m i : Nat), i + m = 8 → on_E G M_MSha_copy 2 (on_l [(0, .ref o), (1, .ref o2), (2, .int (nI i))]) [] (on_up h (o + 1) (on_ai 0 8 (on_tk f2 f i))) sz bc bs Q := by
  intro m
  induction m with
  | zero =>
    intro i hi
    refine on_iload_n (pc' := 3) rfl rfl rfl rfl ?_
    refine on_bipush (pc' := 5) (v := 8) rfl rfl lb_8 ?_
    refine on_icmp_ge (pc' := 8) (tgt := 26) rfl rfl rfl (fun cq => ?_) (fun cq => ?_)
    · rw [show i = 8 by omega]
      exact on_relv (l := [(0, .ref o), (1, .ref o2)]) ⟨rfl, rfl, trivial⟩ k
    · exact absurd (nI_le (a := 8) (by omega) (by omega)) cq
  | succ m ih =>
    intro i hi
    refine on_iload_n (pc' := 3) rfl rfl rfl rfl ?_
    refine on_bipush (pc' := 5) (v := 8) rfl rfl lb_8 ?_
    refine on_icmp_ge (pc' := 8) (tgt := 26) rfl rfl rfl (fun cq => ?_) (fun cq => ?_)
    · exact absurd cq (nI_ge (b := 8) (by omega) (by omega))
    · first | refine on_aload_n (pc' := 9) rfl rfl rfl rfl ?_ | refine on_aload_nQ (pc' := 9) rfl rfl rfl rfl ?_
      apply on_get (pc' := 12) rfl rfl fl_MSha_7
      · repeat (first | assumption | exact on_up_eq _ _ _ | refine (on_up_ne (by omega)).trans ?_)
      · rfl
      refine on_iload_n (pc' := 13) rfl rfl rfl rfl ?_
      first | refine on_aload_n (pc' := 14) rfl rfl rfl rfl ?_ | refine on_aload_nQ (pc' := 14) rfl rfl rfl rfl ?_
      apply on_get (pc' := 17) rfl rfl fl_MSha_7
      · repeat (first | assumption | exact on_up_eq _ _ _ | refine (on_up_ne (by omega)).trans ?_)
      · rfl
      refine on_iload_n (pc' := 18) rfl rfl rfl rfl ?_
      apply on_ialoadK (pc' := 19) (t := 0) rfl rfl
      · repeat (first | assumption | exact on_up_eq _ _ _ | refine (on_up_ne (by omega)).trans ?_)
      · rfl
      · first | assumption | exact on_lit _ | rfl
      · first | assumption | omega | decide
      apply on_iastoreK (pc' := 20) (t := 0) rfl rfl
      · repeat (first | assumption | exact on_up_eq _ _ _ | refine (on_up_ne (by omega)).trans ?_)
      · rfl
      · first | assumption | exact on_lit _ | rfl
      · first | assumption | omega | decide
      refine on_iinc1 (pc' := 23) rfl rfl rfl ?_
      refine on_goto (tgt := 2) rfl rfl ?_
      rw [on_up_up, on_tk_s]
      exact on_relv (l := [(0, .ref o), (1, .ref o2), (2, .int (nI (i + 1)))]) ⟨rfl, rfl, congrArg some (congrArg Value.int (nI_1 i)), trivial⟩ (ih (i + 1) (by omega))
theorem ms_cp2 {o2 : Nat} {g g2 : Nat → Int32} {n n2 : Int64} (ho : o2 + 3 ≤ o ∨ o + 3 ≤ o2) (b1 : h o = some (.inr (12, [.ref (o + 1), .ref (o + 2), .long n]))) (d1 : h o2 = some (.inr (12, [.ref (o2 + 1), .ref (o2 + 2), .long n2]))) (d2 : h (o2 + 2) = some (on_ai 0 64 g2))
    (k : on_E G M_MSha_copy 52 (on_l [(0, .ref o), (1, .ref o2)]) [] (on_up h (o + 2) (on_ai 0 64 (on_tk g2 g 16))) sz bc bs Q) :
    ∀ (m i : Nat), i + m = 16 → on_E G M_MSha_copy 28 (on_l [(0, .ref o), (1, .ref o2), (2, .int (nI i))]) [] (on_up h (o + 2) (on_ai 0 64 (on_tk g2 g i))) sz bc bs Q := by
  intro m
  induction m with
  | zero =>
    intro i hi
    refine on_iload_n (pc' := 29) rfl rfl rfl rfl ?_
    refine on_bipush (pc' := 31) (v := 16) rfl rfl lb_16 ?_
    refine on_icmp_ge (pc' := 34) (tgt := 52) rfl rfl rfl (fun cq => ?_) (fun cq => ?_)
    · rw [show i = 16 by omega]
      exact on_relv (l := [(0, .ref o), (1, .ref o2)]) ⟨rfl, rfl, trivial⟩ k
    · exact absurd (nI_le (a := 16) (by omega) (by omega)) cq
  | succ m ih =>
    intro i hi
    refine on_iload_n (pc' := 29) rfl rfl rfl rfl ?_
    refine on_bipush (pc' := 31) (v := 16) rfl rfl lb_16 ?_
    refine on_icmp_ge (pc' := 34) (tgt := 52) rfl rfl rfl (fun cq => ?_) (fun cq => ?_)
    · exact absurd cq (nI_ge (b := 16) (by omega) (by omega))
    · first | refine on_aload_n (pc' := 35) rfl rfl rfl rfl ?_ | refine on_aload_nQ (pc' := 35) rfl rfl rfl rfl ?_
      apply on_get (pc' := 38) rfl rfl fl_MSha_13
      · repeat (first | assumption | exact on_up_eq _ _ _ | refine (on_up_ne (by omega)).trans ?_)
      · rfl
      refine on_iload_n (pc' := 39) rfl rfl rfl rfl ?_
      first | refine on_aload_n (pc' := 40) rfl rfl rfl rfl ?_ | refine on_aload_nQ (pc' := 40) rfl rfl rfl rfl ?_
      apply on_get (pc' := 43) rfl rfl fl_MSha_13
      · repeat (first | assumption | exact on_up_eq _ _ _ | refine (on_up_ne (by omega)).trans ?_)
      · rfl
      refine on_iload_n (pc' := 44) rfl rfl rfl rfl ?_
      apply on_ialoadK (pc' := 45) (t := 0) rfl rfl
      · repeat (first | assumption | exact on_up_eq _ _ _ | refine (on_up_ne (by omega)).trans ?_)
      · rfl
      · first | assumption | exact on_lit _ | rfl
      · first | assumption | omega | decide
      apply on_iastoreK (pc' := 46) (t := 0) rfl rfl
      · repeat (first | assumption | exact on_up_eq _ _ _ | refine (on_up_ne (by omega)).trans ?_)
      · rfl
      · first | assumption | exact on_lit _ | rfl
      · first | assumption | omega | decide
      refine on_iinc1 (pc' := 49) rfl rfl rfl ?_
      refine on_goto (tgt := 28) rfl rfl ?_
      rw [on_up_up, on_tk_s]
      exact on_relv (l := [(0, .ref o), (1, .ref o2), (2, .int (nI (i + 1)))]) ⟨rfl, rfl, congrArg some (congrArg Value.int (nI_1 i)), trivial⟩ (ih (i + 1) (by omega))
set_option maxHeartbeats 4000000 in
theorem c_MSha_copy {ms2 : List Nat} {o2 : Nat} (hX : ms_W o h) (hX2 : ms_X o2 ms2 h) (ho : o2 + 3 ≤ o ∨ o + 3 ≤ o2) : on_Ct G M_MSha_copy [.ref o, .ref o2] h sz 0 0 (fun r h1 z => r = none ∧ z = sz ∧ ms_X o ms2 h1 ∧ on_sm o (o + 3) h h1) := by
  obtain ⟨f, g, len, b1, b2, b3⟩ := hX
  obtain ⟨f2, g2, ⟨d1, d2, d3⟩, hI2⟩ := hX2
  refine on_Ct.of (by decide) v_MSha_copy (Nat.le_of_ble_eq_true rfl) ?_
  refine on_iconst (pc' := 1) (v := 0) rfl rfl li_0 ?_
  refine on_istore_n (pc' := 2) rfl rfl rfl (by decide) ?_
  have h1 := ms_cp1 (G := G) (sz := sz) (bc := 0) (bs := 0) (f := f) (Q := fun r h1 z => r = none ∧ z = sz ∧ ms_X o ms2 h1 ∧ on_sm o (o + 3) h h1) (g := g) (g2 := g2) ho b1 d1 d2 ?_ 8 0 rfl
  · rw [on_tk_0, on_up_self b2] at h1
    exact on_relv (l := [(0, .ref o), (1, .ref o2), (2, .int (nI 0))]) ⟨rfl, rfl, rfl, trivial⟩ h1
  · refine on_iconst (pc' := 27) (v := 0) rfl rfl li_0 ?_
    refine on_istore_n (pc' := 28) rfl rfl rfl (by decide) ?_
    have c1 : on_up h (o + 1) (on_ai 0 8 (on_tk f2 f 8)) o = some (.inr (12, [.ref (o + 1), .ref (o + 2), .long len])) := (on_up_ne (by omega)).trans b1
    have c3 : on_up h (o + 1) (on_ai 0 8 (on_tk f2 f 8)) (o + 2) = some (on_ai 0 64 g) := (on_up_ne (by omega)).trans b3
    have e1 : on_up h (o + 1) (on_ai 0 8 (on_tk f2 f 8)) o2 = some (.inr (12, [.ref (o2 + 1), .ref (o2 + 2), .long (lN ms2.length)])) := (on_up_ne (by omega)).trans d1
    have e3 : on_up h (o + 1) (on_ai 0 8 (on_tk f2 f 8)) (o2 + 2) = some (on_ai 0 64 g2) := (on_up_ne (by omega)).trans d3
    have h2 := ms_cp2 (G := G) (sz := sz) (bc := 0) (bs := 0) (Q := fun r h1 z => r = none ∧ z = sz ∧ ms_X o ms2 h1 ∧ on_sm o (o + 3) h h1) (g := g) ho c1 e1 e3 ?_ 16 0 rfl
    · rw [on_tk_0, on_up_self c3] at h2
      exact on_relv (l := [(0, .ref o), (1, .ref o2), (2, .int (nI 0))]) ⟨rfl, rfl, rfl, trivial⟩ h2
    · first | refine on_aload_n (pc' := 53) rfl rfl rfl rfl ?_ | refine on_aload_nQ (pc' := 53) rfl rfl rfl rfl ?_
      first | refine on_aload_n (pc' := 54) rfl rfl rfl rfl ?_ | refine on_aload_nQ (pc' := 54) rfl rfl rfl rfl ?_
      apply on_get (pc' := 57) rfl rfl fl_MSha_24
      · repeat (first | assumption | exact on_up_eq _ _ _ | refine (on_up_ne (by omega)).trans ?_)
      · rfl
      apply on_put (pc' := 60) rfl rfl fp_MSha_24
      · repeat (first | assumption | exact on_up_eq _ _ _ | refine (on_up_ne (by omega)).trans ?_)
      · first | rfl | assumption
      · first | rfl | assumption
      · exact Nat.le_of_ble_eq_true rfl
      refine on_vreturn rfl rfl ?_
      refine ⟨rfl, rfl, ⟨on_tk f2 f 8, on_tk g2 g 16, ⟨on_up_eq _ _ _, ?_, ?_⟩, fun i hi => (on_tk_lt hi).trans (hI2.1 i hi), fun j hj => (on_tk_lt (by omega)).trans (hI2.2.1 j hj), ?_⟩, ((on_sm.rf.up (by omega) (by omega)).up (by omega) (by omega)).up (by omega) (by omega)⟩
      · repeat (first | assumption | exact on_up_eq _ _ _ | refine (on_up_ne (by omega)).trans ?_)
      · repeat (first | assumption | exact on_up_eq _ _ _ | refine (on_up_ne (by omega)).trans ?_)
      · rw [on_tk_lt (by omega)]
        exact hI2.2.2
set_option maxHeartbeats 4000000 in
theorem c_MSha_init (h0 : h o = some (.inr (12, [.null, .null, .long 0]))) (hsz : sz = o + 1) : on_Ct G M_MSha_init [.ref o] h sz 2 72 (fun r h1 z => r = none ∧ z = o + 3 ∧ ms_B o (fun _ => 0) (fun _ => 0) 0 h1 ∧ on_sm o (o + 3) h h1) := by
  subst hsz
  refine on_Ct.of (by decide) v_MSha_init (Nat.le_of_ble_eq_true rfl) ?_
  first | refine on_aload_n (pc' := 1) rfl rfl rfl rfl ?_ | refine on_aload_nQ (pc' := 1) rfl rfl rfl rfl ?_
  refine on_objInit (pc' := 4) rfl rfl oi_MSha_1 w_ob1 w_ob2 (Nat.le_of_ble_eq_true rfl) (Nat.le_of_ble_eq_true rfl) ?_
  first | refine on_aload_n (pc' := 5) rfl rfl rfl rfl ?_ | refine on_aload_nQ (pc' := 5) rfl rfl rfl rfl ?_
  refine on_bipush (pc' := 7) (v := 8) rfl rfl lb_8 ?_
  refine on_newarray (pc' := 9) (t := 0) (N := 8) (ty := .int) (a0 := (8, .inl (fun _ => 0))) rfl rfl rfl rfl (fun _ _ _ h1 h2 => Option.some.inj (h1.symm.trans h2)) w_arint (fun _ => rfl) (by decide) (by decide) (by decide) (by omega) (by omega) ?_
  apply on_putF (pc' := 12) rfl rfl fp_MSha_7 rfl
  · repeat (first | assumption | exact on_up_eq _ _ _ | refine (on_up_ne (by omega)).trans ?_)
  · first | rfl | assumption
  · first | rfl | assumption
  · exact Nat.le_of_ble_eq_true rfl
  first | refine on_aload_n (pc' := 13) rfl rfl rfl rfl ?_ | refine on_aload_nQ (pc' := 13) rfl rfl rfl rfl ?_
  refine on_bipush (pc' := 15) (v := 64) rfl rfl lb_64 ?_
  refine on_newarray (pc' := 17) (t := 0) (N := 64) (ty := .int) (a0 := (64, .inl (fun _ => 0))) rfl rfl rfl rfl (fun _ _ _ h1 h2 => Option.some.inj (h1.symm.trans h2)) w_arint (fun _ => rfl) (by decide) (by decide) (by decide) (by omega) (by omega) ?_
  apply on_putF (pc' := 20) rfl rfl fp_MSha_13 rfl
  · repeat (first | assumption | exact on_up_eq _ _ _ | refine (on_up_ne (by omega)).trans ?_)
  · first | rfl | assumption
  · first | rfl | assumption
  · exact Nat.le_of_ble_eq_true rfl
  refine on_vreturn rfl rfl ?_
  refine ⟨rfl, rfl, ⟨on_up_eq _ _ _, ?_, ?_⟩, (((on_sm.rf.up (by omega) (by omega)).up (by omega) (by omega)).up (by omega) (by omega)).up (by omega) (by omega)⟩
  · repeat (first | assumption | exact on_up_eq _ _ _ | refine (on_up_ne (by omega)).trans ?_)
  · repeat (first | assumption | exact on_up_eq _ _ _ | refine (on_up_ne (by omega)).trans ?_)
end MSJ
