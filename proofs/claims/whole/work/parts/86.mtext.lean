/-! the text that both sides hash -/
def st_x (a b m k x y : Nat → Nat) : Nat → Nat := fun i => if i < 32 then a i else if i < 64 then b (i - 32) else if i < 68 then m (i - 64) else if i < 100 then k (i - 68) else if i < 132 then x (i - 100) else if i < 164 then y (i - 132) else nm_b (i - 164)
section MTX
variable {G : on_G} {o sz bc bs : Nat} {x3 : Int32 × Int32 × Int32} {h : on_H} {Q : Option Value → on_H → Nat → Prop} {a b m k x y : Nat → Nat}
/-- the parts of the text that are laid in step, up to i -/
def st_1 (T : Nat → Int32) (a b k x y : Nat → Nat) (i : Nat) : Prop := ∀ j, j < i → T j = nI (a j) ∧ T (32 + j) = nI (b j) ∧ T (68 + j) = nI (k j) ∧ T (100 + j) = nI (x j) ∧ T (132 + j) = nI (y j)
set_option maxHeartbeats 8000000 in
theorem mtx_1 {q1 q2 q3 q4 q5 n4 n5 i4 i5 : Nat} {R1 R2 R3 R4 R5 : Nat → Int32} {R : Nat} {fs : List Value} (ho : h o = some (.inr (17, mo_f o x3.1 x3.2.1 x3.2.2))) (e1 : h q1 = some (on_ai 0 32 R1)) (e2 : h q2 = some (on_ai 0 32 R2)) (eR : h R = some (.inr (15, fs))) (eK : fs[3]? = some (.ref q3)) (e3 : h q3 = some (on_ai 0 32 R3)) (e4 : h q4 = some (on_ai 0 n4 R4)) (e5 : h q5 = some (on_ai 0 n5 R5))
    (d1 : q1 ≠ o + 20) (d2 : q2 ≠ o + 20) (dR : R ≠ o + 20) (d3 : q3 ≠ o + 20) (d4 : q4 ≠ o + 20) (d5 : q5 ≠ o + 20) (l4 : i4 + 32 ≤ n4 ∧ n4 < 2 ^ 31) (l5 : i5 + 32 ≤ n5 ∧ n5 < 2 ^ 31)
    (b1 : on_by R1 a 32) (b2 : on_by R2 b 32) (b3 : on_by R3 k 32) (b4 : ∀ j, j < 32 → R4 (i4 + j) = nI (x j)) (b5 : ∀ j, j < 32 → R5 (i5 + j) = nI (y j))
    (kk : ∀ T : Nat → Int32, st_1 T a b k x y 32 → on_E G M_M_secretText 95 (on_l [(0, .ref o), (3, .ref R)]) [] (on_up h (o + 20) (on_ai 0 256 T)) sz bc bs Q) :
    ∀ (m i : Nat) (T : Nat → Int32), i + m = 32 → st_1 T a b k x y i → on_E G M_M_secretText 3 (on_l [(0, .ref o), (1, .ref q1), (2, .ref q2), (3, .ref R), (4, .ref q4), (5, .int (nI i4)), (6, .ref q5), (7, .int (nI i5)), (8, .int (nI i))]) [] (on_up h (o + 20) (on_ai 0 256 T)) sz bc bs Q := by
  intro m
  induction m with
  | zero =>
    intro i T hi hT
    obtain rfl : i = 32 := by omega
    refine on_iload (pc' := 5) rfl rfl rfl ?_
    refine on_bipush (pc' := 7) (v := 32) rfl rfl lb_32 ?_
    refine on_icmp_ge (pc' := 10) (tgt := 95) rfl rfl rfl (fun cq => ?_) (fun cq => ?_)
    · exact on_relv (l := [(0, .ref o), (3, .ref R)]) ⟨rfl, rfl, trivial⟩ (kk T hT)
    · exact absurd (nI_le (a := 32) (by omega) (by omega)) cq
  | succ m ih =>
    intro i T hi hT
    have hi1 : i < 32 ∧ 32 < 2 ^ 31 := by omega
    have hi2 : i < 256 ∧ 256 < 2 ^ 31 := by omega
    have p2 : 32 + i < 256 ∧ 256 < 2 ^ 31 := by omega
    have p3 : 68 + i < 256 ∧ 256 < 2 ^ 31 := by omega
    have p4 : 100 + i < 256 ∧ 256 < 2 ^ 31 := by omega
    have p5 : 132 + i < 256 ∧ 256 < 2 ^ 31 := by omega
    have s2 : (32 : Int32) + nI i = nI (32 + i) := nI_add 32 i
    have s3 : (68 : Int32) + nI i = nI (68 + i) := nI_add 68 i
    have s4 : (100 : Int32) + nI i = nI (100 + i) := nI_add 100 i
    have s5 : (132 : Int32) + nI i = nI (132 + i) := nI_add 132 i
    have u4 : nI i4 + nI i = nI (i4 + i) := nI_add i4 i
    have u5 : nI i5 + nI i = nI (i5 + i) := nI_add i5 i
    have v4 : i4 + i < n4 ∧ n4 < 2 ^ 31 := by omega
    have v5 : i5 + i < n5 ∧ n5 < 2 ^ 31 := by omega
    refine on_iload (pc' := 5) rfl rfl rfl ?_
    refine on_bipush (pc' := 7) (v := 32) rfl rfl lb_32 ?_
    refine on_icmp_ge (pc' := 10) (tgt := 95) rfl rfl rfl (fun cq => ?_) (fun cq => ?_)
    · exact absurd cq (nI_ge (b := 32) (by omega) (by omega))
    · first | refine on_aload_n (pc' := 11) rfl rfl rfl rfl ?_ | refine on_aload_nQ (pc' := 11) rfl rfl rfl rfl ?_
      first | apply on_get (pc' := 14) rfl rfl fl_M_61 | apply on_getN (pc' := 14) rfl rfl fl_M_61
      · repeat (first | assumption | exact on_up_eq _ _ _ | refine (on_up_ne (by omega)).trans ?_)
      · rfl
      refine on_iload (pc' := 16) rfl rfl rfl ?_
      first | refine on_aload_n (pc' := 17) rfl rfl rfl rfl ?_ | refine on_aload_nQ (pc' := 17) rfl rfl rfl rfl ?_
      refine on_iload (pc' := 19) rfl rfl rfl ?_
      apply on_ialoadK (pc' := 20) (t := 0) rfl rfl
      · repeat (first | assumption | exact on_up_eq _ _ _ | refine (on_up_ne (by omega)).trans ?_)
      · rfl
      · first | assumption | exact on_lit _ | rfl
      · first | assumption | omega | decide
      rw [(b1 i hi1.1).1]
      apply on_iastoreK (pc' := 21) (t := 0) rfl rfl
      · repeat (first | assumption | exact on_up_eq _ _ _ | refine (on_up_ne (by omega)).trans ?_)
      · rfl
      · first | assumption | exact on_lit _ | rfl
      · first | assumption | omega | decide
      first | refine on_aload_n (pc' := 22) rfl rfl rfl rfl ?_ | refine on_aload_nQ (pc' := 22) rfl rfl rfl rfl ?_
      first | apply on_get (pc' := 25) rfl rfl fl_M_61 | apply on_getN (pc' := 25) rfl rfl fl_M_61
      · repeat (first | assumption | exact on_up_eq _ _ _ | refine (on_up_ne (by omega)).trans ?_)
      · rfl
      refine on_bipush (pc' := 27) (v := 32) rfl rfl lb_32 ?_
      refine on_iload (pc' := 29) rfl rfl rfl ?_
      refine on_iadd (pc' := 30) rfl rfl ?_
      rw [s2]
      first | refine on_aload_n (pc' := 31) rfl rfl rfl rfl ?_ | refine on_aload_nQ (pc' := 31) rfl rfl rfl rfl ?_
      refine on_iload (pc' := 33) rfl rfl rfl ?_
      apply on_ialoadK (pc' := 34) (t := 0) rfl rfl
      · repeat (first | assumption | exact on_up_eq _ _ _ | refine (on_up_ne (by omega)).trans ?_)
      · rfl
      · first | assumption | exact on_lit _ | rfl
      · first | assumption | omega | decide
      rw [(b2 i hi1.1).1]
      apply on_iastoreK (pc' := 35) (t := 0) rfl rfl
      · repeat (first | assumption | exact on_up_eq _ _ _ | refine (on_up_ne (by omega)).trans ?_)
      · rfl
      · first | assumption | exact on_lit _ | rfl
      · first | assumption | omega | decide
      first | refine on_aload_n (pc' := 36) rfl rfl rfl rfl ?_ | refine on_aload_nQ (pc' := 36) rfl rfl rfl rfl ?_
      first | apply on_get (pc' := 39) rfl rfl fl_M_61 | apply on_getN (pc' := 39) rfl rfl fl_M_61
      · repeat (first | assumption | exact on_up_eq _ _ _ | refine (on_up_ne (by omega)).trans ?_)
      · rfl
      refine on_bipush (pc' := 41) (v := 68) rfl rfl lb_68 ?_
      refine on_iload (pc' := 43) rfl rfl rfl ?_
      refine on_iadd (pc' := 44) rfl rfl ?_
      rw [s3]
      first | refine on_aload_n (pc' := 45) rfl rfl rfl rfl ?_ | refine on_aload_nQ (pc' := 45) rfl rfl rfl rfl ?_
      apply on_getN (pc' := 48) rfl rfl fl_M_284
      · repeat (first | assumption | exact on_up_eq _ _ _ | refine (on_up_ne (by omega)).trans ?_)
      · exact eK
      refine on_iload (pc' := 50) rfl rfl rfl ?_
      apply on_ialoadK (pc' := 51) (t := 0) rfl rfl
      · repeat (first | assumption | exact on_up_eq _ _ _ | refine (on_up_ne (by omega)).trans ?_)
      · rfl
      · first | assumption | exact on_lit _ | rfl
      · first | assumption | omega | decide
      rw [(b3 i hi1.1).1]
      apply on_iastoreK (pc' := 52) (t := 0) rfl rfl
      · repeat (first | assumption | exact on_up_eq _ _ _ | refine (on_up_ne (by omega)).trans ?_)
      · rfl
      · first | assumption | exact on_lit _ | rfl
      · first | assumption | omega | decide
      first | refine on_aload_n (pc' := 53) rfl rfl rfl rfl ?_ | refine on_aload_nQ (pc' := 53) rfl rfl rfl rfl ?_
      first | apply on_get (pc' := 56) rfl rfl fl_M_61 | apply on_getN (pc' := 56) rfl rfl fl_M_61
      · repeat (first | assumption | exact on_up_eq _ _ _ | refine (on_up_ne (by omega)).trans ?_)
      · rfl
      refine on_bipush (pc' := 58) (v := 100) rfl rfl lb_100 ?_
      refine on_iload (pc' := 60) rfl rfl rfl ?_
      refine on_iadd (pc' := 61) rfl rfl ?_
      rw [s4]
      first | refine on_aload (pc' := 63) rfl rfl rfl ?_ | refine on_aloadQ (pc' := 63) rfl rfl rfl ?_
      refine on_iload (pc' := 65) rfl rfl rfl ?_
      refine on_iload (pc' := 67) rfl rfl rfl ?_
      refine on_iadd (pc' := 68) rfl rfl ?_
      rw [u4]
      apply on_ialoadK (pc' := 69) (t := 0) rfl rfl
      · repeat (first | assumption | exact on_up_eq _ _ _ | refine (on_up_ne (by omega)).trans ?_)
      · rfl
      · first | assumption | exact on_lit _ | rfl
      · first | assumption | omega | decide
      rw [b4 i hi1.1]
      apply on_iastoreK (pc' := 70) (t := 0) rfl rfl
      · repeat (first | assumption | exact on_up_eq _ _ _ | refine (on_up_ne (by omega)).trans ?_)
      · rfl
      · first | assumption | exact on_lit _ | rfl
      · first | assumption | omega | decide
      first | refine on_aload_n (pc' := 71) rfl rfl rfl rfl ?_ | refine on_aload_nQ (pc' := 71) rfl rfl rfl rfl ?_
      first | apply on_get (pc' := 74) rfl rfl fl_M_61 | apply on_getN (pc' := 74) rfl rfl fl_M_61
      · repeat (first | assumption | exact on_up_eq _ _ _ | refine (on_up_ne (by omega)).trans ?_)
      · rfl
      refine on_sipush (pc' := 77) (v := 132) rfl rfl ls_132 ?_
      refine on_iload (pc' := 79) rfl rfl rfl ?_
      refine on_iadd (pc' := 80) rfl rfl ?_
      rw [s5]
      first | refine on_aload (pc' := 82) rfl rfl rfl ?_ | refine on_aloadQ (pc' := 82) rfl rfl rfl ?_
      refine on_iload (pc' := 84) rfl rfl rfl ?_
      refine on_iload (pc' := 86) rfl rfl rfl ?_
      refine on_iadd (pc' := 87) rfl rfl ?_
      rw [u5]
      apply on_ialoadK (pc' := 88) (t := 0) rfl rfl
      · repeat (first | assumption | exact on_up_eq _ _ _ | refine (on_up_ne (by omega)).trans ?_)
      · rfl
      · first | assumption | exact on_lit _ | rfl
      · first | assumption | omega | decide
      rw [b5 i hi1.1]
      apply on_iastoreK (pc' := 89) (t := 0) rfl rfl
      · repeat (first | assumption | exact on_up_eq _ _ _ | refine (on_up_ne (by omega)).trans ?_)
      · rfl
      · first | assumption | exact on_lit _ | rfl
      · first | assumption | omega | decide
      refine on_iinc1 (pc' := 92) rfl rfl rfl ?_
      refine on_goto (tgt := 3) rfl rfl ?_
      simp only [on_up_up]
      refine on_relv (l := [(0, .ref o), (1, .ref q1), (2, .ref q2), (3, .ref R), (4, .ref q4), (5, .int (nI i4)), (6, .ref q5), (7, .int (nI i5)), (8, .int (nI (i + 1)))]) ⟨rfl, rfl, rfl, rfl, rfl, rfl, rfl, rfl, congrArg some (congrArg Value.int (nI_1 i)), trivial⟩ (ih (i + 1) _ (by omega) (fun j hj => ?_))
      by_cases e : j = i
      · subst e
        refine ⟨?_, ?_, ?_, ?_, ?_⟩
        · rw [pk_un (by omega), pk_un (by omega), pk_un (by omega), pk_un (by omega), pk_us]
        · rw [pk_un (by omega), pk_un (by omega), pk_un (by omega), pk_us]
        · rw [pk_un (by omega), pk_un (by omega), pk_us]
        · rw [pk_un (by omega), pk_us]
        · rw [pk_us]
      · obtain ⟨g1, g2, g3, g4, g5⟩ := hT j (by omega)
        refine ⟨?_, ?_, ?_, ?_, ?_⟩
        all_goals rw [pk_un (by omega), pk_un (by omega), pk_un (by omega), pk_un (by omega), pk_un (by omega)]
        all_goals assumption
set_option maxHeartbeats 4000000 in
theorem mtx_2 {q6 : Nat} {R6 : Nat → Int32} {R : Nat} {fs : List Value} (ho : h o = some (.inr (17, mo_f o x3.1 x3.2.1 x3.2.2))) (eR : h R = some (.inr (15, fs))) (eK : fs[4]? = some (.ref q6)) (e6 : h q6 = some (on_ai 0 32 R6)) (dR : R ≠ o + 20) (d6 : q6 ≠ o + 20) (b6 : on_by R6 m 4)
    (kk : ∀ T : Nat → Int32, st_1 T a b k x y 32 → (∀ j, j < 4 → T (64 + j) = nI (m j)) → on_E G M_M_secretText 131 (on_l [(0, .ref o), (8, .ref (on_sa G 10))]) [] (on_up h (o + 20) (on_ai 0 256 T)) sz bc bs Q) :
    ∀ (mm i : Nat) (T : Nat → Int32), i + mm = 4 → st_1 T a b k x y 32 → (∀ j, j < i → T (64 + j) = nI (m j)) → on_E G M_M_secretText 102 (on_l [(0, .ref o), (3, .ref R), (8, .ref (on_sa G 10)), (9, .int (nI i))]) [] (on_up h (o + 20) (on_ai 0 256 T)) sz bc bs Q := by
  intro mm
  induction mm with
  | zero =>
    intro i T hi hT hM
    obtain rfl : i = 4 := by omega
    refine on_iload (pc' := 104) rfl rfl rfl ?_
    refine on_iconst (pc' := 105) (v := 4) rfl rfl li_4 ?_
    refine on_icmp_ge (pc' := 108) (tgt := 131) rfl rfl rfl (fun cq => ?_) (fun cq => ?_)
    · exact on_relv (l := [(0, .ref o), (8, .ref (on_sa G 10))]) ⟨rfl, rfl, trivial⟩ (kk T hT hM)
    · exact absurd (nI_le (a := 4) (by omega) (by omega)) cq
  | succ mm ih =>
    intro i T hi hT hM
    have hi1 : i < 32 ∧ 32 < 2 ^ 31 := by omega
    have p2 : 64 + i < 256 ∧ 256 < 2 ^ 31 := by omega
    have s2 : (64 : Int32) + nI i = nI (64 + i) := nI_add 64 i
    refine on_iload (pc' := 104) rfl rfl rfl ?_
    refine on_iconst (pc' := 105) (v := 4) rfl rfl li_4 ?_
    refine on_icmp_ge (pc' := 108) (tgt := 131) rfl rfl rfl (fun cq => ?_) (fun cq => ?_)
    · exact absurd cq (nI_ge (b := 4) (by omega) (by omega))
    · first | refine on_aload_n (pc' := 109) rfl rfl rfl rfl ?_ | refine on_aload_nQ (pc' := 109) rfl rfl rfl rfl ?_
      first | apply on_get (pc' := 112) rfl rfl fl_M_61 | apply on_getN (pc' := 112) rfl rfl fl_M_61
      · repeat (first | assumption | exact on_up_eq _ _ _ | refine (on_up_ne (by omega)).trans ?_)
      · rfl
      refine on_bipush (pc' := 114) (v := 64) rfl rfl lb_64 ?_
      refine on_iload (pc' := 116) rfl rfl rfl ?_
      refine on_iadd (pc' := 117) rfl rfl ?_
      rw [s2]
      first | refine on_aload_n (pc' := 118) rfl rfl rfl rfl ?_ | refine on_aload_nQ (pc' := 118) rfl rfl rfl rfl ?_
      apply on_getN (pc' := 121) rfl rfl fl_M_285
      · repeat (first | assumption | exact on_up_eq _ _ _ | refine (on_up_ne (by omega)).trans ?_)
      · exact eK
      refine on_iload (pc' := 123) rfl rfl rfl ?_
      apply on_ialoadK (pc' := 124) (t := 0) rfl rfl
      · repeat (first | assumption | exact on_up_eq _ _ _ | refine (on_up_ne (by omega)).trans ?_)
      · rfl
      · first | assumption | exact on_lit _ | rfl
      · first | assumption | omega | decide
      rw [(b6 i (by omega)).1]
      apply on_iastoreK (pc' := 125) (t := 0) rfl rfl
      · repeat (first | assumption | exact on_up_eq _ _ _ | refine (on_up_ne (by omega)).trans ?_)
      · rfl
      · first | assumption | exact on_lit _ | rfl
      · first | assumption | omega | decide
      refine on_iinc1 (pc' := 128) rfl rfl rfl ?_
      refine on_goto (tgt := 102) rfl rfl ?_
      rw [on_up_up]
      refine on_relv (l := [(0, .ref o), (3, .ref R), (8, .ref (on_sa G 10)), (9, .int (nI (i + 1)))]) ⟨rfl, rfl, rfl, congrArg some (congrArg Value.int (nI_1 i)), trivial⟩ (ih (i + 1) _ (by omega) (fun j hj => ?_) (fun j hj => ?_))
      · obtain ⟨g1, g2, g3, g4, g5⟩ := hT j hj
        refine ⟨?_, ?_, ?_, ?_, ?_⟩
        all_goals rw [pk_un (by omega)]
        all_goals assumption
      · by_cases e : j = i
        · subst e; exact pk_us
        · rw [pk_un (by omega)]; exact hM j (by omega)
set_option maxHeartbeats 4000000 in
theorem mtx_3 (ho : h o = some (.inr (17, mo_f o x3.1 x3.2.1 x3.2.2)))
    (kk : ∀ T : Nat → Int32, st_1 T a b k x y 32 → (∀ j, j < 4 → T (64 + j) = nI (m j)) → (∀ j, j < 8 → T (164 + j) = nI (nm_b j)) → on_E G M_M_secretText 165 (on_l []) [] (on_up h (o + 20) (on_ai 0 256 T)) sz bc bs Q) :
    ∀ (mm i : Nat) (T : Nat → Int32), i + mm = 8 → st_1 T a b k x y 32 → (∀ j, j < 4 → T (64 + j) = nI (m j)) → (∀ j, j < i → T (164 + j) = nI (nm_b j)) → on_E G M_M_secretText 134 (on_l [(0, .ref o), (8, .ref (on_sa G 10)), (9, .int (nI i))]) [] (on_up h (o + 20) (on_ai 0 256 T)) sz bc bs Q := by
  intro mm
  induction mm with
  | zero =>
    intro i T hi hT hM hN
    obtain rfl : i = 8 := by omega
    refine on_iload (pc' := 136) rfl rfl rfl ?_
    refine on_bipush (pc' := 138) (v := 8) rfl rfl lb_8 ?_
    refine on_icmp_ge (pc' := 141) (tgt := 165) rfl rfl rfl (fun cq => ?_) (fun cq => ?_)
    · exact on_relv (l := []) trivial (kk T hT hM hN)
    · exact absurd (nI_le (a := 8) (by omega) (by omega)) cq
  | succ mm ih =>
    intro i T hi hT hM hN
    have p2 : 164 + i < 256 ∧ 256 < 2 ^ 31 := by omega
    have s2 : (164 : Int32) + nI i = nI (164 + i) := nI_add 164 i
    refine on_iload (pc' := 136) rfl rfl rfl ?_
    refine on_bipush (pc' := 138) (v := 8) rfl rfl lb_8 ?_
    refine on_icmp_ge (pc' := 141) (tgt := 165) rfl rfl rfl (fun cq => ?_) (fun cq => ?_)
    · exact absurd cq (nI_ge (b := 8) (by omega) (by omega))
    · first | refine on_aload_n (pc' := 142) rfl rfl rfl rfl ?_ | refine on_aload_nQ (pc' := 142) rfl rfl rfl rfl ?_
      first | apply on_get (pc' := 145) rfl rfl fl_M_61 | apply on_getN (pc' := 145) rfl rfl fl_M_61
      · repeat (first | assumption | exact on_up_eq _ _ _ | refine (on_up_ne (by omega)).trans ?_)
      · rfl
      refine on_sipush (pc' := 148) (v := 164) rfl rfl ls_164 ?_
      refine on_iload (pc' := 150) rfl rfl rfl ?_
      refine on_iadd (pc' := 151) rfl rfl ?_
      rw [s2]
      first | refine on_aload (pc' := 153) rfl rfl rfl ?_ | refine on_aloadQ (pc' := 153) rfl rfl rfl ?_
      refine on_iload (pc' := 155) rfl rfl rfl ?_
      refine on_charAt (pc' := 158) (i := 0) (j := i) rfl rfl cw_M_secretText_149 (by decide) (show i < 8 by omega) (Nat.le_of_ble_eq_true rfl) ?_
      apply on_iastoreK (pc' := 159) (t := 0) rfl rfl
      · repeat (first | assumption | exact on_up_eq _ _ _ | refine (on_up_ne (by omega)).trans ?_)
      · rfl
      · first | assumption | exact on_lit _ | rfl
      · first | assumption | omega | decide
      refine on_iinc1 (pc' := 162) rfl rfl rfl ?_
      refine on_goto (tgt := 134) rfl rfl ?_
      rw [on_up_up]
      refine on_relv (l := [(0, .ref o), (8, .ref (on_sa G 10)), (9, .int (nI (i + 1)))]) ⟨rfl, rfl, congrArg some (congrArg Value.int (nI_1 i)), trivial⟩ (ih (i + 1) _ (by omega) (fun j hj => ?_) (fun j hj => ?_) (fun j hj => ?_))
      · obtain ⟨g1, g2, g3, g4, g5⟩ := hT j hj
        refine ⟨?_, ?_, ?_, ?_, ?_⟩
        all_goals rw [pk_un (by omega)]
        all_goals assumption
      · rw [pk_un (by omega)]; exact hM j hj
      · by_cases e : j = i
        · subst e; exact pk_us
        · rw [pk_un (by omega)]; exact hN j (by omega)
theorem st_by {T : Nat → Int32} (h1 : st_1 T a b k x y 32) (h2 : ∀ j, j < 4 → T (64 + j) = nI (m j)) (h3 : ∀ j, j < 8 → T (164 + j) = nI (nm_b j)) (la : ∀ j, j < 32 → a j < 256 ∧ b j < 256 ∧ k j < 256 ∧ x j < 256 ∧ y j < 256) (lm : ∀ j, j < 4 → m j < 256) : on_by T (st_x a b m k x y) 172 := by
  intro i hi
  unfold st_x
  by_cases c1 : i < 32
  · rw [if_pos c1]; exact ⟨(h1 i c1).1, (la i c1).1⟩
  rw [if_neg c1]
  by_cases c2 : i < 64
  · rw [if_pos c2]
    have := (h1 (i - 32) (by omega)).2.1
    rw [show 32 + (i - 32) = i by omega] at this
    exact ⟨this, (la (i - 32) (by omega)).2.1⟩
  rw [if_neg c2]
  by_cases c3 : i < 68
  · rw [if_pos c3]
    have := h2 (i - 64) (by omega)
    rw [show 64 + (i - 64) = i by omega] at this
    exact ⟨this, lm _ (by omega)⟩
  rw [if_neg c3]
  by_cases c4 : i < 100
  · rw [if_pos c4]
    have := (h1 (i - 68) (by omega)).2.2.1
    rw [show 68 + (i - 68) = i by omega] at this
    exact ⟨this, (la (i - 68) (by omega)).2.2.1⟩
  rw [if_neg c4]
  by_cases c5 : i < 132
  · rw [if_pos c5]
    have := (h1 (i - 100) (by omega)).2.2.2.1
    rw [show 100 + (i - 100) = i by omega] at this
    exact ⟨this, (la (i - 100) (by omega)).2.2.2.1⟩
  rw [if_neg c5]
  by_cases c6 : i < 164
  · rw [if_pos c6]
    have := (h1 (i - 132) (by omega)).2.2.2.2
    rw [show 132 + (i - 132) = i by omega] at this
    exact ⟨this, (la (i - 132) (by omega)).2.2.2.2⟩
  rw [if_neg c6]
  have := h3 (i - 164) (by omega)
  rw [show 164 + (i - 164) = i by omega] at this
  exact ⟨this, nm_lt _ (by omega)⟩
set_option maxHeartbeats 4000000 in
/-- secretText -/
theorem c_M_secretText {q1 q2 q3 q4 q5 q6 n4 n5 i4 i5 : Nat} {R1 R2 R3 R4 R5 R6 T0 : Nat → Int32} {R : Nat} {fs : List Value} (ho : h o = some (.inr (17, mo_f o x3.1 x3.2.1 x3.2.2))) (ht : h (o + 20) = some (on_ai 0 256 T0)) (e1 : h q1 = some (on_ai 0 32 R1)) (e2 : h q2 = some (on_ai 0 32 R2)) (eR : h R = some (.inr (15, fs))) (eK : fs[3]? = some (.ref q3)) (eM : fs[4]? = some (.ref q6)) (e3 : h q3 = some (on_ai 0 32 R3)) (e6 : h q6 = some (on_ai 0 32 R6)) (e4 : h q4 = some (on_ai 0 n4 R4)) (e5 : h q5 = some (on_ai 0 n5 R5))
    (d1 : q1 ≠ o + 20) (d2 : q2 ≠ o + 20) (d3 : q3 ≠ o + 20) (d4 : q4 ≠ o + 20) (d5 : q5 ≠ o + 20) (d6 : q6 ≠ o + 20) (l4 : i4 + 32 ≤ n4 ∧ n4 < 2 ^ 31) (l5 : i5 + 32 ≤ n5 ∧ n5 < 2 ^ 31)
    (b1 : on_by R1 a 32) (b2 : on_by R2 b 32) (b3 : on_by R3 k 32) (b6 : on_by R6 m 4) (b4 : ∀ j, j < 32 → R4 (i4 + j) = nI (x j)) (b4' : ∀ j, j < 32 → x j < 256) (b5 : ∀ j, j < 32 → R5 (i5 + j) = nI (y j)) (b5' : ∀ j, j < 32 → y j < 256) :
    on_Ct G M_M_secretText [.ref o, .ref q1, .ref q2, .ref R, .ref q4, .int (nI i4), .ref q5, .int (nI i5)] h sz 0 0 (fun r h1 z => r = some (.int (nI 172)) ∧ z = sz ∧ ∃ T, h1 = on_up h (o + 20) (on_ai 0 256 T) ∧ on_by T (st_x a b m k x y) 172) := by
  have dR : R ≠ o + 20 := fun e => by rw [e, ht] at eR; cases eR
  refine on_Ct.of (by decide) v_M_secretText (Nat.le_of_ble_eq_true rfl) ?_
  refine on_iconst (pc' := 1) (v := 0) rfl rfl li_0 ?_
  refine on_istore (pc' := 3) rfl rfl (by decide) ?_
  have z := mtx_1 (G := G) (sz := sz) (bc := 0) (bs := 0) (a := a) (b := b) (k := k) (x := x) (y := y) (Q := fun r h1 z => r = some (.int (nI 172)) ∧ z = sz ∧ ∃ T, h1 = on_up h (o + 20) (on_ai 0 256 T) ∧ on_by T (st_x a b m k x y) 172) ho e1 e2 eR eK e3 e4 e5 d1 d2 dR d3 d4 d5 l4 l5 b1 b2 b3 b4 b5 ?_ 32 0 T0 rfl (fun j hj => absurd hj (by omega))
  · rw [on_up_self ht] at z
    exact on_relv (l := [(0, .ref o), (1, .ref q1), (2, .ref q2), (3, .ref R), (4, .ref q4), (5, .int (nI i4)), (6, .ref q5), (7, .int (nI i5)), (8, .int (nI 0))]) ⟨rfl, rfl, rfl, rfl, rfl, rfl, rfl, rfl, rfl, trivial⟩ z
  intro T hT
  refine on_ldcS (pc' := 97) (i := 10) rfl rfl rfl (Or.inl ⟨rfl, rfl⟩) ?_
  first | refine on_astore (pc' := 99) rfl rfl (by decide) ?_ | refine on_astoreQ (pc' := 99) rfl rfl (by decide) ?_
  refine on_iconst (pc' := 100) (v := 0) rfl rfl li_0 ?_
  refine on_istore (pc' := 102) rfl rfl (by decide) ?_
  refine on_relv (l := [(0, .ref o), (3, .ref R), (8, .ref (on_sa G 10)), (9, .int (nI 0))]) ⟨rfl, rfl, rfl, rfl, trivial⟩ (mtx_2 (m := m) (a := a) (b := b) (k := k) (x := x) (y := y) ho eR eM e6 dR d6 b6 (fun T2 hT2 hM2 => ?_) 4 0 T rfl hT (fun j hj => absurd hj (by omega)))
  refine on_iconst (pc' := 132) (v := 0) rfl rfl li_0 ?_
  refine on_istore (pc' := 134) rfl rfl (by decide) ?_
  refine on_relv (l := [(0, .ref o), (8, .ref (on_sa G 10)), (9, .int (nI 0))]) ⟨rfl, rfl, rfl, trivial⟩ (mtx_3 (m := m) (a := a) (b := b) (k := k) (x := x) (y := y) ho (fun T3 hT3 hM3 hN3 => ?_) 8 0 T2 rfl hT2 hM2 (fun j hj => absurd hj (by omega)))
  refine on_sipush (pc' := 168) (v := 172) rfl rfl ls_172 ?_
  refine on_ireturn rfl rfl ?_
  exact ⟨rfl, rfl, T3, rfl, st_by hT3 hM3 hN3 (fun j hj => ⟨(b1 j hj).2, (b2 j hj).2, (b3 j hj).2, b4' j hj, b5' j hj⟩) (fun j hj => (b6 j hj).2)⟩
end MTX
