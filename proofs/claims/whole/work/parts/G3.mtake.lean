/-! the reference: the first cell of a link; numbers of nodes -/
section MTF
variable {G : on_G} {o fr to sz bc bs : Nat} {x3 : Int32 × Int32 × Int32} {lk : Nat → List aB} {h : on_H} {Q : Option Value → on_H → Nat → Prop} {x : aB} {l : List aB} {C Y : Nat → Int32} {A j : Nat}
set_option maxHeartbeats 4000000 in
theorem mtf_1 (hA : A + 140 ≤ 112000) (ho : h o = some (.inr (17, mo_f o x3.1 x3.2.1 x3.2.2))) (hc : h (o + 6) = some (on_ai 0 112000 C))
    (kk : ∀ P : Nat → Int32, (∀ i, i < 140 → P i = C (A + i)) → on_E G M_M_takeFirst 48 (on_l [(0, .ref o), (3, .int (nI j)), (4, .int (nI A))]) [] (on_up h (o + 24) (on_ai 0 140 P)) sz bc bs Q) :
    ∀ (m k : Nat) (P : Nat → Int32), k + m = 140 → (∀ i, i < k → P i = C (A + i)) → on_E G M_M_takeFirst 17 (on_l [(0, .ref o), (3, .int (nI j)), (4, .int (nI A)), (5, .int (nI k))]) [] (on_up h (o + 24) (on_ai 0 140 P)) sz bc bs Q := by
  intro m
  induction m with
  | zero =>
    intro k P hk hP
    obtain rfl : k = 140 := by omega
    refine on_iload (pc' := 19) rfl rfl rfl ?_
    refine on_sipush (pc' := 22) (v := 140) rfl rfl ls_140 ?_
    refine on_icmp_ge (pc' := 25) (tgt := 48) rfl rfl rfl (fun cq => ?_) (fun cq => ?_)
    · exact on_relv (l := [(0, .ref o), (3, .int (nI j)), (4, .int (nI A))]) ⟨rfl, rfl, rfl, trivial⟩ (kk P hP)
    · exact absurd (by decide) cq
  | succ m ih =>
    intro k P hk hP
    have o1 : on_up h (o + 24) (on_ai 0 140 P) o = _ := (on_up_ne (by omega)).trans ho
    have q1 : on_up h (o + 24) (on_ai 0 140 P) (o + 6) = some (on_ai 0 112000 C) := (on_up_ne (by omega)).trans hc
    have p1 : on_up h (o + 24) (on_ai 0 140 P) (o + 24) = some (on_ai 0 140 P) := on_up_eq _ _ _
    have i1 : k < 140 ∧ 140 < 2 ^ 31 := by omega
    have i2 : A + k < 112000 ∧ 112000 < 2 ^ 31 := by omega
    refine on_iload (pc' := 19) rfl rfl rfl ?_
    refine on_sipush (pc' := 22) (v := 140) rfl rfl ls_140 ?_
    refine on_icmp_ge (pc' := 25) (tgt := 48) rfl rfl rfl (fun cq => ?_) (fun cq => ?_)
    · exact absurd cq (nI_ge (b := 140) i1.1 (by decide))
    · clear cq
      first | refine on_aload_n (pc' := 26) rfl rfl rfl rfl ?_ | refine on_aload_nQ (pc' := 26) rfl rfl rfl rfl ?_
      first | apply on_get (pc' := 29) rfl rfl fl_M_73 | apply on_getN (pc' := 29) rfl rfl fl_M_73
      · repeat (first | assumption | exact on_up_eq _ _ _ | refine (on_up_ne (by omega)).trans ?_)
      · rfl
      refine on_iload (pc' := 31) rfl rfl rfl ?_
      first | refine on_aload_n (pc' := 32) rfl rfl rfl rfl ?_ | refine on_aload_nQ (pc' := 32) rfl rfl rfl rfl ?_
      first | apply on_get (pc' := 35) rfl rfl fl_M_33 | apply on_getN (pc' := 35) rfl rfl fl_M_33
      · repeat (first | assumption | exact on_up_eq _ _ _ | refine (on_up_ne (by omega)).trans ?_)
      · rfl
      refine on_iload (pc' := 37) rfl rfl rfl ?_
      refine on_iload (pc' := 39) rfl rfl rfl ?_
      refine on_iadd (pc' := 40) rfl rfl ?_
      rw [nI_add A k]
      apply on_ialoadK (pc' := 41) (t := 0) rfl rfl
      · repeat (first | assumption | exact on_up_eq _ _ _ | refine (on_up_ne (by omega)).trans ?_)
      · rfl
      · first | assumption | exact on_lit _ | rfl
      · first | assumption | omega | decide
      apply on_iastoreK (pc' := 42) (t := 0) rfl rfl
      · repeat (first | assumption | exact on_up_eq _ _ _ | refine (on_up_ne (by omega)).trans ?_)
      · rfl
      · first | assumption | exact on_lit _ | rfl
      · first | assumption | omega | decide
      refine on_iinc1 (pc' := 45) rfl rfl rfl ?_
      refine on_goto (tgt := 17) rfl rfl ?_
      rw [on_up_up]
      refine on_relv (l := [(0, .ref o), (3, .int (nI j)), (4, .int (nI A)), (5, .int (nI (k + 1)))]) ⟨rfl, rfl, rfl, congrArg some (congrArg Value.int (nI_1 k)), trivial⟩ (ih (k + 1) _ (by omega) (fun i hi => ?_))
      by_cases z : i = k
      · rw [z, pk_us]
      · rw [pk_un z]
        exact hP i (by omega)
/-- the cells behind it move up: m places -/
def mv_c (C : Nat → Int32) (A m : Nat) : Nat → Int32 := fun i => if A ≤ i ∧ i < A + m then C (i + 140) else C i
theorem mv_c_0 : mv_c C A 0 = C := funext fun i => if_neg (by omega)
theorem mv_c_s {m : Nat} : upd (mv_c C A m) (A + m) (C (A + 140 + m)) = mv_c C A (m + 1) := funext fun i => by
  by_cases z : i = A + m
  · rw [z, pk_us]
    unfold mv_c
    rw [if_pos (by omega), show A + m + 140 = A + 140 + m by omega]
  · rw [pk_un z]
    unfold mv_c
    by_cases w : A ≤ i ∧ i < A + m
    · rw [if_pos w, if_pos (by omega)]
    · rw [if_neg w, if_neg (by omega)]
set_option maxHeartbeats 4000000 in
theorem mtf_2 {n : Nat} (hA : A + 1120 ≤ 112000) (hj : j < 100) (hn : n ≤ 7) (ho : h o = some (.inr (17, mo_f o x3.1 x3.2.1 x3.2.2))) (hY : h (o + 7) = some (on_ai 0 100 Y)) (hYj : Y j = nI n)
    (kk : on_E G M_M_takeFirst 106 (on_l []) [] (on_up h (o + 6) (on_ai 0 112000 (mv_c C A (140 * n)))) sz bc bs Q) :
    ∀ (m k : Nat), k + m = 140 * n → on_E G M_M_takeFirst 61 (on_l [(0, .ref o), (3, .int (nI j)), (4, .int (nI A)), (5, .int (nI k))]) [] (on_up h (o + 6) (on_ai 0 112000 (mv_c C A k))) sz bc bs Q := by
  have ij : j < 100 ∧ 100 < 2 ^ 31 := by omega
  intro m
  induction m with
  | zero =>
    intro k hk
    obtain rfl : k = 140 * n := by omega
    have o1 : on_up h (o + 6) (on_ai 0 112000 (mv_c C A (140 * n))) o = _ := (on_up_ne (by omega)).trans ho
    have y1 : on_up h (o + 6) (on_ai 0 112000 (mv_c C A (140 * n))) (o + 7) = some (on_ai 0 100 Y) := (on_up_ne (by omega)).trans hY
    refine on_iload (pc' := 63) rfl rfl rfl ?_
    refine on_sipush (pc' := 66) (v := 140) rfl rfl ls_140 ?_
    first | refine on_aload_n (pc' := 67) rfl rfl rfl rfl ?_ | refine on_aload_nQ (pc' := 67) rfl rfl rfl rfl ?_
    first | apply on_get (pc' := 70) rfl rfl fl_M_36 | apply on_getN (pc' := 70) rfl rfl fl_M_36
    · repeat (first | assumption | exact on_up_eq _ _ _ | refine (on_up_ne (by omega)).trans ?_)
    · rfl
    refine on_iload_n (pc' := 71) rfl rfl rfl rfl ?_
    apply on_ialoadK (pc' := 72) (t := 0) rfl rfl
    · repeat (first | assumption | exact on_up_eq _ _ _ | refine (on_up_ne (by omega)).trans ?_)
    · rfl
    · first | assumption | exact on_lit _ | rfl
    · first | assumption | omega | decide
    refine on_imul (pc' := 73) rfl rfl ?_
    rw [hYj, show (140 : Int32) * nI n = nI (140 * n) from pk_mul 140 n]
    refine on_icmp_ge (pc' := 76) (tgt := 106) rfl rfl rfl (fun cq => ?_) (fun cq => ?_)
    · exact on_relv (l := []) trivial kk
    · exact absurd (nI_le (a := 140 * n) (Nat.le_refl _) (by omega)) cq
  | succ m ih =>
    intro k hk
    have o1 : on_up h (o + 6) (on_ai 0 112000 (mv_c C A k)) o = _ := (on_up_ne (by omega)).trans ho
    have y1 : on_up h (o + 6) (on_ai 0 112000 (mv_c C A k)) (o + 7) = some (on_ai 0 100 Y) := (on_up_ne (by omega)).trans hY
    have c1 : on_up h (o + 6) (on_ai 0 112000 (mv_c C A k)) (o + 6) = some (on_ai 0 112000 (mv_c C A k)) := on_up_eq _ _ _
    have i1 : A + k < 112000 ∧ 112000 < 2 ^ 31 := by omega
    have i2 : A + 140 + k < 112000 ∧ 112000 < 2 ^ 31 := by omega
    have e : mv_c C A k (A + 140 + k) = C (A + 140 + k) := if_neg (by omega)
    refine on_iload (pc' := 63) rfl rfl rfl ?_
    refine on_sipush (pc' := 66) (v := 140) rfl rfl ls_140 ?_
    first | refine on_aload_n (pc' := 67) rfl rfl rfl rfl ?_ | refine on_aload_nQ (pc' := 67) rfl rfl rfl rfl ?_
    first | apply on_get (pc' := 70) rfl rfl fl_M_36 | apply on_getN (pc' := 70) rfl rfl fl_M_36
    · repeat (first | assumption | exact on_up_eq _ _ _ | refine (on_up_ne (by omega)).trans ?_)
    · rfl
    refine on_iload_n (pc' := 71) rfl rfl rfl rfl ?_
    apply on_ialoadK (pc' := 72) (t := 0) rfl rfl
    · repeat (first | assumption | exact on_up_eq _ _ _ | refine (on_up_ne (by omega)).trans ?_)
    · rfl
    · first | assumption | exact on_lit _ | rfl
    · first | assumption | omega | decide
    refine on_imul (pc' := 73) rfl rfl ?_
    rw [hYj, show (140 : Int32) * nI n = nI (140 * n) from pk_mul 140 n]
    refine on_icmp_ge (pc' := 76) (tgt := 106) rfl rfl rfl (fun cq => ?_) (fun cq => ?_)
    · exact absurd cq (nI_ge (b := 140 * n) (by omega) (by omega))
    · clear cq
      first | refine on_aload_n (pc' := 77) rfl rfl rfl rfl ?_ | refine on_aload_nQ (pc' := 77) rfl rfl rfl rfl ?_
      first | apply on_get (pc' := 80) rfl rfl fl_M_33 | apply on_getN (pc' := 80) rfl rfl fl_M_33
      · repeat (first | assumption | exact on_up_eq _ _ _ | refine (on_up_ne (by omega)).trans ?_)
      · rfl
      refine on_iload (pc' := 82) rfl rfl rfl ?_
      refine on_iload (pc' := 84) rfl rfl rfl ?_
      refine on_iadd (pc' := 85) rfl rfl ?_
      rw [nI_add A k]
      first | refine on_aload_n (pc' := 86) rfl rfl rfl rfl ?_ | refine on_aload_nQ (pc' := 86) rfl rfl rfl rfl ?_
      first | apply on_get (pc' := 89) rfl rfl fl_M_33 | apply on_getN (pc' := 89) rfl rfl fl_M_33
      · repeat (first | assumption | exact on_up_eq _ _ _ | refine (on_up_ne (by omega)).trans ?_)
      · rfl
      refine on_iload (pc' := 91) rfl rfl rfl ?_
      refine on_sipush (pc' := 94) (v := 140) rfl rfl ls_140 ?_
      refine on_iadd (pc' := 95) rfl rfl ?_
      refine on_iload (pc' := 97) rfl rfl rfl ?_
      refine on_iadd (pc' := 98) rfl rfl ?_
      rw [show nI A + 140 + nI k = nI (A + 140 + k) by rw [show (140 : Int32) = nI 140 from rfl, nI_add, nI_add]]
      apply on_ialoadK (pc' := 99) (t := 0) rfl rfl
      · repeat (first | assumption | exact on_up_eq _ _ _ | refine (on_up_ne (by omega)).trans ?_)
      · rfl
      · first | assumption | exact on_lit _ | rfl
      · first | assumption | omega | decide
      rw [e]
      apply on_iastoreK (pc' := 100) (t := 0) rfl rfl
      · repeat (first | assumption | exact on_up_eq _ _ _ | refine (on_up_ne (by omega)).trans ?_)
      · rfl
      · first | assumption | exact on_lit _ | rfl
      · first | assumption | omega | decide
      refine on_iinc1 (pc' := 103) rfl rfl rfl ?_
      refine on_goto (tgt := 61) rfl rfl ?_
      rw [on_up_up, mv_c_s]
      exact on_relv (l := [(0, .ref o), (3, .int (nI j)), (4, .int (nI A)), (5, .int (nI (k + 1)))]) ⟨rfl, rfl, rfl, congrArg some (congrArg Value.int (nI_1 k)), trivial⟩ (ih (k + 1) (by omega))
set_option maxHeartbeats 8000000 in
/-- takeFirst -/
theorem c_M_takeFirst (ho : h o = some (.inr (17, mo_f o x3.1 x3.2.1 x3.2.2))) (K : mk_L o lk h) (hf : fr < 10) (ht : to < 10) (hq : rW h (o + 24) 140) (hx : lk (10 * fr + to) = x :: l) :
    on_Ct G M_M_takeFirst [.ref o, .int (nI fr), .int (nI to)] h sz 0 0 (fun v h1 z => v = none ∧ z = sz ∧ rB h1 (o + 24) 140 x ∧ mk_L o (fu lk (10 * fr + to) l) h1 ∧ ∀ b, b ≠ o + 6 → b ≠ o + 7 → b ≠ o + 24 → h1 b = h b) := by
  obtain ⟨C, Y, k1, k2, k3⟩ := id K
  obtain ⟨P0, q1⟩ := hq
  have j100 : 10 * fr + to < 100 := by omega
  obtain ⟨y1, y2, y3⟩ := k3 _ j100
  rw [hx] at y1 y2 y3
  have y1 : Y (10 * fr + to) = nI (l.length + 1) := y1
  have y2 : l.length + 1 ≤ 8 := y2
  have ij : 10 * fr + to < 100 ∧ 100 < 2 ^ 31 := by omega
  have hA : 1120 * (10 * fr + to) + 1120 ≤ 112000 := by omega
  refine on_Ct.of (by decide) v_M_takeFirst (Nat.le_of_ble_eq_true rfl) ?_
  refine on_bipush (pc' := 2) (v := 10) rfl rfl lb_10 ?_
  refine on_iload_n (pc' := 3) rfl rfl rfl rfl ?_
  refine on_imul (pc' := 4) rfl rfl ?_
  refine on_iload_n (pc' := 5) rfl rfl rfl rfl ?_
  refine on_iadd (pc' := 6) rfl rfl ?_
  rw [show (10 : Int32) * nI fr + nI to = nI (10 * fr + to) by rw [show (10 : Int32) = nI 10 from rfl, pk_mul, nI_add]]
  refine on_istore_n (pc' := 7) rfl rfl rfl (by decide) ?_
  refine on_sipush (pc' := 10) (v := 1120) rfl rfl ls_1120 ?_
  refine on_iload_n (pc' := 11) rfl rfl rfl rfl ?_
  refine on_imul (pc' := 12) rfl rfl ?_
  rw [show (1120 : Int32) * nI (10 * fr + to) = nI (1120 * (10 * fr + to)) from pk_mul 1120 _]
  refine on_istore (pc' := 14) rfl rfl (by decide) ?_
  refine on_iconst (pc' := 15) (v := 0) rfl rfl li_0 ?_
  refine on_istore (pc' := 17) rfl rfl (by decide) ?_
  generalize hjd : 10 * fr + to = j at *
  have e6 : on_up h (o + 24) (on_ai 0 140 P0) = h := funext fun b => by
    by_cases z : b = o + 24
    · rw [z, on_up_eq, q1]
    · exact on_up_ne z
  have m1 := mtf_1 (G := G) (sz := sz) (bc := 0) (bs := 0) (j := j) (A := 1120 * j) (C := C) (Q := fun v h1 z => v = none ∧ z = sz ∧ rB h1 (o + 24) 140 x ∧ mk_L o (fu lk j l) h1 ∧ ∀ b, b ≠ o + 6 → b ≠ o + 7 → b ≠ o + 24 → h1 b = h b) (by omega) ho k1 (fun P hP => ?_) 140 0 P0 (by omega) (fun i hi => absurd hi (Nat.not_lt_zero i))
  · rw [e6] at m1
    exact on_relv (l := [(0, .ref o), (3, .int (nI j)), (4, .int (nI (1120 * j))), (5, .int (nI 0))]) ⟨rfl, rfl, rfl, rfl, trivial⟩ m1
  · have o1 : on_up h (o + 24) (on_ai 0 140 P) o = _ := (on_up_ne (by omega)).trans ho
    have w7 : on_up h (o + 24) (on_ai 0 140 P) (o + 7) = some (on_ai 0 100 Y) := (on_up_ne (by omega)).trans k2
    first | refine on_aload_n (pc' := 49) rfl rfl rfl rfl ?_ | refine on_aload_nQ (pc' := 49) rfl rfl rfl rfl ?_
    first | apply on_get (pc' := 52) rfl rfl fl_M_36 | apply on_getN (pc' := 52) rfl rfl fl_M_36
    · repeat (first | assumption | exact on_up_eq _ _ _ | refine (on_up_ne (by omega)).trans ?_)
    · rfl
    refine on_iload_n (pc' := 53) rfl rfl rfl rfl ?_
    first | refine on_dup2_11 (pc' := 54) rfl rfl rfl rfl ?_ | refine on_dup2_2 (pc' := 54) rfl rfl rfl ?_
    apply on_ialoadK (pc' := 55) (t := 0) rfl rfl
    · repeat (first | assumption | exact on_up_eq _ _ _ | refine (on_up_ne (by omega)).trans ?_)
    · rfl
    · first | assumption | exact on_lit _ | rfl
    · first | assumption | omega | decide
    rw [y1]
    refine on_iconst (pc' := 56) (v := 1) rfl rfl li_1 ?_
    refine on_isub (pc' := 57) rfl rfl ?_
    rw [show nI (l.length + 1) - 1 = nI l.length from pk_sub (a := l.length + 1) (b := 1) (by omega)]
    apply on_iastoreK (pc' := 58) (t := 0) rfl rfl
    · repeat (first | assumption | exact on_up_eq _ _ _ | refine (on_up_ne (by omega)).trans ?_)
    · rfl
    · first | assumption | exact on_lit _ | rfl
    · first | assumption | omega | decide
    refine on_iconst (pc' := 59) (v := 0) rfl rfl li_0 ?_
    refine on_istore (pc' := 61) rfl rfl (by decide) ?_
    have g1 : on_up (on_up h (o + 24) (on_ai 0 140 P)) (o + 7) (on_ai 0 100 (upd Y j (nI l.length))) o = some (.inr (17, mo_f o x3.1 x3.2.1 x3.2.2)) := (on_up_ne (by omega)).trans ((on_up_ne (by omega)).trans ho)
    have g2 : on_up (on_up h (o + 24) (on_ai 0 140 P)) (o + 7) (on_ai 0 100 (upd Y j (nI l.length))) (o + 7) = some (on_ai 0 100 (upd Y j (nI l.length))) := on_up_eq _ _ _
    have g3 : on_up (on_up h (o + 24) (on_ai 0 140 P)) (o + 7) (on_ai 0 100 (upd Y j (nI l.length))) (o + 6) = some (on_ai 0 112000 C) := (on_up_ne (by omega)).trans ((on_up_ne (by omega)).trans k1)
    have g4 : on_up (on_up h (o + 24) (on_ai 0 140 P)) (o + 7) (on_ai 0 100 (upd Y j (nI l.length))) (o + 24) = some (on_ai 0 140 P) := (on_up_ne (by omega)).trans (on_up_eq _ _ _)
    have g5 : ∀ b, b ≠ o + 7 → b ≠ o + 24 → on_up (on_up h (o + 24) (on_ai 0 140 P)) (o + 7) (on_ai 0 100 (upd Y j (nI l.length))) b = h b := fun b b1 b2 => (on_up_ne b1).trans (on_up_ne b2)
    generalize on_up (on_up h (o + 24) (on_ai 0 140 P)) (o + 7) (on_ai 0 100 (upd Y j (nI l.length))) = g at g1 g2 g3 g4 g5 ⊢
    have e7 : on_up g (o + 6) (on_ai 0 112000 (mv_c C (1120 * j) 0)) = g := funext fun b => by
      by_cases z : b = o + 6
      · rw [z, on_up_eq, mv_c_0, g3]
      · exact on_up_ne z
    have m2 := mtf_2 (G := G) (sz := sz) (bc := 0) (bs := 0) (j := j) (A := 1120 * j) (C := C) (n := l.length) (Q := fun v h1 z => v = none ∧ z = sz ∧ rB h1 (o + 24) 140 x ∧ mk_L o (fu lk j l) h1 ∧ ∀ b, b ≠ o + 6 → b ≠ o + 7 → b ≠ o + 24 → h1 b = h b) (by omega) (by omega) (by omega) g1 g2 pk_us ?_ (140 * l.length) 0 (by omega)
    · rw [e7] at m2
      exact on_relv (l := [(0, .ref o), (3, .int (nI j)), (4, .int (nI (1120 * j))), (5, .int (nI 0))]) ⟨rfl, rfl, rfl, rfl, trivial⟩ m2
    · refine on_vreturn rfl rfl ?_
      refine ⟨rfl, rfl, ⟨P, (on_up_ne (by omega)).trans g4, fun i hi => ?_⟩, ⟨mv_c C (1120 * j) (140 * l.length), upd Y j (nI l.length), on_up_eq _ _ _, (on_up_ne (by omega)).trans g2, fun i hi => ?_⟩, fun b b1 b2 b3 => (on_up_ne b1).trans (g5 b b2 b3)⟩
      · rw [hP i hi]
        have := y3 0 (Nat.zero_lt_succ _) i hi
        rw [show 140 * (8 * j + 0) + i = 1120 * j + i by omega] at this
        exact this
      · by_cases z : i = j
        · subst z
          rw [pk_us, fu_s]
          refine ⟨rfl, by omega, fun k hk i2 hi2 => ?_⟩
          have := y3 (k + 1) (Nat.succ_lt_succ hk) i2 hi2
          unfold mv_c
          rw [if_pos (by omega), show 140 * (8 * i + k) + i2 + 140 = 140 * (8 * i + (k + 1)) + i2 by omega]
          exact this
        · rw [pk_un z, fu_n z]
          obtain ⟨v1, v2, v3⟩ := k3 i hi
          refine ⟨v1, v2, fun k hk i2 hi2 => ?_⟩
          unfold mv_c
          rw [if_neg (by omega)]
          exact v3 k hk i2 hi2
end MTF
section MNO
variable {G : on_G} {o nr nk sz : Nat} {d : Int32} {h : on_H} {x y : Int32}
/-- a node's number -/
def p_n (nr nk : Nat) (x : Int32) : Bool := (p_i nr x).isSome || (p_i nk (x - 8)).isSome
theorem c_M_isRelay {b : Int32} (ho : h o = some (.inr (17, mo_f o (nI nr) b d))) : on_Ct G M_M_isRelay [.ref o, .int x] h sz 0 0 (fun v h1 z => v = some (.int (bI (p_i nr x).isSome)) ∧ z = sz ∧ h1 = h) := by
  refine on_Ct.of (by decide) v_M_isRelay (Nat.le_of_ble_eq_true rfl) ?_
  refine on_iload_n (pc' := 1) rfl rfl rfl rfl ?_
  refine on_if_lt (pc' := 4) (tgt := 16) rfl rfl rfl (fun cq => ?_) (fun cq => ?_)
  · refine on_iconst (pc' := 17) (v := 0) rfl rfl li_0 ?_
    refine on_zreturn rfl rfl ?_ ?_
    · first | rfl | assumption
    rw [show p_i nr x = none from if_neg (fun z => z.1 cq)]
    exact ⟨rfl, rfl, rfl⟩
  · have x0 := cq
    clear cq
    refine on_iload_n (pc' := 5) rfl rfl rfl rfl ?_
    first | refine on_aload_n (pc' := 6) rfl rfl rfl rfl ?_ | refine on_aload_nQ (pc' := 6) rfl rfl rfl rfl ?_
    first | apply on_get (pc' := 9) rfl rfl fl_M_271 | apply on_getN (pc' := 9) rfl rfl fl_M_271
    · repeat (first | assumption | exact on_up_eq _ _ _ | refine (on_up_ne (by omega)).trans ?_)
    · rfl
    refine on_icmp_ge (pc' := 12) (tgt := 16) rfl rfl rfl (fun cq => ?_) (fun cq => ?_)
    · refine on_iconst (pc' := 17) (v := 0) rfl rfl li_0 ?_
      refine on_zreturn rfl rfl ?_ ?_
      · first | rfl | assumption
      rw [show p_i nr x = none from if_neg (fun z => Int32.not_le.mpr z.2 cq)]
      exact ⟨rfl, rfl, rfl⟩
    · refine on_iconst (pc' := 13) (v := 1) rfl rfl li_1 ?_
      refine on_goto (tgt := 17) rfl rfl ?_
      refine on_zreturn rfl rfl ?_ ?_
      · first | rfl | assumption
      rw [show p_i nr x = some x.toNatClampNeg from if_pos ⟨x0, Int32.not_le.mp cq⟩]
      exact ⟨rfl, rfl, rfl⟩
theorem p_k_some (hk : nk ≤ 2) (h8 : ¬ x < 8) (h9 : x < nI (8 + nk)) : (p_i nk (x - 8)).isSome = true := by
  have x0 : ¬ x < 0 := fun w => h8 (Int32.lt_trans w (by decide))
  obtain ⟨j, hj, ej, -, -, -⟩ := pk_mu (L := 8 + nk) x0 (Int32.not_le.mpr h9) (by omega)
  have j8 : 8 ≤ j := by
    rcases Nat.lt_or_ge j 8 with w | w
    · exact absurd (by rw [ej]; exact nI_lt (b := 8) w (by decide)) h8
    · exact w
  rw [ej, show nI j - 8 = nI (j - 8) from pk_sub (a := j) (b := 8) j8, p_i_nI (by omega) (by omega)]
  rfl
theorem p_k_none (hk : nk ≤ 2) (h : x < 8 ∨ ¬ x < nI (8 + nk)) : p_i nk (x - 8) = none := by
  cases e : p_i nk (x - 8) with
  | none => rfl
  | some k =>
    obtain ⟨h1, h2⟩ := x8_k hk e
    rw [h2] at h
    rcases h with w | w
    · exact absurd ((nI_ltI (a := 8 + k) (b := 8) (by omega) (by decide)).mp w) (by omega)
    · exact absurd (nI_lt (a := 8 + k) (b := 8 + nk) (by omega) (by omega)) w
theorem c_M_isClient {a : Int32} (hk : nk ≤ 2) (ho : h o = some (.inr (17, mo_f o a (nI nk) d))) : on_Ct G M_M_isClient [.ref o, .int x] h sz 0 0 (fun v h1 z => v = some (.int (bI (p_i nk (x - 8)).isSome)) ∧ z = sz ∧ h1 = h) := by
  refine on_Ct.of (by decide) v_M_isClient (Nat.le_of_ble_eq_true rfl) ?_
  refine on_iload_n (pc' := 1) rfl rfl rfl rfl ?_
  refine on_bipush (pc' := 3) (v := 8) rfl rfl lb_8 ?_
  refine on_icmp_lt (pc' := 6) (tgt := 21) rfl rfl rfl (fun cq => ?_) (fun cq => ?_)
  · refine on_iconst (pc' := 22) (v := 0) rfl rfl li_0 ?_
    refine on_zreturn rfl rfl ?_ ?_
    · first | rfl | assumption
    rw [p_k_none hk (Or.inl cq)]
    exact ⟨rfl, rfl, rfl⟩
  · have x8 := cq
    clear cq
    refine on_iload_n (pc' := 7) rfl rfl rfl rfl ?_
    refine on_bipush (pc' := 9) (v := 8) rfl rfl lb_8 ?_
    first | refine on_aload_n (pc' := 10) rfl rfl rfl rfl ?_ | refine on_aload_nQ (pc' := 10) rfl rfl rfl rfl ?_
    first | apply on_get (pc' := 13) rfl rfl fl_M_275 | apply on_getN (pc' := 13) rfl rfl fl_M_275
    · repeat (first | assumption | exact on_up_eq _ _ _ | refine (on_up_ne (by omega)).trans ?_)
    · rfl
    refine on_iadd (pc' := 14) rfl rfl ?_
    rw [show (8 : Int32) + nI nk = nI (8 + nk) from nI_add 8 nk]
    refine on_icmp_ge (pc' := 17) (tgt := 21) rfl rfl rfl (fun cq => ?_) (fun cq => ?_)
    · refine on_iconst (pc' := 22) (v := 0) rfl rfl li_0 ?_
      refine on_zreturn rfl rfl ?_ ?_
      · first | rfl | assumption
      rw [p_k_none hk (Or.inr (fun w => Int32.not_le.mpr w cq))]
      exact ⟨rfl, rfl, rfl⟩
    · refine on_iconst (pc' := 18) (v := 1) rfl rfl li_1 ?_
      refine on_goto (tgt := 22) rfl rfl ?_
      refine on_zreturn rfl rfl ?_ ?_
      · first | rfl | assumption
      rw [p_k_some hk x8 (Int32.not_le.mp cq)]
      exact ⟨rfl, rfl, rfl⟩
theorem bI_ne {b : Bool} : ¬ bI b = 0 ↔ b = true := by
  cases b
  · exact ⟨fun z => absurd rfl z, fun z => nomatch z⟩
  · exact ⟨fun _ => rfl, fun _ z => absurd z (by decide)⟩
theorem bI_eq {b : Bool} : bI b = 0 ↔ b = false := by
  cases b
  · exact ⟨fun _ => rfl, fun _ => rfl⟩
  · exact ⟨fun z => absurd z (by decide), fun z => nomatch z⟩
set_option maxHeartbeats 8000000 in
theorem c_M_isLink (hk : nk ≤ 2) (ho : h o = some (.inr (17, mo_f o (nI nr) (nI nk) d))) : on_Ct G M_M_isLink [.ref o, .int x, .int y] h sz 0 0 (fun v h1 z => v = some (.int (bI (decide (x ≠ y) && (p_n nr nk x && p_n nr nk y)))) ∧ z = sz ∧ h1 = h) := by
  have no : ∀ lv, (decide (x ≠ y) && (p_n nr nk x && p_n nr nk y)) = false → on_E G M_M_isLink 41 lv [] h sz 0 0 (fun v h1 z => v = some (.int (bI (decide (x ≠ y) && (p_n nr nk x && p_n nr nk y)))) ∧ z = sz ∧ h1 = h) := fun lv e => by
    refine on_iconst (pc' := 42) (v := 0) rfl rfl li_0 ?_
    refine on_zreturn rfl rfl ?_ ?_
    · first | rfl | assumption
    rw [e]
    exact ⟨rfl, rfl, rfl⟩
  have yes : ∀ lv, (decide (x ≠ y) && (p_n nr nk x && p_n nr nk y)) = true → on_E G M_M_isLink 37 lv [] h sz 0 0 (fun v h1 z => v = some (.int (bI (decide (x ≠ y) && (p_n nr nk x && p_n nr nk y)))) ∧ z = sz ∧ h1 = h) := fun lv e => by
    refine on_iconst (pc' := 38) (v := 1) rfl rfl li_1 ?_
    refine on_goto (tgt := 42) rfl rfl ?_
    refine on_zreturn rfl rfl ?_ ?_
    · first | rfl | assumption
    rw [e]
    exact ⟨rfl, rfl, rfl⟩
  have sec : x ≠ y → p_n nr nk x = true → on_E G M_M_isLink 21 (on_l [(0, .ref o), (2, .int y)]) [] h sz 0 0 (fun v h1 z => v = some (.int (bI (decide (x ≠ y) && (p_n nr nk x && p_n nr nk y)))) ∧ z = sz ∧ h1 = h) := fun n1 n2 => by
    first | refine on_aload_n (pc' := 22) rfl rfl rfl rfl ?_ | refine on_aload_nQ (pc' := 22) rfl rfl rfl rfl ?_
    refine on_iload_n (pc' := 23) rfl rfl rfl rfl ?_
    refine on_callV (pc' := 26) (As := [.int y]) (rest := []) (b := o) rfl rfl cw_M_isLink_278 (ho) rfl rfl (Nat.le_of_ble_eq_true rfl) (Nat.zero_le _) (Nat.zero_le _) (c_M_isRelay ho) ?_
    rintro v h sz ⟨rfl, rfl, rfl⟩
    refine on_if_ne (pc' := 29) (tgt := 37) rfl rfl rfl (fun cq => ?_) (fun cq => ?_)
    · refine yes _ ?_
      rw [decide_eq_true n1, n2]
      unfold p_n
      rw [bI_ne.mp cq]
      rfl
    · have r0 := bI_eq.mp cq
      clear cq
      first | refine on_aload_n (pc' := 30) rfl rfl rfl rfl ?_ | refine on_aload_nQ (pc' := 30) rfl rfl rfl rfl ?_
      refine on_iload_n (pc' := 31) rfl rfl rfl rfl ?_
      refine on_callV (pc' := 34) (As := [.int y]) (rest := []) (b := o) rfl rfl cw_M_isLink_281 (ho) rfl rfl (Nat.le_of_ble_eq_true rfl) (Nat.zero_le _) (Nat.zero_le _) (c_M_isClient hk ho) ?_
      rintro v h sz ⟨rfl, rfl, rfl⟩
      refine on_if_eq (pc' := 37) (tgt := 41) rfl rfl rfl (fun cq => ?_) (fun cq => ?_)
      · refine no _ ?_
        have : p_n nr nk y = false := by
          unfold p_n
          rw [r0, bI_eq.mp cq]
          rfl
        rw [this, Bool.and_false, Bool.and_false]
      · refine yes _ ?_
        have : p_n nr nk y = true := by
          unfold p_n
          rw [bI_ne.mp cq]
          exact Bool.or_true _
        rw [decide_eq_true n1, n2, this]
        rfl
  refine on_Ct.of (by decide) v_M_isLink (Nat.le_of_ble_eq_true rfl) ?_
  refine on_iload_n (pc' := 1) rfl rfl rfl rfl ?_
  refine on_iload_n (pc' := 2) rfl rfl rfl rfl ?_
  refine on_icmp_eq (pc' := 5) (tgt := 41) rfl rfl rfl (fun cq => ?_) (fun cq => ?_)
  · refine no _ ?_
    rw [decide_eq_false (fun w => w cq)]
    rfl
  · have n1 : x ≠ y := cq
    clear cq
    first | refine on_aload_n (pc' := 6) rfl rfl rfl rfl ?_ | refine on_aload_nQ (pc' := 6) rfl rfl rfl rfl ?_
    refine on_iload_n (pc' := 7) rfl rfl rfl rfl ?_
    refine on_callV (pc' := 10) (As := [.int x]) (rest := []) (b := o) rfl rfl cw_M_isLink_278 (ho) rfl rfl (Nat.le_of_ble_eq_true rfl) (Nat.zero_le _) (Nat.zero_le _) (c_M_isRelay ho) ?_
    rintro v h sz ⟨rfl, rfl, rfl⟩
    refine on_if_ne (pc' := 13) (tgt := 21) rfl rfl rfl (fun cq => ?_) (fun cq => ?_)
    · refine on_relv (l := [(0, .ref o), (2, .int y)]) ⟨rfl, rfl, trivial⟩ (sec n1 ?_)
      unfold p_n
      rw [bI_ne.mp cq]
      rfl
    · have r0 := bI_eq.mp cq
      clear cq
      first | refine on_aload_n (pc' := 14) rfl rfl rfl rfl ?_ | refine on_aload_nQ (pc' := 14) rfl rfl rfl rfl ?_
      refine on_iload_n (pc' := 15) rfl rfl rfl rfl ?_
      refine on_callV (pc' := 18) (As := [.int x]) (rest := []) (b := o) rfl rfl cw_M_isLink_281 (ho) rfl rfl (Nat.le_of_ble_eq_true rfl) (Nat.zero_le _) (Nat.zero_le _) (c_M_isClient hk ho) ?_
      rintro v h sz ⟨rfl, rfl, rfl⟩
      refine on_if_eq (pc' := 21) (tgt := 41) rfl rfl rfl (fun cq => ?_) (fun cq => ?_)
      · refine no _ ?_
        have : p_n nr nk x = false := by
          unfold p_n
          rw [r0, bI_eq.mp cq]
          rfl
        rw [this, Bool.false_and, Bool.and_false]
      · refine on_relv (l := [(0, .ref o), (2, .int y)]) ⟨rfl, rfl, trivial⟩ (sec n1 ?_)
        unfold p_n
        rw [bI_ne.mp cq]
        exact Bool.or_true _
/-- a link by the numbers of the caller, as the reference asks for it -/
theorem p_n_iff (h1 : nr ≤ 6) (h2 : nk ≤ 2) : p_n nr nk x = true ↔ ∃ f, p_i 10 x = some f ∧ n_pr nr nk f = true := by
  unfold p_n
  rw [Bool.or_eq_true, Option.isSome_iff_exists, Option.isSome_iff_exists]
  constructor
  · rintro (⟨f, e⟩ | ⟨k, e⟩)
    · obtain ⟨f1, f2⟩ := p_i_some (by omega) e
      refine ⟨f, by rw [f2]; exact p_i_nI (by decide) (by omega), n_pr_r f1⟩
    · obtain ⟨f1, f2⟩ := x8_k h2 e
      refine ⟨8 + k, by rw [f2]; exact p_i_nI (by decide) (by omega), ?_⟩
      unfold n_pr
      rw [decide_eq_true (show 8 ≤ 8 + k by omega), decide_eq_true (show 8 + k < 8 + nk by omega)]
      exact Bool.or_true _
  · rintro ⟨f, e, hp⟩
    obtain ⟨f1, f2⟩ := p_i_some (by decide) e
    unfold n_pr at hp
    rcases Bool.or_eq_true_iff.mp hp with w | w
    · refine Or.inl ⟨f, ?_⟩
      rw [f2]
      exact p_i_nI (by omega) (of_decide_eq_true w)
    · obtain ⟨w1, w2⟩ := Bool.and_eq_true_iff.mp w
      have w1 := of_decide_eq_true w1
      have w2 := of_decide_eq_true w2
      refine Or.inr ⟨f - 8, ?_⟩
      rw [f2, show nI f - 8 = nI (f - 8) from pk_sub (a := f) (b := 8) w1]
      exact p_i_nI (by omega) (by omega)
theorem q_lk_iff {a : aN} (h1 : a.nr ≤ 6) (h2 : a.nk ≤ 2) : (decide (x ≠ y) && (p_n a.nr a.nk x && p_n a.nr a.nk y)) = (q_lk a x y).isSome := by
  rw [Bool.eq_iff_iff, Bool.and_eq_true, Bool.and_eq_true, decide_eq_true_eq, p_n_iff h1 h2, p_n_iff h1 h2, Option.isSome_iff_exists]
  constructor
  · rintro ⟨ne, ⟨f, e1, p1⟩, ⟨t, e2, p2⟩⟩
    obtain ⟨f1, f2⟩ := p_i_some (by decide) e1
    obtain ⟨t1, t2⟩ := p_i_some (by decide) e2
    refine ⟨10 * f + t, ?_⟩
    unfold q_lk
    rw [e1, e2]
    show (if n_ex a.nr a.nk (10 * f + t) = true then some (10 * f + t) else none) = _
    rw [if_pos]
    rw [n_ex_at t1, p1, p2, decide_eq_true (show f ≠ t from fun z => ne (by rw [f2, t2, z]))]
    rfl
  · rintro ⟨j, e⟩
    obtain ⟨f, t, hf, ht, ex, ey, ej, he⟩ := q_lk_some e
    subst ej
    obtain ⟨p1, p2, p3⟩ := n_ex_pr ht he
    refine ⟨fun z => p3 ?_, ⟨f, by rw [ex]; exact p_i_nI (by decide) hf, p1⟩, ⟨t, by rw [ey]; exact p_i_nI (by decide) ht, p2⟩⟩
    rw [ex, ey] at z
    exact (nI_eq (by omega) (by omega)).mp z
end MNO
