/-! the reference's links -/
/-- what lies on the links of the reference -/
def mk_L (o : Nat) (lk : Nat → List aB) (h : on_H) : Prop := ∃ C Y : Nat → Int32, h (o + 6) = some (on_ai 0 112000 C) ∧ h (o + 7) = some (on_ai 0 100 Y) ∧ ∀ j, j < 100 → Y j = nI (lk j).length ∧ (lk j).length ≤ 8 ∧ ∀ k, k < (lk j).length → ∀ i, i < 140 → C (140 * (8 * j + k) + i) = nI ((lk j).getD k b0 i) ∧ (lk j).getD k b0 i < 256
theorem mk_L.keep {o : Nat} {lk : Nat → List aB} {h h2 : on_H} (k : mk_L o lk h) (e1 : h2 (o + 6) = h (o + 6)) (e2 : h2 (o + 7) = h (o + 7)) : mk_L o lk h2 := by
  obtain ⟨C, Y, k1, k2, k3⟩ := k
  exact ⟨C, Y, e1.trans k1, e2.trans k2, k3⟩
theorem nI_four {a b c d : Nat} (ha : a < 256) (hb : b < 256) (hc : c < 256) (hd : d < 256) : sh_l (nI a) 24 ||| sh_l (nI b) 16 ||| sh_l (nI c) 8 ||| nI d = nI ((a * 256 + b) * 65536 + (c * 256 + d)) := by
  rw [show (24 : Int32) = nI 24 from rfl, show (16 : Int32) = nI 16 from rfl, show (8 : Int32) = nI 8 from rfl, e_shl (by decide) (by omega), e_shl (by decide) (by omega), e_shl (by decide) (by omega), nI_or, nI_or, nI_or]
  refine congrArg nI ?_
  rw [or_low (a := a) (k := 24) (b := b * 2 ^ 16) (by omega), show a * 2 ^ 24 + b * 2 ^ 16 = (a * 256 + b) * 2 ^ 16 by omega, or_low (k := 16) (b := c * 2 ^ 8) (by omega), show (a * 256 + b) * 2 ^ 16 + c * 2 ^ 8 = ((a * 256 + b) * 256 + c) * 2 ^ 8 by omega, or_low (k := 8) hd]
  omega
theorem db_uk (v : Int32) {k : Nat} (hk : k < 4) : sh_u v (24 - 8 * nI k) &&& 255 = nI (db_b v k) := by
  rw [(by decide : ∀ k, k < 4 → (24 : Int32) - 8 * nI k = nI (24 - 8 * k)) k hk, pk_and _ 8 rfl, sh_u_nat _ (by omega)]
  rfl
/-- m bytes written at A -/
def wc_y (C : Nat → Int32) (A m : Nat) (y : Nat → Nat) : Nat → Int32 := fun i => if A ≤ i ∧ i < A + m then nI (y (i - A)) else C i
theorem wc_y_0 {C : Nat → Int32} {A : Nat} {y : Nat → Nat} : wc_y C A 0 y = C := funext fun i => if_neg (by omega)
theorem wc_y_s {C : Nat → Int32} {A m : Nat} {y : Nat → Nat} : upd (wc_y C A m y) (A + m) (nI (y m)) = wc_y C A (m + 1) y := funext fun i => by
  by_cases z : i = A + m
  · rw [z, pk_us]
    unfold wc_y
    rw [if_pos (by omega), show A + m - A = m by omega]
  · rw [pk_un z]
    unfold wc_y
    by_cases w : A ≤ i ∧ i < A + m
    · rw [if_pos w, if_pos (by omega)]
    · rw [if_neg w, if_neg (by omega)]
section MLK
variable {G : on_G} {o q fr to sz bc bs : Nat} {x3 : Int32 × Int32 × Int32} {lk : Nat → List aB} {h : on_H} {Q : Option Value → on_H → Nat → Prop} {x : aB} {l : List aB}
theorem c_M_numberOf (ho : h o = some (.inr (17, mo_f o x3.1 x3.2.1 x3.2.2))) (hq : rB h (o + 24) 140 x) : on_Ct G M_M_numberOf [.ref o] h sz 0 0 (fun v h1 z => v = some (.int (ce_n x)) ∧ z = sz ∧ h1 = h) := by
  obtain ⟨F, q1, F'⟩ := hq
  have x0 := F' 0 (by decide)
  have x1 := F' 1 (by decide)
  have x2 := F' 2 (by decide)
  have x3 := F' 3 (by decide)
  refine on_Ct.of (by decide) v_M_numberOf (Nat.le_of_ble_eq_true rfl) ?_
  first | refine on_aload_n (pc' := 1) rfl rfl rfl rfl ?_ | refine on_aload_nQ (pc' := 1) rfl rfl rfl rfl ?_
  first | apply on_get (pc' := 4) rfl rfl fl_M_73 | apply on_getN (pc' := 4) rfl rfl fl_M_73
  · repeat (first | assumption | exact on_up_eq _ _ _ | refine (on_up_ne (by omega)).trans ?_)
  · rfl
  refine on_iconst (pc' := 5) (v := 0) rfl rfl li_0 ?_
  apply on_ialoadK (pc' := 6) (t := 0) (k := 0) rfl rfl
  · repeat (first | assumption | exact on_up_eq _ _ _ | refine (on_up_ne (by omega)).trans ?_)
  · rfl
  · first | assumption | exact on_lit _ | rfl
  · first | assumption | omega | decide
  refine on_bipush (pc' := 8) (v := 24) rfl rfl lb_24 ?_
  refine on_ishl (pc' := 9) rfl rfl ?_
  first | refine on_aload_n (pc' := 10) rfl rfl rfl rfl ?_ | refine on_aload_nQ (pc' := 10) rfl rfl rfl rfl ?_
  first | apply on_get (pc' := 13) rfl rfl fl_M_73 | apply on_getN (pc' := 13) rfl rfl fl_M_73
  · repeat (first | assumption | exact on_up_eq _ _ _ | refine (on_up_ne (by omega)).trans ?_)
  · rfl
  refine on_iconst (pc' := 14) (v := 1) rfl rfl li_1 ?_
  apply on_ialoadK (pc' := 15) (t := 0) (k := 1) rfl rfl
  · repeat (first | assumption | exact on_up_eq _ _ _ | refine (on_up_ne (by omega)).trans ?_)
  · rfl
  · first | assumption | exact on_lit _ | rfl
  · first | assumption | omega | decide
  refine on_bipush (pc' := 17) (v := 16) rfl rfl lb_16 ?_
  refine on_ishl (pc' := 18) rfl rfl ?_
  refine on_ior (pc' := 19) rfl rfl ?_
  first | refine on_aload_n (pc' := 20) rfl rfl rfl rfl ?_ | refine on_aload_nQ (pc' := 20) rfl rfl rfl rfl ?_
  first | apply on_get (pc' := 23) rfl rfl fl_M_73 | apply on_getN (pc' := 23) rfl rfl fl_M_73
  · repeat (first | assumption | exact on_up_eq _ _ _ | refine (on_up_ne (by omega)).trans ?_)
  · rfl
  refine on_iconst (pc' := 24) (v := 2) rfl rfl li_2 ?_
  apply on_ialoadK (pc' := 25) (t := 0) (k := 2) rfl rfl
  · repeat (first | assumption | exact on_up_eq _ _ _ | refine (on_up_ne (by omega)).trans ?_)
  · rfl
  · first | assumption | exact on_lit _ | rfl
  · first | assumption | omega | decide
  refine on_bipush (pc' := 27) (v := 8) rfl rfl lb_8 ?_
  refine on_ishl (pc' := 28) rfl rfl ?_
  refine on_ior (pc' := 29) rfl rfl ?_
  first | refine on_aload_n (pc' := 30) rfl rfl rfl rfl ?_ | refine on_aload_nQ (pc' := 30) rfl rfl rfl rfl ?_
  first | apply on_get (pc' := 33) rfl rfl fl_M_73 | apply on_getN (pc' := 33) rfl rfl fl_M_73
  · repeat (first | assumption | exact on_up_eq _ _ _ | refine (on_up_ne (by omega)).trans ?_)
  · rfl
  refine on_iconst (pc' := 34) (v := 3) rfl rfl li_3 ?_
  apply on_ialoadK (pc' := 35) (t := 0) (k := 3) rfl rfl
  · repeat (first | assumption | exact on_up_eq _ _ _ | refine (on_up_ne (by omega)).trans ?_)
  · rfl
  · first | assumption | exact on_lit _ | rfl
  · first | assumption | omega | decide
  refine on_ior (pc' := 36) rfl rfl ?_
  rw [x0.1, x1.1, x2.1, x3.1, nI_four x0.2 x1.2 x2.2 x3.2]
  refine on_ireturn rfl rfl ?_
  exact ⟨rfl, rfl, rfl⟩
theorem mtp_l {C : Nat → Int32} (ho : h o = some (.inr (17, mo_f o x3.1 x3.2.1 x3.2.2))) (hq : h (o + 24) = some (on_ai 0 140 C)) (kk : ∀ P : Nat → Int32, (∀ i, i < 135 → P i = C (5 + i)) → on_E G M_M_toPayload 29 (on_l []) [] (on_up h (o + 25) (on_ai 0 135 P)) sz bc bs Q) :
    ∀ (m k : Nat) (P : Nat → Int32), k + m = 135 → (∀ i, i < k → P i = C (5 + i)) → on_E G M_M_toPayload 2 (on_l [(0, .ref o), (1, .int (nI k))]) [] (on_up h (o + 25) (on_ai 0 135 P)) sz bc bs Q := by
  intro m
  induction m with
  | zero =>
    intro k P hk hP
    obtain rfl : k = 135 := by omega
    refine on_iload_n (pc' := 3) rfl rfl rfl rfl ?_
    refine on_sipush (pc' := 6) (v := 135) rfl rfl ls_135 ?_
    refine on_icmp_ge (pc' := 9) (tgt := 29) rfl rfl rfl (fun cq => ?_) (fun cq => ?_)
    · exact on_relv (l := []) trivial (kk P hP)
    · exact absurd (by decide) cq
  | succ m ih =>
    intro k P hk hP
    have o1 : on_up h (o + 25) (on_ai 0 135 P) o = _ := (on_up_ne (by omega)).trans ho
    have q1 : on_up h (o + 25) (on_ai 0 135 P) (o + 24) = _ := (on_up_ne (by omega)).trans hq
    have p1 : on_up h (o + 25) (on_ai 0 135 P) (o + 25) = some (on_ai 0 135 P) := on_up_eq _ _ _
    have i1 : k < 135 ∧ 135 < 2 ^ 31 := by omega
    have i2 : 5 + k < 140 ∧ 140 < 2 ^ 31 := by omega
    refine on_iload_n (pc' := 3) rfl rfl rfl rfl ?_
    refine on_sipush (pc' := 6) (v := 135) rfl rfl ls_135 ?_
    refine on_icmp_ge (pc' := 9) (tgt := 29) rfl rfl rfl (fun cq => ?_) (fun cq => ?_)
    · exact absurd cq (nI_ge (b := 135) i1.1 (by decide))
    · clear cq
      first | refine on_aload_n (pc' := 10) rfl rfl rfl rfl ?_ | refine on_aload_nQ (pc' := 10) rfl rfl rfl rfl ?_
      first | apply on_get (pc' := 13) rfl rfl fl_M_76 | apply on_getN (pc' := 13) rfl rfl fl_M_76
      · repeat (first | assumption | exact on_up_eq _ _ _ | refine (on_up_ne (by omega)).trans ?_)
      · rfl
      refine on_iload_n (pc' := 14) rfl rfl rfl rfl ?_
      first | refine on_aload_n (pc' := 15) rfl rfl rfl rfl ?_ | refine on_aload_nQ (pc' := 15) rfl rfl rfl rfl ?_
      first | apply on_get (pc' := 18) rfl rfl fl_M_73 | apply on_getN (pc' := 18) rfl rfl fl_M_73
      · repeat (first | assumption | exact on_up_eq _ _ _ | refine (on_up_ne (by omega)).trans ?_)
      · rfl
      refine on_iconst (pc' := 19) (v := 5) rfl rfl li_5 ?_
      refine on_iload_n (pc' := 20) rfl rfl rfl rfl ?_
      refine on_iadd (pc' := 21) rfl rfl ?_
      rw [show (5 : Int32) + nI k = nI (5 + k) from nI_add 5 k]
      apply on_ialoadK (pc' := 22) (t := 0) rfl rfl
      · repeat (first | assumption | exact on_up_eq _ _ _ | refine (on_up_ne (by omega)).trans ?_)
      · rfl
      · first | assumption | exact on_lit _ | rfl
      · first | assumption | omega | decide
      apply on_iastoreK (pc' := 23) (t := 0) rfl rfl
      · repeat (first | assumption | exact on_up_eq _ _ _ | refine (on_up_ne (by omega)).trans ?_)
      · rfl
      · first | assumption | exact on_lit _ | rfl
      · first | assumption | omega | decide
      refine on_iinc1 (pc' := 26) rfl rfl rfl ?_
      refine on_goto (tgt := 2) rfl rfl ?_
      rw [on_up_up]
      refine on_relv (l := [(0, .ref o), (1, .int (nI (k + 1)))]) ⟨rfl, congrArg some (congrArg Value.int (nI_1 k)), trivial⟩ (ih (k + 1) _ (by omega) (fun i hi => ?_))
      by_cases z : i = k
      · rw [z, pk_us]
      · rw [pk_un z]
        exact hP i (by omega)
theorem c_M_toPayload (ho : h o = some (.inr (17, mo_f o x3.1 x3.2.1 x3.2.2))) (hq : rB h (o + 24) 140 x) (hp : rW h (o + 25) 135) : on_Ct G M_M_toPayload [.ref o] h sz 0 0 (fun v h1 z => v = none ∧ z = sz ∧ rB h1 (o + 25) 135 (fun k => x (5 + k)) ∧ ∀ b, b ≠ o + 25 → h1 b = h b) := by
  obtain ⟨C, c1, C'⟩ := hq
  obtain ⟨P, p1⟩ := hp
  refine on_Ct.of (by decide) v_M_toPayload (Nat.le_of_ble_eq_true rfl) ?_
  refine on_iconst (pc' := 1) (v := 0) rfl rfl li_0 ?_
  refine on_istore_n (pc' := 2) rfl rfl rfl (by decide) ?_
  have e : on_up h (o + 25) (on_ai 0 135 P) = h := funext fun b => by
    by_cases z : b = o + 25
    · rw [z, on_up_eq, p1]
    · exact on_up_ne z
  have := mtp_l (G := G) (sz := sz) (bc := 0) (bs := 0) (Q := fun v h1 z => v = none ∧ z = sz ∧ rB h1 (o + 25) 135 (fun k => x (5 + k)) ∧ ∀ b, b ≠ o + 25 → h1 b = h b) ho c1 (fun P2 hP2 => by
    refine on_vreturn rfl rfl ?_
    exact ⟨rfl, rfl, ⟨P2, on_up_eq _ _ _, fun i hi => by rw [hP2 i hi]; exact C' (5 + i) (by omega)⟩, fun b hb => on_up_ne hb⟩) 135 0 P (by omega) (fun i hi => absurd hi (Nat.not_lt_zero i))
  rw [e] at this
  exact on_relv (l := [(0, .ref o), (1, .int (nI 0))]) ⟨rfl, rfl, trivial⟩ this
section LAY
variable {A n Lq : Nat} {num : Int32} {cmd : Nat} {C : Nat → Int32} {y : aB}
set_option maxHeartbeats 4000000 in
theorem mly_1 {W4 W5 W6 W7 : Value} (hA : A + 140 ≤ 112000) (ho : h o = some (.inr (17, mo_f o x3.1 x3.2.1 x3.2.2))) (hy : ∀ i, i < 4 → y i = db_b num i)
    (kk : on_E G M_M_lay 79 (on_l [(0, .ref o), (4, W4), (5, W5), (6, W6), (7, W7), (8, .int (nI A))]) [] (on_up h (o + 6) (on_ai 0 112000 (wc_y C A 4 y))) sz bc bs Q) :
    ∀ (m k : Nat), k + m = 4 → on_E G M_M_lay 43 (on_l [(0, .ref o), (3, .int num), (4, W4), (5, W5), (6, W6), (7, W7), (8, .int (nI A)), (9, .int (nI k))]) [] (on_up h (o + 6) (on_ai 0 112000 (wc_y C A k y))) sz bc bs Q := by
  intro m
  induction m with
  | zero =>
    intro k hk
    obtain rfl : k = 4 := by omega
    refine on_iload (pc' := 45) rfl rfl rfl ?_
    refine on_iconst (pc' := 46) (v := 4) rfl rfl li_4 ?_
    refine on_icmp_ge (pc' := 49) (tgt := 79) rfl rfl rfl (fun cq => ?_) (fun cq => ?_)
    · exact on_relv (l := [(0, .ref o), (4, W4), (5, W5), (6, W6), (7, W7), (8, .int (nI A))]) ⟨rfl, rfl, rfl, rfl, rfl, rfl, trivial⟩ kk
    · exact absurd (by decide) cq
  | succ m ih =>
    intro k hk
    have o1 : on_up h (o + 6) (on_ai 0 112000 (wc_y C A k y)) o = _ := (on_up_ne (by omega)).trans ho
    have c1 : on_up h (o + 6) (on_ai 0 112000 (wc_y C A k y)) (o + 6) = some (on_ai 0 112000 (wc_y C A k y)) := on_up_eq _ _ _
    have i1 : A + k < 112000 ∧ 112000 < 2 ^ 31 := by omega
    refine on_iload (pc' := 45) rfl rfl rfl ?_
    refine on_iconst (pc' := 46) (v := 4) rfl rfl li_4 ?_
    refine on_icmp_ge (pc' := 49) (tgt := 79) rfl rfl rfl (fun cq => ?_) (fun cq => ?_)
    · exact absurd cq (nI_ge (b := 4) (by omega) (by decide))
    · clear cq
      first | refine on_aload_n (pc' := 50) rfl rfl rfl rfl ?_ | refine on_aload_nQ (pc' := 50) rfl rfl rfl rfl ?_
      first | apply on_get (pc' := 53) rfl rfl fl_M_33 | apply on_getN (pc' := 53) rfl rfl fl_M_33
      · repeat (first | assumption | exact on_up_eq _ _ _ | refine (on_up_ne (by omega)).trans ?_)
      · rfl
      refine on_iload (pc' := 55) rfl rfl rfl ?_
      refine on_iload (pc' := 57) rfl rfl rfl ?_
      refine on_iadd (pc' := 58) rfl rfl ?_
      rw [nI_add A k]
      refine on_iload_n (pc' := 59) rfl rfl rfl rfl ?_
      refine on_bipush (pc' := 61) (v := 24) rfl rfl lb_24 ?_
      refine on_bipush (pc' := 63) (v := 8) rfl rfl lb_8 ?_
      refine on_iload (pc' := 65) rfl rfl rfl ?_
      refine on_imul (pc' := 66) rfl rfl ?_
      refine on_isub (pc' := 67) rfl rfl ?_
      refine on_iushr (pc' := 68) rfl rfl ?_
      refine on_sipush (pc' := 71) (v := 255) rfl rfl ls_255 ?_
      refine on_iand (pc' := 72) rfl rfl ?_
      rw [db_uk num (by omega), ← hy k (by omega)]
      apply on_iastoreK (pc' := 73) (t := 0) rfl rfl
      · repeat (first | assumption | exact on_up_eq _ _ _ | refine (on_up_ne (by omega)).trans ?_)
      · rfl
      · first | assumption | exact on_lit _ | rfl
      · first | assumption | omega | decide
      refine on_iinc1 (pc' := 76) rfl rfl rfl ?_
      refine on_goto (tgt := 43) rfl rfl ?_
      rw [on_up_up, wc_y_s]
      exact on_relv (l := [(0, .ref o), (3, .int num), (4, W4), (5, W5), (6, W6), (7, W7), (8, .int (nI A)), (9, .int (nI (k + 1)))]) ⟨rfl, rfl, rfl, rfl, rfl, rfl, rfl, congrArg some (congrArg Value.int (nI_1 k)), trivial⟩ (ih (k + 1) (by omega))
set_option maxHeartbeats 4000000 in
theorem mly_2 {W7 : Value} {R : Nat → Int32} (hA : A + 140 ≤ 112000) (ho : h o = some (.inr (17, mo_f o x3.1 x3.2.1 x3.2.2))) (hq : h q = some (on_ai 0 Lq R)) (hqo : q ≠ o + 6) (hn : n ≤ Lq ∧ Lq < 2 ^ 31) (hy : ∀ i, i < 135 → nI (y (5 + i)) = if i < n then R i else 0)
    (kk : on_E G M_M_lay 135 (on_l [(0, .ref o), (7, W7)]) [] (on_up h (o + 6) (on_ai 0 112000 (wc_y C A 140 y))) sz bc bs Q) :
    ∀ (m k : Nat), k + m = 135 → on_E G M_M_lay 93 (on_l [(0, .ref o), (5, .ref q), (6, .int (nI n)), (7, W7), (8, .int (nI A)), (9, .int (nI k))]) [] (on_up h (o + 6) (on_ai 0 112000 (wc_y C A (5 + k) y))) sz bc bs Q := by
  intro m
  induction m with
  | zero =>
    intro k hk
    obtain rfl : k = 135 := by omega
    refine on_iload (pc' := 95) rfl rfl rfl ?_
    refine on_sipush (pc' := 98) (v := 135) rfl rfl ls_135 ?_
    refine on_icmp_ge (pc' := 101) (tgt := 135) rfl rfl rfl (fun cq => ?_) (fun cq => ?_)
    · exact on_relv (l := [(0, .ref o), (7, W7)]) ⟨rfl, rfl, trivial⟩ kk
    · exact absurd (by decide) cq
  | succ m ih =>
    intro k hk
    have o1 : on_up h (o + 6) (on_ai 0 112000 (wc_y C A (5 + k) y)) o = _ := (on_up_ne (by omega)).trans ho
    have q1 : on_up h (o + 6) (on_ai 0 112000 (wc_y C A (5 + k) y)) q = some (on_ai 0 Lq R) := (on_up_ne hqo).trans hq
    have c1 : on_up h (o + 6) (on_ai 0 112000 (wc_y C A (5 + k) y)) (o + 6) = some (on_ai 0 112000 (wc_y C A (5 + k) y)) := on_up_eq _ _ _
    have i1 : A + (5 + k) < 112000 ∧ 112000 < 2 ^ 31 := by omega
    have e := hy k (by omega)
    have next : ∀ lv v, nI (y (5 + k)) = v → lv 0 = some (.ref o) → lv 5 = some (.ref q) → lv 6 = some (.int (nI n)) → lv 7 = some W7 → lv 8 = some (.int (nI A)) → lv 9 = some (.int (nI k)) → on_E G M_M_lay 128 lv [.int v, .int (nI (A + (5 + k))), .ref (o + 6)] (on_up h (o + 6) (on_ai 0 112000 (wc_y C A (5 + k) y))) sz bc bs Q := fun lv v ev l0 l5 l6 l7 l8 l9 => by
      subst ev
      refine on_relv (l := [(0, .ref o), (5, .ref q), (6, .int (nI n)), (7, W7), (8, .int (nI A)), (9, .int (nI k))]) ⟨l0, l5, l6, l7, l8, l9, trivial⟩ ?_
      apply on_iastoreK (pc' := 129) (t := 0) rfl rfl
      · repeat (first | assumption | exact on_up_eq _ _ _ | refine (on_up_ne (by omega)).trans ?_)
      · rfl
      · first | assumption | exact on_lit _ | rfl
      · first | assumption | omega | decide
      refine on_iinc1 (pc' := 132) rfl rfl rfl ?_
      refine on_goto (tgt := 93) rfl rfl ?_
      rw [on_up_up, wc_y_s]
      exact on_relv (l := [(0, .ref o), (5, .ref q), (6, .int (nI n)), (7, W7), (8, .int (nI A)), (9, .int (nI (k + 1)))]) ⟨rfl, rfl, rfl, rfl, rfl, congrArg some (congrArg Value.int (nI_1 k)), trivial⟩ (ih (k + 1) (by omega))
    refine on_iload (pc' := 95) rfl rfl rfl ?_
    refine on_sipush (pc' := 98) (v := 135) rfl rfl ls_135 ?_
    refine on_icmp_ge (pc' := 101) (tgt := 135) rfl rfl rfl (fun cq => ?_) (fun cq => ?_)
    · exact absurd cq (nI_ge (b := 135) (by omega) (by decide))
    · clear cq
      first | refine on_aload_n (pc' := 102) rfl rfl rfl rfl ?_ | refine on_aload_nQ (pc' := 102) rfl rfl rfl rfl ?_
      first | apply on_get (pc' := 105) rfl rfl fl_M_33 | apply on_getN (pc' := 105) rfl rfl fl_M_33
      · repeat (first | assumption | exact on_up_eq _ _ _ | refine (on_up_ne (by omega)).trans ?_)
      · rfl
      refine on_iload (pc' := 107) rfl rfl rfl ?_
      refine on_iconst (pc' := 108) (v := 5) rfl rfl li_5 ?_
      refine on_iadd (pc' := 109) rfl rfl ?_
      refine on_iload (pc' := 111) rfl rfl rfl ?_
      refine on_iadd (pc' := 112) rfl rfl ?_
      rw [show nI A + 5 + nI k = nI (A + (5 + k)) by rw [show (5 : Int32) = nI 5 from rfl, nI_add, nI_add, Nat.add_assoc]]
      refine on_iload (pc' := 114) rfl rfl rfl ?_
      refine on_iload (pc' := 116) rfl rfl rfl ?_
      refine on_icmp_ge (pc' := 119) (tgt := 127) rfl rfl rfl (fun cq => ?_) (fun cq => ?_)
      · have kn : ¬ k < n := fun z => absurd cq (nI_ge (b := n) z (by omega))
        rw [if_neg kn] at e
        refine on_iconst (pc' := 128) (v := 0) rfl rfl li_0 ?_
        exact next _ 0 e rfl rfl rfl rfl rfl rfl
      · have kn : k < n := by
          rcases Nat.lt_or_ge k n with z | z
          · exact z
          · exact absurd (nI_le z (by omega)) cq
        rw [if_pos kn] at e
        have i2 : k < Lq ∧ Lq < 2 ^ 31 := by omega
        first | refine on_aload (pc' := 121) rfl rfl rfl ?_ | refine on_aloadQ (pc' := 121) rfl rfl rfl ?_
        refine on_iload (pc' := 123) rfl rfl rfl ?_
        apply on_ialoadK (pc' := 124) (t := 0) rfl rfl
        · repeat (first | assumption | exact on_up_eq _ _ _ | refine (on_up_ne (by omega)).trans ?_)
        · rfl
        · first | assumption | exact on_lit _ | rfl
        · first | assumption | omega | decide
        refine on_goto (tgt := 128) rfl rfl ?_
        exact next _ (R k) e rfl rfl rfl rfl rfl rfl
end LAY
set_option maxHeartbeats 8000000 in
/-- lay -/
theorem c_M_lay {num : Int32} {cmd n Lq : Nat} (ho : h o = some (.inr (17, mo_f o x3.1 x3.2.1 x3.2.2))) (K : mk_L o lk h) (hf : fr < 10) (ht : to < 10) (hc : cmd < 256) (hq : rW h q Lq) (hqo : q ≠ o + 6) (hqo7 : q ≠ o + 7) (hn : n ≤ Lq ∧ Lq < 2 ^ 31) (hn2 : n ≤ 135) (hx : ∀ f, h q = some (on_ai 0 Lq f) → on_by f x n) :
    on_Ct G M_M_lay [.ref o, .int (nI fr), .int (nI to), .int num, .int (nI cmd), .ref q, .int (nI n)] h sz 0 0 (fun v h1 z => v = none ∧ z = sz ∧ mk_L o (fu lk (10 * fr + to) (l_ad (lk (10 * fr + to)) (ce_k num cmd x n))) h1 ∧ ∀ b, b ≠ o + 6 → b ≠ o + 7 → h1 b = h b) := by
  obtain ⟨C, Y, k1, k2, k3⟩ := id K
  obtain ⟨R, q1⟩ := hq
  have hx := hx R q1
  have j100 : 10 * fr + to < 100 := by omega
  obtain ⟨y1, y2, y3⟩ := k3 _ j100
  have ij : 10 * fr + to < 100 ∧ 100 < 2 ^ 31 := by omega
  refine on_Ct.of (by decide) v_M_lay (Nat.le_of_ble_eq_true rfl) ?_
  refine on_bipush (pc' := 2) (v := 10) rfl rfl lb_10 ?_
  refine on_iload_n (pc' := 3) rfl rfl rfl rfl ?_
  refine on_imul (pc' := 4) rfl rfl ?_
  refine on_iload_n (pc' := 5) rfl rfl rfl rfl ?_
  refine on_iadd (pc' := 6) rfl rfl ?_
  rw [show (10 : Int32) * nI fr + nI to = nI (10 * fr + to) by rw [show (10 : Int32) = nI 10 from rfl, pk_mul, nI_add]]
  refine on_istore (pc' := 8) rfl rfl (by decide) ?_
  first | refine on_aload_n (pc' := 9) rfl rfl rfl rfl ?_ | refine on_aload_nQ (pc' := 9) rfl rfl rfl rfl ?_
  first | apply on_get (pc' := 12) rfl rfl fl_M_36 | apply on_getN (pc' := 12) rfl rfl fl_M_36
  · repeat (first | assumption | exact on_up_eq _ _ _ | refine (on_up_ne (by omega)).trans ?_)
  · rfl
  refine on_iload (pc' := 14) rfl rfl rfl ?_
  apply on_ialoadK (pc' := 15) (t := 0) rfl rfl
  · repeat (first | assumption | exact on_up_eq _ _ _ | refine (on_up_ne (by omega)).trans ?_)
  · rfl
  · first | assumption | exact on_lit _ | rfl
  · first | assumption | omega | decide
  rw [y1]
  refine on_bipush (pc' := 17) (v := 8) rfl rfl lb_8 ?_
  refine on_icmp_ne (pc' := 20) (tgt := 21) rfl rfl rfl (fun cq => ?_) (fun cq => ?_)
  rotate_left
  · have e8 : (lk (10 * fr + to)).length = 8 := (nI_eq (a := (lk (10 * fr + to)).length) (b := 8) (by omega) (by decide)).mp cq
    refine on_vreturn rfl rfl ?_
    refine ⟨rfl, rfl, ?_, fun _ _ _ => rfl⟩
    rw [show l_ad (lk (10 * fr + to)) (ce_k num cmd x n) = lk (10 * fr + to) from if_neg (by omega), fu_self]
    exact K
  · have l8 : (lk (10 * fr + to)).length < 8 := by
      rcases Nat.lt_or_ge (lk (10 * fr + to)).length 8 with z | z
      · exact z
      · exact absurd (by rw [show (lk (10 * fr + to)).length = 8 by omega]; rfl) cq
    clear cq
    have hA : 140 * (8 * (10 * fr + to) + (lk (10 * fr + to)).length) + 140 ≤ 112000 := by omega
    refine on_sipush (pc' := 24) (v := 140) rfl rfl ls_140 ?_
    refine on_bipush (pc' := 26) (v := 8) rfl rfl lb_8 ?_
    refine on_iload (pc' := 28) rfl rfl rfl ?_
    refine on_imul (pc' := 29) rfl rfl ?_
    first | refine on_aload_n (pc' := 30) rfl rfl rfl rfl ?_ | refine on_aload_nQ (pc' := 30) rfl rfl rfl rfl ?_
    first | apply on_get (pc' := 33) rfl rfl fl_M_36 | apply on_getN (pc' := 33) rfl rfl fl_M_36
    · repeat (first | assumption | exact on_up_eq _ _ _ | refine (on_up_ne (by omega)).trans ?_)
    · rfl
    refine on_iload (pc' := 35) rfl rfl rfl ?_
    apply on_ialoadK (pc' := 36) (t := 0) rfl rfl
    · repeat (first | assumption | exact on_up_eq _ _ _ | refine (on_up_ne (by omega)).trans ?_)
    · rfl
    · first | assumption | exact on_lit _ | rfl
    · first | assumption | omega | decide
    rw [y1]
    refine on_iadd (pc' := 37) rfl rfl ?_
    refine on_imul (pc' := 38) rfl rfl ?_
    rw [show (140 : Int32) * (8 * nI (10 * fr + to) + nI (lk (10 * fr + to)).length) = nI (140 * (8 * (10 * fr + to) + (lk (10 * fr + to)).length)) by rw [show (140 : Int32) = nI 140 from rfl, show (8 : Int32) = nI 8 from rfl, pk_mul, nI_add, pk_mul]]
    refine on_istore (pc' := 40) rfl rfl (by decide) ?_
    refine on_iconst (pc' := 41) (v := 0) rfl rfl li_0 ?_
    refine on_istore (pc' := 43) rfl rfl (by decide) ?_
    generalize hAd : 140 * (8 * (10 * fr + to) + (lk (10 * fr + to)).length) = A at hA ⊢
    have e6 : on_up h (o + 6) (on_ai 0 112000 (wc_y C A 0 (ce_k num cmd x n))) = h := funext fun b => by
      by_cases z : b = o + 6
      · rw [z, on_up_eq, wc_y_0, k1]
      · exact on_up_ne z
    have m1 := mly_1 (G := G) (sz := sz) (bc := 0) (bs := 0) (W4 := .int (nI cmd)) (W5 := .ref q) (W6 := .int (nI n)) (W7 := .int (nI (10 * fr + to))) (C := C) (num := num) (y := ce_k num cmd x n) (Q := fun v h1 z => v = none ∧ z = sz ∧ mk_L o (fu lk (10 * fr + to) (l_ad (lk (10 * fr + to)) (ce_k num cmd x n))) h1 ∧ ∀ b, b ≠ o + 6 → b ≠ o + 7 → h1 b = h b) hA ho (fun i hi => if_pos hi) ?_ 4 0 (by omega)
    · rw [e6] at m1
      exact on_relv (l := [(0, .ref o), (3, .int num), (4, .int (nI cmd)), (5, .ref q), (6, .int (nI n)), (7, .int (nI (10 * fr + to))), (8, .int (nI A)), (9, .int (nI 0))]) ⟨rfl, rfl, rfl, rfl, rfl, rfl, rfl, rfl, trivial⟩ m1
    · have o1 : on_up h (o + 6) (on_ai 0 112000 (wc_y C A 4 (ce_k num cmd x n))) o = _ := (on_up_ne (by omega)).trans ho
      have c1 : on_up h (o + 6) (on_ai 0 112000 (wc_y C A 4 (ce_k num cmd x n))) (o + 6) = some (on_ai 0 112000 (wc_y C A 4 (ce_k num cmd x n))) := on_up_eq _ _ _
      have i4 : A + 4 < 112000 ∧ 112000 < 2 ^ 31 := by omega
      first | refine on_aload_n (pc' := 80) rfl rfl rfl rfl ?_ | refine on_aload_nQ (pc' := 80) rfl rfl rfl rfl ?_
      first | apply on_get (pc' := 83) rfl rfl fl_M_33 | apply on_getN (pc' := 83) rfl rfl fl_M_33
      · repeat (first | assumption | exact on_up_eq _ _ _ | refine (on_up_ne (by omega)).trans ?_)
      · rfl
      refine on_iload (pc' := 85) rfl rfl rfl ?_
      refine on_iconst (pc' := 86) (v := 4) rfl rfl li_4 ?_
      refine on_iadd (pc' := 87) rfl rfl ?_
      rw [show nI A + 4 = nI (A + 4) from nI_add A 4]
      refine on_iload (pc' := 89) rfl rfl rfl ?_
      apply on_iastoreK (pc' := 90) (t := 0) rfl rfl
      · repeat (first | assumption | exact on_up_eq _ _ _ | refine (on_up_ne (by omega)).trans ?_)
      · rfl
      · first | assumption | exact on_lit _ | rfl
      · first | assumption | omega | decide
      refine on_iconst (pc' := 91) (v := 0) rfl rfl li_0 ?_
      refine on_istore (pc' := 93) rfl rfl (by decide) ?_
      rw [on_up_up, show (nI cmd : Int32) = nI (ce_k num cmd x n 4) from rfl, wc_y_s]
      refine on_relv (l := [(0, .ref o), (5, .ref q), (6, .int (nI n)), (7, .int (nI (10 * fr + to))), (8, .int (nI A)), (9, .int (nI 0))]) ⟨rfl, rfl, rfl, rfl, rfl, rfl, trivial⟩ (mly_2 (R := R) (Lq := Lq) hA ho q1 hqo hn (fun i hi => ?_) ?_ 135 0 (by omega))
      · unfold ce_k
        rw [if_neg (by omega), if_neg (by omega)]
        by_cases z : i < n
        · rw [if_pos (by omega), if_pos z, show 5 + i - 5 = i by omega]
          exact (hx i z).1.symm
        · rw [if_neg (by omega), if_neg z]
          rfl
      · have o2 : on_up h (o + 6) (on_ai 0 112000 (wc_y C A 140 (ce_k num cmd x n))) o = _ := (on_up_ne (by omega)).trans ho
        have y4 : on_up h (o + 6) (on_ai 0 112000 (wc_y C A 140 (ce_k num cmd x n))) (o + 7) = some (on_ai 0 100 Y) := (on_up_ne (by omega)).trans k2
        first | refine on_aload_n (pc' := 136) rfl rfl rfl rfl ?_ | refine on_aload_nQ (pc' := 136) rfl rfl rfl rfl ?_
        first | apply on_get (pc' := 139) rfl rfl fl_M_36 | apply on_getN (pc' := 139) rfl rfl fl_M_36
        · repeat (first | assumption | exact on_up_eq _ _ _ | refine (on_up_ne (by omega)).trans ?_)
        · rfl
        refine on_iload (pc' := 141) rfl rfl rfl ?_
        first | refine on_dup2_11 (pc' := 142) rfl rfl rfl rfl ?_ | refine on_dup2_2 (pc' := 142) rfl rfl rfl ?_
        apply on_ialoadK (pc' := 143) (t := 0) rfl rfl
        · repeat (first | assumption | exact on_up_eq _ _ _ | refine (on_up_ne (by omega)).trans ?_)
        · rfl
        · first | assumption | exact on_lit _ | rfl
        · first | assumption | omega | decide
        rw [y1]
        refine on_iconst (pc' := 144) (v := 1) rfl rfl li_1 ?_
        refine on_iadd (pc' := 145) rfl rfl ?_
        rw [nI_1]
        apply on_iastoreK (pc' := 146) (t := 0) rfl rfl
        · repeat (first | assumption | exact on_up_eq _ _ _ | refine (on_up_ne (by omega)).trans ?_)
        · rfl
        · first | assumption | exact on_lit _ | rfl
        · first | assumption | omega | decide
        refine on_vreturn rfl rfl ?_
        refine ⟨rfl, rfl, ⟨wc_y C A 140 (ce_k num cmd x n), upd Y (10 * fr + to) (nI ((lk (10 * fr + to)).length + 1)), (on_up_ne (by omega)).trans (on_up_eq _ _ _), on_up_eq _ _ _, fun j hj => ?_⟩, fun b b1 b2 => (on_up_ne b2).trans (on_up_ne b1)⟩
        rw [show l_ad (lk (10 * fr + to)) (ce_k num cmd x n) = lk (10 * fr + to) ++ [ce_k num cmd x n] from if_pos l8]
        by_cases z : j = 10 * fr + to
        · subst z
          rw [pk_us, fu_s, List.length_append]
          refine ⟨rfl, (show (lk (10 * fr + to)).length + 1 ≤ 8 by omega), fun k hk i hi => ?_⟩
          have hk : k < (lk (10 * fr + to)).length + 1 := hk
          rw [getD_snoc]
          by_cases w : k = (lk (10 * fr + to)).length
          · rw [w, if_neg (Nat.lt_irrefl _), if_pos rfl, hAd]
            refine ⟨?_, ?_⟩
            · unfold wc_y
              rw [if_pos (by omega), show A + i - A = i by omega]
            · unfold ce_k
              split
              · exact db_lt _ _
              · split
                · exact hc
                · split
                  · exact (hx _ (by omega)).2
                  · decide
          · rw [if_pos (by omega)]
            have := y3 k (by omega) i hi
            unfold wc_y
            rw [if_neg (by omega)]
            exact this
        · rw [pk_un z, fu_n z]
          obtain ⟨v1, v2, v3⟩ := k3 j hj
          refine ⟨v1, v2, fun k hk i hi => ?_⟩
          unfold wc_y
          rw [if_neg (by omega)]
          exact v3 k hk i hi
end MLK
