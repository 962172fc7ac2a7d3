/-! the reference's circuits: cells forth, and the beginning of a hop -/
theorem i_dec (x : Int32) : x + Int32.ofInt (-1) = x - 1 := by
  rw [Int32.sub_eq_add_neg]
  rfl
section MQF
variable {G : on_G} {o c cl nr nk B sz bc bs : Nat} {x3 : Int32 × Int32 × Int32} {F : Nat → Option Nat} {rs : Nat → aR} {SD : Nat → Int64} {D0 : Nat → Int32} {lk lk2 : Nat → List aB} {q q2 : aC} {k k2 : aK} {h h1 : on_H} {Q : Option Value → on_H → Nat → Prop}
set_option maxHeartbeats 8000000 in
/-- the layers, one by one -/
theorem mfo_l {hp : Nat} {X : (Nat → aL × aL) × (Nat → Nat)} {fs : List Value} (hp3 : hp ≤ 3) (hco : c + 38 ≤ o ∨ o + 42 ≤ c) (hc : h c = some (.inr (16, fs))) (f6 : fs[6]? = some (.ref (c + 2)))
    (kk : ∀ h2, mw o x3 h2 → rB h2 (o + 25) 135 X.2 → mq_L c hp X.1 h2 → (∀ b, b ≠ o + 25 → b ≠ o + 27 → b ≠ o + 28 → (b < c + 11 ∨ c + 38 ≤ b) → h2 b = h b) → on_E G M_M_forth 54 (on_l [(0, .ref o), (1, .ref c)]) [] h2 sz bc bs Q) :
    ∀ (m : Nat) (la : Nat → aL × aL) (p : Nat → Nat) (h1 : on_H), m ≤ hp → mw o x3 h1 → rB h1 (o + 25) 135 p → mq_L c hp la h1 → (∀ i, i < m → (la i).1.pos + 135 < 2 ^ 36) → c_cv la m p = X → (∀ b, b ≠ o + 25 → b ≠ o + 27 → b ≠ o + 28 → (b < c + 11 ∨ c + 38 ≤ b) → h1 b = h b) → on_E G M_M_forth 32 (on_l [(0, .ref o), (1, .ref c), (6, .int (nI m - 1))]) [] h1 sz bc bs Q := by
  intro m
  induction m with
  | zero =>
    intro la p h1 hm W hP hL hpos eX t
    subst eX
    refine on_iload (pc' := 34) rfl rfl rfl ?_
    refine on_if_lt (pc' := 37) (tgt := 54) rfl rfl rfl (fun cq => ?_) (fun cq => ?_)
    · exact on_relv (l := [(0, .ref o), (1, .ref c)]) ⟨rfl, rfl, trivial⟩ (kk h1 W hP hL t)
    · exact absurd (by decide) cq
  | succ m ih =>
    intro la p h1 hm W hP hL hpos eX t
    have o1 := W.ob.1
    have i1 : m < 3 ∧ 3 < 2 ^ 31 := by omega
    have l1 := hL.1
    obtain ⟨mb, m1, m2⟩ := hL.2.2 m (by omega)
    rw [nI_pred]
    refine on_iload (pc' := 34) rfl rfl rfl ?_
    refine on_if_lt (pc' := 37) (tgt := 54) rfl rfl rfl (fun cq => ?_) (fun cq => ?_)
    · exact absurd cq (nI_pos (by omega))
    · clear cq
      refine on_aload_n (pc' := 38) rfl rfl rfl rfl ?_
      refine on_aload_n (pc' := 39) rfl rfl rfl rfl ?_
      apply on_getN (pc' := 42) rfl rfl fl_M_478
      · exact (t c (by omega) (by omega) (by omega) (by omega)).trans hc
      · exact f6
      refine on_iload (pc' := 44) rfl rfl rfl ?_
      apply on_aaloadK (pc' := 45) rfl rfl
      · repeat (first | assumption | exact on_up_eq _ _ _ | refine (on_up_ne (by omega)).trans ?_)
      · rfl
      · first | assumption | exact on_lit _ | rfl
      · first | assumption | omega | decide
      show on_E G M_M_forth 45 _ [.ref (c + 11 + 9 * m), .ref o] h1 sz _ _ _
      refine on_callV (pc' := 48) (As := [.ref (c + 11 + 9 * m)]) (rest := []) (b := o) rfl rfl cw_M_forth_414 (o1) rfl rfl (Nat.le_of_ble_eq_true rfl) (Nat.zero_le _) (Nat.zero_le _) (c_M_coverForwards o1 mb (by omega) (hpos m (Nat.lt_succ_self m)) hP W.bl W.be) ?_
      rintro v h2 sz ⟨rfl, rfl, P2, F2, B2, M2, t2⟩
      have W2 : mw o x3 h2 := W.upd (W.ob.keep (t2 _ (by omega) (by omega) (by omega) (by omega)) (t2 _ (by omega) (by omega) (by omega) (by omega))) (W.si.keep (fun a _ _ => t2 a (by omega) (by omega) (by omega) (by omega))) (W.st.keep (fun a _ _ => t2 a (by omega) (by omega) (by omega) (by omega))) (W.dg.keep (t2 _ (by omega) (by omega) (by omega) (by omega))) P2.w F2 B2 (fun a c1 c2 c3 c4 c5 c6 c7 _ => t2 a c5 c6 c7 (by omega))
      have L2 : mq_L c hp (fu la m (cv_l (la m).1, (la m).2)) h2 := hL.set hp3 i1.1 ⟨M2, m1.keep (fun a _ _ => t2 a (by omega) (by omega) (by omega) (by omega)), m2.keep (fun a _ _ => t2 a (by omega) (by omega) (by omega) (by omega))⟩ (t2 _ (by omega) (by omega) (by omega) (by omega)) (fun b _ _ _ => t2 b (by omega) (by omega) (by omega) (by omega))
      refine on_iinc (pc' := 51) rfl rfl rfl rfl ?_
      refine on_goto (tgt := 32) rfl rfl ?_
      refine on_relv (l := [(0, .ref o), (1, .ref c), (6, .int (nI m - 1))]) ⟨rfl, rfl, congrArg some (congrArg Value.int (i_dec (nI m))), trivial⟩ (ih _ _ h2 (by omega) W2 P2 L2 (fun i hi => ?_) eX (fun b c1 c2 c3 c4 => (t2 b c1 c2 c3 (by omega)).trans (t b c1 c2 c3 c4)))
      rw [fu_n (by omega)]
      exact hpos i (by omega)
set_option maxHeartbeats 8000000 in
/-- forth -/
theorem c_M_forth {cmd s n y L : Nat} {d : Nat → Nat} (K : mC o c cl nr x3 F rs SD D0 lk q k h) (hlz : ∀ j, j < q.hp → lz (q.la j).1 ≤ B) (hB : B + 135 < 2 ^ 28) (hp0 : 0 < q.hp) (hpa : 0 < q.pa.length) (hpa0 : q.pa.getD 0 0 < 10) (hcmd : cmd < 256) (hs : s < 65536) (hy : rW h y L) (hyo : y ≠ o + 25) (hn : n ≤ 124) (hL : n ≤ L ∧ L < 2 ^ 31) (hd : ∀ f, h y = some (on_ai 0 L f) → on_by f d n) :
    on_Ct G M_M_forth [.ref o, .ref c, .int (nI cmd), .int (nI s), .int (nI n), .ref y] h sz 0 0 (fun v h1 z => v = none ∧ z = sz ∧ mC o c cl nr x3 F rs SD D0 (n_sd (8 + cl) lk [(c_fo q cmd s n d).2]) (c_fo q cmd s n d).1 k h1 ∧ ∀ b, b ≠ o + 6 → b ≠ o + 7 → (b < o + 11 ∨ o + 17 ≤ b) → b ≠ o + 18 → b ≠ o + 25 → b ≠ o + 27 → b ≠ o + 28 → (b < c + 11 ∨ c + 38 ≤ b) → h1 b = h b) := by
  obtain ⟨W, KL, C, k4, k5, k6, k7, k8, k9, k10, k11⟩ := id K
  have o1 := W.ob.1
  have c0 : h c = some (.inr (16, [.int (nI (8 + q.cl)), .int (nI q.nu), .ref (c + 1), .int (nI q.pa.length), .int (nI q.hp), .int (nI q.ph), .ref (c + 2), .ref (c + 3), .int (nI q.st.length), .ref (c + 4), .ref (c + 5), .ref (c + 6), .ref (c + 7), .ref (c + 8), .ref (c + 9), .ref (c + 10)])) := C.1
  obtain ⟨P, p1, p2⟩ := C.2.1
  obtain ⟨l0, l1, l2⟩ := id C.2.2.1
  have i1 : q.hp - 1 < 3 ∧ 3 < 2 ^ 31 := by omega
  obtain ⟨mb, m1, m2⟩ := l2 (q.hp - 1) (by omega)
  have y0 := mb.1
  have bz := hlz (q.hp - 1) (by omega)
  have bm := lz_ms (q.la (q.hp - 1)).1
  have ehp : nI q.hp - 1 = nI (q.hp - 1) := by
    have := nI_pred (q.hp - 1)
    rw [show q.hp - 1 + 1 = q.hp by omega] at this
    exact this
  refine on_Ct.of (by decide) v_M_forth (Nat.le_of_ble_eq_true rfl) ?_
  first | refine on_aload_n (pc' := 1) rfl rfl rfl rfl ?_ | refine on_aload_nQ (pc' := 1) rfl rfl rfl rfl ?_
  refine on_iload_n (pc' := 2) rfl rfl rfl rfl ?_
  refine on_iload_n (pc' := 3) rfl rfl rfl rfl ?_
  refine on_iload (pc' := 5) rfl rfl rfl ?_
  first | refine on_aload (pc' := 7) rfl rfl rfl ?_ | refine on_aloadQ (pc' := 7) rfl rfl rfl ?_
  first | refine on_aload_n (pc' := 8) rfl rfl rfl rfl ?_ | refine on_aload_nQ (pc' := 8) rfl rfl rfl rfl ?_
  first | apply on_get (pc' := 11) rfl rfl fl_M_478 | apply on_getN (pc' := 11) rfl rfl fl_M_478
  · repeat (first | assumption | exact on_up_eq _ _ _ | refine (on_up_ne (by omega)).trans ?_)
  · rfl
  first | refine on_aload_n (pc' := 12) rfl rfl rfl rfl ?_ | refine on_aload_nQ (pc' := 12) rfl rfl rfl rfl ?_
  first | apply on_get (pc' := 15) rfl rfl fl_M_486 | apply on_getN (pc' := 15) rfl rfl fl_M_486
  · repeat (first | assumption | exact on_up_eq _ _ _ | refine (on_up_ne (by omega)).trans ?_)
  · rfl
  refine on_iconst (pc' := 16) (v := 1) rfl rfl li_1 ?_
  refine on_isub (pc' := 17) rfl rfl ?_
  rw [ehp]
  apply on_aaloadK (pc' := 18) rfl rfl
  · repeat (first | assumption | exact on_up_eq _ _ _ | refine (on_up_ne (by omega)).trans ?_)
  · rfl
  · first | assumption | exact on_lit _ | rfl
  · first | assumption | omega | decide
  show on_E G M_M_forth 18 _ (.ref (c + 11 + 9 * (q.hp - 1)) :: _) h sz _ _ _
  first | apply on_get (pc' := 21) rfl rfl fl_M_295 | apply on_getN (pc' := 21) rfl rfl fl_M_295
  · repeat (first | assumption | exact on_up_eq _ _ _ | refine (on_up_ne (by omega)).trans ?_)
  · rfl
  refine on_callV (pc' := 24) (As := [.int (nI cmd), .int (nI s), .int (nI n), .ref y, .ref (c + 11 + 9 * (q.hp - 1) + 1)]) (rest := []) (b := o) rfl rfl cw_M_forth_403 (o1) rfl rfl (Nat.le_of_ble_eq_true rfl) (Nat.zero_le _) (Nat.zero_le _) (c_M_make W.ob W.si W.st m1 (by omega) W.pl W.dg (by omega) hcmd hs hy hyo hn hL hd) ?_
  rintro v h2 sz ⟨rfl, rfl, O2, I2, S2, X2, D2, P2, t2⟩
  have W2 : mw o x3 h2 := W.upd O2 I2 S2 D2 P2.w (W.bl.keep (t2 _ (by omega) (by omega) (by omega) (by omega))) (W.be.keep (t2 _ (by omega) (by omega) (by omega) (by omega))) (fun a c1 c2 c3 c4 c5 c6 c7 _ => t2 a c3 c4 c5 (by omega))
  have L2 : mq_L c q.hp (fu q.la (q.hp - 1) (((q.la (q.hp - 1)).1.ms ++ sp_sl (mk_c cmd s n d) 5 135, (q.la (q.hp - 1)).1.K, (q.la (q.hp - 1)).1.pos), (q.la (q.hp - 1)).2)) h2 := C.2.2.1.set k11 i1.1 ⟨⟨(t2 _ (by omega) (by omega) (by omega) (by omega)).trans mb.1, mb.2.1.keep (t2 _ (by omega) (by omega) (by omega) (by omega)), mb.2.2.keep (t2 _ (by omega) (by omega) (by omega) (by omega))⟩, X2, m2.keep (fun a _ _ => t2 a (by omega) (by omega) (by omega) (by omega))⟩ (t2 _ (by omega) (by omega) (by omega) (by omega)) (fun b _ _ _ => t2 b (by omega) (by omega) (by omega) (by omega))
  have c2 := (t2 c (by omega) (by omega) (by omega) (by omega)).trans c0
  first | refine on_aload_n (pc' := 25) rfl rfl rfl rfl ?_ | refine on_aload_nQ (pc' := 25) rfl rfl rfl rfl ?_
  first | apply on_get (pc' := 28) rfl rfl fl_M_486 | apply on_getN (pc' := 28) rfl rfl fl_M_486
  · repeat (first | assumption | exact on_up_eq _ _ _ | refine (on_up_ne (by omega)).trans ?_)
  · rfl
  refine on_iconst (pc' := 29) (v := 1) rfl rfl li_1 ?_
  refine on_isub (pc' := 30) rfl rfl ?_
  refine on_istore (pc' := 32) rfl rfl (by decide) ?_
  refine on_relv (l := [(0, .ref o), (1, .ref c), (6, .int (nI q.hp - 1))]) ⟨rfl, rfl, rfl, trivial⟩ ?_
  refine mfo_l (hp := q.hp) k11 k4 c2 rfl (fun h3 W3 P3 L3 t3 => ?_) q.hp _ _ h2 (Nat.le_refl _) W2 P2 L2 (fun i hi => ?_) rfl (fun b _ _ _ _ => rfl)
  · have o3 := W3.ob.1
    have T3 : ∀ b, (b < o + 11 ∨ o + 17 ≤ b) → b ≠ o + 18 → b ≠ o + 25 → b ≠ o + 27 → b ≠ o + 28 → (b < c + 11 ∨ c + 38 ≤ b) → h3 b = h b := fun b c1 c2 c3 c4 c5 c6 => (t3 b c3 c4 c5 c6).trans (t2 b c1 c2 c3 (by omega))
    have c3 := (t3 c (by omega) (by omega) (by omega) (by omega)).trans c2
    have p3 := (T3 (c + 1) (by omega) (by omega) (by omega) (by omega) (by omega) (by omega)).trans p1
    have KL3 := KL.keep (h2 := h3) (T3 _ (by omega) (by omega) (by omega) (by omega) (by omega) (by omega)) (T3 _ (by omega) (by omega) (by omega) (by omega) (by omega) (by omega))
    first | refine on_aload_n (pc' := 55) rfl rfl rfl rfl ?_ | refine on_aload_nQ (pc' := 55) rfl rfl rfl rfl ?_
    first | refine on_aload_n (pc' := 56) rfl rfl rfl rfl ?_ | refine on_aload_nQ (pc' := 56) rfl rfl rfl rfl ?_
    first | apply on_get (pc' := 59) rfl rfl fl_M_462 | apply on_getN (pc' := 59) rfl rfl fl_M_462
    · repeat (first | assumption | exact on_up_eq _ _ _ | refine (on_up_ne (by omega)).trans ?_)
    · rfl
    first | refine on_aload_n (pc' := 60) rfl rfl rfl rfl ?_ | refine on_aload_nQ (pc' := 60) rfl rfl rfl rfl ?_
    first | apply on_get (pc' := 63) rfl rfl fl_M_472 | apply on_getN (pc' := 63) rfl rfl fl_M_472
    · repeat (first | assumption | exact on_up_eq _ _ _ | refine (on_up_ne (by omega)).trans ?_)
    · rfl
    refine on_iconst (pc' := 64) (v := 0) rfl rfl li_0 ?_
    apply on_ialoadK (pc' := 65) (t := 0) (k := 0) rfl rfl
    · repeat (first | assumption | exact on_up_eq _ _ _ | refine (on_up_ne (by omega)).trans ?_)
    · rfl
    · first | assumption | exact on_lit _ | rfl
    · first | assumption | omega | decide
    rw [p2 0 hpa, k9]
    first | refine on_aload_n (pc' := 66) rfl rfl rfl rfl ?_ | refine on_aload_nQ (pc' := 66) rfl rfl rfl rfl ?_
    first | apply on_get (pc' := 69) rfl rfl fl_M_469 | apply on_getN (pc' := 69) rfl rfl fl_M_469
    · repeat (first | assumption | exact on_up_eq _ _ _ | refine (on_up_ne (by omega)).trans ?_)
    · rfl
    refine on_iconst (pc' := 70) (v := 3) rfl rfl li_3 ?_
    first | refine on_aload_n (pc' := 71) rfl rfl rfl rfl ?_ | refine on_aload_nQ (pc' := 71) rfl rfl rfl rfl ?_
    first | apply on_get (pc' := 74) rfl rfl fl_M_76 | apply on_getN (pc' := 74) rfl rfl fl_M_76
    · repeat (first | assumption | exact on_up_eq _ _ _ | refine (on_up_ne (by omega)).trans ?_)
    · rfl
    refine on_sipush (pc' := 77) (v := 135) rfl rfl ls_135 ?_
    refine on_callV (pc' := 80) (As := [.int (nI (8 + cl)), .int (nI (q.pa.getD 0 0)), .int (nI q.nu), .int (nI 3), .ref (o + 25), .int (nI 135)]) (rest := []) (b := o) rfl rfl cw_M_forth_348 (o3) rfl rfl (Nat.le_of_ble_eq_true rfl) (Nat.zero_le _) (Nat.zero_le _) (c_M_lay o3 KL3 (by omega) hpa0 (by decide) P3.w (by omega) (by omega) ⟨Nat.le_refl 135, by decide⟩ (Nat.le_refl 135) P3.all) ?_
    rintro v h4 sz ⟨rfl, rfl, L4, t4⟩
    refine on_vreturn rfl rfl ?_
    have T4 : ∀ b, b ≠ o + 6 → b ≠ o + 7 → (b < o + 11 ∨ o + 17 ≤ b) → b ≠ o + 18 → b ≠ o + 25 → b ≠ o + 27 → b ≠ o + 28 → (b < c + 11 ∨ c + 38 ≤ b) → h4 b = h b := fun b c1 c2 c3 c4 c5 c6 c7 c8 => (t4 b c1 c2).trans (T3 b c3 c4 c5 c6 c7 c8)
    have U : ∀ b, c ≤ b → b < c + 11 → h4 b = h b := fun b b1 b2 => T4 b (by omega) (by omega) (by omega) (by omega) (by omega) (by omega) (by omega) (by omega)
    refine ⟨rfl, rfl, (K.chg (h1 := h4) (lk2 := n_sd (8 + cl) lk [(c_fo q cmd s n d).2]) (q2 := (c_fo q cmd s n d).1) (k2 := k) (W3.keep (fun a _ _ _ => t4 a (by omega) (by omega))) L4 ⟨(U _ (by omega) (by omega)).trans c0, C.2.1.keep (U _ (by omega) (by omega)), L3.keep k11 (t4 _ (by omega) (by omega)) (fun b _ _ => t4 b (by omega) (by omega)), C.2.2.2.1.keep (U _ (by omega) (by omega)), C.2.2.2.2.keep (fun b _ _ => U b (by omega) (by omega))⟩ ((T4 _ (by omega) (by omega) (by omega) (by omega) (by omega) (by omega) (by omega) (by omega)).trans k8) rfl rfl k11 (fun b c1 c2 => T4 b (by omega) (by omega) (by omega) (by omega) (by omega) (by omega) (by omega) (by omega))).1, T4⟩
  · have := lz_po (q.la i).1
    have := hlz i hi
    by_cases z : i = q.hp - 1
    · rw [z, fu_s]
      have := lz_po (q.la (q.hp - 1)).1
      show (q.la (q.hp - 1)).1.pos + 135 < 2 ^ 36
      omega
    · rw [fu_n z]
      omega
set_option maxHeartbeats 4000000 in
theorem mbg_1 {R y : Nat} {fs : List Value} {KY Y : Nat → Int32} (ho : h o = some (.inr (17, mo_f o x3.1 x3.2.1 x3.2.2))) (hR : h R = some (.inr (15, fs))) (f3 : fs[3]? = some (.ref (R + 2))) (hk : h (R + 2) = some (on_ai 0 32 KY)) (hRo : R + 174 ≤ o ∨ o + 42 ≤ R) (hy : h (o + 22) = some (on_ai 0 32 Y))
    (kk : ∀ S : Nat → Int32, (∀ i, i < 32 → S (4 + i) = KY i ∧ S (36 + i) = Y i) → on_E G M_M_begin2 107 (on_l [(0, .ref o), (2, .ref R)]) [] (on_up h (o + 26) (on_ai 0 68 S)) sz bc bs Q) :
    ∀ (m j : Nat) (S : Nat → Int32), j + m = 32 → (∀ i, i < j → S (4 + i) = KY i ∧ S (36 + i) = Y i) → on_E G M_M_begin2 61 (on_l [(0, .ref o), (2, .ref R), (4, .int (nI j))]) [] (on_up h (o + 26) (on_ai 0 68 S)) sz bc bs Q := by
  intro m
  induction m with
  | zero =>
    intro j S hj hS
    obtain rfl : j = 32 := by omega
    refine on_iload (pc' := 63) rfl rfl rfl ?_
    refine on_bipush (pc' := 65) (v := 32) rfl rfl lb_32 ?_
    refine on_icmp_ge (pc' := 68) (tgt := 107) rfl rfl rfl (fun cq => ?_) (fun cq => ?_)
    · exact on_relv (l := [(0, .ref o), (2, .ref R)]) ⟨rfl, rfl, trivial⟩ (kk S hS)
    · exact absurd (by decide) cq
  | succ m ih =>
    intro j S hj hS
    have i1 : 4 + j < 68 ∧ 68 < 2 ^ 31 := by omega
    have i2 : 36 + j < 68 ∧ 68 < 2 ^ 31 := by omega
    have i3 : j < 32 ∧ 32 < 2 ^ 31 := by omega
    refine on_iload (pc' := 63) rfl rfl rfl ?_
    refine on_bipush (pc' := 65) (v := 32) rfl rfl lb_32 ?_
    refine on_icmp_ge (pc' := 68) (tgt := 107) rfl rfl rfl (fun cq => ?_) (fun cq => ?_)
    · exact absurd cq (nI_ge (b := 32) i3.1 (by decide))
    · clear cq
      first | refine on_aload_n (pc' := 69) rfl rfl rfl rfl ?_ | refine on_aload_nQ (pc' := 69) rfl rfl rfl rfl ?_
      first | apply on_get (pc' := 72) rfl rfl fl_M_79 | apply on_getN (pc' := 72) rfl rfl fl_M_79
      · repeat (first | assumption | exact on_up_eq _ _ _ | refine (on_up_ne (by omega)).trans ?_)
      · rfl
      refine on_iconst (pc' := 73) (v := 4) rfl rfl li_4 ?_
      refine on_iload (pc' := 75) rfl rfl rfl ?_
      refine on_iadd (pc' := 76) rfl rfl ?_
      rw [show (4 : Int32) + nI j = nI (4 + j) from nI_add 4 j]
      refine on_aload_n (pc' := 77) rfl rfl rfl rfl ?_
      apply on_getN (pc' := 80) rfl rfl fl_M_284
      · exact (on_up_ne (by omega)).trans hR
      · exact f3
      refine on_iload (pc' := 82) rfl rfl rfl ?_
      apply on_ialoadK (pc' := 83) (t := 0) rfl rfl
      · repeat (first | assumption | exact on_up_eq _ _ _ | refine (on_up_ne (by omega)).trans ?_)
      · rfl
      · first | assumption | exact on_lit _ | rfl
      · first | assumption | omega | decide
      apply on_iastoreK (pc' := 84) (t := 0) rfl rfl
      · repeat (first | assumption | exact on_up_eq _ _ _ | refine (on_up_ne (by omega)).trans ?_)
      · rfl
      · first | assumption | exact on_lit _ | rfl
      · first | assumption | omega | decide
      first | refine on_aload_n (pc' := 85) rfl rfl rfl rfl ?_ | refine on_aload_nQ (pc' := 85) rfl rfl rfl rfl ?_
      first | apply on_get (pc' := 88) rfl rfl fl_M_79 | apply on_getN (pc' := 88) rfl rfl fl_M_79
      · repeat (first | assumption | exact on_up_eq _ _ _ | refine (on_up_ne (by omega)).trans ?_)
      · rfl
      refine on_bipush (pc' := 90) (v := 36) rfl rfl lb_36 ?_
      refine on_iload (pc' := 92) rfl rfl rfl ?_
      refine on_iadd (pc' := 93) rfl rfl ?_
      rw [show (36 : Int32) + nI j = nI (36 + j) from nI_add 36 j]
      first | refine on_aload_n (pc' := 94) rfl rfl rfl rfl ?_ | refine on_aload_nQ (pc' := 94) rfl rfl rfl rfl ?_
      first | apply on_get (pc' := 97) rfl rfl fl_M_67 | apply on_getN (pc' := 97) rfl rfl fl_M_67
      · repeat (first | assumption | exact on_up_eq _ _ _ | refine (on_up_ne (by omega)).trans ?_)
      · rfl
      refine on_iload (pc' := 99) rfl rfl rfl ?_
      apply on_ialoadK (pc' := 100) (t := 0) rfl rfl
      · repeat (first | assumption | exact on_up_eq _ _ _ | refine (on_up_ne (by omega)).trans ?_)
      · rfl
      · first | assumption | exact on_lit _ | rfl
      · first | assumption | omega | decide
      apply on_iastoreK (pc' := 101) (t := 0) rfl rfl
      · repeat (first | assumption | exact on_up_eq _ _ _ | refine (on_up_ne (by omega)).trans ?_)
      · rfl
      · first | assumption | exact on_lit _ | rfl
      · first | assumption | omega | decide
      refine on_iinc1 (pc' := 104) rfl rfl rfl ?_
      refine on_goto (tgt := 61) rfl rfl ?_
      rw [on_up_up, on_up_up]
      refine on_relv (l := [(0, .ref o), (2, .ref R), (4, .int (nI (j + 1)))]) ⟨rfl, rfl, congrArg some (congrArg Value.int (nI_1 j)), trivial⟩ (ih (j + 1) _ (by omega) (fun i hi => ?_))
      by_cases z : i = j
      · rw [z, pk_us, pk_un (by omega), pk_us]
        exact ⟨rfl, rfl⟩
      · rw [pk_un (by omega), pk_un (by omega), pk_un (by omega), pk_un (by omega)]
        exact hS i (by omega)
set_option maxHeartbeats 4000000 in
theorem mbg_2 {R : Nat} {fs : List Value} {MK S0 : Nat → Int32} (ho : h o = some (.inr (17, mo_f o x3.1 x3.2.1 x3.2.2))) (hR : h R = some (.inr (15, fs))) (f4 : fs[4]? = some (.ref (R + 3))) (hk : h (R + 3) = some (on_ai 0 32 MK)) (hRo : R + 174 ≤ o ∨ o + 42 ≤ R)
    (kk : ∀ S : Nat → Int32, (∀ i, i < 4 → S i = MK i) → (∀ i, 4 ≤ i → S i = S0 i) → on_E G M_M_begin2 136 (on_l []) [] (on_up h (o + 26) (on_ai 0 68 S)) sz bc bs Q) :
    ∀ (m j : Nat) (S : Nat → Int32), j + m = 4 → (∀ i, i < j → S i = MK i) → (∀ i, 4 ≤ i → S i = S0 i) → on_E G M_M_begin2 110 (on_l [(0, .ref o), (2, .ref R), (4, .int (nI j))]) [] (on_up h (o + 26) (on_ai 0 68 S)) sz bc bs Q := by
  intro m
  induction m with
  | zero =>
    intro j S hj hS hT
    obtain rfl : j = 4 := by omega
    refine on_iload (pc' := 112) rfl rfl rfl ?_
    refine on_iconst (pc' := 113) (v := 4) rfl rfl li_4 ?_
    refine on_icmp_ge (pc' := 116) (tgt := 136) rfl rfl rfl (fun cq => ?_) (fun cq => ?_)
    · exact on_relv (l := []) trivial (kk S hS hT)
    · exact absurd (by decide) cq
  | succ m ih =>
    intro j S hj hS hT
    have i1 : j < 68 ∧ 68 < 2 ^ 31 := by omega
    have i3 : j < 32 ∧ 32 < 2 ^ 31 := by omega
    refine on_iload (pc' := 112) rfl rfl rfl ?_
    refine on_iconst (pc' := 113) (v := 4) rfl rfl li_4 ?_
    refine on_icmp_ge (pc' := 116) (tgt := 136) rfl rfl rfl (fun cq => ?_) (fun cq => ?_)
    · exact absurd cq (nI_ge (b := 4) (by omega) (by decide))
    · clear cq
      first | refine on_aload_n (pc' := 117) rfl rfl rfl rfl ?_ | refine on_aload_nQ (pc' := 117) rfl rfl rfl rfl ?_
      first | apply on_get (pc' := 120) rfl rfl fl_M_79 | apply on_getN (pc' := 120) rfl rfl fl_M_79
      · repeat (first | assumption | exact on_up_eq _ _ _ | refine (on_up_ne (by omega)).trans ?_)
      · rfl
      refine on_iload (pc' := 122) rfl rfl rfl ?_
      refine on_aload_n (pc' := 123) rfl rfl rfl rfl ?_
      apply on_getN (pc' := 126) rfl rfl fl_M_285
      · exact (on_up_ne (by omega)).trans hR
      · exact f4
      refine on_iload (pc' := 128) rfl rfl rfl ?_
      apply on_ialoadK (pc' := 129) (t := 0) rfl rfl
      · repeat (first | assumption | exact on_up_eq _ _ _ | refine (on_up_ne (by omega)).trans ?_)
      · rfl
      · first | assumption | exact on_lit _ | rfl
      · first | assumption | omega | decide
      apply on_iastoreK (pc' := 130) (t := 0) rfl rfl
      · repeat (first | assumption | exact on_up_eq _ _ _ | refine (on_up_ne (by omega)).trans ?_)
      · rfl
      · first | assumption | exact on_lit _ | rfl
      · first | assumption | omega | decide
      refine on_iinc1 (pc' := 133) rfl rfl rfl ?_
      refine on_goto (tgt := 110) rfl rfl ?_
      rw [on_up_up]
      refine on_relv (l := [(0, .ref o), (2, .ref R), (4, .int (nI (j + 1)))]) ⟨rfl, rfl, congrArg some (congrArg Value.int (nI_1 j)), trivial⟩ (ih (j + 1) _ (by omega) (fun i hi => ?_) (fun i hi => ?_))
      · by_cases z : i = j
        · rw [z, pk_us]
        · rw [pk_un (by omega)]
          exact hS i (by omega)
      · rw [pk_un (by omega)]
        exact hT i hi
set_option maxHeartbeats 8000000 in
/-- begin: the next hop is asked -/
theorem c_M_begin2 {R : Nat} {se : Int64} {a1 a3 a4 a5 a8 : Int32} {D : Nat → Int32} (W : mw o x3 h) (hc : h c = some (.inr (16, [.int (nI (8 + cl)), .int a1, .ref (c + 1), .int a3, .int a4, .int a5, .ref (c + 2), .ref (c + 3), .int a8, .ref (c + 4), .ref (c + 5), .ref (c + 6), .ref (c + 7), .ref (c + 8), .ref (c + 9), .ref (c + 10)]))) (hx : rW h (c + 3) 32) (hsd : h (o + 2) = some (on_al 1 2 SD)) (hdr : h (o + 3) = some (on_ai 0 2 D)) (hcl : cl < 2) (hco : c + 38 ≤ o ∨ o + 42 ≤ c) (M : mi_S R se h) (hRo : R + 174 ≤ o ∨ o + 42 ≤ R) (hRc : R + 174 ≤ c ∨ c + 38 ≤ R) :
    on_Ct G M_M_begin2 [.ref o, .ref c, .ref R] h sz 0 0 (fun v h1 z => v = none ∧ z = sz ∧ mw o x3 h1 ∧ rB h1 (c + 3) 32 (an_d (SD cl) (D cl)) ∧ rB h1 (o + 26) 68 (of_b se (an_d (SD cl) (D cl))) ∧ h1 (o + 3) = some (on_ai 0 2 (upd D cl (D cl + 1))) ∧ ∀ b, b ≠ c + 3 → b ≠ o + 3 → (b < o + 8 ∨ o + 42 ≤ b) → h1 b = h b) := by
  have o1 := W.ob.1
  have i2 : cl < 2 ∧ 2 < 2 ^ 31 := ⟨hcl, by decide⟩
  have e8 : nI (8 + cl) - 8 = nI cl := (by decide : ∀ c, c < 2 → nI (8 + c) - 8 = nI c) cl hcl
  refine on_Ct.of (by decide) v_M_begin2 (Nat.le_of_ble_eq_true rfl) ?_
  first | refine on_aload_n (pc' := 1) rfl rfl rfl rfl ?_ | refine on_aload_nQ (pc' := 1) rfl rfl rfl rfl ?_
  first | apply on_get (pc' := 4) rfl rfl fl_M_462 | apply on_getN (pc' := 4) rfl rfl fl_M_462
  · repeat (first | assumption | exact on_up_eq _ _ _ | refine (on_up_ne (by omega)).trans ?_)
  · rfl
  refine on_bipush (pc' := 6) (v := 8) rfl rfl lb_8 ?_
  refine on_isub (pc' := 7) rfl rfl ?_
  rw [e8]
  refine on_istore_n (pc' := 8) rfl rfl rfl (by decide) ?_
  first | refine on_aload_n (pc' := 9) rfl rfl rfl rfl ?_ | refine on_aload_nQ (pc' := 9) rfl rfl rfl rfl ?_
  first | refine on_aload_n (pc' := 10) rfl rfl rfl rfl ?_ | refine on_aload_nQ (pc' := 10) rfl rfl rfl rfl ?_
  first | apply on_get (pc' := 13) rfl rfl fl_M_15 | apply on_getN (pc' := 13) rfl rfl fl_M_15
  · repeat (first | assumption | exact on_up_eq _ _ _ | refine (on_up_ne (by omega)).trans ?_)
  · rfl
  refine on_iload_n (pc' := 14) rfl rfl rfl rfl ?_
  apply on_laloadK (pc' := 15) (t := 1) rfl rfl
  · repeat (first | assumption | exact on_up_eq _ _ _ | refine (on_up_ne (by omega)).trans ?_)
  · rfl
  · first | assumption | exact on_lit _ | rfl
  · first | assumption | omega | decide
  first | refine on_aload_n (pc' := 16) rfl rfl rfl rfl ?_ | refine on_aload_nQ (pc' := 16) rfl rfl rfl rfl ?_
  first | apply on_get (pc' := 19) rfl rfl fl_M_19 | apply on_getN (pc' := 19) rfl rfl fl_M_19
  · repeat (first | assumption | exact on_up_eq _ _ _ | refine (on_up_ne (by omega)).trans ?_)
  · rfl
  refine on_iload_n (pc' := 20) rfl rfl rfl rfl ?_
  apply on_ialoadK (pc' := 21) (t := 0) rfl rfl
  · repeat (first | assumption | exact on_up_eq _ _ _ | refine (on_up_ne (by omega)).trans ?_)
  · rfl
  · first | assumption | exact on_lit _ | rfl
  · first | assumption | omega | decide
  first | refine on_aload_n (pc' := 22) rfl rfl rfl rfl ?_ | refine on_aload_nQ (pc' := 22) rfl rfl rfl rfl ?_
  first | apply on_get (pc' := 25) rfl rfl fl_M_465 | apply on_getN (pc' := 25) rfl rfl fl_M_465
  · repeat (first | assumption | exact on_up_eq _ _ _ | refine (on_up_ne (by omega)).trans ?_)
  · rfl
  refine on_callV (pc' := 28) (As := [.long (SD cl), .int (D cl), .ref (c + 3)]) (rest := []) (b := o) rfl rfl cw_M_begin2_387 (o1) rfl rfl (Nat.le_of_ble_eq_true rfl) (Nat.zero_le _) (Nat.zero_le _) (c_M_drawW W hx (by omega)) ?_
  rintro v h2 sz ⟨rfl, rfl, W2, X2, t2⟩
  have o2 := W2.ob.1
  have d2 := (t2 (o + 3) (by omega) (by omega)).trans hdr
  first | refine on_aload_n (pc' := 29) rfl rfl rfl rfl ?_ | refine on_aload_nQ (pc' := 29) rfl rfl rfl rfl ?_
  first | apply on_get (pc' := 32) rfl rfl fl_M_19 | apply on_getN (pc' := 32) rfl rfl fl_M_19
  · repeat (first | assumption | exact on_up_eq _ _ _ | refine (on_up_ne (by omega)).trans ?_)
  · rfl
  refine on_iload_n (pc' := 33) rfl rfl rfl rfl ?_
  first | refine on_dup2_11 (pc' := 34) rfl rfl rfl rfl ?_ | refine on_dup2_2 (pc' := 34) rfl rfl rfl ?_
  apply on_ialoadK (pc' := 35) (t := 0) rfl rfl
  · repeat (first | assumption | exact on_up_eq _ _ _ | refine (on_up_ne (by omega)).trans ?_)
  · rfl
  · first | assumption | exact on_lit _ | rfl
  · first | assumption | omega | decide
  refine on_iconst (pc' := 36) (v := 1) rfl rfl li_1 ?_
  refine on_iadd (pc' := 37) rfl rfl ?_
  apply on_iastoreK (pc' := 38) (t := 0) rfl rfl
  · repeat (first | assumption | exact on_up_eq _ _ _ | refine (on_up_ne (by omega)).trans ?_)
  · rfl
  · first | assumption | exact on_lit _ | rfl
  · first | assumption | omega | decide
  have t3 : ∀ b, b ≠ o + 3 → on_up h2 (o + 3) (on_ai 0 2 (upd D cl (D cl + 1))) b = h2 b := fun b hb => on_up_ne hb
  have d3 : on_up h2 (o + 3) (on_ai 0 2 (upd D cl (D cl + 1))) (o + 3) = _ := on_up_eq _ _ _
  generalize on_up h2 (o + 3) (on_ai 0 2 (upd D cl (D cl + 1))) = h3 at t3 d3 ⊢
  have W3 : mw o x3 h3 := W2.keep (fun a _ _ _ => t3 a (by omega))
  have X3 := X2.keep (t3 (c + 3) (by omega))
  have o3 := W3.ob.1
  first | refine on_aload_n (pc' := 39) rfl rfl rfl rfl ?_ | refine on_aload_nQ (pc' := 39) rfl rfl rfl rfl ?_
  refine on_callV (pc' := 42) (As := []) (rest := []) (b := o) rfl rfl cw_M_begin2_317 (o3) rfl rfl (Nat.le_of_ble_eq_true rfl) (Nat.zero_le _) (Nat.zero_le _) (c_M_baseW W3) ?_
  rintro v h4 sz ⟨rfl, rfl, W4, B4, t4⟩
  have o4 := W4.ob.1
  have X4 := X3.keep (t4 (c + 3) (by omega))
  have T4 : ∀ b, b ≠ c + 3 → b ≠ o + 3 → (b < o + 8 ∨ o + 42 ≤ b) → h4 b = h b := fun b c1 c2 c3 => (t4 b (by omega)).trans ((t3 b c2).trans (t2 b c1 (by omega)))
  have c4 := (T4 c (by omega) (by omega) (by omega)).trans hc
  first | refine on_aload_n (pc' := 43) rfl rfl rfl rfl ?_ | refine on_aload_nQ (pc' := 43) rfl rfl rfl rfl ?_
  first | refine on_aload_n (pc' := 44) rfl rfl rfl rfl ?_ | refine on_aload_nQ (pc' := 44) rfl rfl rfl rfl ?_
  first | apply on_get (pc' := 47) rfl rfl fl_M_465 | apply on_getN (pc' := 47) rfl rfl fl_M_465
  · repeat (first | assumption | exact on_up_eq _ _ _ | refine (on_up_ne (by omega)).trans ?_)
  · rfl
  first | refine on_aload_n (pc' := 48) rfl rfl rfl rfl ?_ | refine on_aload_nQ (pc' := 48) rfl rfl rfl rfl ?_
  first | apply on_get (pc' := 51) rfl rfl fl_M_64 | apply on_getN (pc' := 51) rfl rfl fl_M_64
  · repeat (first | assumption | exact on_up_eq _ _ _ | refine (on_up_ne (by omega)).trans ?_)
  · rfl
  first | refine on_aload_n (pc' := 52) rfl rfl rfl rfl ?_ | refine on_aload_nQ (pc' := 52) rfl rfl rfl rfl ?_
  first | apply on_get (pc' := 55) rfl rfl fl_M_67 | apply on_getN (pc' := 55) rfl rfl fl_M_67
  · repeat (first | assumption | exact on_up_eq _ _ _ | refine (on_up_ne (by omega)).trans ?_)
  · rfl
  refine on_callV (pc' := 58) (As := [.ref (c + 3), .ref (o + 21), .ref (o + 22)]) (rest := []) (b := o) rfl rfl cw_M_begin2_320 (o4) rfl rfl (Nat.le_of_ble_eq_true rfl) (Nat.zero_le _) (Nat.zero_le _) (c_M_curveW W4 X4 (by omega) B4 W4.r1 (by omega)) ?_
  rintro v h5 sz ⟨rfl, rfl, W5, ⟨Y, y5, Y5⟩, t5⟩
  have o5 := W5.ob.1
  have T5 : ∀ b, b ≠ c + 3 → b ≠ o + 3 → (b < o + 8 ∨ o + 42 ≤ b) → h5 b = h b := fun b c1 c2 c3 => (t5 b (by omega) (by omega)).trans (T4 b c1 c2 c3)
  obtain ⟨⟨b1, b2, b3, b4, b5, m0⟩, ⟨KY, ky1, ky2⟩, MK, mk1, mk2⟩ := M.keep (h2 := h5) (fun b _ _ => T5 b (by omega) (by omega) (by omega))
  have X5 := X4.keep (t5 (c + 3) (by omega) (by omega))
  have d5 := (t5 (o + 3) (by omega) (by omega)).trans ((t4 _ (by omega)).trans d3)
  obtain ⟨S0, s0'⟩ := W5.sk
  have eh : on_up h5 (o + 26) (on_ai 0 68 S0) = h5 := funext fun b => by
    by_cases w : b = o + 26
    · rw [w, on_up_eq, s0']
    · exact on_up_ne w
  refine on_iconst (pc' := 59) (v := 0) rfl rfl li_0 ?_
  refine on_istore (pc' := 61) rfl rfl (by decide) ?_
  refine on_relv (l := [(0, .ref o), (2, .ref R), (4, .int (nI 0))]) ⟨rfl, rfl, rfl, trivial⟩ ?_
  rw [← eh]
  refine mbg_1 (y := 0) o5 m0 rfl ky1 hRo y5 (fun S hS => ?_) 32 0 S0 rfl (fun i hi => absurd hi (Nat.not_lt_zero i))
  clear eh
  refine on_iconst (pc' := 108) (v := 0) rfl rfl li_0 ?_
  refine on_istore (pc' := 110) rfl rfl (by decide) ?_
  refine on_relv (l := [(0, .ref o), (2, .ref R), (4, .int (nI 0))]) ⟨rfl, rfl, rfl, trivial⟩ ?_
  refine mbg_2 (S0 := S) o5 m0 rfl mk1 hRo (fun S2 hS2 hS3 => ?_) 4 0 S rfl (fun i hi => absurd hi (Nat.not_lt_zero i)) (fun i _ => rfl)
  refine on_vreturn rfl rfl ?_
  have t6 : ∀ b, b ≠ o + 26 → on_up h5 (o + 26) (on_ai 0 68 S2) b = h5 b := fun b hb => on_up_ne hb
  refine ⟨rfl, rfl, W5.row (q := o + 26) (fun _ _ => by rw [show o + 26 - o = 26 by omega]; exact ⟨S2, on_up_eq _ _ _⟩) (by omega) t6, X5.keep (t6 _ (by omega)), ⟨S2, on_up_eq _ _ _, fun i hi => ⟨?_, of_lt _ _ _⟩⟩, (t6 _ (by omega)).trans d5, fun b c1 c2 c3 => (t6 b (by omega)).trans (T5 b c1 c2 c3)⟩
  unfold of_b
  by_cases z : i < 36
  · rw [if_pos z]
    by_cases w : i < 4
    · rw [hS2 i w]
      exact (mk2 i w).1
    · have a := (hS (i - 4) (by omega)).1
      have b : KY (i - 4) = nI (rs_i se (4 + (i - 4))) := (ky2 (i - 4) (by omega)).1
      rw [show 4 + (i - 4) = i by omega] at a b
      rw [hS3 i (by omega), a]
      exact b
  · have a := (hS (i - 36) (by omega)).2
    rw [show 36 + (i - 36) = i by omega] at a
    rw [if_neg z, hS3 i (by omega), a]
    exact (Y5 (i - 36) (by omega)).1
end MQF
