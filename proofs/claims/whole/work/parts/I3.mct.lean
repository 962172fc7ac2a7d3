/-! the reference's circuits: a cell comes -/
section MCT
variable {G : on_G} {o c cl nr nk B i n sz bc bs : Nat} {x3 : Int32 × Int32 × Int32} {F : Nat → Option Nat} {rs : Nat → aR} {SD : Nat → Int64} {D0 : Nat → Int32} {lk lk2 : Nat → List aB} {q q2 : aC} {k k2 : aK} {h h1 : on_H} {Q : Option Value → on_H → Nat → Prop} {x : aB} {d : Nat → Nat} {lv : on_V} {st : List Value}
set_option maxHeartbeats 8000000 in
theorem c_M_relayed2 (K : mC o c cl nr x3 F rs SD D0 lk q k h) (CK : c_ok nr nk B q) (hB : B + 700 < 2 ^ 28) (hnr : nr ≤ 6) (hq : rB h (o + 24) 140 x) (hp0 : 0 < q.hp) (x4 : x 4 = 3) :
    on_Ct G M_M_relayed2 [.ref o, .ref c] h sz 0 0 (fun v h1 z => v = none ∧ z = sz ∧ mZ o c cl nr x3 F rs SD D0 lk (c_tk rs q k x) h h1) := by
  obtain ⟨W, KL, C, k4, k5, k6, k7, k8, k9, k10, k11⟩ := id K
  obtain ⟨a1, a2, a3, a4, a5, a6, a7, a8, a9⟩ := CK
  have o1 := W.ob.1
  have c0 : h c = some (.inr (16, [.int (nI (8 + q.cl)), .int (nI q.nu), .ref (c + 1), .int (nI q.pa.length), .int (nI q.hp), .int (nI q.ph), .ref (c + 2), .ref (c + 3), .int (nI q.st.length), .ref (c + 4), .ref (c + 5), .ref (c + 6), .ref (c + 7), .ref (c + 8), .ref (c + 9), .ref (c + 10)])) := C.1
  have pa0 : q.pa.getD 0 0 < 10 := by have := a3 0 (by omega); omega
  have ct : c_tk rs q k x = if (c_pe q.la q.hp q.hp 0 x).2.2 = some (q.hp - 1) then c_do rs (c_la q (c_pe q.la q.hp q.hp 0 x).1) k (c_pe q.la q.hp q.hp 0 x).2.1 else ((c_ds (c_la q (c_pe q.la q.hp q.hp 0 x).1)).1, k, (c_ds (c_la q (c_pe q.la q.hp q.hp 0 x).1)).2) := by
    unfold c_tk
    dsimp only
    rw [if_neg (by omega), if_pos x4, if_neg (by omega)]
  refine on_Ct.of (by decide) v_M_relayed2 (Nat.le_of_ble_eq_true rfl) ?_
  first | refine on_aload_n (pc' := 1) rfl rfl rfl rfl ?_ | refine on_aload_nQ (pc' := 1) rfl rfl rfl rfl ?_
  refine on_callV (pc' := 4) (As := []) (rest := []) (b := o) rfl rfl cw_M_relayed2_411 (o1) rfl rfl (Nat.le_of_ble_eq_true rfl) (Nat.zero_le _) (Nat.zero_le _) (c_M_toPayload o1 hq W.pl) ?_
  rintro v h1 sz ⟨rfl, rfl, P1, t1⟩
  obtain ⟨K1, f1⟩ := K.wrk (a := o + 25) (h1 := h1) (Or.inl (by omega)) (by rw [show o + 25 - o = 25 by omega]; exact P1.w) t1
  have c1 := (t1 c (by omega)).trans c0
  refine on_iconst (pc' := 5) (v := (-1)) rfl rfl li_m1 ?_
  refine on_istore_n (pc' := 6) rfl rfl rfl (by decide) ?_
  refine on_iconst (pc' := 7) (v := 0) rfl rfl li_0 ?_
  refine on_istore_n (pc' := 8) rfl rfl rfl (by decide) ?_
  refine on_relv (l := [(0, .ref o), (1, .ref c), (2, .int (-1)), (3, .int (nI 0))]) ⟨rfl, rfl, rfl, rfl, trivial⟩ ?_
  refine mpl_l (hp := q.hp) k11 k4 c1 rfl rfl (fun h2 W2 P2 L2 t2 => ?_) q.hp 0 q.la x h1 (Nat.zero_add _) K1.1 P1 K1.2.2.1.2.2.1 (fun i _ hi => by have := (a8 i hi).2; omega) rfl (fun _ _ _ _ _ _ _ => rfl)
  have pok := fun j => c_pe_ok (hp := q.hp) q.hp 0 q.la x j
  have pef := fun i => c_pe_f (hp := q.hp) q.hp 0 q.la x i
  have plt := fun j => c_pe_lt (hp := q.hp) q.hp 0 q.la x j
  generalize c_pe q.la q.hp q.hp 0 x = X at W2 P2 L2 t2 pok pef plt ct ⊢
  have T2 : ∀ b, c ≤ b → b < c + 11 → h2 b = h b := fun b b1 b2 => (t2 b (by omega) (by omega) (by omega) (by omega) (by omega) (by omega)).trans (t1 b (by omega))
  obtain ⟨K2, f2⟩ := K1.chg (h1 := h2) (lk2 := lk) (q2 := c_la q X.1) (k2 := k) W2 (K1.2.1.keep (t2 _ (by omega) (by omega) (by omega) (by omega) (by omega) (by omega)) (t2 _ (by omega) (by omega) (by omega) (by omega) (by omega) (by omega))) ⟨(T2 _ (by omega) (by omega)).trans c0, C.2.1.keep (T2 _ (by omega) (by omega)), L2, C.2.2.2.1.keep (T2 _ (by omega) (by omega)), C.2.2.2.2.keep (fun b _ _ => T2 b (by omega) (by omega))⟩ ((t2 _ (by omega) (by omega) (by omega) (by omega) (by omega) (by omega)).trans K1.2.2.2.2.2.2.2.1) rfl rfl k11 (fun b b1 b2 => t2 b (by omega) (by omega) (by omega) (by omega) (by omega) (by omega))
  have o2 := K2.1.ob.1
  have c2 := (T2 c (by omega) (by omega)).trans c0
  have ehp : nI q.hp - 1 = nI (q.hp - 1) := by
    have := nI_pred (q.hp - 1)
    rw [show q.hp - 1 + 1 = q.hp by omega] at this
    exact this
  refine on_iload_n (pc' := 60) rfl rfl rfl rfl ?_
  first | refine on_aload_n (pc' := 61) rfl rfl rfl rfl ?_ | refine on_aload_nQ (pc' := 61) rfl rfl rfl rfl ?_
  first | apply on_get (pc' := 64) rfl rfl fl_M_486 | apply on_getN (pc' := 64) rfl rfl fl_M_486
  · repeat (first | assumption | exact on_up_eq _ _ _ | refine (on_up_ne (by omega)).trans ?_)
  · rfl
  refine on_iconst (pc' := 65) (v := 1) rfl rfl li_1 ?_
  refine on_isub (pc' := 66) rfl rfl ?_
  rw [ehp]
  refine on_icmp_eq (pc' := 69) (tgt := 75) rfl rfl rfl (fun cq => ?_) (fun cq => ?_)
  · have ex : X.2.2 = some (q.hp - 1) := by
      cases z : X.2.2 with
      | none =>
        rw [z] at cq
        exact absurd cq.symm ((by decide : ∀ f, f < 3 → ¬ nI f = -1) (q.hp - 1) (by omega))
      | some j =>
        rw [z] at cq
        have := plt j z
        exact congrArg some ((nI_eq (by omega) (by omega)).mp cq)
    clear cq
    rw [if_pos ex] at ct
    obtain ⟨ms, hok⟩ := pok _ ex
    have n124 := ((rc_ok_iff _ _).mp hok).2.2.1
    refine on_relv (l := [(0, .ref o), (1, .ref c)]) ⟨rfl, rfl, trivial⟩ ?_
    refine mr2_do (q := c_la q X.1) (y := X.2.1) (B := B) K2 (fun j hj => ?_) hB a2 a3 hnr hp0 a5 (fun z => (a6 z).1) P2 n124 (fun h3 Z => ?_)
    · show lz (X.1 j).1 ≤ B
      rw [pef j]
      exact (a8 j hj).1
    · rw [ct]
      exact ⟨rfl, rfl, Z.1, (f1.trans f2).trans Z.2⟩
  · have ex : ¬ X.2.2 = some (q.hp - 1) := fun z => cq (by rw [z]; rfl)
    clear cq
    rw [if_neg ex] at ct
    first | refine on_aload_n (pc' := 70) rfl rfl rfl rfl ?_ | refine on_aload_nQ (pc' := 70) rfl rfl rfl rfl ?_
    first | refine on_aload_n (pc' := 71) rfl rfl rfl rfl ?_ | refine on_aload_nQ (pc' := 71) rfl rfl rfl rfl ?_
    refine on_callV (pc' := 74) (As := [.ref c]) (rest := []) (b := o) rfl rfl cw_M_relayed2_500 (o2) rfl rfl (Nat.le_of_ble_eq_true rfl) (Nat.zero_le _) (Nat.zero_le _) (c_M_destroyed K2 (by show 0 < q.pa.length; omega) pa0) ?_
    rintro v h3 sz ⟨rfl, rfl, Z⟩
    refine on_vreturn rfl rfl ?_
    rw [ct]
    exact ⟨rfl, rfl, Z.1, (f1.trans f2).trans Z.2⟩
theorem lo_mct : ∀ v, v < 256 → ¬ v = 3 → ¬ v = 4 → ¬ v = 11 → Op.lookupswitch.offset [((3 : Int), (92 : Int)), (4, 83), (11, 34)] 109 (nI v).toInt = 109 := by decide +kernel
theorem sw_mct {v : Nat} (hv : v < 256) (k3 : v = 3 → on_E G M_M_clientTakes 186 lv st h sz bc bs Q) (k4 : v = 4 → on_E G M_M_clientTakes 177 lv st h sz bc bs Q) (k11 : v = 11 → on_E G M_M_clientTakes 128 lv st h sz bc bs Q) (kd : ¬ v = 3 → ¬ v = 4 → ¬ v = 11 → on_E G M_M_clientTakes 203 lv st h sz bc bs Q) : on_E G M_M_clientTakes 94 lv (.int (nI v) :: st) h sz bc bs Q := by
  by_cases c3 : v = 3
  · subst c3
    exact on_lookup (off := 92) rfl rfl (by decide) rfl (k3 rfl)
  by_cases c4 : v = 4
  · subst c4
    exact on_lookup (off := 83) rfl rfl (by decide) rfl (k4 rfl)
  by_cases c11 : v = 11
  · subst c11
    exact on_lookup (off := 34) rfl rfl (by decide) rfl (k11 rfl)
  exact on_lookup (off := 109) rfl rfl (lo_mct v hv c3 c4 c11) rfl (kd c3 c4 c11)
set_option maxHeartbeats 4000000 in
theorem mct_s {X : Nat → Int32} (ho : h o = some (.inr (17, mo_f o x3.1 x3.2.1 x3.2.2))) (hp : h (o + 24) = some (on_ai 0 140 X))
    (kk : ∀ S : Nat → Int32, (∀ i, i < 64 → S i = X (5 + i)) → on_E G M_M_clientTakes 168 (on_l [(0, .ref o), (4, .ref c)]) [] (on_up h (o + 26) (on_ai 0 68 S)) sz bc bs Q) :
    ∀ (m j : Nat) (S : Nat → Int32), j + m = 64 → (∀ i, i < j → S i = X (5 + i)) → on_E G M_M_clientTakes 139 (on_l [(0, .ref o), (4, .ref c), (5, .int (nI j))]) [] (on_up h (o + 26) (on_ai 0 68 S)) sz bc bs Q := by
  intro m
  induction m with
  | zero =>
    intro j S hj hS
    obtain rfl : j = 64 := by omega
    refine on_iload (pc' := 141) rfl rfl rfl ?_
    refine on_bipush (pc' := 143) (v := 64) rfl rfl lb_64 ?_
    refine on_icmp_ge (pc' := 146) (tgt := 168) rfl rfl rfl (fun cq => ?_) (fun cq => ?_)
    · exact on_relv (l := [(0, .ref o), (4, .ref c)]) ⟨rfl, rfl, trivial⟩ (kk S hS)
    · exact absurd (by decide) cq
  | succ m ih =>
    intro j S hj hS
    have i1 : j < 68 ∧ 68 < 2 ^ 31 := by omega
    have i2 : 5 + j < 140 ∧ 140 < 2 ^ 31 := by omega
    refine on_iload (pc' := 141) rfl rfl rfl ?_
    refine on_bipush (pc' := 143) (v := 64) rfl rfl lb_64 ?_
    refine on_icmp_ge (pc' := 146) (tgt := 168) rfl rfl rfl (fun cq => ?_) (fun cq => ?_)
    · exact absurd cq (nI_ge (b := 64) (by omega) (by decide))
    · clear cq
      first | refine on_aload_n (pc' := 147) rfl rfl rfl rfl ?_ | refine on_aload_nQ (pc' := 147) rfl rfl rfl rfl ?_
      first | apply on_get (pc' := 150) rfl rfl fl_M_79 | apply on_getN (pc' := 150) rfl rfl fl_M_79
      · repeat (first | assumption | exact on_up_eq _ _ _ | refine (on_up_ne (by omega)).trans ?_)
      · rfl
      refine on_iload (pc' := 152) rfl rfl rfl ?_
      first | refine on_aload_n (pc' := 153) rfl rfl rfl rfl ?_ | refine on_aload_nQ (pc' := 153) rfl rfl rfl rfl ?_
      first | apply on_get (pc' := 156) rfl rfl fl_M_73 | apply on_getN (pc' := 156) rfl rfl fl_M_73
      · repeat (first | assumption | exact on_up_eq _ _ _ | refine (on_up_ne (by omega)).trans ?_)
      · rfl
      refine on_iconst (pc' := 157) (v := 5) rfl rfl li_5 ?_
      refine on_iload (pc' := 159) rfl rfl rfl ?_
      refine on_iadd (pc' := 160) rfl rfl ?_
      rw [show (5 : Int32) + nI j = nI (5 + j) from nI_add 5 j]
      apply on_ialoadK (pc' := 161) (t := 0) rfl rfl
      · repeat (first | assumption | exact on_up_eq _ _ _ | refine (on_up_ne (by omega)).trans ?_)
      · rfl
      · first | assumption | exact on_lit _ | rfl
      · first | assumption | omega | decide
      apply on_iastoreK (pc' := 162) (t := 0) rfl rfl
      · repeat (first | assumption | exact on_up_eq _ _ _ | refine (on_up_ne (by omega)).trans ?_)
      · rfl
      · first | assumption | exact on_lit _ | rfl
      · first | assumption | omega | decide
      refine on_iinc1 (pc' := 165) rfl rfl rfl ?_
      refine on_goto (tgt := 139) rfl rfl ?_
      rw [on_up_up]
      refine on_relv (l := [(0, .ref o), (4, .ref c), (5, .int (nI (j + 1)))]) ⟨rfl, rfl, congrArg some (congrArg Value.int (nI_1 j)), trivial⟩ (ih (j + 1) _ (by omega) (fun i hi => ?_))
      by_cases z : i = j
      · rw [z, pk_us]
      · rw [pk_un (by omega)]
        exact hS i (by omega)
set_option maxHeartbeats 8000000 in
/-- clientTakes, once the circuit is found -/
theorem mct_do (K : mC o c cl nr x3 F rs SD D0 lk q k h) (CK : c_ok nr nk B q) (hB : B + 700 < 2 ^ 28) (hnr : nr ≤ 6) (hq : rB h (o + 24) 140 x)
    (kk : ∀ h1, mZ o c cl nr x3 F rs SD D0 lk (c_tk rs q k x) h h1 → Q none h1 sz) : on_E G M_M_clientTakes 88 (on_l [(0, .ref o), (4, .ref c)]) [] h sz 0 0 Q := by
  obtain ⟨W, KL, C, k4, k5, k6, k7, k8, k9, k10, k11⟩ := id K
  obtain ⟨a1, a2, a3, a4, a5, a6, a7, a8, a9⟩ := id CK
  have o1 := W.ob.1
  have c0 : h c = some (.inr (16, [.int (nI (8 + q.cl)), .int (nI q.nu), .ref (c + 1), .int (nI q.pa.length), .int (nI q.hp), .int (nI q.ph), .ref (c + 2), .ref (c + 3), .int (nI q.st.length), .ref (c + 4), .ref (c + 5), .ref (c + 6), .ref (c + 7), .ref (c + 8), .ref (c + 9), .ref (c + 10)])) := C.1
  obtain ⟨X, x1, X'⟩ := id hq
  have x4' := X' 4 (by decide)
  have fin : ∀ lv h1, mZ o c cl nr x3 F rs SD D0 lk (c_tk rs q k x) h h1 → on_E G M_M_clientTakes 203 lv [] h1 sz 0 0 Q := fun lv h1 Z => by
    refine on_vreturn rfl rfl ?_
    exact kk h1 Z
  have same : ∀ lv, c_tk rs q k x = (q, k, []) → on_E G M_M_clientTakes 203 lv [] h sz 0 0 Q := fun lv z => fin lv h (by rw [z]; exact ⟨K, fun _ _ _ => rfl⟩)
  first | refine on_aload_n (pc' := 89) rfl rfl rfl rfl ?_ | refine on_aload_nQ (pc' := 89) rfl rfl rfl rfl ?_
  first | apply on_get (pc' := 92) rfl rfl fl_M_73 | apply on_getN (pc' := 92) rfl rfl fl_M_73
  · repeat (first | assumption | exact on_up_eq _ _ _ | refine (on_up_ne (by omega)).trans ?_)
  · rfl
  refine on_iconst (pc' := 93) (v := 4) rfl rfl li_4 ?_
  apply on_ialoadK (pc' := 94) (t := 0) (k := 4) rfl rfl
  · repeat (first | assumption | exact on_up_eq _ _ _ | refine (on_up_ne (by omega)).trans ?_)
  · rfl
  · first | assumption | exact on_lit _ | rfl
  · first | assumption | omega | decide
  rw [x4'.1]
  refine sw_mct x4'.2 (fun e => ?_) (fun e => ?_) (fun e => ?_) (fun n3 n4 n11 => ?_)
  · first | refine on_aload (pc' := 188) rfl rfl rfl ?_ | refine on_aloadQ (pc' := 188) rfl rfl rfl ?_
    first | apply on_get (pc' := 191) rfl rfl fl_M_486 | apply on_getN (pc' := 191) rfl rfl fl_M_486
    · repeat (first | assumption | exact on_up_eq _ _ _ | refine (on_up_ne (by omega)).trans ?_)
    · rfl
    refine on_if_le (pc' := 194) (tgt := 203) rfl rfl rfl (fun cq => ?_) (fun cq => ?_)
    · have z : q.hp = 0 := by
        rcases Nat.eq_zero_or_pos q.hp with z | z
        · exact z
        · exact absurd cq (nI_nle z (by omega))
      refine same _ ?_
      unfold c_tk
      dsimp only
      rw [if_neg (by omega), if_pos e, if_pos z]
    · have z : 0 < q.hp := by
        rcases Nat.eq_zero_or_pos q.hp with z | z
        · rw [z] at cq
          exact absurd (by decide) cq
        · exact z
      clear cq
      first | refine on_aload_n (pc' := 195) rfl rfl rfl rfl ?_ | refine on_aload_nQ (pc' := 195) rfl rfl rfl rfl ?_
      first | refine on_aload (pc' := 197) rfl rfl rfl ?_ | refine on_aloadQ (pc' := 197) rfl rfl rfl ?_
      refine on_callV (pc' := 200) (As := [.ref c]) (rest := []) (b := o) rfl rfl cw_M_clientTakes_510 (o1) rfl rfl (Nat.le_of_ble_eq_true rfl) (Nat.zero_le _) (Nat.zero_le _) (c_M_relayed2 K CK hB hnr hq z e) ?_
      rintro v h1 sz ⟨rfl, rfl, Z⟩
      refine on_goto (tgt := 203) rfl rfl ?_
      exact fin _ h1 Z
  · have ct : c_tk rs q k x = (c_go q, k, []) := by
      unfold c_tk
      dsimp only
      rw [if_neg (by omega), if_neg (by omega), if_pos e]
    first | refine on_aload_n (pc' := 178) rfl rfl rfl rfl ?_ | refine on_aload_nQ (pc' := 178) rfl rfl rfl rfl ?_
    first | refine on_aload (pc' := 180) rfl rfl rfl ?_ | refine on_aloadQ (pc' := 180) rfl rfl rfl ?_
    refine on_callV (pc' := 183) (As := [.ref c]) (rest := []) (b := o) rfl rfl cw_M_clientTakes_496 (o1) rfl rfl (Nat.le_of_ble_eq_true rfl) (Nat.zero_le _) (Nat.zero_le _) (c_M_gone C k11) ?_
    rintro v h1 sz ⟨rfl, rfl, C1, t1⟩
    refine on_goto (tgt := 203) rfl rfl ?_
    refine fin _ h1 ?_
    rw [ct]
    exact K.chg (h1 := h1) (lk2 := lk) (q2 := c_go q) (k2 := k) (W.keep (fun a _ _ _ => t1 a (by omega) (by omega))) (KL.keep (t1 _ (by omega) (by omega)) (t1 _ (by omega) (by omega))) C1 ((t1 _ (by omega) (by omega)).trans k8) rfl rfl k11 (fun b b1 b2 => t1 b (by omega) (by omega))
  · have ct : c_tk rs q k x = if q.hp = 0 then c_an rs q k (fun j => x (5 + j)) else (q, k, []) := by
      unfold c_tk
      dsimp only
      rw [if_pos e]
    first | refine on_aload (pc' := 130) rfl rfl rfl ?_ | refine on_aloadQ (pc' := 130) rfl rfl rfl ?_
    first | apply on_get (pc' := 133) rfl rfl fl_M_486 | apply on_getN (pc' := 133) rfl rfl fl_M_486
    · repeat (first | assumption | exact on_up_eq _ _ _ | refine (on_up_ne (by omega)).trans ?_)
    · rfl
    refine on_if_ne (pc' := 136) (tgt := 203) rfl rfl rfl (fun cq => ?_) (fun cq => ?_)
    · refine same _ ?_
      rw [ct, if_neg (fun z => cq (by rw [z]; rfl))]
    · have z : q.hp = 0 := (nI_eq (a := q.hp) (b := 0) (by omega) (by decide)).mp cq
      clear cq
      rw [if_pos z] at ct
      refine on_iconst (pc' := 137) (v := 0) rfl rfl li_0 ?_
      refine on_istore (pc' := 139) rfl rfl (by decide) ?_
      obtain ⟨S0, s0'⟩ := W.sk
      have eh : on_up h (o + 26) (on_ai 0 68 S0) = h := funext fun b => by
        by_cases w : b = o + 26
        · rw [w, on_up_eq, s0']
        · exact on_up_ne w
      refine on_relv (l := [(0, .ref o), (4, .ref c), (5, .int (nI 0))]) ⟨rfl, rfl, rfl, trivial⟩ ?_
      rw [← eh]
      refine mct_s o1 x1 (fun S hS => ?_) 64 0 S0 rfl (fun i hi => absurd hi (Nat.not_lt_zero i))
      clear eh
      have t2 : ∀ b, b ≠ o + 26 → on_up h (o + 26) (on_ai 0 68 S) b = h b := fun b hb => on_up_ne hb
      have s2 : on_up h (o + 26) (on_ai 0 68 S) (o + 26) = some (on_ai 0 68 S) := on_up_eq _ _ _
      obtain ⟨K2, f2⟩ := K.wrk (a := o + 26) (h1 := on_up h (o + 26) (on_ai 0 68 S)) (by omega) (by rw [show o + 26 - o = 26 by omega]; exact ⟨S, on_up_eq _ _ _⟩) t2
      generalize on_up h (o + 26) (on_ai 0 68 S) = g2 at t2 s2 K2 f2 ⊢
      have o2 := K2.1.ob.1
      first | refine on_aload_n (pc' := 169) rfl rfl rfl rfl ?_ | refine on_aload_nQ (pc' := 169) rfl rfl rfl rfl ?_
      first | refine on_aload (pc' := 171) rfl rfl rfl ?_ | refine on_aloadQ (pc' := 171) rfl rfl rfl ?_
      refine on_callV (pc' := 174) (As := [.ref c]) (rest := []) (b := o) rfl rfl cw_M_clientTakes_507 (o2) rfl rfl (Nat.le_of_ble_eq_true rfl) (Nat.zero_le _) (Nat.zero_le _) (c_M_answered (b := fun j => x (5 + j)) K2 (fun j hj => (a8 j hj).1) hB (by omega) a2.2 a3 hnr s2 (fun i hi => by rw [hS i hi]; exact X' (5 + i) (by omega))) ?_
      rintro v h1 sz ⟨rfl, rfl, Z⟩
      refine on_goto (tgt := 203) rfl rfl ?_
      exact fin _ h1 (by rw [ct]; exact ⟨Z.1, f2.trans Z.2⟩)
  · refine same _ ?_
    unfold c_tk
    dsimp only
    rw [if_neg n11, if_neg n3, if_neg n4]
end MCT
