/-! OnionNet: path, settle -/
def d_pa (rs : Nat → aR) (nr W : Nat) : Nat → Nat → Nat → Option Nat → Option Nat
  | 0, _, _, r => r
  | m + 1, i, D, _ => match d_r rs nr D (W / 2 ^ (20 * i) % 2 ^ 20) with
    | none => none
    | some j => d_pa rs nr W m (i + 1) (D ||| 2 ^ j) (some j)
def q_path (a : aN) (word : Int64) (k : Int32) : Int32 := match p_i 3 k with
  | none => -1
  | some n => kI (d_pa a.r a.nr word.toBitVec.toNat (n + 1) 0 0 none)
/-- one round of settle: links at_ to 99 -/
def st_in (n : Nat) : Nat → Nat → Nat → Bool → aN → Nat × Bool × aN
  | 0, _, hd, mo, a => (hd, mo, a)
  | m + 1, i, hd, mo, a => if hd < n then (if n_ex a.nr a.nk i = true ∧ 0 < (a.lk i).length then st_in n m (i + 1) (hd + 1) true (n_ho a (i / 10) (i % 10)) else st_in n m (i + 1) hd mo a) else (hd, mo, a)
def st_o (n : Nat) : Nat → Nat → aN → Nat × aN
  | 0, hd, a => (hd, a)
  | r + 1, hd, a => if (st_in n 100 0 hd false a).2.1 = true then st_o n r (st_in n 100 0 hd false a).1 (st_in n 100 0 hd false a).2.2 else ((st_in n 100 0 hd false a).1, (st_in n 100 0 hd false a).2.2)
def q_settle (a : aN) (x : Int32) : Int32 × aN := match p_s 200 x with
  | none => (-1, a)
  | some k => (nI (st_o (k + 1) (k + 1) 0 a).1, (st_o (k + 1) (k + 1) 0 a).2)
theorem su_20 (v : Int64) {k : Nat} (hk : k < 64) : (sl_u v (nI k)).toInt32 &&& 1048575 = nI (v.toBitVec.toNat / 2 ^ k % 2 ^ 20) := by
  have e : v = lN v.toBitVec.toNat := by
    apply Int64.toBitVec_inj.mp
    show v.toBitVec = BitVec.ofNat 64 v.toBitVec.toNat
    rw [BitVec.ofNat_toNat, BitVec.setWidth_eq]
  have h1 : sl_u v (nI k) = lN (v.toBitVec.toNat / 2 ^ k) := by
    have := wb_shr (n := v.toBitVec.toNat) v.toBitVec.isLt hk
    rw [← e] at this
    exact this
  rw [h1, lN_i, pk_and _ 20 rfl, show (nI (v.toBitVec.toNat / 2 ^ k)).toBitVec.toNat = v.toBitVec.toNat / 2 ^ k % 2 ^ 32 from rfl]
  refine congrArg nI ?_
  omega
theorem or_bit : ∀ j, j < 6 → ∀ D, D < 64 → nI D ||| sh_l 1 (nI j) = nI (D ||| 2 ^ j) ∧ D ||| 2 ^ j < 64 := by decide +kernel
theorem d_r_lt {rs : Nat → aR} {nr D b j : Nat} (h : d_r rs nr D b = some j) : j < nr := by
  unfold d_r at h
  split at h
  · exact nomatch h
  · exact List.mem_range.mp (List.mem_of_find?_eq_some h)
theorem st_in_ok {n B : Nat} : ∀ (m i hd : Nat) (mo : Bool) (a : aN), i + m ≤ 100 → n_V (B + 540 * hd) a → hd ≤ n → n_V (B + 540 * (st_in n m i hd mo a).1) (st_in n m i hd mo a).2.2 ∧ hd ≤ (st_in n m i hd mo a).1 ∧ (st_in n m i hd mo a).1 ≤ n ∧ n_pc (st_in n m i hd mo a).2.2 ≤ n_pc a ∧ n_ps (st_in n m i hd mo a).2.2 ≤ n_ps a
  | 0, _, hd, _, a, _, V, h => ⟨V, Nat.le_refl _, h, Nat.le_refl _, Nat.le_refl _⟩
  | m + 1, i, hd, mo, a, h100, V, h => by
    have ep : st_in n (m + 1) i hd mo a = if hd < n then (if n_ex a.nr a.nk i = true ∧ 0 < (a.lk i).length then st_in n m (i + 1) (hd + 1) true (n_ho a (i / 10) (i % 10)) else st_in n m (i + 1) hd mo a) else (hd, mo, a) := rfl
    rw [ep]
    split
    next z =>
      split
      next w =>
        have V2 := n_ho_ok (fr := i / 10) (to := i % 10) (by omega) (by omega) (by rw [show 10 * (i / 10) + i % 10 = i by omega]; exact w.1) V
        have pc := n_ho_pc (fr := i / 10) (to := i % 10) V
        obtain ⟨k1, k2, k3, k4, k5⟩ := st_in_ok (n := n) (B := B) m (i + 1) (hd + 1) true (n_ho a (i / 10) (i % 10)) (by omega) (by rw [show B + 540 * (hd + 1) = B + 540 * hd + 540 by omega]; exact V2) (by omega)
        exact ⟨k1, by omega, k3, by omega, by omega⟩
      next w => exact st_in_ok m (i + 1) hd mo a (by omega) V h
    next z => exact ⟨V, Nat.le_refl _, h, Nat.le_refl _, Nat.le_refl _⟩
theorem st_o_ok {n B : Nat} : ∀ (r hd : Nat) (a : aN), n_V (B + 540 * hd) a → hd ≤ n → n_V (B + 540 * (st_o n r hd a).1) (st_o n r hd a).2 ∧ hd ≤ (st_o n r hd a).1 ∧ (st_o n r hd a).1 ≤ n ∧ n_pc (st_o n r hd a).2 ≤ n_pc a ∧ n_ps (st_o n r hd a).2 ≤ n_ps a
  | 0, hd, a, V, h => ⟨V, Nat.le_refl _, h, Nat.le_refl _, Nat.le_refl _⟩
  | r + 1, hd, a, V, h => by
    have ep : st_o n (r + 1) hd a = if (st_in n 100 0 hd false a).2.1 = true then st_o n r (st_in n 100 0 hd false a).1 (st_in n 100 0 hd false a).2.2 else ((st_in n 100 0 hd false a).1, (st_in n 100 0 hd false a).2.2) := rfl
    obtain ⟨k1, k2, k3, k4, k5⟩ := st_in_ok (B := B) (n := n) 100 0 hd false a (by omega) V h
    rw [ep]
    split
    · obtain ⟨q1, q2, q3, q4, q5⟩ := st_o_ok (B := B) r _ _ k1 k3
      exact ⟨q1, by omega, q3, by omega, by omega⟩
    · exact ⟨k1, k2, k3, k4, k5⟩
section STL
variable {G : on_G} {o sz B bc bs : Nat} {L : nL} {a : aN} {h : on_H} {x : Int32} {Q : Option Value → on_H → Nat → Prop}
theorem n_R.trans {z z2 : Nat} {L1 : nL} {a1 : aN} {h1 h2 : on_H} (hz : sz ≤ z) (e1 : ∀ b, b < sz → L1.ow b = L.ow b) (e2 : ∀ b, b < sz → L.ow b = 2 → h1 b = h b) (R : n_R o z z2 L1 a1 h1 h2) : n_R o sz z2 L a1 h h2 := by
  obtain ⟨L2, X2, k1, k2, k3⟩ := R
  exact ⟨L2, X2, by omega, fun b hb => (k2 b (by omega)).trans (e1 b hb), fun b hb hw => (k3 b (by omega) ((e1 b hb).trans hw)).trans (e2 b hb hw)⟩
set_option maxHeartbeats 8000000 in
theorem pth_l {word : Int64} {n : Nat} (X : n_X o sz L a [] h) (V : n_V B a) (hn : n < 3) (kk : ∀ v, v = kI (d_pa a.r a.nr word.toBitVec.toNat (n + 1) 0 0 none) → Q (some (.int v)) h sz) :
    ∀ (m i D : Nat) (r : Option Nat), i + m = n + 1 → D < 64 → d_pa a.r a.nr word.toBitVec.toNat (n + 1) 0 0 none = d_pa a.r a.nr word.toBitVec.toNat m i D r → on_E G M_N_path 20 (on_l [(0, .ref o), (1, .long word), (3, .int (nI n)), (4, .int (nI D)), (5, .int (kI r)), (6, .int (nI i))]) [] h sz bc bs Q := by
  have o1 : h o = some (.inr (11, [.ref (o + 1), .ref (o + 2), .ref (o + 3), .ref (o + 4), .ref (o + 5), .ref (o + 34), .ref (o + 42), .ref (o + 43), .int (nI a.nr), .int (nI a.nk), .int (nI a.nc)])) := X.1.1
  intro m
  induction m with
  | zero =>
    intro i D r hi hD e
    refine on_iload (pc' := 22) rfl rfl rfl ?_
    refine on_iload_n (pc' := 23) rfl rfl rfl rfl ?_
    refine on_icmp_gt (pc' := 26) (tgt := 68) rfl rfl rfl (fun cq => ?_) (fun cq => ?_)
    · refine on_iload (pc' := 70) rfl rfl rfl ?_
      refine on_ireturn rfl rfl ?_
      exact kk _ (by rw [e]; rfl)
    · exact absurd (nI_lt (a := n) (b := i) (by omega) (by omega)) cq
  | succ m ih =>
    intro i D r hi hD e
    have i3 : i < 3 := by omega
    refine on_iload (pc' := 22) rfl rfl rfl ?_
    refine on_iload_n (pc' := 23) rfl rfl rfl rfl ?_
    refine on_icmp_gt (pc' := 26) (tgt := 68) rfl rfl rfl (fun cq => ?_) (fun cq => ?_)
    · exact absurd ((nI_ltI (a := n) (b := i) (by omega) (by omega)).mp cq) (by omega)
    · clear cq
      first | refine on_aload_n (pc' := 27) rfl rfl rfl rfl ?_ | refine on_aload_nQ (pc' := 27) rfl rfl rfl rfl ?_
      refine on_lload_n (pc' := 28) rfl rfl rfl rfl ?_
      refine on_bipush (pc' := 30) (v := 20) rfl rfl lb_20 ?_
      refine on_iload (pc' := 32) rfl rfl rfl ?_
      refine on_imul (pc' := 33) rfl rfl ?_
      rw [show (20 : Int32) * nI i = nI (20 * i) from pk_mul 20 i]
      refine on_lushr (pc' := 34) rfl rfl ?_
      refine on_l2i (pc' := 35) rfl rfl ?_
      refine on_ldc (pc' := 37) rfl rfl ld_N_85 ?_
      refine on_iand (pc' := 38) rfl rfl ?_
      rw [su_20 word (by omega)]
      refine on_iload (pc' := 40) rfl rfl rfl ?_
      refine on_callV (pc' := 43) (As := [.int (nI (word.toBitVec.toNat / 2 ^ (20 * i) % 2 ^ 20)), .int (nI D)]) (rest := []) (b := o) rfl rfl cw_N_path_86 (o1) rfl rfl (Nat.le_of_ble_eq_true rfl) (Nat.zero_le _) (Nat.zero_le _) (c_drawnRelay V.1.1 (Nat.mod_lt _ (by decide)) (by omega) X.1.1 X.1.2.1 X.2.2.1.1 (fun j hj => (V.2.1 j hj).1)) ?_
      rintro v h sz ⟨rfl, rfl, rfl⟩
      have ed : d_pa a.r a.nr word.toBitVec.toNat (m + 1) i D r = match d_r a.r a.nr D (word.toBitVec.toNat / 2 ^ (20 * i) % 2 ^ 20) with | none => none | some j => d_pa a.r a.nr word.toBitVec.toNat m (i + 1) (D ||| 2 ^ j) (some j) := rfl
      cases er : d_r a.r a.nr D (word.toBitVec.toNat / 2 ^ (20 * i) % 2 ^ 20) with
      | none =>
        rw [er] at ed
        show on_E G M_N_path 43 _ [.int (-1)] h sz _ _ _
        refine on_istore (pc' := 45) rfl rfl (by decide) ?_
        refine on_iload (pc' := 47) rfl rfl rfl ?_
        refine on_iconst (pc' := 48) (v := (-1)) rfl rfl li_m1 ?_
        refine on_icmp_ne (pc' := 51) (tgt := 53) rfl rfl rfl (fun cq => ?_) (fun cq => ?_)
        · exact absurd rfl cq
        · refine on_iconst (pc' := 52) (v := (-1)) rfl rfl li_m1 ?_
          refine on_ireturn rfl rfl ?_
          exact kk _ (by rw [e, ed]; rfl)
      | some j =>
        rw [er] at ed
        have hj : j < 6 := by
          have := d_r_lt er
          have := V.1.1
          omega
        obtain ⟨ob1, ob2⟩ := or_bit j hj D hD
        show on_E G M_N_path 43 _ [.int (nI j)] h sz _ _ _
        refine on_istore (pc' := 45) rfl rfl (by decide) ?_
        refine on_iload (pc' := 47) rfl rfl rfl ?_
        refine on_iconst (pc' := 48) (v := (-1)) rfl rfl li_m1 ?_
        refine on_icmp_ne (pc' := 51) (tgt := 53) rfl rfl rfl (fun cq => ?_) (fun cq => ?_)
        rotate_left
        · exact absurd cq ((by decide : ∀ j, j < 6 → ¬ nI j = -1) j hj)
        · clear cq
          refine on_iload (pc' := 55) rfl rfl rfl ?_
          refine on_iconst (pc' := 56) (v := 1) rfl rfl li_1 ?_
          refine on_iload (pc' := 58) rfl rfl rfl ?_
          refine on_ishl (pc' := 59) rfl rfl ?_
          refine on_ior (pc' := 60) rfl rfl ?_
          rw [ob1]
          refine on_istore (pc' := 62) rfl rfl (by decide) ?_
          refine on_iinc1 (pc' := 65) rfl rfl rfl ?_
          refine on_goto (tgt := 20) rfl rfl ?_
          exact on_relv (l := [(0, .ref o), (1, .long word), (3, .int (nI n)), (4, .int (nI (D ||| 2 ^ j))), (5, .int (kI (some j))), (6, .int (nI (i + 1)))]) ⟨rfl, rfl, rfl, rfl, rfl, congrArg some (congrArg Value.int (nI_1 i)), trivial⟩ (ih (i + 1) (D ||| 2 ^ j) (some j) (by omega) ob2 (e.trans ed))
theorem c_N_path {word : Int64} {k : Int32} (X : n_X o sz L a [] h) (V : n_V B a) : on_Ct G M_N_path [.ref o, .long word, .int k] h sz 0 0 (fun v h1 z => v = some (.int (q_path a word k)) ∧ z = sz ∧ h1 = h) := by
  have no : ∀ lv, q_path a word k = -1 → on_E G M_N_path 9 lv [] h sz 0 0 (fun v h1 z => v = some (.int (q_path a word k)) ∧ z = sz ∧ h1 = h) := fun lv e => by
    refine on_iconst (pc' := 10) (v := (-1)) rfl rfl li_m1 ?_
    refine on_ireturn rfl rfl ?_
    rw [e]
    exact ⟨rfl, rfl, rfl⟩
  refine on_Ct.of (by decide) v_N_path (Nat.le_of_ble_eq_true rfl) ?_
  refine on_iload_n (pc' := 1) rfl rfl rfl rfl ?_
  refine on_if_lt (pc' := 4) (tgt := 9) rfl rfl rfl (fun cq => ?_) (fun cq => ?_)
  · refine no _ ?_
    unfold q_path
    rw [show p_i 3 k = none from if_neg (fun z => z.1 cq)]
  · have x0 := cq
    clear cq
    refine on_iload_n (pc' := 5) rfl rfl rfl rfl ?_
    refine on_iconst (pc' := 6) (v := 2) rfl rfl li_2 ?_
    refine on_icmp_le (pc' := 9) (tgt := 11) rfl rfl rfl (fun cq => ?_) (fun cq => ?_)
    rotate_left
    · refine no _ ?_
      unfold q_path
      rw [show p_i 3 k = none from if_neg (fun z => cq ((p_i_lt1 (n := 2) (by decide) x0).mp z.2))]
    · have x1 : k < nI 3 := (p_i_lt1 (n := 2) (by decide) x0).mpr cq
      clear cq
      have ep : p_i 3 k = some k.toNatClampNeg := if_pos ⟨x0, x1⟩
      obtain ⟨n, hn, en, -, ec, -⟩ := pk_mu (L := 3) x0 (Int32.not_le.mpr x1) (by decide)
      rw [ec] at ep
      subst en
      have eq : q_path a word (nI n) = kI (d_pa a.r a.nr word.toBitVec.toNat (n + 1) 0 0 none) := by
        unfold q_path
        rw [ep]
      refine on_iconst (pc' := 12) (v := 0) rfl rfl li_0 ?_
      refine on_istore (pc' := 14) rfl rfl (by decide) ?_
      refine on_iconst (pc' := 15) (v := (-1)) rfl rfl li_m1 ?_
      refine on_istore (pc' := 17) rfl rfl (by decide) ?_
      refine on_iconst (pc' := 18) (v := 0) rfl rfl li_0 ?_
      refine on_istore (pc' := 20) rfl rfl (by decide) ?_
      rw [eq]
      exact on_relv (l := [(0, .ref o), (1, .long word), (3, .int (nI n)), (4, .int (nI 0)), (5, .int (kI none)), (6, .int (nI 0))]) ⟨rfl, rfl, rfl, rfl, rfl, rfl, trivial⟩ (pth_l X V hn (fun v e => ⟨by rw [e], rfl, rfl⟩) (n + 1) 0 0 none (by omega) (by decide) rfl)
set_option maxHeartbeats 16000000 in
theorem stl_i {n rd : Nat} {a0 : aN} (hn : n ≤ 200) (hB : B + 540 * 201 < 2 ^ 28) :
    ∀ (m i hd : Nat) (mo : Bool) (a1 : aN) (h1 : on_H) (z : Nat) (L1 : nL) (bc bs : Nat), i + m = 100 → n_X o z L1 a1 [] h1 → n_V (B + 540 * hd) a1 → hd ≤ n → n_pc a1 ≤ bc + n_pc a0 → n_ps a1 ≤ bs + n_ps a0 → n_pc a0 ≤ n_pc (st_in n m i hd mo a1).2.2 → n_ps a0 ≤ n_ps (st_in n m i hd mo a1).2.2 →
    (∀ (h2 : on_H) (z2 bc2 bs2 : Nat), n_R o z z2 L1 (st_in n m i hd mo a1).2.2 h1 h2 → n_pc (st_in n m i hd mo a1).2.2 ≤ bc2 + n_pc a0 → n_ps (st_in n m i hd mo a1).2.2 ≤ bs2 + n_ps a0 → on_E G M_N_settle 101 (on_l [(0, .ref o), (1, .int (nI n)), (2, .int (nI (st_in n m i hd mo a1).1)), (3, .int (bI (st_in n m i hd mo a1).2.1)), (4, .int (nI rd))]) [] h2 z2 bc2 bs2 Q) →
    on_E G M_N_settle 36 (on_l [(0, .ref o), (1, .int (nI n)), (2, .int (nI hd)), (3, .int (bI mo)), (4, .int (nI rd)), (5, .int (nI i))]) [] h1 z bc bs Q := by
  intro m
  induction m with
  | zero =>
    intro i hd mo a1 h1 z L1 bc bs hi X V hh b1 b2 b3 b4 kk
    obtain rfl : i = 100 := by omega
    have o1 : h1 o = some (.inr (11, [.ref (o + 1), .ref (o + 2), .ref (o + 3), .ref (o + 4), .ref (o + 5), .ref (o + 34), .ref (o + 42), .ref (o + 43), .int (nI a1.nr), .int (nI a1.nk), .int (nI a1.nc)])) := X.1.1
    have l4 := X.1.2.2.2.2.1
    refine on_iload (pc' := 38) rfl rfl rfl ?_
    first | refine on_aload_n (pc' := 39) rfl rfl rfl rfl ?_ | refine on_aload_nQ (pc' := 39) rfl rfl rfl rfl ?_
    first | apply on_get (pc' := 42) rfl rfl fl_N_29 | apply on_getN (pc' := 42) rfl rfl fl_N_29
    · repeat (first | assumption | exact on_up_eq _ _ _ | refine (on_up_ne (by omega)).trans ?_)
    · rfl
    apply on_alenQ (pc' := 43) rfl rfl
    · repeat (first | assumption | exact on_up_eq _ _ _ | refine (on_up_ne (by omega)).trans ?_)
    · rfl
    refine on_icmp_ge (pc' := 46) (tgt := 101) rfl rfl rfl (fun cq => ?_) (fun cq => ?_)
    · exact on_relv (l := [(0, .ref o), (1, .int (nI n)), (2, .int (nI hd)), (3, .int (bI mo)), (4, .int (nI rd))]) ⟨rfl, rfl, rfl, rfl, rfl, trivial⟩ (kk h1 z _ _ (n_R.same X) b1 b2)
    · exact absurd (nI_le (a := 100) (Nat.le_refl _) (by decide)) cq
  | succ m ih =>
    intro i hd mo a1 h1 z L1 bc bs hi X V hh b1 b2 b3 b4 kk
    have o1 : h1 o = some (.inr (11, [.ref (o + 1), .ref (o + 2), .ref (o + 3), .ref (o + 4), .ref (o + 5), .ref (o + 34), .ref (o + 42), .ref (o + 43), .int (nI a1.nr), .int (nI a1.nk), .int (nI a1.nc)])) := X.1.1
    have l4 := X.1.2.2.2.2.1
    have i100 : i < 100 ∧ 100 < 2 ^ 31 := by omega
    have ep : st_in n (m + 1) i hd mo a1 = if hd < n then (if n_ex a1.nr a1.nk i = true ∧ 0 < (a1.lk i).length then st_in n m (i + 1) (hd + 1) true (n_ho a1 (i / 10) (i % 10)) else st_in n m (i + 1) hd mo a1) else (hd, mo, a1) := rfl
    refine on_iload (pc' := 38) rfl rfl rfl ?_
    first | refine on_aload_n (pc' := 39) rfl rfl rfl rfl ?_ | refine on_aload_nQ (pc' := 39) rfl rfl rfl rfl ?_
    first | apply on_get (pc' := 42) rfl rfl fl_N_29 | apply on_getN (pc' := 42) rfl rfl fl_N_29
    · repeat (first | assumption | exact on_up_eq _ _ _ | refine (on_up_ne (by omega)).trans ?_)
    · rfl
    apply on_alenQ (pc' := 43) rfl rfl
    · repeat (first | assumption | exact on_up_eq _ _ _ | refine (on_up_ne (by omega)).trans ?_)
    · rfl
    refine on_icmp_ge (pc' := 46) (tgt := 101) rfl rfl rfl (fun cq => ?_) (fun cq => ?_)
    · exact absurd cq (nI_ge (b := 100) i100.1 (by decide))
    · clear cq
      refine on_iload_n (pc' := 47) rfl rfl rfl rfl ?_
      refine on_iload_n (pc' := 48) rfl rfl rfl rfl ?_
      refine on_icmp_ge (pc' := 51) (tgt := 101) rfl rfl rfl (fun cq => ?_) (fun cq => ?_)
      · have le : ¬ hd < n := fun w => absurd cq (nI_ge (b := n) w (by omega))
        rw [if_neg le] at ep
        rw [ep] at kk
        exact on_relv (l := [(0, .ref o), (1, .int (nI n)), (2, .int (nI hd)), (3, .int (bI mo)), (4, .int (nI rd))]) ⟨rfl, rfl, rfl, rfl, rfl, trivial⟩ (kk h1 z _ _ (n_R.same X) b1 b2)
      · have lt : hd < n := by
          rcases Nat.lt_or_ge hd n with w | w
          · exact w
          · exact absurd (nI_le w (by omega)) cq
        clear cq
        rw [if_pos lt] at ep
        have next : ∀ lv, ¬ (n_ex a1.nr a1.nk i = true ∧ 0 < (a1.lk i).length) → lv 0 = some (.ref o) → lv 1 = some (.int (nI n)) → lv 2 = some (.int (nI hd)) → lv 3 = some (.int (bI mo)) → lv 4 = some (.int (nI rd)) → lv 5 = some (.int (nI i)) → on_E G M_N_settle 95 lv [] h1 z bc bs Q := fun lv ne l0 l1 l2 l3 l4 l5 => by
          rw [if_neg ne] at ep
          rw [ep] at kk b3 b4
          refine on_relv (l := [(0, .ref o), (1, .int (nI n)), (2, .int (nI hd)), (3, .int (bI mo)), (4, .int (nI rd)), (5, .int (nI i))]) ⟨l0, l1, l2, l3, l4, l5, trivial⟩ ?_
          refine on_iinc1 (pc' := 98) rfl rfl rfl ?_
          refine on_goto (tgt := 36) rfl rfl ?_
          exact on_relv (l := [(0, .ref o), (1, .int (nI n)), (2, .int (nI hd)), (3, .int (bI mo)), (4, .int (nI rd)), (5, .int (nI (i + 1)))]) ⟨rfl, rfl, rfl, rfl, rfl, congrArg some (congrArg Value.int (nI_1 i)), trivial⟩ (ih (i + 1) hd mo a1 h1 z L1 bc bs (by omega) X V hh b1 b2 b3 b4 kk)
        first | refine on_aload_n (pc' := 52) rfl rfl rfl rfl ?_ | refine on_aload_nQ (pc' := 52) rfl rfl rfl rfl ?_
        first | apply on_get (pc' := 55) rfl rfl fl_N_29 | apply on_getN (pc' := 55) rfl rfl fl_N_29
        · repeat (first | assumption | exact on_up_eq _ _ _ | refine (on_up_ne (by omega)).trans ?_)
        · rfl
        refine on_iload (pc' := 57) rfl rfl rfl ?_
        apply on_aaloadK (pc' := 58) rfl rfl
        · repeat (first | assumption | exact on_up_eq _ _ _ | refine (on_up_ne (by omega)).trans ?_)
        · rfl
        · first | assumption | exact on_lit _ | rfl
        · first | assumption | omega | decide
        cases ex : n_ex a1.nr a1.nk i with
        | false =>
          rw [show lf (n_ex a1.nr a1.nk) L1.A i = none from if_neg (by rw [ex]; decide)]
          show on_E G M_N_settle 58 _ [va_rf none] h1 z _ _ _
          first | refine on_astore (pc' := 60) rfl rfl (by decide) ?_ | refine on_astoreQ (pc' := 60) rfl rfl (by decide) ?_
          first | refine on_aload (pc' := 62) rfl rfl rfl ?_ | refine on_aloadQ (pc' := 62) rfl rfl rfl ?_
          exact on_ifnullN (tgt := 95) rfl rfl (next _ (fun w => by rw [ex] at w; exact nomatch w.1) rfl rfl rfl rfl rfl rfl)
        | true =>
          rw [show lf (n_ex a1.nr a1.nk) L1.A i = some (L1.A i) from if_pos ex]
          have lS := X.2.2.2 i i100.1 ex
          obtain ⟨g, Xf, k1, -, -, l8, -⟩ := id lS
          show on_E G M_N_settle 58 _ [.ref (L1.A i)] h1 z _ _ _
          first | refine on_astore (pc' := 60) rfl rfl (by decide) ?_ | refine on_astoreQ (pc' := 60) rfl rfl (by decide) ?_
          first | refine on_aload (pc' := 62) rfl rfl rfl ?_ | refine on_aloadQ (pc' := 62) rfl rfl rfl ?_
          refine on_ifnullR (pc' := 65) rfl rfl ?_
          cases el : a1.lk i with
          | nil =>
            rw [el] at k1
            first | refine on_aload (pc' := 67) rfl rfl rfl ?_ | refine on_aloadQ (pc' := 67) rfl rfl rfl ?_
            first | apply on_get (pc' := 70) rfl rfl fl_N_176 | apply on_getN (pc' := 70) rfl rfl fl_N_176
            · repeat (first | assumption | exact on_up_eq _ _ _ | refine (on_up_ne (by omega)).trans ?_)
            · rfl
            refine on_if_le (pc' := 73) (tgt := 95) rfl rfl rfl (fun cq => ?_) (fun cq => ?_)
            · exact next _ (fun w => by rw [el] at w; exact absurd w.2 (Nat.lt_irrefl 0)) rfl rfl rfl rfl rfl rfl
            · exact absurd (by decide) cq
          | cons c l =>
            have gt : 0 < (a1.lk i).length := by rw [el]; exact Nat.zero_lt_succ _
            rw [if_pos ⟨ex, gt⟩] at ep
            rw [ep] at kk b3 b4
            first | refine on_aload (pc' := 67) rfl rfl rfl ?_ | refine on_aloadQ (pc' := 67) rfl rfl rfl ?_
            first | apply on_get (pc' := 70) rfl rfl fl_N_176 | apply on_getN (pc' := 70) rfl rfl fl_N_176
            · repeat (first | assumption | exact on_up_eq _ _ _ | refine (on_up_ne (by omega)).trans ?_)
            · rfl
            refine on_if_le (pc' := 73) (tgt := 95) rfl rfl rfl (fun cq => ?_) (fun cq => ?_)
            · exact absurd cq (nI_ge (a := 0) (b := (a1.lk i).length) gt (by omega))
            · clear cq
              have i10 : 10 * (i / 10) + i % 10 = i := by omega
              have ho := n_ho_ok (fr := i / 10) (to := i % 10) (by omega) (by omega) (by rw [i10]; exact ex) V
              have pc1 := n_ho_pc (fr := i / 10) (to := i % 10) V
              have pc2 := st_in_ok (B := B) (n := n) m (i + 1) (hd + 1) true (n_ho a1 (i / 10) (i % 10)) (by omega) (by rw [show B + 540 * (hd + 1) = B + 540 * hd + 540 by omega]; exact ho) (by omega)
              first | refine on_aload_n (pc' := 74) rfl rfl rfl rfl ?_ | refine on_aload_nQ (pc' := 74) rfl rfl rfl rfl ?_
              refine on_iload (pc' := 76) rfl rfl rfl ?_
              refine on_bipush (pc' := 78) (v := 10) rfl rfl lb_10 ?_
              refine on_idiv (pc' := 79) rfl rfl (by first | assumption | decide) ?_
              rw [show nI i / 10 = nI (i / 10) from pk_div (d := 10) (by omega) (by decide) (by decide)]
              refine on_iload (pc' := 81) rfl rfl rfl ?_
              refine on_bipush (pc' := 83) (v := 10) rfl rfl lb_10 ?_
              refine on_irem (pc' := 84) rfl rfl (by first | assumption | decide) ?_
              rw [show i_rem (nI i) 10 = nI (i % 10) from pk_rem (d := 10) (by omega) (by decide) (by decide)]
              first | refine on_aload (pc' := 86) rfl rfl rfl ?_ | refine on_aloadQ (pc' := 86) rfl rfl rfl ?_
              refine on_callV (pc' := 89) (As := [.int (nI (i / 10)), .int (nI (i % 10)), .ref (L1.A i)]) (rest := []) (b := o) rfl rfl cw_N_settle_179 (o1) rfl rfl (Nat.le_of_ble_eq_true rfl) (by omega) (by omega) ((i10 ▸ c_handOver (bc := n_pc a1 - n_pc (n_ho a1 (i / 10) (i % 10))) (bs := n_ps a1 - n_ps (n_ho a1 (i / 10) (i % 10))) (x := c) (l := l) X V (by omega) (by omega) (by omega) (by rw [i10]; exact ex) (by rw [i10]; exact el) ⟨by omega, by omega⟩)) ?_
              rintro v h2 z2 ⟨rfl, L2, X2, q1, q2, q3⟩
              refine on_pop (pc' := 90) rfl rfl rfl ?_
              refine on_iinc1 (pc' := 93) rfl rfl rfl ?_
              refine on_iconst (pc' := 94) (v := 1) rfl rfl li_1 ?_
              refine on_istore_n (pc' := 95) rfl rfl rfl (by decide) ?_
              refine on_relv (l := [(0, .ref o), (1, .int (nI n)), (2, .int (nI (hd + 1))), (3, .int (bI true)), (4, .int (nI rd)), (5, .int (nI i))]) ⟨rfl, rfl, congrArg some (congrArg Value.int (nI_1 hd)), rfl, rfl, rfl, trivial⟩ ?_
              refine on_iinc1 (pc' := 98) rfl rfl rfl ?_
              refine on_goto (tgt := 36) rfl rfl ?_
              refine on_relv (l := [(0, .ref o), (1, .int (nI n)), (2, .int (nI (hd + 1))), (3, .int (bI true)), (4, .int (nI rd)), (5, .int (nI (i + 1)))]) ⟨rfl, rfl, rfl, rfl, rfl, congrArg some (congrArg Value.int (nI_1 i)), trivial⟩ (ih (i + 1) (hd + 1) true _ h2 z2 L2 _ _ (by omega) X2 (by rw [show B + 540 * (hd + 1) = B + 540 * hd + 540 by omega]; exact ho) (by omega) (by omega) (by omega) b3 b4 ?_)
              exact fun h3 z3 bc3 bs3 R3 => kk h3 z3 bc3 bs3 (R3.trans q1 q2 q3)
set_option maxHeartbeats 8000000 in
theorem stl_o {n : Nat} {a0 : aN} (hn : n ≤ 200) (hB : B + 540 * 201 < 2 ^ 28) :
    ∀ (r i hd : Nat) (a1 : aN) (h1 : on_H) (z : Nat) (L1 : nL) (bc bs : Nat), i + r = n → n_X o z L1 a1 [] h1 → n_V (B + 540 * hd) a1 → hd ≤ n → n_pc a1 ≤ bc + n_pc a0 → n_ps a1 ≤ bs + n_ps a0 → a0 = (st_o n r hd a1).2 →
    (∀ (h2 : on_H) (z2 : Nat), n_R o z z2 L1 a0 h1 h2 → Q (some (.int (nI (st_o n r hd a1).1))) h2 z2) →
    on_E G M_N_settle 21 (on_l [(0, .ref o), (1, .int (nI n)), (2, .int (nI hd)), (3, .int (bI true)), (4, .int (nI i))]) [] h1 z bc bs Q := by
  intro r
  induction r with
  | zero =>
    intro i hd a1 h1 z L1 bc bs hi X V hh b1 b2 e0 kk
    obtain rfl : i = n := by omega
    refine on_iload (pc' := 23) rfl rfl rfl ?_
    refine on_iload_n (pc' := 24) rfl rfl rfl rfl ?_
    refine on_icmp_ge (pc' := 27) (tgt := 107) rfl rfl rfl (fun cq => ?_) (fun cq => ?_)
    · refine on_iload_n (pc' := 108) rfl rfl rfl rfl ?_
      refine on_ireturn rfl rfl ?_
      rw [e0] at kk
      exact kk h1 z (n_R.same X)
    · exact absurd (nI_le (a := i) (Nat.le_refl _) (by omega)) cq
  | succ r ih =>
    intro i hd a1 h1 z L1 bc bs hi X V hh b1 b2 e0 kk
    have ep : st_o n (r + 1) hd a1 = if (st_in n 100 0 hd false a1).2.1 = true then st_o n r (st_in n 100 0 hd false a1).1 (st_in n 100 0 hd false a1).2.2 else ((st_in n 100 0 hd false a1).1, (st_in n 100 0 hd false a1).2.2) := rfl
    obtain ⟨p1, p2, p3, p4, p5⟩ := st_in_ok (B := B) (n := n) 100 0 hd false a1 (by omega) V hh
    have pm : n_pc a0 ≤ n_pc (st_in n 100 0 hd false a1).2.2 ∧ n_ps a0 ≤ n_ps (st_in n 100 0 hd false a1).2.2 := by
      rw [e0, ep]
      split
      · have := st_o_ok (B := B) (n := n) r _ _ p1 p3
        exact ⟨this.2.2.2.1, this.2.2.2.2⟩
      · exact ⟨Nat.le_refl _, Nat.le_refl _⟩
    refine on_iload (pc' := 23) rfl rfl rfl ?_
    refine on_iload_n (pc' := 24) rfl rfl rfl rfl ?_
    refine on_icmp_ge (pc' := 27) (tgt := 107) rfl rfl rfl (fun cq => ?_) (fun cq => ?_)
    · exact absurd cq (nI_ge (b := n) (by omega) (by omega))
    · clear cq
      refine on_iload_n (pc' := 28) rfl rfl rfl rfl ?_
      refine on_if_eq (pc' := 31) (tgt := 107) rfl rfl rfl (fun cq => ?_) (fun cq => ?_)
      · exact absurd cq (by decide)
      · clear cq
        refine on_iconst (pc' := 32) (v := 0) rfl rfl li_0 ?_
        refine on_istore_n (pc' := 33) rfl rfl rfl (by decide) ?_
        refine on_iconst (pc' := 34) (v := 0) rfl rfl li_0 ?_
        refine on_istore (pc' := 36) rfl rfl (by decide) ?_
        refine on_relv (l := [(0, .ref o), (1, .int (nI n)), (2, .int (nI hd)), (3, .int (bI false)), (4, .int (nI i)), (5, .int (nI 0))]) ⟨rfl, rfl, rfl, rfl, rfl, rfl, trivial⟩ (stl_i (a0 := a0) hn hB 100 0 hd false a1 h1 z L1 bc bs (by omega) X V hh b1 b2 pm.1 pm.2 ?_)
        rintro h2 z2 bc2 bs2 ⟨L2, X2, q1, q2, q3⟩ c1 c2
        generalize st_in n 100 0 hd false a1 = q at *
        obtain ⟨hd2, mo, a2⟩ := q
        refine on_iinc1 (pc' := 104) rfl rfl rfl ?_
        refine on_goto (tgt := 21) rfl rfl ?_
        cases mo with
        | true =>
          have ep : st_o n (r + 1) hd a1 = st_o n r hd2 a2 := ep
          rw [ep] at e0 kk
          exact on_relv (l := [(0, .ref o), (1, .int (nI n)), (2, .int (nI hd2)), (3, .int (bI true)), (4, .int (nI (i + 1)))]) ⟨rfl, rfl, rfl, rfl, congrArg some (congrArg Value.int (nI_1 i)), trivial⟩ (ih (i + 1) hd2 a2 h2 z2 L2 bc2 bs2 (by omega) X2 p1 p3 c1 c2 e0 (fun h3 z3 R3 => kk h3 z3 (R3.trans q1 q2 q3)))
        | false =>
          have ep : st_o n (r + 1) hd a1 = (hd2, a2) := ep
          rw [ep] at e0 kk
          have e0 : a0 = a2 := e0
          have fin : on_E G M_N_settle 107 (on_l [(2, .int (nI hd2))]) [] h2 z2 bc2 bs2 Q := by
            refine on_iload_n (pc' := 108) rfl rfl rfl rfl ?_
            refine on_ireturn rfl rfl ?_
            exact kk h2 z2 ⟨L2, by rw [e0]; exact X2, q1, q2, q3⟩
          refine on_relv (l := [(0, .ref o), (1, .int (nI n)), (2, .int (nI hd2)), (3, .int (bI false)), (4, .int (nI (i + 1)))]) ⟨rfl, rfl, rfl, rfl, congrArg some (congrArg Value.int (nI_1 i)), trivial⟩ ?_
          refine on_iload (pc' := 23) rfl rfl rfl ?_
          refine on_iload_n (pc' := 24) rfl rfl rfl rfl ?_
          refine on_icmp_ge (pc' := 27) (tgt := 107) rfl rfl rfl (fun cq => ?_) (fun cq => ?_)
          · exact on_relv (l := [(2, .int (nI hd2))]) ⟨rfl, trivial⟩ fin
          · refine on_iload_n (pc' := 28) rfl rfl rfl rfl ?_
            refine on_if_eq (pc' := 31) (tgt := 107) rfl rfl rfl (fun cq => ?_) (fun cq => ?_)
            · exact on_relv (l := [(2, .int (nI hd2))]) ⟨rfl, trivial⟩ fin
            · exact absurd rfl cq
/-- settle -/
theorem c_N_settle (X : n_X o sz L a [] h) (V : n_V B a) (hB : B + 540 * 201 < 2 ^ 28) (hb : n_pc a ≤ bc + n_pc (q_settle a x).2 ∧ n_ps a ≤ bs + n_ps (q_settle a x).2) : on_Ct G M_N_settle [.ref o, .int x] h sz bc bs (fun v h1 z => v = some (.int (q_settle a x).1) ∧ n_R o sz z L (q_settle a x).2 h h1) := by
  have no : ∀ lv bc bs, q_settle a x = (-1, a) → on_E G M_N_settle 12 lv [] h sz bc bs (fun v h1 z => v = some (.int (q_settle a x).1) ∧ n_R o sz z L (q_settle a x).2 h h1) := fun lv bc bs e => by
    refine on_iconst (pc' := 13) (v := (-1)) rfl rfl li_m1 ?_
    refine on_ireturn rfl rfl ?_
    rw [e]
    exact ⟨rfl, n_R.same X⟩
  refine on_Ct.of (by decide) v_N_settle (Nat.le_of_ble_eq_true rfl) ?_
  refine on_iload_n (pc' := 1) rfl rfl rfl rfl ?_
  refine on_iconst (pc' := 2) (v := 1) rfl rfl li_1 ?_
  refine on_icmp_lt (pc' := 5) (tgt := 12) rfl rfl rfl (fun cq => ?_) (fun cq => ?_)
  · refine no _ _ _ ?_
    unfold q_settle
    rw [show p_s 200 x = none from if_neg (fun z => z.1 cq)]
  · have m0 := cq
    clear cq
    refine on_iload_n (pc' := 6) rfl rfl rfl rfl ?_
    refine on_sipush (pc' := 9) (v := 200) rfl rfl ls_200 ?_
    refine on_icmp_le (pc' := 12) (tgt := 14) rfl rfl rfl (fun cq => ?_) (fun cq => ?_)
    rotate_left
    · refine no _ _ _ ?_
      unfold q_settle
      rw [show p_s 200 x = none from if_neg (fun z => cq z.2)]
    · have m1 : x ≤ nI 200 := cq
      clear cq
      have em : p_s 200 x = some (x.toNatClampNeg - 1) := if_pos ⟨m0, m1⟩
      obtain ⟨g1, g2⟩ := p_s_some (by decide) em
      generalize x.toNatClampNeg - 1 = k at *
      subst g2
      have eq : q_settle a (nI (k + 1)) = (nI (st_o (k + 1) (k + 1) 0 a).1, (st_o (k + 1) (k + 1) 0 a).2) := by
        unfold q_settle
        rw [em]
      rw [eq] at hb ⊢
      refine on_iconst (pc' := 15) (v := 0) rfl rfl li_0 ?_
      refine on_istore_n (pc' := 16) rfl rfl rfl (by decide) ?_
      refine on_iconst (pc' := 17) (v := 1) rfl rfl li_1 ?_
      refine on_istore_n (pc' := 18) rfl rfl rfl (by decide) ?_
      refine on_iconst (pc' := 19) (v := 0) rfl rfl li_0 ?_
      refine on_istore (pc' := 21) rfl rfl (by decide) ?_
      exact on_relv (l := [(0, .ref o), (1, .int (nI (k + 1))), (2, .int (nI 0)), (3, .int (bI true)), (4, .int (nI 0))]) ⟨rfl, rfl, rfl, rfl, rfl, trivial⟩ (stl_o (n := k + 1) (by omega) hB (k + 1) 0 0 a h sz L bc bs (by omega) X V (by omega) hb.1 hb.2 rfl (fun h2 z2 R => ⟨rfl, R⟩))
end STL
