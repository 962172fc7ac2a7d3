/-! the reference: settle -/
theorem n_ho_n3 {a : aN} {fr to : Nat} : (n_ho a fr to).nr = a.nr ∧ (n_ho a fr to).nc = a.nc := by
  unfold n_ho
  split
  · exact ⟨rfl, rfl⟩
  · dsimp only
    split
    · exact ⟨rfl, rfl⟩
    · split <;> exact ⟨rfl, rfl⟩
theorem st_in_full {n : Nat} : ∀ (m i hd : Nat) (mo : Bool) (a : aN), ¬ hd < n → st_in n m i hd mo a = (hd, mo, a)
  | 0, _, _, _, _, _ => rfl
  | m + 1, i, hd, mo, a, h => if_neg h
theorem st_in_s {n m i hd : Nat} {mo : Bool} {a : aN} (h : hd < n) : st_in n (m + 1) i hd mo a = if n_ex a.nr a.nk i = true ∧ 0 < (a.lk i).length then st_in n m (i + 1) (hd + 1) true (n_ho a (i / 10) (i % 10)) else st_in n m (i + 1) hd mo a := if_pos h
theorem st_in_mv {n : Nat} : ∀ (m i hd : Nat) (mo : Bool) (a : aN), hd ≤ (st_in n m i hd mo a).1 ∧ ((st_in n m i hd mo a).2.1 = true → mo = true ∨ hd < (st_in n m i hd mo a).1)
  | 0, _, hd, _, _ => ⟨Nat.le_refl hd, fun e => Or.inl e⟩
  | m + 1, i, hd, mo, a => by
    by_cases z : hd < n
    · rw [st_in_s z]
      by_cases w : n_ex a.nr a.nk i = true ∧ 0 < (a.lk i).length
      · rw [if_pos w]
        have := st_in_mv m (i + 1) (hd + 1) true (n_ho a (i / 10) (i % 10)) (n := n)
        exact ⟨by omega, fun _ => Or.inr (by omega)⟩
      · rw [if_neg w]
        exact st_in_mv m (i + 1) hd mo a
    · rw [st_in_full _ _ _ _ _ z]
      exact ⟨Nat.le_refl _, fun e => Or.inl e⟩
theorem st_o_full {n r hd : Nat} {a : aN} (h : ¬ hd < n) : st_o n r hd a = (hd, a) := by
  cases r with
  | zero => rfl
  | succ r =>
    show (if (st_in n 100 0 hd false a).2.1 = true then _ else _) = _
    rw [st_in_full _ _ _ _ _ h]
    rfl
theorem q_li_at {a : aN} {f t : Nat} (hf : f < 10) (ht : t < 10) : q_li a (nI f) (nI t) = true ↔ n_ex a.nr a.nk (10 * f + t) = true ∧ 0 < (a.lk (10 * f + t)).length := by
  unfold q_li q_lk
  rw [p_i_nI (by decide) hf, p_i_nI (by decide) ht]
  show (match (if n_ex a.nr a.nk (10 * f + t) = true then some (10 * f + t) else none) with | none => false | some j => decide (0 < (a.lk j).length)) = true ↔ _
  by_cases z : n_ex a.nr a.nk (10 * f + t) = true
  · rw [if_pos z]
    show decide (0 < (a.lk (10 * f + t)).length) = true ↔ _
    rw [decide_eq_true_eq]
    exact ⟨fun w => ⟨z, w⟩, fun w => w.2⟩
  · rw [if_neg z]
    exact ⟨fun w => (nomatch w), fun w => absurd w.1 z⟩
section MSE
variable {G : on_G} {o sz B n nr nc bc bs : Nat} {RA CA : Nat → Nat} {a : aN} {h : on_H} {x : Int32} {Q : Option Value → on_H → Nat → Prop} {R : Nat × Bool × aN}
def ms_P (o sz B nr nc : Nat) (RA CA : Nat → Nat) (h : on_H) (hd : Nat) (a : aN) (h1 : on_H) : Prop := mX o sz RA CA a h1 ∧ n_V (B + 540 * hd) a ∧ a.nr = nr ∧ a.nc = nc ∧ m_fr o nr nc RA CA h h1
set_option maxHeartbeats 8000000 in
theorem mst_i {f : Nat} (hf : f < 10) (hn : n ≤ 200) (hB : B + 540 * 201 + 700 < 2 ^ 28)
    (kk : ∀ (hd : Nat) (mo : Bool) (a : aN) (h2 : on_H), hd ≤ n → st_in n (10 * (9 - f)) (10 * (f + 1)) hd mo a = R → ms_P o sz B nr nc RA CA h hd a h2 → on_E G M_M_settle 86 (on_l [(0, .ref o), (1, .int (nI n)), (2, .int (nI hd)), (3, .int (bI mo)), (4, .int (nI f))]) [] h2 sz bc bs Q) :
    ∀ (m t hd : Nat) (mo : Bool) (a : aN) (h1 : on_H), t + m = 10 → hd ≤ n → st_in n (10 * (9 - f) + m) (10 * f + t) hd mo a = R → ms_P o sz B nr nc RA CA h hd a h1 → on_E G M_M_settle 42 (on_l [(0, .ref o), (1, .int (nI n)), (2, .int (nI hd)), (3, .int (bI mo)), (4, .int (nI f)), (5, .int (nI t))]) [] h1 sz bc bs Q := by
  intro m
  induction m with
  | zero =>
    intro t hd mo a h1 ht hh eR P
    obtain rfl : t = 10 := by omega
    refine on_iload (pc' := 44) rfl rfl rfl ?_
    refine on_bipush (pc' := 46) (v := 10) rfl rfl lb_10 ?_
    refine on_icmp_ge (pc' := 49) (tgt := 86) rfl rfl rfl (fun cq => ?_) (fun cq => ?_)
    · exact on_relv (l := [(0, .ref o), (1, .int (nI n)), (2, .int (nI hd)), (3, .int (bI mo)), (4, .int (nI f))]) ⟨rfl, rfl, rfl, rfl, rfl, trivial⟩ (kk hd mo a h1 hh eR P)
    · exact absurd (by decide) cq
  | succ m ih =>
    intro t hd mo a h1 ht hh eR P
    have t10 : t < 10 := by omega
    refine on_iload (pc' := 44) rfl rfl rfl ?_
    refine on_bipush (pc' := 46) (v := 10) rfl rfl lb_10 ?_
    refine on_icmp_ge (pc' := 49) (tgt := 86) rfl rfl rfl (fun cq => ?_) (fun cq => ?_)
    · exact absurd cq (nI_ge (b := 10) t10 (by decide))
    clear cq
    refine on_iload_n (pc' := 50) rfl rfl rfl rfl ?_
    refine on_iload_n (pc' := 51) rfl rfl rfl rfl ?_
    refine on_icmp_ge (pc' := 54) (tgt := 86) rfl rfl rfl (fun cq => ?_) (fun cq => ?_)
    · have full : ¬ hd < n := fun z => absurd cq (nI_ge (b := n) z (by omega))
      clear cq
      refine on_relv (l := [(0, .ref o), (1, .int (nI n)), (2, .int (nI hd)), (3, .int (bI mo)), (4, .int (nI f))]) ⟨rfl, rfl, rfl, rfl, rfl, trivial⟩ (kk hd mo a h1 hh ?_ P)
      rw [st_in_full _ _ _ _ _ full] at eR ⊢
      exact eR
    have lt : hd < n := by
      rcases Nat.lt_or_ge hd n with z | z
      · exact z
      · exact absurd (nI_le z (by omega)) cq
    clear cq
    obtain ⟨X, V, e1, e2, fr⟩ := id P
    have o1 := X.1.ob.1
    rw [show 10 * (9 - f) + (m + 1) = 10 * (9 - f) + m + 1 by omega, st_in_s lt] at eR
    first | refine on_aload_n (pc' := 55) rfl rfl rfl rfl ?_ | refine on_aload_nQ (pc' := 55) rfl rfl rfl rfl ?_
    refine on_iload (pc' := 57) rfl rfl rfl ?_
    refine on_iload (pc' := 59) rfl rfl rfl ?_
    refine on_callV (pc' := 62) (As := [.int (nI f), .int (nI t)]) (rest := []) (b := o) rfl rfl cw_M_settle_546 (o1) rfl rfl (Nat.le_of_ble_eq_true rfl) (Nat.zero_le _) (Nat.zero_le _) (c_M_lies X V) ?_
    rintro v h1 sz ⟨rfl, rfl, rfl⟩
    cases e : q_li a (nI f) (nI t) with
    | false =>
      have ne : ¬ (n_ex a.nr a.nk (10 * f + t) = true ∧ 0 < (a.lk (10 * f + t)).length) := fun z => by
        rw [(q_li_at hf t10).mpr z] at e
        exact (nomatch e)
      rw [if_neg ne] at eR
      show on_E G M_M_settle 62 _ [.int 0] h1 sz _ _ _
      refine on_if_eq (pc' := 65) (tgt := 80) rfl rfl rfl (fun cq => ?_) (fun cq => ?_)
      · refine on_iinc1 (pc' := 83) rfl rfl rfl ?_
        refine on_goto (tgt := 42) rfl rfl ?_
        exact on_relv (l := [(0, .ref o), (1, .int (nI n)), (2, .int (nI hd)), (3, .int (bI mo)), (4, .int (nI f)), (5, .int (nI (t + 1)))]) ⟨rfl, rfl, rfl, rfl, rfl, congrArg some (congrArg Value.int (nI_1 t)), trivial⟩ (ih (t + 1) hd mo a h1 (by omega) hh eR P)
      · exact absurd rfl cq
    | true =>
      have ye := (q_li_at hf t10).mp e
      rw [if_pos ye, show (10 * f + t) / 10 = f by omega, show (10 * f + t) % 10 = t by omega] at eR
      obtain ⟨c, l, el⟩ : ∃ c l, a.lk (10 * f + t) = c :: l := by
        cases w : a.lk (10 * f + t) with
        | nil => rw [w] at ye; exact absurd ye.2 (by decide)
        | cons c l => exact ⟨c, l, rfl⟩
      show on_E G M_M_settle 62 _ [.int 1] h1 sz _ _ _
      refine on_if_eq (pc' := 65) (tgt := 80) rfl rfl rfl (fun cq => ?_) (fun cq => ?_)
      · exact absurd cq (by decide)
      clear cq
      first | refine on_aload_n (pc' := 66) rfl rfl rfl rfl ?_ | refine on_aload_nQ (pc' := 66) rfl rfl rfl rfl ?_
      refine on_iload (pc' := 68) rfl rfl rfl ?_
      refine on_iload (pc' := 70) rfl rfl rfl ?_
      refine on_callV (pc' := 73) (As := [.int (nI f), .int (nI t)]) (rest := []) (b := o) rfl rfl cw_M_settle_549 (o1) rfl rfl (Nat.le_of_ble_eq_true rfl) (Nat.zero_le _) (Nat.zero_le _) (c_M_hand X V (by omega) t10 hf ye.1 el) ?_
      rintro v h2 sz ⟨rfl, rfl, X2, f2⟩
      have P2 : ms_P o sz B nr nc RA CA h (hd + 1) (n_ho a f t) h2 := by
        refine ⟨X2, ?_, n_ho_n3.1.trans e1, n_ho_n3.2.trans e2, ?_⟩
        · have := n_ho_ok hf t10 ye.1 V
          rw [show B + 540 * hd + 540 = B + 540 * (hd + 1) by omega] at this
          exact this
        · rw [e1, e2] at f2
          exact fr.trans f2
      refine on_istore (pc' := 75) rfl rfl (by decide) ?_
      refine on_iinc1 (pc' := 78) rfl rfl rfl ?_
      refine on_iconst (pc' := 79) (v := 1) rfl rfl li_1 ?_
      refine on_istore_n (pc' := 80) rfl rfl rfl (by decide) ?_
      refine on_iinc1 (pc' := 83) rfl rfl rfl ?_
      refine on_goto (tgt := 42) rfl rfl ?_
      exact on_relv (l := [(0, .ref o), (1, .int (nI n)), (2, .int (nI (hd + 1))), (3, .int (bI true)), (4, .int (nI f)), (5, .int (nI (t + 1)))]) ⟨rfl, rfl, congrArg some (congrArg Value.int (nI_1 hd)), rfl, rfl, congrArg some (congrArg Value.int (nI_1 t)), trivial⟩ (ih (t + 1) (hd + 1) true (n_ho a f t) h2 (by omega) lt eR P2)
set_option maxHeartbeats 8000000 in
theorem mst_m (hn : n ≤ 200) (hB : B + 540 * 201 + 700 < 2 ^ 28)
    (kk : ∀ (h2 : on_H), R.1 ≤ n → ms_P o sz B nr nc RA CA h R.1 R.2.2 h2 → on_E G M_M_settle 92 (on_l [(0, .ref o), (1, .int (nI n)), (2, .int (nI R.1)), (3, .int (bI R.2.1))]) [] h2 sz bc bs Q) :
    ∀ (m f hd : Nat) (mo : Bool) (a : aN) (h1 : on_H), f + m = 10 → hd ≤ n → st_in n (10 * m) (10 * f) hd mo a = R → ms_P o sz B nr nc RA CA h hd a h1 → on_E G M_M_settle 32 (on_l [(0, .ref o), (1, .int (nI n)), (2, .int (nI hd)), (3, .int (bI mo)), (4, .int (nI f))]) [] h1 sz bc bs Q := by
  intro m
  induction m with
  | zero =>
    intro f hd mo a h1 hf hh eR P
    obtain rfl : f = 10 := by omega
    have eR : (hd, mo, a) = R := eR
    subst eR
    refine on_iload (pc' := 34) rfl rfl rfl ?_
    refine on_bipush (pc' := 36) (v := 10) rfl rfl lb_10 ?_
    refine on_icmp_ge (pc' := 39) (tgt := 92) rfl rfl rfl (fun cq => ?_) (fun cq => ?_)
    · exact on_relv (l := [(0, .ref o), (1, .int (nI n)), (2, .int (nI hd)), (3, .int (bI mo))]) ⟨rfl, rfl, rfl, rfl, trivial⟩ (kk h1 hh P)
    · exact absurd (by decide) cq
  | succ m ih =>
    intro f hd mo a h1 hf hh eR P
    have f10 : f < 10 := by omega
    refine on_iload (pc' := 34) rfl rfl rfl ?_
    refine on_bipush (pc' := 36) (v := 10) rfl rfl lb_10 ?_
    refine on_icmp_ge (pc' := 39) (tgt := 92) rfl rfl rfl (fun cq => ?_) (fun cq => ?_)
    · exact absurd cq (nI_ge (b := 10) f10 (by decide))
    clear cq
    refine on_iconst (pc' := 40) (v := 0) rfl rfl li_0 ?_
    refine on_istore (pc' := 42) rfl rfl (by decide) ?_
    refine on_relv (l := [(0, .ref o), (1, .int (nI n)), (2, .int (nI hd)), (3, .int (bI mo)), (4, .int (nI f)), (5, .int (nI 0))]) ⟨rfl, rfl, rfl, rfl, rfl, rfl, trivial⟩ ?_
    refine mst_i (R := R) f10 hn hB (fun hd2 mo2 a2 h2 hh2 eR2 P2 => ?_) 10 0 hd mo a h1 rfl hh (by rw [show 10 * (9 - f) + 10 = 10 * (m + 1) by omega]; exact eR) P
    refine on_iinc1 (pc' := 89) rfl rfl rfl ?_
    refine on_goto (tgt := 32) rfl rfl ?_
    refine on_relv (l := [(0, .ref o), (1, .int (nI n)), (2, .int (nI hd2)), (3, .int (bI mo2)), (4, .int (nI (f + 1)))]) ⟨rfl, rfl, rfl, rfl, congrArg some (congrArg Value.int (nI_1 f)), trivial⟩ (ih (f + 1) hd2 mo2 a2 h2 (by omega) hh2 ?_ P2)
    rw [show 10 * m = 10 * (9 - f) by omega]
    exact eR2
set_option maxHeartbeats 8000000 in
theorem mst_o {S : Nat × aN} (hn : n ≤ 200) (hB : B + 540 * 201 + 700 < 2 ^ 28)
    (kk : ∀ (h2 : on_H), ms_P o sz B nr nc RA CA h S.1 S.2 h2 → on_E G M_M_settle 95 (on_l [(2, .int (nI S.1))]) [] h2 sz bc bs Q) :
    ∀ (r hd : Nat) (a : aN) (h1 : on_H), n ≤ r + hd → hd ≤ n → st_o n r hd a = S → ms_P o sz B nr nc RA CA h hd a h1 → on_E G M_M_settle 18 (on_l [(0, .ref o), (1, .int (nI n)), (2, .int (nI hd)), (3, .int (bI true))]) [] h1 sz bc bs Q := by
  intro r
  induction r with
  | zero =>
    intro hd a h1 hr hh eS P
    have eS : (hd, a) = S := eS
    subst eS
    refine on_iload_n (pc' := 19) rfl rfl rfl rfl ?_
    refine on_if_eq (pc' := 22) (tgt := 95) rfl rfl rfl (fun cq => ?_) (fun cq => ?_)
    · exact absurd cq (by decide)
    clear cq
    refine on_iload_n (pc' := 23) rfl rfl rfl rfl ?_
    refine on_iload_n (pc' := 24) rfl rfl rfl rfl ?_
    refine on_icmp_ge (pc' := 27) (tgt := 95) rfl rfl rfl (fun cq => ?_) (fun cq => ?_)
    · exact on_relv (l := [(2, .int (nI hd))]) ⟨rfl, trivial⟩ (kk h1 P)
    · exact absurd (nI_le (a := n) (b := hd) (by omega) (by omega)) cq
  | succ r ih =>
    intro hd a h1 hr hh eS P
    refine on_iload_n (pc' := 19) rfl rfl rfl rfl ?_
    refine on_if_eq (pc' := 22) (tgt := 95) rfl rfl rfl (fun cq => ?_) (fun cq => ?_)
    · exact absurd cq (by decide)
    clear cq
    refine on_iload_n (pc' := 23) rfl rfl rfl rfl ?_
    refine on_iload_n (pc' := 24) rfl rfl rfl rfl ?_
    refine on_icmp_ge (pc' := 27) (tgt := 95) rfl rfl rfl (fun cq => ?_) (fun cq => ?_)
    · have full : ¬ hd < n := fun z => absurd cq (nI_ge (b := n) z (by omega))
      rw [st_o_full full] at eS
      subst eS
      exact on_relv (l := [(2, .int (nI hd))]) ⟨rfl, trivial⟩ (kk h1 P)
    have lt : hd < n := by
      rcases Nat.lt_or_ge hd n with z | z
      · exact z
      · exact absurd (nI_le z (by omega)) cq
    clear cq
    refine on_iconst (pc' := 28) (v := 0) rfl rfl li_0 ?_
    refine on_istore_n (pc' := 29) rfl rfl rfl (by decide) ?_
    refine on_iconst (pc' := 30) (v := 0) rfl rfl li_0 ?_
    refine on_istore (pc' := 32) rfl rfl (by decide) ?_
    refine on_relv (l := [(0, .ref o), (1, .int (nI n)), (2, .int (nI hd)), (3, .int (bI false)), (4, .int (nI 0))]) ⟨rfl, rfl, rfl, rfl, rfl, trivial⟩ ?_
    have eS : (if (st_in n 100 0 hd false a).2.1 = true then st_o n r (st_in n 100 0 hd false a).1 (st_in n 100 0 hd false a).2.2 else ((st_in n 100 0 hd false a).1, (st_in n 100 0 hd false a).2.2)) = S := eS
    have mv := (st_in_mv (n := n) 100 0 hd false a).2
    refine mst_m (R := st_in n 100 0 hd false a) hn hB (fun h2 hh2 P2 => ?_) 10 0 hd false a h1 rfl hh rfl P
    generalize st_in n 100 0 hd false a = R at *
    refine on_goto (tgt := 18) rfl rfl ?_
    by_cases z : R.2.1 = true
    · rw [if_pos z] at eS
      rw [z]
      refine ih R.1 R.2.2 h2 ?_ hh2 eS P2
      rcases mv z with w | w
      · exact absurd w (by decide)
      · omega
    · rw [if_neg z] at eS
      subst eS
      rw [Bool.not_eq_true] at z
      rw [z]
      refine on_iload_n (pc' := 19) rfl rfl rfl rfl ?_
      refine on_if_eq (pc' := 22) (tgt := 95) rfl rfl rfl (fun cq => ?_) (fun cq => ?_)
      · exact on_relv (l := [(2, .int (nI R.1))]) ⟨rfl, trivial⟩ (kk h2 P2)
      · exact absurd rfl cq
set_option maxHeartbeats 8000000 in
theorem c_M_settle (X : mX o sz RA CA a h) (V : n_V B a) (hB : B + 540 * 201 + 700 < 2 ^ 28) : on_Ct G M_M_settle [.ref o, .int x] h sz 0 0 (fun v h1 z => v = some (.int (q_settle a x).1) ∧ z = sz ∧ mX o sz RA CA (q_settle a x).2 h1 ∧ m_fr o a.nr a.nc RA CA h h1 ∧ (q_settle a x).2.nr = a.nr ∧ (q_settle a x).2.nc = a.nc) := by
  have no : ∀ lv, q_settle a x = (-1, a) → on_E G M_M_settle 12 lv [] h sz 0 0 (fun v h1 z => v = some (.int (q_settle a x).1) ∧ z = sz ∧ mX o sz RA CA (q_settle a x).2 h1 ∧ m_fr o a.nr a.nc RA CA h h1 ∧ (q_settle a x).2.nr = a.nr ∧ (q_settle a x).2.nc = a.nc) := fun lv e => by
    refine on_iconst (pc' := 13) (v := (-1)) rfl rfl li_m1 ?_
    refine on_ireturn rfl rfl ?_
    rw [e]
    exact ⟨rfl, rfl, X, m_fr.id, rfl, rfl⟩
  refine on_Ct.of (by decide) v_M_settle (Nat.le_of_ble_eq_true rfl) ?_
  refine on_iload_n (pc' := 1) rfl rfl rfl rfl ?_
  refine on_iconst (pc' := 2) (v := 1) rfl rfl li_1 ?_
  refine on_icmp_lt (pc' := 5) (tgt := 12) rfl rfl rfl (fun cq => ?_) (fun cq => ?_)
  · exact no _ (by unfold q_settle; rw [show p_s 200 x = none from if_neg (fun z => z.1 cq)])
  have x1 := cq
  clear cq
  refine on_iload_n (pc' := 6) rfl rfl rfl rfl ?_
  refine on_sipush (pc' := 9) (v := 200) rfl rfl ls_200 ?_
  refine on_icmp_le (pc' := 12) (tgt := 14) rfl rfl rfl (fun cq => ?_) (fun cq => ?_)
  rotate_left
  · exact no _ (by unfold q_settle; rw [show p_s 200 x = none from if_neg (fun z => cq z.2)])
  have ps : p_s 200 x = some (x.toNatClampNeg - 1) := if_pos ⟨x1, cq⟩
  clear cq
  obtain ⟨g1, g2⟩ := p_s_some (by decide) ps
  generalize x.toNatClampNeg - 1 = k at *
  have eq : q_settle a x = (nI (st_o (k + 1) (k + 1) 0 a).1, (st_o (k + 1) (k + 1) 0 a).2) := by
    unfold q_settle
    rw [ps]
  subst g2
  refine on_iconst (pc' := 15) (v := 0) rfl rfl li_0 ?_
  refine on_istore_n (pc' := 16) rfl rfl rfl (by decide) ?_
  refine on_iconst (pc' := 17) (v := 1) rfl rfl li_1 ?_
  refine on_istore_n (pc' := 18) rfl rfl rfl (by decide) ?_
  refine on_relv (l := [(0, .ref o), (1, .int (nI (k + 1))), (2, .int (nI 0)), (3, .int (bI true))]) ⟨rfl, rfl, rfl, rfl, trivial⟩ ?_
  refine mst_o (S := st_o (k + 1) (k + 1) 0 a) (nr := a.nr) (nc := a.nc) (n := k + 1) (B := B) (by omega) hB (fun h2 P => ?_) (k + 1) 0 a h (by omega) (Nat.zero_le _) rfl ⟨X, V, rfl, rfl, m_fr.id⟩
  refine on_iload_n (pc' := 96) rfl rfl rfl rfl ?_
  refine on_ireturn rfl rfl ?_
  rw [eq]
  exact ⟨rfl, rfl, P.1, P.2.2.2.2, P.2.2.1, P.2.2.2.1⟩
end MSE
