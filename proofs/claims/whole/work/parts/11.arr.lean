/-! java.util.Arrays.fill -/
def on_fl {α : Type} (f : Nat → α) (lo hi : Nat) (v : α) : Nat → α := fun i => if lo ≤ i ∧ i < hi then v else f i
theorem on_fl_0 {α : Type} (f : Nat → α) (lo : Nat) (v : α) : on_fl f lo lo v = f := by
  funext i
  exact if_neg (by omega)
theorem on_fl_s {f : Nat → Int32} {lo hi : Nat} {v : Int32} (hl : lo ≤ hi) : upd (on_fl f lo hi v) hi v = on_fl f lo (hi + 1) v := by
  funext i
  unfold upd on_fl
  by_cases h : i = hi
  · rw [if_pos h, if_pos (by omega)]
  · rw [if_neg h]
    by_cases h2 : lo ≤ i ∧ i < hi
    · rw [if_pos h2, if_pos (by omega)]
    · rw [if_neg h2, if_neg (by omega)]
theorem on_fl_sL {f : Nat → Int64} {lo hi : Nat} {v : Int64} (hl : lo ≤ hi) : vp_updL (on_fl f lo hi v) hi v = on_fl f lo (hi + 1) v := by
  funext i
  unfold vp_updL on_fl
  by_cases h : i = hi
  · rw [if_pos h, if_pos (by omega)]
  · rw [if_neg h]
    by_cases h2 : lo ≤ i ∧ i < hi
    · rw [if_pos h2, if_pos (by omega)]
    · rw [if_neg h2, if_neg (by omega)]
theorem on_ofN {n : Nat} (v : Int32) (h : v = nI n) : Int32.ofNat n = v := h.symm
section ARR
variable {G : on_G} {a n sz bc bs : Nat} {f : Nat → Int32} {h : on_H} {Q : Option Value → on_H → Nat → Prop}
theorem c_rangeCheck {n lo hi : Nat} (h1 : lo ≤ hi) (h2 : hi ≤ n) (h3 : n < 2 ^ 31) : on_Ct G M_Arrays_rangeCheck [.int (nI n), .int (nI lo), .int (nI hi)] h sz 0 0 (fun r h1 z => r = none ∧ z = sz ∧ h1 = h) := by
  refine on_Ct.of (by decide) v_Arrays_rangeCheck (Nat.le_of_ble_eq_true rfl) ?_
  refine on_iload_n (pc' := 1) rfl rfl rfl rfl ?_
  refine on_iload_n (pc' := 2) rfl rfl rfl rfl ?_
  refine on_icmp_le (pc' := 5) (tgt := 46) rfl rfl rfl (fun cq => ?_) (fun cq => ?_)
  · refine on_iload_n (pc' := 47) rfl rfl rfl rfl ?_
    refine on_if_ge (pc' := 50) (tgt := 59) rfl rfl rfl (fun cq => ?_) (fun cq => ?_)
    · refine on_iload_n (pc' := 60) rfl rfl rfl rfl ?_
      refine on_iload_n (pc' := 61) rfl rfl rfl rfl ?_
      refine on_icmp_le (pc' := 64) (tgt := 73) rfl rfl rfl (fun cq => ?_) (fun cq => ?_)
      · refine on_vreturn rfl rfl ?_
        exact ⟨rfl, rfl, rfl⟩
      · exact absurd (nI_le h2 h3) cq
    · exact absurd (nI_pos' (by omega)) cq
  · exact absurd (nI_le h1 (by omega)) cq
theorem fill_l {v : Int32} (hn : n < 2 ^ 31) (k : on_E G M_Arrays_fill 20 (on_l [(0, .ref a), (1, .int v)]) [] (on_up h a (on_ai 0 n (on_fl f 0 n v))) sz bc bs Q) :
    ∀ (m i : Nat), i + m = n → on_E G M_Arrays_fill 5 (on_l [(0, .ref a), (1, .int v), (2, .int (nI i)), (3, .int (nI n))]) [] (on_up h a (on_ai 0 n (on_fl f 0 i v))) sz bc bs Q := by
  intro m
  induction m with
  | zero =>
    intro i hi
    refine on_iload_n (pc' := 6) rfl rfl rfl rfl ?_
    refine on_iload_n (pc' := 7) rfl rfl rfl rfl ?_
    refine on_icmp_ge (pc' := 10) (tgt := 20) rfl rfl rfl (fun cq => ?_) (fun cq => ?_)
    · rw [show i = n by omega]
      exact on_relv (l := [(0, .ref a), (1, .int v)]) ⟨rfl, rfl, trivial⟩ k
    · exact absurd (nI_le (by omega) (by omega)) cq
  | succ m ih =>
    intro i hi
    refine on_iload_n (pc' := 6) rfl rfl rfl rfl ?_
    refine on_iload_n (pc' := 7) rfl rfl rfl rfl ?_
    refine on_icmp_ge (pc' := 10) (tgt := 20) rfl rfl rfl (fun cq => ?_) (fun cq => ?_)
    · exact absurd cq (nI_ge (by omega) (by omega))
    · first | refine on_aload_n (pc' := 11) rfl rfl rfl rfl ?_ | refine on_aload_nQ (pc' := 11) rfl rfl rfl rfl ?_
      refine on_iload_n (pc' := 12) rfl rfl rfl rfl ?_
      refine on_iload_n (pc' := 13) rfl rfl rfl rfl ?_
      apply on_iastoreK (pc' := 14) (t := 0) rfl rfl
      · repeat (first | assumption | exact on_up_eq _ _ _ | refine (on_up_ne (by omega)).trans ?_)
      · rfl
      · first | assumption | exact on_lit _ | rfl
      · first | assumption | omega | decide
      refine on_iinc1 (pc' := 17) rfl rfl rfl ?_
      refine on_goto (tgt := 5) rfl rfl ?_
      rw [on_up_up, on_fl_s (Nat.zero_le i)]
      exact on_relv (l := [(0, .ref a), (1, .int v), (2, .int (nI (i + 1))), (3, .int (nI n))]) ⟨rfl, rfl, congrArg some (congrArg Value.int (nI_1 i)), rfl, trivial⟩ (ih (i + 1) (by omega))
theorem c_fill {v : Int32} (hn : n < 2 ^ 31) (ha : h a = some (on_ai 0 n f)) : on_Ct G M_Arrays_fill [.ref a, .int v] h sz 0 0 (fun r h1 z => r = none ∧ z = sz ∧ h1 = on_up h a (on_ai 0 n (on_fl f 0 n v))) := by
  refine on_Ct.of (by decide) v_Arrays_fill (Nat.le_of_ble_eq_true rfl) ?_
  refine on_iconst (pc' := 1) (v := 0) rfl rfl li_0 ?_
  refine on_istore_n (pc' := 2) rfl rfl rfl (by decide) ?_
  first | refine on_aload_n (pc' := 3) rfl rfl rfl rfl ?_ | refine on_aload_nQ (pc' := 3) rfl rfl rfl rfl ?_
  apply on_alenI (pc' := 4) rfl rfl
  · repeat (first | assumption | exact on_up_eq _ _ _ | refine (on_up_ne (by omega)).trans ?_)
  · rfl
  refine on_istore_n (pc' := 5) rfl rfl rfl (by decide) ?_
  have hz : on_up h a (on_ai 0 n (on_fl f 0 0 v)) = h := by rw [on_fl_0, on_up_self ha]
  have := fill_l (G := G) (a := a) (h := h) (f := f) (v := v) (sz := sz) (bc := 0) (bs := 0) (Q := fun r h1 z => r = none ∧ z = sz ∧ h1 = on_up h a (on_ai 0 n (on_fl f 0 n v))) hn ?_ n 0 (by omega)
  · rw [hz] at this
    exact on_relv (l := [(0, .ref a), (1, .int v), (2, .int (nI 0)), (3, .int (nI n))]) ⟨rfl, rfl, rfl, rfl, trivial⟩ this
  · refine on_vreturn rfl rfl ?_
    exact ⟨rfl, rfl, rfl⟩
theorem fill2_l {v : Int32} {lo hi : Nat} (hn : n < 2 ^ 31) (hh : hi ≤ n) (k : on_E G M_Arrays_fill2 27 (on_l [(0, .ref a), (1, .int (nI lo)), (2, .int (nI hi)), (3, .int v)]) [] (on_up h a (on_ai 0 n (on_fl f lo hi v))) sz bc bs Q) :
    ∀ (m i : Nat), i + m = hi → lo ≤ i → on_E G M_Arrays_fill2 10 (on_l [(0, .ref a), (1, .int (nI lo)), (2, .int (nI hi)), (3, .int v), (4, .int (nI i))]) [] (on_up h a (on_ai 0 n (on_fl f lo i v))) sz bc bs Q := by
  intro m
  induction m with
  | zero =>
    intro i hi2 hl
    refine on_iload (pc' := 12) rfl rfl rfl ?_
    refine on_iload_n (pc' := 13) rfl rfl rfl rfl ?_
    refine on_icmp_ge (pc' := 16) (tgt := 27) rfl rfl rfl (fun cq => ?_) (fun cq => ?_)
    · rw [show i = hi by omega]
      exact on_relv (l := [(0, .ref a), (1, .int (nI lo)), (2, .int (nI hi)), (3, .int v)]) ⟨rfl, rfl, rfl, rfl, trivial⟩ k
    · exact absurd (nI_le (by omega) (by omega)) cq
  | succ m ih =>
    intro i hi2 hl
    refine on_iload (pc' := 12) rfl rfl rfl ?_
    refine on_iload_n (pc' := 13) rfl rfl rfl rfl ?_
    refine on_icmp_ge (pc' := 16) (tgt := 27) rfl rfl rfl (fun cq => ?_) (fun cq => ?_)
    · exact absurd cq (nI_ge (by omega) (by omega))
    · first | refine on_aload_n (pc' := 17) rfl rfl rfl rfl ?_ | refine on_aload_nQ (pc' := 17) rfl rfl rfl rfl ?_
      refine on_iload (pc' := 19) rfl rfl rfl ?_
      refine on_iload_n (pc' := 20) rfl rfl rfl rfl ?_
      apply on_iastoreK (pc' := 21) (t := 0) rfl rfl
      · repeat (first | assumption | exact on_up_eq _ _ _ | refine (on_up_ne (by omega)).trans ?_)
      · rfl
      · first | assumption | exact on_lit _ | rfl
      · first | assumption | omega | decide
      refine on_iinc1 (pc' := 24) rfl rfl rfl ?_
      refine on_goto (tgt := 10) rfl rfl ?_
      rw [on_up_up, on_fl_s hl]
      exact on_relv (l := [(0, .ref a), (1, .int (nI lo)), (2, .int (nI hi)), (3, .int v), (4, .int (nI (i + 1)))]) ⟨rfl, rfl, rfl, rfl, congrArg some (congrArg Value.int (nI_1 i)), trivial⟩ (ih (i + 1) (by omega) (by omega))
theorem c_fill2 {v : Int32} {lo hi : Nat} (hn : n < 2 ^ 31) (hl : lo ≤ hi) (hh : hi ≤ n) (ha : h a = some (on_ai 0 n f)) : on_Ct G M_Arrays_fill2 [.ref a, .int (nI lo), .int (nI hi), .int v] h sz 0 0 (fun r h1 z => r = none ∧ z = sz ∧ h1 = on_up h a (on_ai 0 n (on_fl f lo hi v))) := by
  refine on_Ct.of (by decide) v_Arrays_fill2 (Nat.le_of_ble_eq_true rfl) ?_
  first | refine on_aload_n (pc' := 1) rfl rfl rfl rfl ?_ | refine on_aload_nQ (pc' := 1) rfl rfl rfl rfl ?_
  apply on_alenI (pc' := 2) rfl rfl
  · repeat (first | assumption | exact on_up_eq _ _ _ | refine (on_up_ne (by omega)).trans ?_)
  · rfl
  refine on_iload_n (pc' := 3) rfl rfl rfl rfl ?_
  refine on_iload_n (pc' := 4) rfl rfl rfl rfl ?_
  refine on_callS (pc' := 7) (As := [.int (nI n), .int (nI lo), .int (nI hi)]) (rest := []) rfl rfl cw_Arrays_fill2_13 rfl rfl (by decide) (Nat.le_refl 0) (Nat.le_refl 0) (c_rangeCheck hl hh hn) ?_
  rintro r h1 z ⟨rfl, rfl, rfl⟩
  refine on_iload_n (pc' := 8) rfl rfl rfl rfl ?_
  refine on_istore (pc' := 10) rfl rfl (by decide) ?_
  have hz : on_up h1 a (on_ai 0 n (on_fl f lo lo v)) = h1 := by rw [on_fl_0, on_up_self ha]
  have := fill2_l (G := G) (a := a) (h := h1) (f := f) (v := v) (sz := z) (bc := 0) (bs := 0) (Q := fun r h2 z2 => r = none ∧ z2 = z ∧ h2 = on_up h1 a (on_ai 0 n (on_fl f lo hi v))) hn hh ?_ (hi - lo) lo (by omega) (Nat.le_refl lo)
  · rw [hz] at this
    exact on_relv (l := [(0, .ref a), (1, .int (nI lo)), (2, .int (nI hi)), (3, .int v), (4, .int (nI lo))]) ⟨rfl, rfl, rfl, rfl, rfl, trivial⟩ this
  · refine on_vreturn rfl rfl ?_
    exact ⟨rfl, rfl, rfl⟩
theorem fill3_l {f : Nat → Int64} {v : Int64} (hn : n < 2 ^ 31) (k : on_E G M_Arrays_fill3 22 (on_l [(0, .ref a), (1, .long v)]) [] (on_up h a (on_al 1 n (on_fl f 0 n v))) sz bc bs Q) :
    ∀ (m i : Nat), i + m = n → on_E G M_Arrays_fill3 6 (on_l [(0, .ref a), (1, .long v), (3, .int (nI i)), (4, .int (nI n))]) [] (on_up h a (on_al 1 n (on_fl f 0 i v))) sz bc bs Q := by
  intro m
  induction m with
  | zero =>
    intro i hi
    refine on_iload_n (pc' := 7) rfl rfl rfl rfl ?_
    refine on_iload (pc' := 9) rfl rfl rfl ?_
    refine on_icmp_ge (pc' := 12) (tgt := 22) rfl rfl rfl (fun cq => ?_) (fun cq => ?_)
    · rw [show i = n by omega]
      exact on_relv (l := [(0, .ref a), (1, .long v)]) ⟨rfl, rfl, trivial⟩ k
    · exact absurd (nI_le (by omega) (by omega)) cq
  | succ m ih =>
    intro i hi
    refine on_iload_n (pc' := 7) rfl rfl rfl rfl ?_
    refine on_iload (pc' := 9) rfl rfl rfl ?_
    refine on_icmp_ge (pc' := 12) (tgt := 22) rfl rfl rfl (fun cq => ?_) (fun cq => ?_)
    · exact absurd cq (nI_ge (by omega) (by omega))
    · first | refine on_aload_n (pc' := 13) rfl rfl rfl rfl ?_ | refine on_aload_nQ (pc' := 13) rfl rfl rfl rfl ?_
      refine on_iload_n (pc' := 14) rfl rfl rfl rfl ?_
      refine on_lload_n (pc' := 15) rfl rfl rfl rfl ?_
      apply on_lastoreK (pc' := 16) (t := 1) rfl rfl
      · repeat (first | assumption | exact on_up_eq _ _ _ | refine (on_up_ne (by omega)).trans ?_)
      · rfl
      · first | assumption | exact on_lit _ | rfl
      · first | assumption | omega | decide
      refine on_iinc1 (pc' := 19) rfl rfl rfl ?_
      refine on_goto (tgt := 6) rfl rfl ?_
      rw [on_up_up, on_fl_sL (Nat.zero_le i)]
      exact on_relv (l := [(0, .ref a), (1, .long v), (3, .int (nI (i + 1))), (4, .int (nI n))]) ⟨rfl, rfl, congrArg some (congrArg Value.int (nI_1 i)), rfl, trivial⟩ (ih (i + 1) (by omega))
theorem c_fill3 {f : Nat → Int64} {v : Int64} (hn : n < 2 ^ 31) (ha : h a = some (on_al 1 n f)) : on_Ct G M_Arrays_fill3 [.ref a, .long v] h sz 0 0 (fun r h1 z => r = none ∧ z = sz ∧ h1 = on_up h a (on_al 1 n (on_fl f 0 n v))) := by
  refine on_Ct.of (by decide) v_Arrays_fill3 (Nat.le_of_ble_eq_true rfl) ?_
  refine on_iconst (pc' := 1) (v := 0) rfl rfl li_0 ?_
  refine on_istore_n (pc' := 2) rfl rfl rfl (by decide) ?_
  first | refine on_aload_n (pc' := 3) rfl rfl rfl rfl ?_ | refine on_aload_nQ (pc' := 3) rfl rfl rfl rfl ?_
  apply on_alenL (pc' := 4) rfl rfl
  · repeat (first | assumption | exact on_up_eq _ _ _ | refine (on_up_ne (by omega)).trans ?_)
  · rfl
  refine on_istore (pc' := 6) rfl rfl (by decide) ?_
  have hz : on_up h a (on_al 1 n (on_fl f 0 0 v)) = h := by rw [on_fl_0, on_up_self ha]
  have := fill3_l (G := G) (a := a) (h := h) (f := f) (v := v) (sz := sz) (bc := 0) (bs := 0) (Q := fun r h1 z => r = none ∧ z = sz ∧ h1 = on_up h a (on_al 1 n (on_fl f 0 n v))) hn ?_ n 0 (by omega)
  · rw [hz] at this
    exact on_relv (l := [(0, .ref a), (1, .long v), (3, .int (nI 0)), (4, .int (nI n))]) ⟨rfl, rfl, rfl, rfl, trivial⟩ this
  · refine on_vreturn rfl rfl ?_
    exact ⟨rfl, rfl, rfl⟩
end ARR
