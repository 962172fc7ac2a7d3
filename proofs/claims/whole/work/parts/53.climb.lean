/-- equal modulo the prime -/
def cg (a b : Int) : Prop := ∃ k : Int, a = b + cv_P * k
theorem cg.rf (a : Int) : cg a a := ⟨0, by omega⟩
theorem cg.trans {a b c : Int} (h : cg a b) (h2 : cg b c) : cg a c := by
  obtain ⟨k, rfl⟩ := h
  obtain ⟨m, rfl⟩ := h2
  exact ⟨m + k, by rw [Int.mul_add]; omega⟩
theorem cg.symm {a b : Int} (h : cg a b) : cg b a := by
  obtain ⟨k, rfl⟩ := h
  exact ⟨-k, by rw [Int.mul_neg]; omega⟩
theorem cg.add {a b c d : Int} (h : cg a b) (h2 : cg c d) : cg (a + c) (b + d) := by
  obtain ⟨k, rfl⟩ := h
  obtain ⟨m, rfl⟩ := h2
  exact ⟨k + m, by rw [Int.mul_add]; omega⟩
theorem cg.sub {a b c d : Int} (h : cg a b) (h2 : cg c d) : cg (a - c) (b - d) := by
  obtain ⟨k, rfl⟩ := h
  obtain ⟨m, rfl⟩ := h2
  exact ⟨k - m, by rw [Int.mul_sub]; omega⟩
theorem cg.mul {a b c d : Int} (h : cg a b) (h2 : cg c d) : cg (a * c) (b * d) := by
  obtain ⟨k, rfl⟩ := h
  obtain ⟨m, rfl⟩ := h2
  exact ⟨b * m + k * d + cv_P * (k * m), by grind⟩
/-- ten limbs that stand for v: of a product; of a sum or a difference of two -/
def rp (F : Nat → Int64) (v : Int) : Prop := ∃ f, cv_rd F f ∧ cg (cv_v f) v
def ip (F : Nat → Int64) (v : Int) : Prop := ∃ f, cv_in F f ∧ cg (cv_v f) v
theorem rp_ip {F : Nat → Int64} {v : Int} (h : rp F v) : ip F v := by
  obtain ⟨f, h1, h2⟩ := h
  exact ⟨f, h1.in, h2⟩
theorem cv_B_R (i : Nat) : cv_R i + cv_R i ≤ cv_B i ∧ cv_R i + cv_R i < 2 ^ 63 := by
  unfold cv_R cv_B
  split <;> omega
theorem cv_v_add (f g : Nat → Int) : cv_v (fun i => f i + g i) = cv_v f + cv_v g := by
  unfold cv_v
  dsimp only
  omega
theorem cv_v_sub (f g : Nat → Int) : cv_v (fun i => f i - g i) = cv_v f - cv_v g := by
  unfold cv_v
  dsimp only
  omega
theorem rp_add {F H S : Nat → Int64} {a b : Int} (h : rp F a) (h2 : rp H b) (hs : ∀ i, i < 10 → S i = F i + H i) : ip S (a + b) := by
  obtain ⟨f, f1, f2⟩ := h
  obtain ⟨g, g1, g2⟩ := h2
  refine ⟨fun i => f i + g i, fun i hi => ?_, by rw [cv_v_add]; exact f2.add g2⟩
  rw [hs i hi]
  exact rb_le (rb_add (f1 i hi) (g1 i hi) (cv_B_R i).2) (cv_B_R i).1
theorem rp_sub {F H S : Nat → Int64} {a b : Int} (h : rp F a) (h2 : rp H b) (hs : ∀ i, i < 10 → S i = F i - H i) : ip S (a - b) := by
  obtain ⟨f, f1, f2⟩ := h
  obtain ⟨g, g1, g2⟩ := h2
  refine ⟨fun i => f i - g i, fun i hi => ?_, by rw [cv_v_sub]; exact f2.sub g2⟩
  rw [hs i hi]
  exact rb_le (rb_sub (f1 i hi) (g1 i hi) (cv_B_R i).2) (cv_B_R i).1
theorem ip_mul {F H S : Nat → Int64} {a b : Int} (h : ip F a) (h2 : ip H b) (hs : ∀ i, i < 10 → S i = cv_red (cv_m F H) i) : rp S (a * b) := by
  obtain ⟨f, f1, f2⟩ := h
  obtain ⟨g, g1, g2⟩ := h2
  obtain ⟨r, r1, r2⟩ := cv_red_ok (cv_mz f1 g1) (cv_m9b f1 g1)
  refine ⟨r, fun i hi => by rw [hs i hi]; exact r1 i hi, ?_⟩
  obtain ⟨T, hT⟩ : ∃ T, cv_v (cv_z f g) = cv_v f * cv_v g - cv_P * T := ⟨_, cv_zv f g⟩
  rw [hT] at r2
  refine cg.trans ?_ (f2.mul g2)
  exact ⟨-(T + cy_o (cv_z f g) 10), by rw [r2, Int.mul_neg, Int.mul_add]; omega⟩
/-- the class's Curve at o, its ten rows of limbs -/
def cu_S (o : Nat) (c : Nat → Nat → Int64) (h : on_H) : Prop := h o = some (.inr (1, [.ref (o + 1), .ref (o + 2), .ref (o + 3), .ref (o + 4), .ref (o + 5), .ref (o + 6), .ref (o + 7), .ref (o + 8), .ref (o + 9), .ref (o + 10), .ref (o + 11)])) ∧ h (o + 1) = some (on_al 1 10 (c 0)) ∧ h (o + 2) = some (on_al 1 10 (c 1)) ∧ h (o + 3) = some (on_al 1 10 (c 2)) ∧ h (o + 4) = some (on_al 1 10 (c 3)) ∧ h (o + 5) = some (on_al 1 10 (c 4)) ∧ h (o + 6) = some (on_al 1 10 (c 5)) ∧ h (o + 7) = some (on_al 1 10 (c 6)) ∧ h (o + 8) = some (on_al 1 10 (c 7)) ∧ h (o + 9) = some (on_al 1 10 (c 8)) ∧ h (o + 10) = some (on_al 1 10 (c 9))
theorem cu_S_up {o kr : Nat} {c : Nat → Nat → Int64} {h : on_H} {R : Nat → Int64} (hS : cu_S o c h) (hk : kr < 10) : cu_S o (va_up c kr R) (on_up h (o + 1 + kr) (on_al 1 10 R)) := by
  obtain ⟨s, s0, s1, s2, s3, s4, s5, s6, s7, s8, s9⟩ := hS
  match kr, hk with
  | 0, _ => exact ⟨(on_up_ne (by omega)).trans s, on_up_eq _ _ _, (on_up_ne (by omega)).trans s1, (on_up_ne (by omega)).trans s2, (on_up_ne (by omega)).trans s3, (on_up_ne (by omega)).trans s4, (on_up_ne (by omega)).trans s5, (on_up_ne (by omega)).trans s6, (on_up_ne (by omega)).trans s7, (on_up_ne (by omega)).trans s8, (on_up_ne (by omega)).trans s9⟩
  | 1, _ => exact ⟨(on_up_ne (by omega)).trans s, (on_up_ne (by omega)).trans s0, on_up_eq _ _ _, (on_up_ne (by omega)).trans s2, (on_up_ne (by omega)).trans s3, (on_up_ne (by omega)).trans s4, (on_up_ne (by omega)).trans s5, (on_up_ne (by omega)).trans s6, (on_up_ne (by omega)).trans s7, (on_up_ne (by omega)).trans s8, (on_up_ne (by omega)).trans s9⟩
  | 2, _ => exact ⟨(on_up_ne (by omega)).trans s, (on_up_ne (by omega)).trans s0, (on_up_ne (by omega)).trans s1, on_up_eq _ _ _, (on_up_ne (by omega)).trans s3, (on_up_ne (by omega)).trans s4, (on_up_ne (by omega)).trans s5, (on_up_ne (by omega)).trans s6, (on_up_ne (by omega)).trans s7, (on_up_ne (by omega)).trans s8, (on_up_ne (by omega)).trans s9⟩
  | 3, _ => exact ⟨(on_up_ne (by omega)).trans s, (on_up_ne (by omega)).trans s0, (on_up_ne (by omega)).trans s1, (on_up_ne (by omega)).trans s2, on_up_eq _ _ _, (on_up_ne (by omega)).trans s4, (on_up_ne (by omega)).trans s5, (on_up_ne (by omega)).trans s6, (on_up_ne (by omega)).trans s7, (on_up_ne (by omega)).trans s8, (on_up_ne (by omega)).trans s9⟩
  | 4, _ => exact ⟨(on_up_ne (by omega)).trans s, (on_up_ne (by omega)).trans s0, (on_up_ne (by omega)).trans s1, (on_up_ne (by omega)).trans s2, (on_up_ne (by omega)).trans s3, on_up_eq _ _ _, (on_up_ne (by omega)).trans s5, (on_up_ne (by omega)).trans s6, (on_up_ne (by omega)).trans s7, (on_up_ne (by omega)).trans s8, (on_up_ne (by omega)).trans s9⟩
  | 5, _ => exact ⟨(on_up_ne (by omega)).trans s, (on_up_ne (by omega)).trans s0, (on_up_ne (by omega)).trans s1, (on_up_ne (by omega)).trans s2, (on_up_ne (by omega)).trans s3, (on_up_ne (by omega)).trans s4, on_up_eq _ _ _, (on_up_ne (by omega)).trans s6, (on_up_ne (by omega)).trans s7, (on_up_ne (by omega)).trans s8, (on_up_ne (by omega)).trans s9⟩
  | 6, _ => exact ⟨(on_up_ne (by omega)).trans s, (on_up_ne (by omega)).trans s0, (on_up_ne (by omega)).trans s1, (on_up_ne (by omega)).trans s2, (on_up_ne (by omega)).trans s3, (on_up_ne (by omega)).trans s4, (on_up_ne (by omega)).trans s5, on_up_eq _ _ _, (on_up_ne (by omega)).trans s7, (on_up_ne (by omega)).trans s8, (on_up_ne (by omega)).trans s9⟩
  | 7, _ => exact ⟨(on_up_ne (by omega)).trans s, (on_up_ne (by omega)).trans s0, (on_up_ne (by omega)).trans s1, (on_up_ne (by omega)).trans s2, (on_up_ne (by omega)).trans s3, (on_up_ne (by omega)).trans s4, (on_up_ne (by omega)).trans s5, (on_up_ne (by omega)).trans s6, on_up_eq _ _ _, (on_up_ne (by omega)).trans s8, (on_up_ne (by omega)).trans s9⟩
  | 8, _ => exact ⟨(on_up_ne (by omega)).trans s, (on_up_ne (by omega)).trans s0, (on_up_ne (by omega)).trans s1, (on_up_ne (by omega)).trans s2, (on_up_ne (by omega)).trans s3, (on_up_ne (by omega)).trans s4, (on_up_ne (by omega)).trans s5, (on_up_ne (by omega)).trans s6, (on_up_ne (by omega)).trans s7, on_up_eq _ _ _, (on_up_ne (by omega)).trans s9⟩
  | 9, _ => exact ⟨(on_up_ne (by omega)).trans s, (on_up_ne (by omega)).trans s0, (on_up_ne (by omega)).trans s1, (on_up_ne (by omega)).trans s2, (on_up_ne (by omega)).trans s3, (on_up_ne (by omega)).trans s4, (on_up_ne (by omega)).trans s5, (on_up_ne (by omega)).trans s6, (on_up_ne (by omega)).trans s7, (on_up_ne (by omega)).trans s8, on_up_eq _ _ _⟩
theorem cu_S_at {o k : Nat} {c : Nat → Nat → Int64} {h : on_H} (hS : cu_S o c h) (hk : k < 10) : h (o + 1 + k) = some (on_al 1 10 (c k)) := by
  obtain ⟨s, s0, s1, s2, s3, s4, s5, s6, s7, s8, s9⟩ := hS
  match k, hk with
  | 0, _ => exact s0
  | 1, _ => exact s1
  | 2, _ => exact s2
  | 3, _ => exact s3
  | 4, _ => exact s4
  | 5, _ => exact s5
  | 6, _ => exact s6
  | 7, _ => exact s7
  | 8, _ => exact s8
  | 9, _ => exact s9
section CLI
variable {G : on_G} {o sz bc bs : Nat} {h : on_H} {Q : Option Value → on_H → Nat → Prop} {c : Nat → Nat → Int64}
/-- a call of multiply -/
theorem on_mul {M : on_M} {pc pc' : Nat} {lv : on_V} (kr kf kg : Nat) {a b : Int} (hS : cu_S o c h) (hr : kr < 10) (hf : kf < 10) (hg : kg < 10) (va : ip (c kf) a) (vb : ip (c kg) b) (hd : on_tb M pc = some (.invokevirtual 72, 3)) (hp : pc + 3 = pc') (hC : on_CV M M_Curve_multiply 72 3 1)
    (k : ∀ (c2 : Nat → Nat → Int64) (h2 : on_H), cu_S o c2 h2 → rp (c2 kr) (a * b) → (∀ k, k ≠ kr → c2 k = c k) → on_sm o (o + 11) h h2 → on_E G M pc' lv [] h2 sz bc bs Q) : on_E G M pc lv [.ref (o + 1 + kg), .ref (o + 1 + kf), .ref (o + 1 + kr), .ref o] h sz bc bs Q := by
  refine on_callV (As := [.ref (o + 1 + kr), .ref (o + 1 + kf), .ref (o + 1 + kg)]) (rest := []) (b := o) hd hp hC hS.1 rfl rfl (by decide) (Nat.zero_le _) (Nat.zero_le _) (c_Curve_multiply (cu_S_at hS hr) (cu_S_at hS hf) (cu_S_at hS hg)) ?_
  rintro r h1 z ⟨rfl, rfl, R2, rfl, hR⟩
  refine k (va_up c kr R2) _ (cu_S_up hS hr) ?_ (fun k hk => if_neg hk) (on_sm.rf.up (by omega) (by omega))
  rw [show va_up c kr R2 kr = R2 from if_pos rfl]
  exact ip_mul va vb hR
set_option maxHeartbeats 4000000 in
theorem cu_cl1A (k : ∀ c2 h2, cu_S o c2 h2 → on_sm o (o + 11) h h2 → (∀ k, k ≠ 5 → k ≠ 6 → k ≠ 7 → k ≠ 8 → c2 k = c k) → (∀ i, i < 10 → c2 5 i = c 1 i + c 2 i) → (∀ i, i < 10 → c2 6 i = c 1 i - c 2 i) → (∀ i, i < 10 → c2 7 i = c 3 i + c 4 i) → (∀ i, i < 10 → c2 8 i = c 3 i - c 4 i) → on_E G M_Curve_climb 82 (on_l [(0, .ref o), (1, .ref (o + 2)), (2, .ref (o + 3)), (3, .ref (o + 4)), (4, .ref (o + 5))]) [] h2 sz bc bs Q) :
    ∀ (m i : Nat) (c1 : Nat → Nat → Int64) (h1 : on_H), i + m = 10 → cu_S o c1 h1 → on_sm o (o + 11) h h1 → (∀ k, k ≠ 5 → k ≠ 6 → k ≠ 7 → k ≠ 8 → c1 k = c k) → (∀ j, j < i → c1 5 j = c 1 j + c 2 j) → (∀ j, j < i → c1 6 j = c 1 j - c 2 j) → (∀ j, j < i → c1 7 j = c 3 j + c 4 j) → (∀ j, j < i → c1 8 j = c 3 j - c 4 j) → on_E G M_Curve_climb 3 (on_l [(0, .ref o), (1, .ref (o + 2)), (2, .ref (o + 3)), (3, .ref (o + 4)), (4, .ref (o + 5)), (5, .int (nI i))]) [] h1 sz bc bs Q := by
  intro m
  induction m with
  | zero =>
    intro i c1 h1 hi hS hs ho v5 v6 v7 v8
    rw [show i = 10 by omega] at v5 v6 v7 v8
    refine on_iload (pc' := 5) rfl rfl rfl ?_
    refine on_bipush (pc' := 7) (v := 10) rfl rfl lb_10 ?_
    refine on_icmp_ge (pc' := 10) (tgt := 82) rfl rfl rfl (fun cq => ?_) (fun cq => ?_)
    · exact on_relv (l := [(0, .ref o), (1, .ref (o + 2)), (2, .ref (o + 3)), (3, .ref (o + 4)), (4, .ref (o + 5))]) ⟨rfl, rfl, rfl, rfl, rfl, trivial⟩ (k c1 h1 hS hs ho v5 v6 v7 v8)
    · exact absurd (nI_le (a := 10) (by omega) (by omega)) cq
  | succ m ih =>
    intro i c1 h1 hi hS hs ho v5 v6 v7 v8
    obtain ⟨s, s0, s1, s2, s3, s4, s5, s6, s7, s8, s9⟩ := id hS
    refine on_iload (pc' := 5) rfl rfl rfl ?_
    refine on_bipush (pc' := 7) (v := 10) rfl rfl lb_10 ?_
    refine on_icmp_ge (pc' := 10) (tgt := 82) rfl rfl rfl (fun cq => ?_) (fun cq => ?_)
    · exact absurd cq (nI_ge (b := 10) (by omega) (by omega))
    · first | refine on_aload_n (pc' := 11) rfl rfl rfl rfl ?_ | refine on_aload_nQ (pc' := 11) rfl rfl rfl rfl ?_
      apply on_get (pc' := 14) rfl rfl fl_Curve_27
      · repeat (first | assumption | exact on_up_eq _ _ _ | refine (on_up_ne (by omega)).trans ?_)
      · rfl
      refine on_iload (pc' := 16) rfl rfl rfl ?_
      first | refine on_aload_n (pc' := 17) rfl rfl rfl rfl ?_ | refine on_aload_nQ (pc' := 17) rfl rfl rfl rfl ?_
      refine on_iload (pc' := 19) rfl rfl rfl ?_
      apply on_laloadK (pc' := 20) (t := 1) rfl rfl
      · repeat (first | assumption | exact on_up_eq _ _ _ | refine (on_up_ne (by omega)).trans ?_)
      · rfl
      · first | assumption | exact on_lit _ | rfl
      · first | assumption | omega | decide
      first | refine on_aload_n (pc' := 21) rfl rfl rfl rfl ?_ | refine on_aload_nQ (pc' := 21) rfl rfl rfl rfl ?_
      refine on_iload (pc' := 23) rfl rfl rfl ?_
      apply on_laloadK (pc' := 24) (t := 1) rfl rfl
      · repeat (first | assumption | exact on_up_eq _ _ _ | refine (on_up_ne (by omega)).trans ?_)
      · rfl
      · first | assumption | exact on_lit _ | rfl
      · first | assumption | omega | decide
      refine on_ladd (pc' := 25) rfl rfl ?_
      apply on_lastoreK (pc' := 26) (t := 1) rfl rfl
      · repeat (first | assumption | exact on_up_eq _ _ _ | refine (on_up_ne (by omega)).trans ?_)
      · rfl
      · first | assumption | exact on_lit _ | rfl
      · first | assumption | omega | decide
      first | refine on_aload_n (pc' := 27) rfl rfl rfl rfl ?_ | refine on_aload_nQ (pc' := 27) rfl rfl rfl rfl ?_
      apply on_get (pc' := 30) rfl rfl fl_Curve_30
      · repeat (first | assumption | exact on_up_eq _ _ _ | refine (on_up_ne (by omega)).trans ?_)
      · rfl
      refine on_iload (pc' := 32) rfl rfl rfl ?_
      first | refine on_aload_n (pc' := 33) rfl rfl rfl rfl ?_ | refine on_aload_nQ (pc' := 33) rfl rfl rfl rfl ?_
      refine on_iload (pc' := 35) rfl rfl rfl ?_
      apply on_laloadK (pc' := 36) (t := 1) rfl rfl
      · repeat (first | assumption | exact on_up_eq _ _ _ | refine (on_up_ne (by omega)).trans ?_)
      · rfl
      · first | assumption | exact on_lit _ | rfl
      · first | assumption | omega | decide
      first | refine on_aload_n (pc' := 37) rfl rfl rfl rfl ?_ | refine on_aload_nQ (pc' := 37) rfl rfl rfl rfl ?_
      refine on_iload (pc' := 39) rfl rfl rfl ?_
      apply on_laloadK (pc' := 40) (t := 1) rfl rfl
      · repeat (first | assumption | exact on_up_eq _ _ _ | refine (on_up_ne (by omega)).trans ?_)
      · rfl
      · first | assumption | exact on_lit _ | rfl
      · first | assumption | omega | decide
      refine on_lsub (pc' := 41) rfl rfl ?_
      apply on_lastoreK (pc' := 42) (t := 1) rfl rfl
      · repeat (first | assumption | exact on_up_eq _ _ _ | refine (on_up_ne (by omega)).trans ?_)
      · rfl
      · first | assumption | exact on_lit _ | rfl
      · first | assumption | omega | decide
      first | refine on_aload_n (pc' := 43) rfl rfl rfl rfl ?_ | refine on_aload_nQ (pc' := 43) rfl rfl rfl rfl ?_
      apply on_get (pc' := 46) rfl rfl fl_Curve_33
      · repeat (first | assumption | exact on_up_eq _ _ _ | refine (on_up_ne (by omega)).trans ?_)
      · rfl
      refine on_iload (pc' := 48) rfl rfl rfl ?_
      first | refine on_aload_n (pc' := 49) rfl rfl rfl rfl ?_ | refine on_aload_nQ (pc' := 49) rfl rfl rfl rfl ?_
      refine on_iload (pc' := 51) rfl rfl rfl ?_
      apply on_laloadK (pc' := 52) (t := 1) rfl rfl
      · repeat (first | assumption | exact on_up_eq _ _ _ | refine (on_up_ne (by omega)).trans ?_)
      · rfl
      · first | assumption | exact on_lit _ | rfl
      · first | assumption | omega | decide
      first | refine on_aload (pc' := 54) rfl rfl rfl ?_ | refine on_aloadQ (pc' := 54) rfl rfl rfl ?_
      refine on_iload (pc' := 56) rfl rfl rfl ?_
      apply on_laloadK (pc' := 57) (t := 1) rfl rfl
      · repeat (first | assumption | exact on_up_eq _ _ _ | refine (on_up_ne (by omega)).trans ?_)
      · rfl
      · first | assumption | exact on_lit _ | rfl
      · first | assumption | omega | decide
      refine on_ladd (pc' := 58) rfl rfl ?_
      apply on_lastoreK (pc' := 59) (t := 1) rfl rfl
      · repeat (first | assumption | exact on_up_eq _ _ _ | refine (on_up_ne (by omega)).trans ?_)
      · rfl
      · first | assumption | exact on_lit _ | rfl
      · first | assumption | omega | decide
      first | refine on_aload_n (pc' := 60) rfl rfl rfl rfl ?_ | refine on_aload_nQ (pc' := 60) rfl rfl rfl rfl ?_
      apply on_get (pc' := 63) rfl rfl fl_Curve_36
      · repeat (first | assumption | exact on_up_eq _ _ _ | refine (on_up_ne (by omega)).trans ?_)
      · rfl
      refine on_iload (pc' := 65) rfl rfl rfl ?_
      first | refine on_aload_n (pc' := 66) rfl rfl rfl rfl ?_ | refine on_aload_nQ (pc' := 66) rfl rfl rfl rfl ?_
      refine on_iload (pc' := 68) rfl rfl rfl ?_
      apply on_laloadK (pc' := 69) (t := 1) rfl rfl
      · repeat (first | assumption | exact on_up_eq _ _ _ | refine (on_up_ne (by omega)).trans ?_)
      · rfl
      · first | assumption | exact on_lit _ | rfl
      · first | assumption | omega | decide
      first | refine on_aload (pc' := 71) rfl rfl rfl ?_ | refine on_aloadQ (pc' := 71) rfl rfl rfl ?_
      refine on_iload (pc' := 73) rfl rfl rfl ?_
      apply on_laloadK (pc' := 74) (t := 1) rfl rfl
      · repeat (first | assumption | exact on_up_eq _ _ _ | refine (on_up_ne (by omega)).trans ?_)
      · rfl
      · first | assumption | exact on_lit _ | rfl
      · first | assumption | omega | decide
      refine on_lsub (pc' := 75) rfl rfl ?_
      apply on_lastoreK (pc' := 76) (t := 1) rfl rfl
      · repeat (first | assumption | exact on_up_eq _ _ _ | refine (on_up_ne (by omega)).trans ?_)
      · rfl
      · first | assumption | exact on_lit _ | rfl
      · first | assumption | omega | decide
      refine on_iinc1 (pc' := 79) rfl rfl rfl ?_
      refine on_goto (tgt := 3) rfl rfl ?_
      rw [ho 1 (by decide) (by decide) (by decide) (by decide), ho 2 (by decide) (by decide) (by decide) (by decide), ho 3 (by decide) (by decide) (by decide) (by decide), ho 4 (by decide) (by decide) (by decide) (by decide)]
      refine on_relv (l := [(0, .ref o), (1, .ref (o + 2)), (2, .ref (o + 3)), (3, .ref (o + 4)), (4, .ref (o + 5)), (5, .int (nI (i + 1)))]) ⟨rfl, rfl, rfl, rfl, rfl, congrArg some (congrArg Value.int (nI_1 i)), trivial⟩ (ih (i + 1) (va_up (va_up (va_up (va_up c1 5 (vp_updL (c1 5) i (c 1 i + c 2 i))) 6 (vp_updL (c1 6) i (c 1 i - c 2 i))) 7 (vp_updL (c1 7) i (c 3 i + c 4 i))) 8 (vp_updL (c1 8) i (c 3 i - c 4 i))) _ (by omega) (cu_S_up (kr := 8) (cu_S_up (kr := 7) (cu_S_up (kr := 6) (cu_S_up (kr := 5) hS (by decide)) (by decide)) (by decide)) (by decide)) ((((hs.up (by omega) (by omega)).up (by omega) (by omega)).up (by omega) (by omega)).up (by omega) (by omega)) (fun k h5 h6 h7 h8 => ?_) (fun j hj => ?_) (fun j hj => ?_) (fun j hj => ?_) (fun j hj => ?_))
      · rw [← ho k h5 h6 h7 h8]
        simp [va_up, h5, h6, h7, h8]
      · show vp_updL (c1 5) i (c 1 i + c 2 i) j = c 1 j + c 2 j
        by_cases hji : j = i
        · rw [hji, pk_uLs]
        · rw [pk_uLn hji]
          exact v5 j (by omega)
      · show vp_updL (c1 6) i (c 1 i - c 2 i) j = c 1 j - c 2 j
        by_cases hji : j = i
        · rw [hji, pk_uLs]
        · rw [pk_uLn hji]
          exact v6 j (by omega)
      · show vp_updL (c1 7) i (c 3 i + c 4 i) j = c 3 j + c 4 j
        by_cases hji : j = i
        · rw [hji, pk_uLs]
        · rw [pk_uLn hji]
          exact v7 j (by omega)
      · show vp_updL (c1 8) i (c 3 i - c 4 i) j = c 3 j - c 4 j
        by_cases hji : j = i
        · rw [hji, pk_uLs]
        · rw [pk_uLn hji]
          exact v8 j (by omega)
set_option maxHeartbeats 4000000 in
theorem cu_cl1B (k : ∀ c2 h2, cu_S o c2 h2 → on_sm o (o + 11) h h2 → (∀ k, k ≠ 5 → k ≠ 6 → k ≠ 7 → k ≠ 8 → c2 k = c k) → (∀ i, i < 10 → c2 5 i = c 3 i + c 4 i) → (∀ i, i < 10 → c2 6 i = c 3 i - c 4 i) → (∀ i, i < 10 → c2 7 i = c 1 i + c 2 i) → (∀ i, i < 10 → c2 8 i = c 1 i - c 2 i) → on_E G M_Curve_climb 82 (on_l [(0, .ref o), (1, .ref (o + 4)), (2, .ref (o + 5)), (3, .ref (o + 2)), (4, .ref (o + 3))]) [] h2 sz bc bs Q) :
    ∀ (m i : Nat) (c1 : Nat → Nat → Int64) (h1 : on_H), i + m = 10 → cu_S o c1 h1 → on_sm o (o + 11) h h1 → (∀ k, k ≠ 5 → k ≠ 6 → k ≠ 7 → k ≠ 8 → c1 k = c k) → (∀ j, j < i → c1 5 j = c 3 j + c 4 j) → (∀ j, j < i → c1 6 j = c 3 j - c 4 j) → (∀ j, j < i → c1 7 j = c 1 j + c 2 j) → (∀ j, j < i → c1 8 j = c 1 j - c 2 j) → on_E G M_Curve_climb 3 (on_l [(0, .ref o), (1, .ref (o + 4)), (2, .ref (o + 5)), (3, .ref (o + 2)), (4, .ref (o + 3)), (5, .int (nI i))]) [] h1 sz bc bs Q := by
  intro m
  induction m with
  | zero =>
    intro i c1 h1 hi hS hs ho v5 v6 v7 v8
    rw [show i = 10 by omega] at v5 v6 v7 v8
    refine on_iload (pc' := 5) rfl rfl rfl ?_
    refine on_bipush (pc' := 7) (v := 10) rfl rfl lb_10 ?_
    refine on_icmp_ge (pc' := 10) (tgt := 82) rfl rfl rfl (fun cq => ?_) (fun cq => ?_)
    · exact on_relv (l := [(0, .ref o), (1, .ref (o + 4)), (2, .ref (o + 5)), (3, .ref (o + 2)), (4, .ref (o + 3))]) ⟨rfl, rfl, rfl, rfl, rfl, trivial⟩ (k c1 h1 hS hs ho v5 v6 v7 v8)
    · exact absurd (nI_le (a := 10) (by omega) (by omega)) cq
  | succ m ih =>
    intro i c1 h1 hi hS hs ho v5 v6 v7 v8
    obtain ⟨s, s0, s1, s2, s3, s4, s5, s6, s7, s8, s9⟩ := id hS
    refine on_iload (pc' := 5) rfl rfl rfl ?_
    refine on_bipush (pc' := 7) (v := 10) rfl rfl lb_10 ?_
    refine on_icmp_ge (pc' := 10) (tgt := 82) rfl rfl rfl (fun cq => ?_) (fun cq => ?_)
    · exact absurd cq (nI_ge (b := 10) (by omega) (by omega))
    · first | refine on_aload_n (pc' := 11) rfl rfl rfl rfl ?_ | refine on_aload_nQ (pc' := 11) rfl rfl rfl rfl ?_
      apply on_get (pc' := 14) rfl rfl fl_Curve_27
      · repeat (first | assumption | exact on_up_eq _ _ _ | refine (on_up_ne (by omega)).trans ?_)
      · rfl
      refine on_iload (pc' := 16) rfl rfl rfl ?_
      first | refine on_aload_n (pc' := 17) rfl rfl rfl rfl ?_ | refine on_aload_nQ (pc' := 17) rfl rfl rfl rfl ?_
      refine on_iload (pc' := 19) rfl rfl rfl ?_
      apply on_laloadK (pc' := 20) (t := 1) rfl rfl
      · repeat (first | assumption | exact on_up_eq _ _ _ | refine (on_up_ne (by omega)).trans ?_)
      · rfl
      · first | assumption | exact on_lit _ | rfl
      · first | assumption | omega | decide
      first | refine on_aload_n (pc' := 21) rfl rfl rfl rfl ?_ | refine on_aload_nQ (pc' := 21) rfl rfl rfl rfl ?_
      refine on_iload (pc' := 23) rfl rfl rfl ?_
      apply on_laloadK (pc' := 24) (t := 1) rfl rfl
      · repeat (first | assumption | exact on_up_eq _ _ _ | refine (on_up_ne (by omega)).trans ?_)
      · rfl
      · first | assumption | exact on_lit _ | rfl
      · first | assumption | omega | decide
      refine on_ladd (pc' := 25) rfl rfl ?_
      apply on_lastoreK (pc' := 26) (t := 1) rfl rfl
      · repeat (first | assumption | exact on_up_eq _ _ _ | refine (on_up_ne (by omega)).trans ?_)
      · rfl
      · first | assumption | exact on_lit _ | rfl
      · first | assumption | omega | decide
      first | refine on_aload_n (pc' := 27) rfl rfl rfl rfl ?_ | refine on_aload_nQ (pc' := 27) rfl rfl rfl rfl ?_
      apply on_get (pc' := 30) rfl rfl fl_Curve_30
      · repeat (first | assumption | exact on_up_eq _ _ _ | refine (on_up_ne (by omega)).trans ?_)
      · rfl
      refine on_iload (pc' := 32) rfl rfl rfl ?_
      first | refine on_aload_n (pc' := 33) rfl rfl rfl rfl ?_ | refine on_aload_nQ (pc' := 33) rfl rfl rfl rfl ?_
      refine on_iload (pc' := 35) rfl rfl rfl ?_
      apply on_laloadK (pc' := 36) (t := 1) rfl rfl
      · repeat (first | assumption | exact on_up_eq _ _ _ | refine (on_up_ne (by omega)).trans ?_)
      · rfl
      · first | assumption | exact on_lit _ | rfl
      · first | assumption | omega | decide
      first | refine on_aload_n (pc' := 37) rfl rfl rfl rfl ?_ | refine on_aload_nQ (pc' := 37) rfl rfl rfl rfl ?_
      refine on_iload (pc' := 39) rfl rfl rfl ?_
      apply on_laloadK (pc' := 40) (t := 1) rfl rfl
      · repeat (first | assumption | exact on_up_eq _ _ _ | refine (on_up_ne (by omega)).trans ?_)
      · rfl
      · first | assumption | exact on_lit _ | rfl
      · first | assumption | omega | decide
      refine on_lsub (pc' := 41) rfl rfl ?_
      apply on_lastoreK (pc' := 42) (t := 1) rfl rfl
      · repeat (first | assumption | exact on_up_eq _ _ _ | refine (on_up_ne (by omega)).trans ?_)
      · rfl
      · first | assumption | exact on_lit _ | rfl
      · first | assumption | omega | decide
      first | refine on_aload_n (pc' := 43) rfl rfl rfl rfl ?_ | refine on_aload_nQ (pc' := 43) rfl rfl rfl rfl ?_
      apply on_get (pc' := 46) rfl rfl fl_Curve_33
      · repeat (first | assumption | exact on_up_eq _ _ _ | refine (on_up_ne (by omega)).trans ?_)
      · rfl
      refine on_iload (pc' := 48) rfl rfl rfl ?_
      first | refine on_aload_n (pc' := 49) rfl rfl rfl rfl ?_ | refine on_aload_nQ (pc' := 49) rfl rfl rfl rfl ?_
      refine on_iload (pc' := 51) rfl rfl rfl ?_
      apply on_laloadK (pc' := 52) (t := 1) rfl rfl
      · repeat (first | assumption | exact on_up_eq _ _ _ | refine (on_up_ne (by omega)).trans ?_)
      · rfl
      · first | assumption | exact on_lit _ | rfl
      · first | assumption | omega | decide
      first | refine on_aload (pc' := 54) rfl rfl rfl ?_ | refine on_aloadQ (pc' := 54) rfl rfl rfl ?_
      refine on_iload (pc' := 56) rfl rfl rfl ?_
      apply on_laloadK (pc' := 57) (t := 1) rfl rfl
      · repeat (first | assumption | exact on_up_eq _ _ _ | refine (on_up_ne (by omega)).trans ?_)
      · rfl
      · first | assumption | exact on_lit _ | rfl
      · first | assumption | omega | decide
      refine on_ladd (pc' := 58) rfl rfl ?_
      apply on_lastoreK (pc' := 59) (t := 1) rfl rfl
      · repeat (first | assumption | exact on_up_eq _ _ _ | refine (on_up_ne (by omega)).trans ?_)
      · rfl
      · first | assumption | exact on_lit _ | rfl
      · first | assumption | omega | decide
      first | refine on_aload_n (pc' := 60) rfl rfl rfl rfl ?_ | refine on_aload_nQ (pc' := 60) rfl rfl rfl rfl ?_
      apply on_get (pc' := 63) rfl rfl fl_Curve_36
      · repeat (first | assumption | exact on_up_eq _ _ _ | refine (on_up_ne (by omega)).trans ?_)
      · rfl
      refine on_iload (pc' := 65) rfl rfl rfl ?_
      first | refine on_aload_n (pc' := 66) rfl rfl rfl rfl ?_ | refine on_aload_nQ (pc' := 66) rfl rfl rfl rfl ?_
      refine on_iload (pc' := 68) rfl rfl rfl ?_
      apply on_laloadK (pc' := 69) (t := 1) rfl rfl
      · repeat (first | assumption | exact on_up_eq _ _ _ | refine (on_up_ne (by omega)).trans ?_)
      · rfl
      · first | assumption | exact on_lit _ | rfl
      · first | assumption | omega | decide
      first | refine on_aload (pc' := 71) rfl rfl rfl ?_ | refine on_aloadQ (pc' := 71) rfl rfl rfl ?_
      refine on_iload (pc' := 73) rfl rfl rfl ?_
      apply on_laloadK (pc' := 74) (t := 1) rfl rfl
      · repeat (first | assumption | exact on_up_eq _ _ _ | refine (on_up_ne (by omega)).trans ?_)
      · rfl
      · first | assumption | exact on_lit _ | rfl
      · first | assumption | omega | decide
      refine on_lsub (pc' := 75) rfl rfl ?_
      apply on_lastoreK (pc' := 76) (t := 1) rfl rfl
      · repeat (first | assumption | exact on_up_eq _ _ _ | refine (on_up_ne (by omega)).trans ?_)
      · rfl
      · first | assumption | exact on_lit _ | rfl
      · first | assumption | omega | decide
      refine on_iinc1 (pc' := 79) rfl rfl rfl ?_
      refine on_goto (tgt := 3) rfl rfl ?_
      rw [ho 3 (by decide) (by decide) (by decide) (by decide), ho 4 (by decide) (by decide) (by decide) (by decide), ho 1 (by decide) (by decide) (by decide) (by decide), ho 2 (by decide) (by decide) (by decide) (by decide)]
      refine on_relv (l := [(0, .ref o), (1, .ref (o + 4)), (2, .ref (o + 5)), (3, .ref (o + 2)), (4, .ref (o + 3)), (5, .int (nI (i + 1)))]) ⟨rfl, rfl, rfl, rfl, rfl, congrArg some (congrArg Value.int (nI_1 i)), trivial⟩ (ih (i + 1) (va_up (va_up (va_up (va_up c1 5 (vp_updL (c1 5) i (c 3 i + c 4 i))) 6 (vp_updL (c1 6) i (c 3 i - c 4 i))) 7 (vp_updL (c1 7) i (c 1 i + c 2 i))) 8 (vp_updL (c1 8) i (c 1 i - c 2 i))) _ (by omega) (cu_S_up (kr := 8) (cu_S_up (kr := 7) (cu_S_up (kr := 6) (cu_S_up (kr := 5) hS (by decide)) (by decide)) (by decide)) (by decide)) ((((hs.up (by omega) (by omega)).up (by omega) (by omega)).up (by omega) (by omega)).up (by omega) (by omega)) (fun k h5 h6 h7 h8 => ?_) (fun j hj => ?_) (fun j hj => ?_) (fun j hj => ?_) (fun j hj => ?_))
      · rw [← ho k h5 h6 h7 h8]
        simp [va_up, h5, h6, h7, h8]
      · show vp_updL (c1 5) i (c 3 i + c 4 i) j = c 3 j + c 4 j
        by_cases hji : j = i
        · rw [hji, pk_uLs]
        · rw [pk_uLn hji]
          exact v5 j (by omega)
      · show vp_updL (c1 6) i (c 3 i - c 4 i) j = c 3 j - c 4 j
        by_cases hji : j = i
        · rw [hji, pk_uLs]
        · rw [pk_uLn hji]
          exact v6 j (by omega)
      · show vp_updL (c1 7) i (c 1 i + c 2 i) j = c 1 j + c 2 j
        by_cases hji : j = i
        · rw [hji, pk_uLs]
        · rw [pk_uLn hji]
          exact v7 j (by omega)
      · show vp_updL (c1 8) i (c 1 i - c 2 i) j = c 1 j - c 2 j
        by_cases hji : j = i
        · rw [hji, pk_uLs]
        · rw [pk_uLn hji]
          exact v8 j (by omega)
end CLI
