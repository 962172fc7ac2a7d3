theorem rp_ext {F S : Nat → Int64} {v : Int} (h : rp F v) (hs : ∀ i, i < 10 → S i = F i) : rp S v := by
  obtain ⟨f, f1, f2⟩ := h
  exact ⟨f, fun i hi => by rw [hs i hi]; exact f1 i hi, f2⟩
theorem rp_cpy {F S : Nat → Int64} {v : Int} (h : rp F v) : rp (va_cpy F S 0 0 10) v := rp_ext h (fun i hi => by rw [pk_cpy_in (by omega) (by omega), Nat.zero_add, Nat.sub_zero])
theorem rp_pow2 {F : Nat → Int64} {z : Int} {m n k : Nat} (h : rp F (z ^ m * z ^ n)) (hk : m + n = k) : rp F (z ^ k) := by
  rw [← Int.pow_add, hk] at h
  exact h
/-- the powers on the way -/
def iv_e : Nat → Nat
  | 0 => 1023
  | n + 1 => 2 * iv_e n + (if (10 + n) % 10 = 9 then 1023 else 0)
def iv_f : Nat → Nat
  | 0 => iv_e 240
  | n + 1 => 2 * iv_f n + (if n = 1 ∨ n = 3 ∨ n = 4 then 1 else 0)
/-- two less than the prime -/
def cv_E : Nat := 57896044618658097711785492504343953926634992332820282019728792003956564819947
theorem iv_f5 : iv_f 5 = cv_E := by decide +kernel
/-- what the inversion leaves: x2, and the factor -/
def iv_X (w : Int) (e : Nat → Int64) (c : Nat → Nat → Int64) : Prop := rp (c 1) w ∧ c 9 = e
theorem iv_X.of {w : Int} {e : Nat → Int64} {c c2 : Nat → Nat → Int64} (h : iv_X w e c) (h1 : c2 1 = c 1) (h9 : c2 9 = c 9) : iv_X w e c2 := ⟨by rw [h1]; exact h.1, h9.trans h.2⟩
section INV
variable {G : on_G} {o sz bc bs : Nat} {h : on_H} {Q : Option Value → on_H → Nat → Prop}
set_option maxHeartbeats 4000000 in
theorem cu_iv1 {z w : Int} {e : Nat → Int64} (k : ∀ c2 h2, cu_S o c2 h2 → on_sm o (o + 11) h h2 → rp (c2 2) z → iv_X w e c2 → rp (c2 5) (z ^ 1023) → on_E G M_Curve_invert 55 (on_l [(0, .ref o), (1, .ref (o + 3))]) [] h2 sz bc bs Q) :
    ∀ (m i : Nat) (c1 : Nat → Nat → Int64) (h1 : on_H), 1 ≤ i → i + m = 10 → cu_S o c1 h1 → on_sm o (o + 11) h h1 → rp (c1 2) z → iv_X w e c1 → rp (c1 5) (z ^ (2 ^ i - 1)) → on_E G M_Curve_invert 14 (on_l [(0, .ref o), (1, .ref (o + 3)), (2, .int (nI i))]) [] h1 sz bc bs Q := by
  intro m
  induction m with
  | zero =>
    intro i c1 h1 h0 hi hS hs hz hx ha
    rw [show i = 10 by omega] at ha
    refine on_iload_n (pc' := 15) rfl rfl rfl rfl ?_
    refine on_bipush (pc' := 17) (v := 10) rfl rfl lb_10 ?_
    refine on_icmp_ge (pc' := 20) (tgt := 55) rfl rfl rfl (fun cq => ?_) (fun cq => ?_)
    · exact on_relv (l := [(0, .ref o), (1, .ref (o + 3))]) ⟨rfl, rfl, trivial⟩ (k c1 h1 hS hs hz hx ha)
    · exact absurd (nI_le (a := 10) (by omega) (by omega)) cq
  | succ m ih =>
    intro i c1 h1 h0 hi hS hs hz hx ha
    have hp : 1 ≤ 2 ^ i := Nat.one_le_two_pow
    have hp2 : 2 ^ (i + 1) = 2 ^ i * 2 := Nat.pow_succ 2 i
    obtain ⟨s, s0, s1, s2, s3, s4, s5, s6, s7, s8, s9⟩ := id hS
    refine on_iload_n (pc' := 15) rfl rfl rfl rfl ?_
    refine on_bipush (pc' := 17) (v := 10) rfl rfl lb_10 ?_
    refine on_icmp_ge (pc' := 20) (tgt := 55) rfl rfl rfl (fun cq => ?_) (fun cq => ?_)
    · exact absurd cq (nI_ge (b := 10) (by omega) (by omega))
    · first | refine on_aload_n (pc' := 21) rfl rfl rfl rfl ?_ | refine on_aload_nQ (pc' := 21) rfl rfl rfl rfl ?_
      first | refine on_aload_n (pc' := 22) rfl rfl rfl rfl ?_ | refine on_aload_nQ (pc' := 22) rfl rfl rfl rfl ?_
      apply on_get (pc' := 25) rfl rfl fl_Curve_27
      · repeat (first | assumption | exact on_up_eq _ _ _ | refine (on_up_ne (by omega)).trans ?_)
      · rfl
      first | refine on_aload_n (pc' := 26) rfl rfl rfl rfl ?_ | refine on_aload_nQ (pc' := 26) rfl rfl rfl rfl ?_
      apply on_get (pc' := 29) rfl rfl fl_Curve_27
      · repeat (first | assumption | exact on_up_eq _ _ _ | refine (on_up_ne (by omega)).trans ?_)
      · rfl
      first | refine on_aload_n (pc' := 30) rfl rfl rfl rfl ?_ | refine on_aload_nQ (pc' := 30) rfl rfl rfl rfl ?_
      apply on_get (pc' := 33) rfl rfl fl_Curve_27
      · repeat (first | assumption | exact on_up_eq _ _ _ | refine (on_up_ne (by omega)).trans ?_)
      · rfl
      refine on_mul (pc' := 36) 5 5 5 hS (by decide) (by decide) (by decide) (rp_ip ha) (rp_ip ha) rfl rfl cw_Curve_invert_72 (fun c2 h2 S2 v2 e2 t2 => ?_)
      clear s s0 s1 s2 s3 s4 s5 s6 s7 s8 s9
      obtain ⟨s, s0, s1, s2, s3, s4, s5, s6, s7, s8, s9⟩ := id S2
      have hz2 : rp (c2 2) z := by rw [e2 2 (by decide)]; exact hz
      have hx2 : iv_X w e c2 := hx.of (e2 1 (by decide)) (e2 9 (by decide))
      have hz1 : ip (c2 2) (z ^ 1) := by rw [Int.pow_one]; exact rp_ip hz2
      first | refine on_aload_n (pc' := 37) rfl rfl rfl rfl ?_ | refine on_aload_nQ (pc' := 37) rfl rfl rfl rfl ?_
      first | refine on_aload_n (pc' := 38) rfl rfl rfl rfl ?_ | refine on_aload_nQ (pc' := 38) rfl rfl rfl rfl ?_
      apply on_get (pc' := 41) rfl rfl fl_Curve_27
      · repeat (first | assumption | exact on_up_eq _ _ _ | refine (on_up_ne (by omega)).trans ?_)
      · rfl
      first | refine on_aload_n (pc' := 42) rfl rfl rfl rfl ?_ | refine on_aload_nQ (pc' := 42) rfl rfl rfl rfl ?_
      apply on_get (pc' := 45) rfl rfl fl_Curve_27
      · repeat (first | assumption | exact on_up_eq _ _ _ | refine (on_up_ne (by omega)).trans ?_)
      · rfl
      first | refine on_aload_n (pc' := 46) rfl rfl rfl rfl ?_ | refine on_aload_nQ (pc' := 46) rfl rfl rfl rfl ?_
      refine on_mul (pc' := 49) 5 5 2 S2 (by decide) (by decide) (by decide) (rp_ip (rp_pow2 v2 rfl)) hz1 rfl rfl cw_Curve_invert_72 (fun c3 h3 S3 v3 e3 t3 => ?_)
      refine on_iinc1 (pc' := 52) rfl rfl rfl ?_
      refine on_goto (tgt := 14) rfl rfl ?_
      exact on_relv (l := [(0, .ref o), (1, .ref (o + 3)), (2, .int (nI (i + 1)))]) ⟨rfl, rfl, congrArg some (congrArg Value.int (nI_1 i)), trivial⟩ (ih (i + 1) c3 h3 (by omega) (by omega) S3 ((hs.trans t2).trans t3) (by rw [e3 2 (by decide)]; exact hz2) (hx2.of (e3 1 (by decide)) (e3 9 (by decide))) (rp_pow2 v3 (by omega)))
set_option maxHeartbeats 4000000 in
theorem cu_iv2 {z w : Int} {e : Nat → Int64} (k : ∀ c2 h2, cu_S o c2 h2 → on_sm o (o + 11) h h2 → rp (c2 2) z → iv_X w e c2 → rp (c2 6) (z ^ iv_e 240) → on_E G M_Curve_invert 127 (on_l [(0, .ref o), (1, .ref (o + 3))]) [] h2 sz bc bs Q) :
    ∀ (m n : Nat) (c1 : Nat → Nat → Int64) (h1 : on_H), n + m = 240 → cu_S o c1 h1 → on_sm o (o + 11) h h1 → rp (c1 2) z → iv_X w e c1 → rp (c1 5) (z ^ 1023) → rp (c1 6) (z ^ iv_e n) → on_E G M_Curve_invert 73 (on_l [(0, .ref o), (1, .ref (o + 3)), (2, .int (nI (10 + n)))]) [] h1 sz bc bs Q := by
  have n10 : ¬ (10 : Int32) = 0 := by decide
  intro m
  induction m with
  | zero =>
    intro n c1 h1 hi hS hs hz hx ha hb
    rw [show n = 240 by omega] at hb ⊢
    refine on_iload_n (pc' := 74) rfl rfl rfl rfl ?_
    refine on_sipush (pc' := 77) (v := 250) rfl rfl ls_250 ?_
    refine on_icmp_ge (pc' := 80) (tgt := 127) rfl rfl rfl (fun cq => ?_) (fun cq => ?_)
    · exact on_relv (l := [(0, .ref o), (1, .ref (o + 3))]) ⟨rfl, rfl, trivial⟩ (k c1 h1 hS hs hz hx hb)
    · exact absurd (nI_le (a := 250) (b := 10 + 240) (by omega) (by omega)) cq
  | succ m ih =>
    intro n c1 h1 hi hS hs hz hx ha hb
    obtain ⟨s, s0, s1, s2, s3, s4, s5, s6, s7, s8, s9⟩ := id hS
    have er : i_rem (nI (10 + n)) 10 = nI ((10 + n) % 10) := pk_rem (d := 10) (by omega) (by decide) (by decide)
    refine on_iload_n (pc' := 74) rfl rfl rfl rfl ?_
    refine on_sipush (pc' := 77) (v := 250) rfl rfl ls_250 ?_
    refine on_icmp_ge (pc' := 80) (tgt := 127) rfl rfl rfl (fun cq => ?_) (fun cq => ?_)
    · exact absurd cq (nI_ge (b := 250) (by omega) (by omega))
    · first | refine on_aload_n (pc' := 81) rfl rfl rfl rfl ?_ | refine on_aload_nQ (pc' := 81) rfl rfl rfl rfl ?_
      first | refine on_aload_n (pc' := 82) rfl rfl rfl rfl ?_ | refine on_aload_nQ (pc' := 82) rfl rfl rfl rfl ?_
      apply on_get (pc' := 85) rfl rfl fl_Curve_30
      · repeat (first | assumption | exact on_up_eq _ _ _ | refine (on_up_ne (by omega)).trans ?_)
      · rfl
      first | refine on_aload_n (pc' := 86) rfl rfl rfl rfl ?_ | refine on_aload_nQ (pc' := 86) rfl rfl rfl rfl ?_
      apply on_get (pc' := 89) rfl rfl fl_Curve_30
      · repeat (first | assumption | exact on_up_eq _ _ _ | refine (on_up_ne (by omega)).trans ?_)
      · rfl
      first | refine on_aload_n (pc' := 90) rfl rfl rfl rfl ?_ | refine on_aload_nQ (pc' := 90) rfl rfl rfl rfl ?_
      apply on_get (pc' := 93) rfl rfl fl_Curve_30
      · repeat (first | assumption | exact on_up_eq _ _ _ | refine (on_up_ne (by omega)).trans ?_)
      · rfl
      refine on_mul (pc' := 96) 6 6 6 hS (by decide) (by decide) (by decide) (rp_ip hb) (rp_ip hb) rfl rfl cw_Curve_invert_72 (fun c2 h2 S2 v2 e2 t2 => ?_)
      clear s s0 s1 s2 s3 s4 s5 s6 s7 s8 s9
      obtain ⟨s, s0, s1, s2, s3, s4, s5, s6, s7, s8, s9⟩ := id S2
      have hz2 : rp (c2 2) z := by rw [e2 2 (by decide)]; exact hz
      have hx2 : iv_X w e c2 := hx.of (e2 1 (by decide)) (e2 9 (by decide))
      have ha2 : rp (c2 5) (z ^ 1023) := by rw [e2 5 (by decide)]; exact ha
      refine on_iload_n (pc' := 97) rfl rfl rfl rfl ?_
      refine on_bipush (pc' := 99) (v := 10) rfl rfl lb_10 ?_
      refine on_irem (pc' := 100) rfl rfl (by first | assumption | decide) ?_
      rw [er]
      refine on_bipush (pc' := 102) (v := 9) rfl rfl lb_9 ?_
      refine on_icmp_ne (pc' := 105) (tgt := 121) rfl rfl rfl (fun cq => ?_) (fun cq => ?_)
      · have h9 : ¬ (10 + n) % 10 = 9 := fun q => cq (by rw [q]; rfl)
        refine on_iinc1 (pc' := 124) rfl rfl rfl ?_
        refine on_goto (tgt := 73) rfl rfl ?_
        exact on_relv (l := [(0, .ref o), (1, .ref (o + 3)), (2, .int (nI (10 + (n + 1))))]) ⟨rfl, rfl, congrArg some (congrArg Value.int (nI_1 (10 + n))), trivial⟩ (ih (n + 1) c2 h2 (by omega) S2 (hs.trans t2) hz2 hx2 ha2 (rp_pow2 v2 (by show _ = 2 * iv_e n + _; rw [if_neg h9]; omega)))
      · have h9 : (10 + n) % 10 = 9 := (nI_eq (b := 9) (by omega) (by omega)).mp cq
        first | refine on_aload_n (pc' := 106) rfl rfl rfl rfl ?_ | refine on_aload_nQ (pc' := 106) rfl rfl rfl rfl ?_
        first | refine on_aload_n (pc' := 107) rfl rfl rfl rfl ?_ | refine on_aload_nQ (pc' := 107) rfl rfl rfl rfl ?_
        apply on_get (pc' := 110) rfl rfl fl_Curve_30
        · repeat (first | assumption | exact on_up_eq _ _ _ | refine (on_up_ne (by omega)).trans ?_)
        · rfl
        first | refine on_aload_n (pc' := 111) rfl rfl rfl rfl ?_ | refine on_aload_nQ (pc' := 111) rfl rfl rfl rfl ?_
        apply on_get (pc' := 114) rfl rfl fl_Curve_30
        · repeat (first | assumption | exact on_up_eq _ _ _ | refine (on_up_ne (by omega)).trans ?_)
        · rfl
        first | refine on_aload_n (pc' := 115) rfl rfl rfl rfl ?_ | refine on_aload_nQ (pc' := 115) rfl rfl rfl rfl ?_
        apply on_get (pc' := 118) rfl rfl fl_Curve_27
        · repeat (first | assumption | exact on_up_eq _ _ _ | refine (on_up_ne (by omega)).trans ?_)
        · rfl
        refine on_mul (pc' := 121) 6 6 5 S2 (by decide) (by decide) (by decide) (rp_ip (rp_pow2 v2 rfl)) (rp_ip ha2) rfl rfl cw_Curve_invert_72 (fun c3 h3 S3 v3 e3 t3 => ?_)
        refine on_iinc1 (pc' := 124) rfl rfl rfl ?_
        refine on_goto (tgt := 73) rfl rfl ?_
        exact on_relv (l := [(0, .ref o), (1, .ref (o + 3)), (2, .int (nI (10 + (n + 1))))]) ⟨rfl, rfl, congrArg some (congrArg Value.int (nI_1 (10 + n))), trivial⟩ (ih (n + 1) c3 h3 (by omega) S3 ((hs.trans t2).trans t3) (by rw [e3 2 (by decide)]; exact hz2) (hx2.of (e3 1 (by decide)) (e3 9 (by decide))) (by rw [e3 5 (by decide)]; exact ha2) (rp_pow2 v3 (by show _ = 2 * iv_e n + _; rw [if_pos h9]; omega)))
def iv_k (n : Nat) : Int32 := if n < 5 then nI (4 - n) else -1
theorem iv_k_s : ∀ n, n < 5 → iv_k n + Int32.ofInt (-1) = iv_k (n + 1) := by decide
theorem iv_k_b : ∀ n, n < 5 → (sh_u 11 (iv_k n) &&& 1 = 1 ↔ (n = 1 ∨ n = 3 ∨ n = 4)) := by decide
set_option maxHeartbeats 4000000 in
theorem cu_iv3 {z w : Int} {e : Nat → Int64} (k : ∀ c2 h2, cu_S o c2 h2 → on_sm o (o + 11) h h2 → iv_X w e c2 → rp (c2 6) (z ^ iv_f 5) → on_E G M_Curve_invert 178 (on_l [(0, .ref o), (1, .ref (o + 3))]) [] h2 sz bc bs Q) :
    ∀ (m n : Nat) (c1 : Nat → Nat → Int64) (h1 : on_H), n + m = 5 → cu_S o c1 h1 → on_sm o (o + 11) h h1 → rp (c1 2) z → iv_X w e c1 → rp (c1 6) (z ^ iv_f n) → on_E G M_Curve_invert 129 (on_l [(0, .ref o), (1, .ref (o + 3)), (2, .int (iv_k n))]) [] h1 sz bc bs Q := by
  intro m
  induction m with
  | zero =>
    intro n c1 h1 hi hS hs hz hx hb
    rw [show n = 5 by omega] at hb ⊢
    refine on_iload_n (pc' := 130) rfl rfl rfl rfl ?_
    refine on_if_lt (pc' := 133) (tgt := 178) rfl rfl rfl (fun cq => ?_) (fun cq => ?_)
    · exact on_relv (l := [(0, .ref o), (1, .ref (o + 3))]) ⟨rfl, rfl, trivial⟩ (k c1 h1 hS hs hx hb)
    · exact absurd (by decide) cq
  | succ m ih =>
    intro n c1 h1 hi hS hs hz hx hb
    obtain ⟨s, s0, s1, s2, s3, s4, s5, s6, s7, s8, s9⟩ := id hS
    refine on_iload_n (pc' := 130) rfl rfl rfl rfl ?_
    refine on_if_lt (pc' := 133) (tgt := 178) rfl rfl rfl (fun cq => ?_) (fun cq => ?_)
    · rw [show iv_k n = nI (4 - n) from if_pos (by omega)] at cq
      exact absurd cq (nI_pos (by omega))
    · first | refine on_aload_n (pc' := 134) rfl rfl rfl rfl ?_ | refine on_aload_nQ (pc' := 134) rfl rfl rfl rfl ?_
      first | refine on_aload_n (pc' := 135) rfl rfl rfl rfl ?_ | refine on_aload_nQ (pc' := 135) rfl rfl rfl rfl ?_
      apply on_get (pc' := 138) rfl rfl fl_Curve_30
      · repeat (first | assumption | exact on_up_eq _ _ _ | refine (on_up_ne (by omega)).trans ?_)
      · rfl
      first | refine on_aload_n (pc' := 139) rfl rfl rfl rfl ?_ | refine on_aload_nQ (pc' := 139) rfl rfl rfl rfl ?_
      apply on_get (pc' := 142) rfl rfl fl_Curve_30
      · repeat (first | assumption | exact on_up_eq _ _ _ | refine (on_up_ne (by omega)).trans ?_)
      · rfl
      first | refine on_aload_n (pc' := 143) rfl rfl rfl rfl ?_ | refine on_aload_nQ (pc' := 143) rfl rfl rfl rfl ?_
      apply on_get (pc' := 146) rfl rfl fl_Curve_30
      · repeat (first | assumption | exact on_up_eq _ _ _ | refine (on_up_ne (by omega)).trans ?_)
      · rfl
      refine on_mul (pc' := 149) 6 6 6 hS (by decide) (by decide) (by decide) (rp_ip hb) (rp_ip hb) rfl rfl cw_Curve_invert_72 (fun c2 h2 S2 v2 e2 t2 => ?_)
      clear s s0 s1 s2 s3 s4 s5 s6 s7 s8 s9
      obtain ⟨s, s0, s1, s2, s3, s4, s5, s6, s7, s8, s9⟩ := id S2
      have hz2 : rp (c2 2) z := by rw [e2 2 (by decide)]; exact hz
      have hx2 : iv_X w e c2 := hx.of (e2 1 (by decide)) (e2 9 (by decide))
      have hz1 : ip (c2 2) (z ^ 1) := by rw [Int.pow_one]; exact rp_ip hz2
      refine on_bipush (pc' := 151) (v := 11) rfl rfl lb_11 ?_
      refine on_iload_n (pc' := 152) rfl rfl rfl rfl ?_
      refine on_iushr (pc' := 153) rfl rfl ?_
      refine on_iconst (pc' := 154) (v := 1) rfl rfl li_1 ?_
      refine on_iand (pc' := 155) rfl rfl ?_
      refine on_iconst (pc' := 156) (v := 1) rfl rfl li_1 ?_
      refine on_icmp_ne (pc' := 159) (tgt := 172) rfl rfl rfl (fun cq => ?_) (fun cq => ?_)
      · have h9 : ¬ (n = 1 ∨ n = 3 ∨ n = 4) := fun q => cq ((iv_k_b n (by omega)).mpr q)
        refine on_iinc (pc' := 175) rfl rfl rfl rfl ?_
        refine on_goto (tgt := 129) rfl rfl ?_
        exact on_relv (l := [(0, .ref o), (1, .ref (o + 3)), (2, .int (iv_k (n + 1)))]) ⟨rfl, rfl, congrArg some (congrArg Value.int (iv_k_s n (by omega))), trivial⟩ (ih (n + 1) c2 h2 (by omega) S2 (hs.trans t2) hz2 hx2 (rp_pow2 v2 (by show _ = 2 * iv_f n + _; rw [if_neg h9]; omega)))
      · have h9 : n = 1 ∨ n = 3 ∨ n = 4 := (iv_k_b n (by omega)).mp cq
        first | refine on_aload_n (pc' := 160) rfl rfl rfl rfl ?_ | refine on_aload_nQ (pc' := 160) rfl rfl rfl rfl ?_
        first | refine on_aload_n (pc' := 161) rfl rfl rfl rfl ?_ | refine on_aload_nQ (pc' := 161) rfl rfl rfl rfl ?_
        apply on_get (pc' := 164) rfl rfl fl_Curve_30
        · repeat (first | assumption | exact on_up_eq _ _ _ | refine (on_up_ne (by omega)).trans ?_)
        · rfl
        first | refine on_aload_n (pc' := 165) rfl rfl rfl rfl ?_ | refine on_aload_nQ (pc' := 165) rfl rfl rfl rfl ?_
        apply on_get (pc' := 168) rfl rfl fl_Curve_30
        · repeat (first | assumption | exact on_up_eq _ _ _ | refine (on_up_ne (by omega)).trans ?_)
        · rfl
        first | refine on_aload_n (pc' := 169) rfl rfl rfl rfl ?_ | refine on_aload_nQ (pc' := 169) rfl rfl rfl rfl ?_
        refine on_mul (pc' := 172) 6 6 2 S2 (by decide) (by decide) (by decide) (rp_ip (rp_pow2 v2 rfl)) hz1 rfl rfl cw_Curve_invert_72 (fun c3 h3 S3 v3 e3 t3 => ?_)
        refine on_iinc (pc' := 175) rfl rfl rfl rfl ?_
        refine on_goto (tgt := 129) rfl rfl ?_
        exact on_relv (l := [(0, .ref o), (1, .ref (o + 3)), (2, .int (iv_k (n + 1)))]) ⟨rfl, rfl, congrArg some (congrArg Value.int (iv_k_s n (by omega))), trivial⟩ (ih (n + 1) c3 h3 (by omega) S3 ((hs.trans t2).trans t3) (by rw [e3 2 (by decide)]; exact hz2) (hx2.of (e3 1 (by decide)) (e3 9 (by decide))) (rp_pow2 v3 (by show _ = 2 * iv_f n + _; rw [if_pos h9]; omega)))
set_option maxHeartbeats 4000000 in
/-- Curve.invert of z2: its power, two less than the prime -/
theorem c_Curve_invert {c : Nat → Nat → Int64} {z w : Int} (hS : cu_S o c h) (hz : rp (c 2) z) (hx : rp (c 1) w) :
    on_Ct G M_Curve_invert [.ref o, .ref (o + 3)] h sz 0 0 (fun r h2 zz => r = none ∧ zz = sz ∧ ∃ c2, cu_S o c2 h2 ∧ on_sm o (o + 11) h h2 ∧ rp (c2 1) w ∧ rp (c2 2) (z ^ cv_E) ∧ c2 9 = c 9) := by
  refine on_Ct.of (by decide) v_Curve_invert (Nat.le_of_ble_eq_true rfl) ?_
  obtain ⟨s, s0, s1, s2, s3, s4, s5, s6, s7, s8, s9⟩ := id hS
  first | refine on_aload_n (pc' := 1) rfl rfl rfl rfl ?_ | refine on_aload_nQ (pc' := 1) rfl rfl rfl rfl ?_
  refine on_iconst (pc' := 2) (v := 0) rfl rfl li_0 ?_
  first | refine on_aload_n (pc' := 3) rfl rfl rfl rfl ?_ | refine on_aload_nQ (pc' := 3) rfl rfl rfl rfl ?_
  apply on_get (pc' := 6) rfl rfl fl_Curve_27
  · repeat (first | assumption | exact on_up_eq _ _ _ | refine (on_up_ne (by omega)).trans ?_)
  · rfl
  refine on_iconst (pc' := 7) (v := 0) rfl rfl li_0 ?_
  refine on_bipush (pc' := 9) (v := 10) rfl rfl lb_10 ?_
  apply on_acopyL (pc' := 12) rfl rfl jm_Curve_52 (Nat.le_of_ble_eq_true rfl) (Nat.le_of_ble_eq_true rfl)
  · repeat (first | assumption | exact on_up_eq _ _ _ | refine (on_up_ne (by omega)).trans ?_)
  · repeat (first | assumption | exact on_up_eq _ _ _ | refine (on_up_ne (by omega)).trans ?_)
  · first | assumption | exact on_lit _ | rfl
  · first | assumption | exact on_lit _ | rfl
  · first | assumption | exact on_lit _ | rfl
  · first | assumption | omega | decide
  · first | assumption | omega | decide
  refine on_iconst (pc' := 13) (v := 1) rfl rfl li_1 ?_
  refine on_istore_n (pc' := 14) rfl rfl rfl (by decide) ?_
  clear s s0 s1 s2 s3 s4 s5 s6 s7 s8 s9
  refine on_relv (l := [(0, .ref o), (1, .ref (o + 3)), (2, .int (nI 1))]) ⟨rfl, rfl, rfl, trivial⟩ (cu_iv1 (h := h) (z := z) (w := w) (e := c 9) (fun c2 h2 S2 t2 z2 x2 a2 => ?_) 9 1 (va_up c 5 (va_cpy (c 2) (c 5) 0 0 10)) _ (by omega) rfl (cu_S_up (kr := 5) hS (by decide)) (on_sm.rf.up (by omega) (by omega)) hz (show iv_X w (c 9) _ from ⟨hx, rfl⟩) (by rw [show (2 ^ 1 - 1 : Nat) = 1 from rfl, Int.pow_one]; exact rp_cpy hz))
  obtain ⟨s, s0, s1, s2, s3, s4, s5, s6, s7, s8, s9⟩ := id S2
  first | refine on_aload_n (pc' := 56) rfl rfl rfl rfl ?_ | refine on_aload_nQ (pc' := 56) rfl rfl rfl rfl ?_
  apply on_get (pc' := 59) rfl rfl fl_Curve_27
  · repeat (first | assumption | exact on_up_eq _ _ _ | refine (on_up_ne (by omega)).trans ?_)
  · rfl
  refine on_iconst (pc' := 60) (v := 0) rfl rfl li_0 ?_
  first | refine on_aload_n (pc' := 61) rfl rfl rfl rfl ?_ | refine on_aload_nQ (pc' := 61) rfl rfl rfl rfl ?_
  apply on_get (pc' := 64) rfl rfl fl_Curve_30
  · repeat (first | assumption | exact on_up_eq _ _ _ | refine (on_up_ne (by omega)).trans ?_)
  · rfl
  refine on_iconst (pc' := 65) (v := 0) rfl rfl li_0 ?_
  refine on_bipush (pc' := 67) (v := 10) rfl rfl lb_10 ?_
  apply on_acopyL (pc' := 70) rfl rfl jm_Curve_52 (Nat.le_of_ble_eq_true rfl) (Nat.le_of_ble_eq_true rfl)
  · repeat (first | assumption | exact on_up_eq _ _ _ | refine (on_up_ne (by omega)).trans ?_)
  · repeat (first | assumption | exact on_up_eq _ _ _ | refine (on_up_ne (by omega)).trans ?_)
  · first | assumption | exact on_lit _ | rfl
  · first | assumption | exact on_lit _ | rfl
  · first | assumption | exact on_lit _ | rfl
  · first | assumption | omega | decide
  · first | assumption | omega | decide
  refine on_bipush (pc' := 72) (v := 10) rfl rfl lb_10 ?_
  refine on_istore_n (pc' := 73) rfl rfl rfl (by decide) ?_
  clear s s0 s1 s2 s3 s4 s5 s6 s7 s8 s9
  refine on_relv (l := [(0, .ref o), (1, .ref (o + 3)), (2, .int (nI (10 + 0)))]) ⟨rfl, rfl, rfl, trivial⟩ (cu_iv2 (h := h) (z := z) (w := w) (e := c 9) (fun c3 h3 S3 t3 z3 x3 b3 => ?_) 240 0 (va_up c2 6 (va_cpy (c2 5) (c2 6) 0 0 10)) _ rfl (cu_S_up (kr := 6) S2 (by decide)) (t2.up (by omega) (by omega)) z2 (show iv_X w (c 9) _ from x2) a2 (rp_cpy a2))
  refine on_iconst (pc' := 128) (v := 4) rfl rfl li_4 ?_
  refine on_istore_n (pc' := 129) rfl rfl rfl (by decide) ?_
  refine on_relv (l := [(0, .ref o), (1, .ref (o + 3)), (2, .int (iv_k 0))]) ⟨rfl, rfl, rfl, trivial⟩ (cu_iv3 (h := h) (z := z) (w := w) (e := c 9) (fun c4 h4 S4 t4 x4 b4 => ?_) 5 0 c3 h3 rfl S3 t3 z3 x3 b3)
  obtain ⟨s, s0, s1, s2, s3, s4, s5, s6, s7, s8, s9⟩ := id S4
  first | refine on_aload_n (pc' := 179) rfl rfl rfl rfl ?_ | refine on_aload_nQ (pc' := 179) rfl rfl rfl rfl ?_
  apply on_get (pc' := 182) rfl rfl fl_Curve_30
  · repeat (first | assumption | exact on_up_eq _ _ _ | refine (on_up_ne (by omega)).trans ?_)
  · rfl
  refine on_iconst (pc' := 183) (v := 0) rfl rfl li_0 ?_
  first | refine on_aload_n (pc' := 184) rfl rfl rfl rfl ?_ | refine on_aload_nQ (pc' := 184) rfl rfl rfl rfl ?_
  refine on_iconst (pc' := 185) (v := 0) rfl rfl li_0 ?_
  refine on_bipush (pc' := 187) (v := 10) rfl rfl lb_10 ?_
  apply on_acopyL (pc' := 190) rfl rfl jm_Curve_52 (Nat.le_of_ble_eq_true rfl) (Nat.le_of_ble_eq_true rfl)
  · repeat (first | assumption | exact on_up_eq _ _ _ | refine (on_up_ne (by omega)).trans ?_)
  · repeat (first | assumption | exact on_up_eq _ _ _ | refine (on_up_ne (by omega)).trans ?_)
  · first | assumption | exact on_lit _ | rfl
  · first | assumption | exact on_lit _ | rfl
  · first | assumption | exact on_lit _ | rfl
  · first | assumption | omega | decide
  · first | assumption | omega | decide
  refine on_vreturn rfl rfl ?_
  rw [iv_f5] at b4
  exact ⟨rfl, rfl, va_up c4 2 (va_cpy (c4 6) (c4 2) 0 0 10), cu_S_up (kr := 2) S4 (by decide), t4.up (by omega) (by omega), x4.1, rp_cpy b4, x4.2⟩
end INV
