/-- the powers of the reference's inversion -/
def iw_e : Nat → Nat
  | 0 => 0
  | n + 1 => 2 * iw_e n + (if n = 252 ∨ n = 250 then 0 else 1)
theorem iw_e255 : iw_e 255 = cv_E := by decide +kernel
theorem mr_k {F : Nat → Int64} (v : Nat) (hv : v ≤ 32786) (h0 : F 0 = lN v) (h : ∀ i, 0 < i → i < 17 → F i = 0) : mr F v := by
  refine ⟨fun i => if i = 0 then (v : Int) else 0, fun i hi => ?_, ⟨?_, fun i i0 i1 => ?_⟩, ?_⟩
  · by_cases e : i = 0
    · subst e
      refine ⟨by rw [h0, pf_lI (by omega)]; rfl, ?_⟩
      show ((v : Nat) : Int).natAbs ≤ 40000
      omega
    · refine ⟨?_, ?_⟩
      · show _ = if i = 0 then (v : Int) else 0
        rw [h i (by omega) hi, if_neg e]; decide
      · show (if i = 0 then (v : Int) else 0).natAbs ≤ _
        rw [if_neg e]
        exact Nat.zero_le _
  · show -19 ≤ (v : Int) ∧ (v : Int) ≤ 32786
    omega
  · show 0 ≤ (if i = 0 then (v : Int) else 0) ∧ (if i = 0 then (v : Int) else 0) ≤ 32767
    rw [if_neg (by omega)]
    decide
  · have e := mv_up (f := fun _ => 0) (g := fun i => if i = 0 then (v : Int) else 0) (d := (v : Int)) (m := 0) (fun i => by by_cases e : i = 0 <;> simp [e]) 17
    rw [if_pos (by decide), mv_0] at e
    rw [e]
    show cg (0 + (v : Int) * 1) v
    rw [Int.zero_add, Int.mul_one]
    exact cg.rf _
section MIN
variable {G : on_G} {o sz bc bs : Nat} {x3 : Int32 × Int32 × Int32} {h : on_H} {Q : Option Value → on_H → Nat → Prop} {c : Nat → Nat → Int64}
set_option maxHeartbeats 4000000 in
theorem mi_1 (s : h o = some (.inr (17, mo_f o x3.1 x3.2.1 x3.2.2)))
    (k : ∀ T : Nat → Int64, T 0 = 1 → (∀ i, 0 < i → i < 17 → T i = 0) → on_E G M_M_invertParts 29 (on_l [(0, .ref o), (1, .ref (o + 34)), (2, .ref (o + 31))]) [] (on_up h (o + 39) (on_al 1 17 T)) sz bc bs Q) :
    ∀ (m i : Nat) (T : Nat → Int64), i + m = 17 → (0 < i → T 0 = 1) → (∀ j, 0 < j → j < i → T j = 0) → on_E G M_M_invertParts 2 (on_l [(0, .ref o), (1, .ref (o + 34)), (2, .ref (o + 31)), (3, .int (nI i))]) [] (on_up h (o + 39) (on_al 1 17 T)) sz bc bs Q := by
  intro m
  induction m with
  | zero =>
    intro i T hi h0 hT
    obtain rfl : i = 17 := by omega
    refine on_iload_n (pc' := 3) rfl rfl rfl rfl ?_
    refine on_bipush (pc' := 5) (v := 17) rfl rfl lb_17 ?_
    refine on_icmp_ge (pc' := 8) (tgt := 29) rfl rfl rfl (fun cq => ?_) (fun cq => ?_)
    · exact on_relv (l := [(0, .ref o), (1, .ref (o + 34)), (2, .ref (o + 31))]) ⟨rfl, rfl, rfl, trivial⟩ (k T (h0 (by omega)) hT)
    · exact absurd (nI_le (a := 17) (by omega) (by omega)) cq
  | succ m ih =>
    intro i T hi h0 hT
    have hi2 : i < 17 ∧ 17 < 2 ^ 31 := by omega
    refine on_iload_n (pc' := 3) rfl rfl rfl rfl ?_
    refine on_bipush (pc' := 5) (v := 17) rfl rfl lb_17 ?_
    refine on_icmp_ge (pc' := 8) (tgt := 29) rfl rfl rfl (fun cq => ?_) (fun cq => ?_)
    · exact absurd cq (nI_ge (b := 17) (by omega) (by omega))
    · first | refine on_aload_n (pc' := 9) rfl rfl rfl rfl ?_ | refine on_aload_nQ (pc' := 9) rfl rfl rfl rfl ?_
      apply on_get (pc' := 12) rfl rfl fl_M_118
      · repeat (first | assumption | exact on_up_eq _ _ _ | refine (on_up_ne (by omega)).trans ?_)
      · rfl
      refine on_iload_n (pc' := 13) rfl rfl rfl rfl ?_
      refine on_iload_n (pc' := 14) rfl rfl rfl rfl ?_
      refine on_if_ne (pc' := 17) (tgt := 21) rfl rfl rfl (fun cq => ?_) (fun cq => ?_)
      · have c0 : ¬ i = 0 := fun e => cq (by rw [e]; rfl)
        refine on_lconst (pc' := 22) (v := 0) rfl rfl ll_0 ?_
        apply on_lastoreK (pc' := 23) (t := 1) rfl rfl
        · repeat (first | assumption | exact on_up_eq _ _ _ | refine (on_up_ne (by omega)).trans ?_)
        · rfl
        · first | assumption | exact on_lit _ | rfl
        · first | assumption | omega | decide
        refine on_iinc1 (pc' := 26) rfl rfl rfl ?_
        refine on_goto (tgt := 2) rfl rfl ?_
        rw [on_up_up]
        refine on_relv (l := [(0, .ref o), (1, .ref (o + 34)), (2, .ref (o + 31)), (3, .int (nI (i + 1)))]) ⟨rfl, rfl, rfl, congrArg some (congrArg Value.int (nI_1 i)), trivial⟩ (ih (i + 1) _ (by omega) (fun _ => ?_) (fun j h1 hj => ?_))
        · rw [pk_uLn (by omega)]; exact h0 (by omega)
        · by_cases e : j = i
          · subst e; exact pk_uLs
          · rw [pk_uLn e]; exact hT j h1 (by omega)
      · have c0 : i = 0 := (nI_eq (b := 0) (by omega) (by omega)).mp cq
        subst c0
        refine on_lconst (pc' := 18) (v := 1) rfl rfl ll_1 ?_
        refine on_goto (tgt := 22) rfl rfl ?_
        apply on_lastoreK (pc' := 23) (t := 1) rfl rfl
        · repeat (first | assumption | exact on_up_eq _ _ _ | refine (on_up_ne (by omega)).trans ?_)
        · rfl
        · first | assumption | exact on_lit _ | rfl
        · first | assumption | omega | decide
        refine on_iinc1 (pc' := 26) rfl rfl rfl ?_
        refine on_goto (tgt := 2) rfl rfl ?_
        rw [on_up_up]
        exact on_relv (l := [(0, .ref o), (1, .ref (o + 34)), (2, .ref (o + 31)), (3, .int (nI (0 + 1)))]) ⟨rfl, rfl, rfl, congrArg some (congrArg Value.int (nI_1 0)), trivial⟩ (ih (0 + 1) _ (by omega) (fun _ => pk_uLs) (fun j h1 hj => absurd hj (by omega)))
theorem ti_k_ne {n v : Nat} (hn : n < 255) (hv : v < 255) : ti_k n = nI v ↔ n = 254 - v := by
  unfold ti_k
  rw [if_pos hn, nI_eq (by omega) (by omega)]
  omega
set_option maxHeartbeats 4000000 in
theorem mi_2 {z w : Int}
    (k : ∀ c2 h2, mc_S o x3 c2 h2 → on_sm (o + 29) (o + 41) h h2 → mr (c2 1) w → mr (c2 10) (z ^ iw_e 255) → on_E G M_M_invertParts 104 (on_l [(0, .ref o), (1, .ref (o + 34))]) [] h2 sz bc bs Q) :
    ∀ (m n : Nat) (c1 : Nat → Nat → Int64) (h1 : on_H), n + m = 255 → mc_S o x3 c1 h1 → on_sm (o + 29) (o + 41) h h1 → mr (c1 2) z → mr (c1 1) w → mr (c1 10) (z ^ iw_e n) → on_E G M_M_invertParts 33 (on_l [(0, .ref o), (1, .ref (o + 34)), (2, .ref (o + 31)), (3, .int (ti_k n))]) [] h1 sz bc bs Q := by
  intro m
  induction m with
  | zero =>
    intro n c1 h1 hi hS hs hz hx hb
    obtain rfl : n = 255 := by omega
    refine on_iload_n (pc' := 34) rfl rfl rfl rfl ?_
    refine on_if_lt (pc' := 37) (tgt := 104) rfl rfl rfl (fun cq => ?_) (fun cq => ?_)
    · exact on_relv (l := [(0, .ref o), (1, .ref (o + 34))]) ⟨rfl, rfl, trivial⟩ (k c1 h1 hS hs hx hb)
    · exact absurd (by decide) cq
  | succ m ih =>
    intro n c1 h1 hi hS hs hz hx hb
    have s := hS.1
    have et : ti_k n = nI (254 - n) := if_pos (by omega)
    have t2 := ti_k_ne (n := n) (v := 2) (by omega) (by decide)
    have t4 := ti_k_ne (n := n) (v := 4) (by omega) (by decide)
    refine on_iload_n (pc' := 34) rfl rfl rfl rfl ?_
    refine on_if_lt (pc' := 37) (tgt := 104) rfl rfl rfl (fun cq => ?_) (fun cq => ?_)
    · rw [et] at cq
      exact absurd cq (nI_pos (by omega))
    · first | refine on_aload_n (pc' := 38) rfl rfl rfl rfl ?_ | refine on_aload_nQ (pc' := 38) rfl rfl rfl rfl ?_
      first | refine on_aload_n (pc' := 39) rfl rfl rfl rfl ?_ | refine on_aload_nQ (pc' := 39) rfl rfl rfl rfl ?_
      apply on_get (pc' := 42) rfl rfl fl_M_115
      · repeat (first | assumption | exact on_up_eq _ _ _ | refine (on_up_ne (by omega)).trans ?_)
      · rfl
      first | refine on_aload_n (pc' := 43) rfl rfl rfl rfl ?_ | refine on_aload_nQ (pc' := 43) rfl rfl rfl rfl ?_
      apply on_get (pc' := 46) rfl rfl fl_M_118
      · repeat (first | assumption | exact on_up_eq _ _ _ | refine (on_up_ne (by omega)).trans ?_)
      · rfl
      first | refine on_aload_n (pc' := 47) rfl rfl rfl rfl ?_ | refine on_aload_nQ (pc' := 47) rfl rfl rfl rfl ?_
      apply on_get (pc' := 50) rfl rfl fl_M_118
      · repeat (first | assumption | exact on_up_eq _ _ _ | refine (on_up_ne (by omega)).trans ?_)
      · rfl
      refine mc_mul (pc' := 53) 9 10 10 hS (by decide) (by decide) (by decide) hb hb rfl rfl cw_M_invertParts_187 (fun c2 h2 S2 v2 e2 r2 => ?_)
      clear s
      have s := S2.1
      have hz2 : mr (c2 2) z := by rw [e2 2 (by decide)]; exact hz
      have hx2 : mr (c2 1) w := by rw [e2 1 (by decide)]; exact hx
      first | refine on_aload_n (pc' := 54) rfl rfl rfl rfl ?_ | refine on_aload_nQ (pc' := 54) rfl rfl rfl rfl ?_
      apply on_get (pc' := 57) rfl rfl fl_M_118
      · repeat (first | assumption | exact on_up_eq _ _ _ | refine (on_up_ne (by omega)).trans ?_)
      · rfl
      first | refine on_aload_n (pc' := 58) rfl rfl rfl rfl ?_ | refine on_aload_nQ (pc' := 58) rfl rfl rfl rfl ?_
      apply on_get (pc' := 61) rfl rfl fl_M_115
      · repeat (first | assumption | exact on_up_eq _ _ _ | refine (on_up_ne (by omega)).trans ?_)
      · rfl
      refine mc_cpy (pc' := 64) 10 9 S2 (by decide) (by decide) (by decide) v2 rfl rfl cw_M_invertParts_191 (fun c3 h3 S3 v3 e3 r3 => ?_)
      clear s
      have s := S3.1
      have hz3 : mr (c3 2) z := by rw [e3 2 (by decide)]; exact hz2
      have hx3 : mr (c3 1) w := by rw [e3 1 (by decide)]; exact hx2
      have hs3 := (hs.trans r2).trans r3
      rw [← Int.pow_add] at v3
      have skip : (n = 252 ∨ n = 250) → on_E G M_M_invertParts 98 (on_l [(0, .ref o), (1, .ref (o + 34)), (2, .ref (o + 31)), (3, .int (ti_k n))]) [] h3 sz bc bs Q := fun hq => by
        refine on_iinc (pc' := 101) rfl rfl rfl rfl ?_
        refine on_goto (tgt := 33) rfl rfl ?_
        refine on_relv (l := [(0, .ref o), (1, .ref (o + 34)), (2, .ref (o + 31)), (3, .int (ti_k (n + 1)))]) ⟨rfl, rfl, rfl, congrArg some (congrArg Value.int (ti_k_s (by omega))), trivial⟩ (ih (n + 1) c3 h3 (by omega) S3 hs3 hz3 hx3 ?_)
        rw [show iw_e (n + 1) = iw_e n + iw_e n by show 2 * iw_e n + _ = _; rw [if_pos hq]; omega]
        exact v3
      refine on_iload_n (pc' := 65) rfl rfl rfl rfl ?_
      refine on_iconst (pc' := 66) (v := 2) rfl rfl li_2 ?_
      refine on_icmp_eq (pc' := 69) (tgt := 98) rfl rfl rfl (fun cq => ?_) (fun cq => ?_)
      · exact skip (Or.inl (t2.mp cq))
      · have n2 : ¬ n = 252 := fun e => cq (t2.mpr e)
        refine on_iload_n (pc' := 70) rfl rfl rfl rfl ?_
        refine on_iconst (pc' := 71) (v := 4) rfl rfl li_4 ?_
        refine on_icmp_eq (pc' := 74) (tgt := 98) rfl rfl rfl (fun cq => ?_) (fun cq => ?_)
        · exact skip (Or.inr (t4.mp cq))
        · have n4 : ¬ n = 250 := fun e => cq (t4.mpr e)
          first | refine on_aload_n (pc' := 75) rfl rfl rfl rfl ?_ | refine on_aload_nQ (pc' := 75) rfl rfl rfl rfl ?_
          first | refine on_aload_n (pc' := 76) rfl rfl rfl rfl ?_ | refine on_aload_nQ (pc' := 76) rfl rfl rfl rfl ?_
          apply on_get (pc' := 79) rfl rfl fl_M_115
          · repeat (first | assumption | exact on_up_eq _ _ _ | refine (on_up_ne (by omega)).trans ?_)
          · rfl
          first | refine on_aload_n (pc' := 80) rfl rfl rfl rfl ?_ | refine on_aload_nQ (pc' := 80) rfl rfl rfl rfl ?_
          apply on_get (pc' := 83) rfl rfl fl_M_118
          · repeat (first | assumption | exact on_up_eq _ _ _ | refine (on_up_ne (by omega)).trans ?_)
          · rfl
          first | refine on_aload_n (pc' := 84) rfl rfl rfl rfl ?_ | refine on_aload_nQ (pc' := 84) rfl rfl rfl rfl ?_
          refine mc_mul (pc' := 87) 9 10 2 S3 (by decide) (by decide) (by decide) v3 hz3 rfl rfl cw_M_invertParts_187 (fun c4 h4 S4 v4 e4 r4 => ?_)
          clear s
          have s := S4.1
          have hz4 : mr (c4 2) z := by rw [e4 2 (by decide)]; exact hz3
          have hx4 : mr (c4 1) w := by rw [e4 1 (by decide)]; exact hx3
          first | refine on_aload_n (pc' := 88) rfl rfl rfl rfl ?_ | refine on_aload_nQ (pc' := 88) rfl rfl rfl rfl ?_
          apply on_get (pc' := 91) rfl rfl fl_M_118
          · repeat (first | assumption | exact on_up_eq _ _ _ | refine (on_up_ne (by omega)).trans ?_)
          · rfl
          first | refine on_aload_n (pc' := 92) rfl rfl rfl rfl ?_ | refine on_aload_nQ (pc' := 92) rfl rfl rfl rfl ?_
          apply on_get (pc' := 95) rfl rfl fl_M_115
          · repeat (first | assumption | exact on_up_eq _ _ _ | refine (on_up_ne (by omega)).trans ?_)
          · rfl
          refine mc_cpy (pc' := 98) 10 9 S4 (by decide) (by decide) (by decide) v4 rfl rfl cw_M_invertParts_191 (fun c5 h5 S5 v5 e5 r5 => ?_)
          refine on_iinc (pc' := 101) rfl rfl rfl rfl ?_
          refine on_goto (tgt := 33) rfl rfl ?_
          refine on_relv (l := [(0, .ref o), (1, .ref (o + 34)), (2, .ref (o + 31)), (3, .int (ti_k (n + 1)))]) ⟨rfl, rfl, rfl, congrArg some (congrArg Value.int (ti_k_s (by omega))), trivial⟩ (ih (n + 1) c5 h5 (by omega) S5 ((hs3.trans r4).trans r5) (by rw [e5 2 (by decide)]; exact hz4) (by rw [e5 1 (by decide)]; exact hx4) ?_)
          rw [show iw_e (n + 1) = iw_e n + iw_e n + 1 by show 2 * iw_e n + _ = _; rw [if_neg (by omega)]; omega, Int.pow_succ]
          exact v5
set_option maxHeartbeats 4000000 in
/-- invertParts of fz2 into fa -/
theorem c_M_invertParts {z w : Int} (hS : mc_S o x3 c h) (hz : mr (c 2) z) (hx : mr (c 1) w) :
    on_Ct G M_M_invertParts [.ref o, .ref (o + 34), .ref (o + 31)] h sz 0 0 (fun r h2 zz => r = none ∧ zz = sz ∧ ∃ c2, mc_S o x3 c2 h2 ∧ on_sm (o + 29) (o + 41) h h2 ∧ mr (c2 1) w ∧ mr (c2 5) (z ^ cv_E)) := by
  refine on_Ct.of (by decide) v_M_invertParts (Nat.le_of_ble_eq_true rfl) ?_
  refine on_iconst (pc' := 1) (v := 0) rfl rfl li_0 ?_
  refine on_istore_n (pc' := 2) rfl rfl rfl (by decide) ?_
  have s10 : h (o + 39) = some (on_al 1 17 (c 10)) := hS.2.1 10 (by decide)
  have := mi_1 (G := G) (sz := sz) (bc := 0) (bs := 0) (Q := fun r h2 zz => r = none ∧ zz = sz ∧ ∃ c2, mc_S o x3 c2 h2 ∧ on_sm (o + 29) (o + 41) h h2 ∧ mr (c2 1) w ∧ mr (c2 5) (z ^ cv_E)) hS.1 ?_ 17 0 (c 10) rfl (fun e => absurd e (by omega)) (fun j h1 hj => absurd hj (by omega))
  · rw [on_up_self s10] at this
    exact on_relv (l := [(0, .ref o), (1, .ref (o + 34)), (2, .ref (o + 31)), (3, .int (nI 0))]) ⟨rfl, rfl, rfl, rfl, trivial⟩ this
  · intro T h0 hT
    refine on_sipush (pc' := 32) (v := 254) rfl rfl ls_254 ?_
    refine on_istore_n (pc' := 33) rfl rfl rfl (by decide) ?_
    refine on_relv (l := [(0, .ref o), (1, .ref (o + 34)), (2, .ref (o + 31)), (3, .int (ti_k 0))]) ⟨rfl, rfl, rfl, rfl, trivial⟩ (mi_2 (h := h) (z := z) (w := w) (fun c2 h2 S2 t2 x2 b2 => ?_) 255 0 (va_up c 10 T) _ rfl (mc_S_up (kr := 10) hS (by decide)) (on_sm.rf.up (by omega) (by omega)) hz hx ?_)
    · have s := S2.1
      first | refine on_aload_n (pc' := 105) rfl rfl rfl rfl ?_ | refine on_aload_nQ (pc' := 105) rfl rfl rfl rfl ?_
      first | refine on_aload_n (pc' := 106) rfl rfl rfl rfl ?_ | refine on_aload_nQ (pc' := 106) rfl rfl rfl rfl ?_
      apply on_get (pc' := 109) rfl rfl fl_M_118
      · repeat (first | assumption | exact on_up_eq _ _ _ | refine (on_up_ne (by omega)).trans ?_)
      · rfl
      refine mc_cpy (pc' := 112) 5 10 S2 (by decide) (by decide) (by decide) b2 rfl rfl cw_M_invertParts_191 (fun c3 h3 S3 v3 e3 r3 => ?_)
      rw [iw_e255] at v3
      refine on_vreturn rfl rfl ?_
      exact ⟨rfl, rfl, c3, S3, t2.trans r3, by rw [e3 1 (by decide)]; exact x2, v3⟩
    · show mr T (z ^ 0)
      rw [Int.pow_zero]
      exact mr_k 1 (by decide) h0 hT
end MIN
