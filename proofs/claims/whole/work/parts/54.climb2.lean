section CL2
variable {G : on_G} {o sz bc bs : Nat} {h : on_H} {Q : Option Value → on_H → Nat → Prop} {c : Nat → Nat → Int64}
set_option maxHeartbeats 4000000 in
theorem cu_cl2A (k : ∀ c2 h2, cu_S o c2 h2 → on_sm o (o + 11) h h2 → (∀ k, k ≠ 3 → k ≠ 4 → k ≠ 7 → c2 k = c k) → (∀ i, i < 10 → c2 3 i = c 8 i + c 7 i) → (∀ i, i < 10 → c2 4 i = c 8 i - c 7 i) → (∀ i, i < 10 → c2 7 i = c 5 i - c 6 i) → on_E G M_Curve_climb 223 (on_l [(0, .ref o), (1, .ref (o + 2)), (2, .ref (o + 3)), (3, .ref (o + 4)), (4, .ref (o + 5))]) [] h2 sz bc bs Q) :
    ∀ (m i : Nat) (c1 : Nat → Nat → Int64) (h1 : on_H), i + m = 10 → cu_S o c1 h1 → on_sm o (o + 11) h h1 → (∀ k, k ≠ 3 → k ≠ 4 → k ≠ 7 → c1 k = c k) → (∀ j, j < i → c1 3 j = c 8 j + c 7 j) → (∀ j, j < i → c1 4 j = c 8 j - c 7 j) → (∀ j, j < i → c1 7 j = c 5 j - c 6 j) → (∀ j, i ≤ j → j < 10 → c1 7 j = c 7 j) → on_E G M_Curve_climb 149 (on_l [(0, .ref o), (1, .ref (o + 2)), (2, .ref (o + 3)), (3, .ref (o + 4)), (4, .ref (o + 5)), (5, .int (nI i))]) [] h1 sz bc bs Q := by
  intro m
  induction m with
  | zero =>
    intro i c1 h1 hi hS hs ho v1 v2 v3 v4
    rw [show i = 10 by omega] at v1 v2 v3
    refine on_iload (pc' := 151) rfl rfl rfl ?_
    refine on_bipush (pc' := 153) (v := 10) rfl rfl lb_10 ?_
    refine on_icmp_ge (pc' := 156) (tgt := 223) rfl rfl rfl (fun cq => ?_) (fun cq => ?_)
    · exact on_relv (l := [(0, .ref o), (1, .ref (o + 2)), (2, .ref (o + 3)), (3, .ref (o + 4)), (4, .ref (o + 5))]) ⟨rfl, rfl, rfl, rfl, rfl, trivial⟩ (k c1 h1 hS hs ho v1 v2 v3)
    · exact absurd (nI_le (a := 10) (by omega) (by omega)) cq
  | succ m ih =>
    intro i c1 h1 hi hS hs ho v1 v2 v3 v4
    obtain ⟨s, s0, s1, s2, s3, s4, s5, s6, s7, s8, s9⟩ := id hS
    refine on_iload (pc' := 151) rfl rfl rfl ?_
    refine on_bipush (pc' := 153) (v := 10) rfl rfl lb_10 ?_
    refine on_icmp_ge (pc' := 156) (tgt := 223) rfl rfl rfl (fun cq => ?_) (fun cq => ?_)
    · exact absurd cq (nI_ge (b := 10) (by omega) (by omega))
    · first | refine on_aload_n (pc' := 157) rfl rfl rfl rfl ?_ | refine on_aload_nQ (pc' := 157) rfl rfl rfl rfl ?_
      refine on_iload (pc' := 159) rfl rfl rfl ?_
      first | refine on_aload_n (pc' := 160) rfl rfl rfl rfl ?_ | refine on_aload_nQ (pc' := 160) rfl rfl rfl rfl ?_
      apply on_get (pc' := 163) rfl rfl fl_Curve_36
      · repeat (first | assumption | exact on_up_eq _ _ _ | refine (on_up_ne (by omega)).trans ?_)
      · rfl
      refine on_iload (pc' := 165) rfl rfl rfl ?_
      apply on_laloadK (pc' := 166) (t := 1) rfl rfl
      · repeat (first | assumption | exact on_up_eq _ _ _ | refine (on_up_ne (by omega)).trans ?_)
      · rfl
      · first | assumption | exact on_lit _ | rfl
      · first | assumption | omega | decide
      first | refine on_aload_n (pc' := 167) rfl rfl rfl rfl ?_ | refine on_aload_nQ (pc' := 167) rfl rfl rfl rfl ?_
      apply on_get (pc' := 170) rfl rfl fl_Curve_33
      · repeat (first | assumption | exact on_up_eq _ _ _ | refine (on_up_ne (by omega)).trans ?_)
      · rfl
      refine on_iload (pc' := 172) rfl rfl rfl ?_
      apply on_laloadK (pc' := 173) (t := 1) rfl rfl
      · repeat (first | assumption | exact on_up_eq _ _ _ | refine (on_up_ne (by omega)).trans ?_)
      · rfl
      · first | assumption | exact on_lit _ | rfl
      · first | assumption | omega | decide
      refine on_ladd (pc' := 174) rfl rfl ?_
      apply on_lastoreK (pc' := 175) (t := 1) rfl rfl
      · repeat (first | assumption | exact on_up_eq _ _ _ | refine (on_up_ne (by omega)).trans ?_)
      · rfl
      · first | assumption | exact on_lit _ | rfl
      · first | assumption | omega | decide
      first | refine on_aload (pc' := 177) rfl rfl rfl ?_ | refine on_aloadQ (pc' := 177) rfl rfl rfl ?_
      refine on_iload (pc' := 179) rfl rfl rfl ?_
      first | refine on_aload_n (pc' := 180) rfl rfl rfl rfl ?_ | refine on_aload_nQ (pc' := 180) rfl rfl rfl rfl ?_
      apply on_get (pc' := 183) rfl rfl fl_Curve_36
      · repeat (first | assumption | exact on_up_eq _ _ _ | refine (on_up_ne (by omega)).trans ?_)
      · rfl
      refine on_iload (pc' := 185) rfl rfl rfl ?_
      apply on_laloadK (pc' := 186) (t := 1) rfl rfl
      · repeat (first | assumption | exact on_up_eq _ _ _ | refine (on_up_ne (by omega)).trans ?_)
      · rfl
      · first | assumption | exact on_lit _ | rfl
      · first | assumption | omega | decide
      first | refine on_aload_n (pc' := 187) rfl rfl rfl rfl ?_ | refine on_aload_nQ (pc' := 187) rfl rfl rfl rfl ?_
      apply on_get (pc' := 190) rfl rfl fl_Curve_33
      · repeat (first | assumption | exact on_up_eq _ _ _ | refine (on_up_ne (by omega)).trans ?_)
      · rfl
      refine on_iload (pc' := 192) rfl rfl rfl ?_
      apply on_laloadK (pc' := 193) (t := 1) rfl rfl
      · repeat (first | assumption | exact on_up_eq _ _ _ | refine (on_up_ne (by omega)).trans ?_)
      · rfl
      · first | assumption | exact on_lit _ | rfl
      · first | assumption | omega | decide
      refine on_lsub (pc' := 194) rfl rfl ?_
      apply on_lastoreK (pc' := 195) (t := 1) rfl rfl
      · repeat (first | assumption | exact on_up_eq _ _ _ | refine (on_up_ne (by omega)).trans ?_)
      · rfl
      · first | assumption | exact on_lit _ | rfl
      · first | assumption | omega | decide
      first | refine on_aload_n (pc' := 196) rfl rfl rfl rfl ?_ | refine on_aload_nQ (pc' := 196) rfl rfl rfl rfl ?_
      apply on_get (pc' := 199) rfl rfl fl_Curve_33
      · repeat (first | assumption | exact on_up_eq _ _ _ | refine (on_up_ne (by omega)).trans ?_)
      · rfl
      refine on_iload (pc' := 201) rfl rfl rfl ?_
      first | refine on_aload_n (pc' := 202) rfl rfl rfl rfl ?_ | refine on_aload_nQ (pc' := 202) rfl rfl rfl rfl ?_
      apply on_get (pc' := 205) rfl rfl fl_Curve_27
      · repeat (first | assumption | exact on_up_eq _ _ _ | refine (on_up_ne (by omega)).trans ?_)
      · rfl
      refine on_iload (pc' := 207) rfl rfl rfl ?_
      apply on_laloadK (pc' := 208) (t := 1) rfl rfl
      · repeat (first | assumption | exact on_up_eq _ _ _ | refine (on_up_ne (by omega)).trans ?_)
      · rfl
      · first | assumption | exact on_lit _ | rfl
      · first | assumption | omega | decide
      first | refine on_aload_n (pc' := 209) rfl rfl rfl rfl ?_ | refine on_aload_nQ (pc' := 209) rfl rfl rfl rfl ?_
      apply on_get (pc' := 212) rfl rfl fl_Curve_30
      · repeat (first | assumption | exact on_up_eq _ _ _ | refine (on_up_ne (by omega)).trans ?_)
      · rfl
      refine on_iload (pc' := 214) rfl rfl rfl ?_
      apply on_laloadK (pc' := 215) (t := 1) rfl rfl
      · repeat (first | assumption | exact on_up_eq _ _ _ | refine (on_up_ne (by omega)).trans ?_)
      · rfl
      · first | assumption | exact on_lit _ | rfl
      · first | assumption | omega | decide
      refine on_lsub (pc' := 216) rfl rfl ?_
      apply on_lastoreK (pc' := 217) (t := 1) rfl rfl
      · repeat (first | assumption | exact on_up_eq _ _ _ | refine (on_up_ne (by omega)).trans ?_)
      · rfl
      · first | assumption | exact on_lit _ | rfl
      · first | assumption | omega | decide
      refine on_iinc1 (pc' := 220) rfl rfl rfl ?_
      refine on_goto (tgt := 149) rfl rfl ?_
      rw [ho 8 (by decide) (by decide) (by decide), ho 5 (by decide) (by decide) (by decide), ho 6 (by decide) (by decide) (by decide), v4 i (Nat.le_refl i) (by omega)]
      refine on_relv (l := [(0, .ref o), (1, .ref (o + 2)), (2, .ref (o + 3)), (3, .ref (o + 4)), (4, .ref (o + 5)), (5, .int (nI (i + 1)))]) ⟨rfl, rfl, rfl, rfl, rfl, congrArg some (congrArg Value.int (nI_1 i)), trivial⟩ (ih (i + 1) (va_up (va_up (va_up c1 3 (vp_updL (c1 3) i (c 8 i + c 7 i))) 4 (vp_updL (c1 4) i (c 8 i - c 7 i))) 7 (vp_updL (c1 7) i (c 5 i - c 6 i))) _ (by omega) (cu_S_up (kr := 7) (cu_S_up (kr := 4) (cu_S_up (kr := 3) hS (by decide)) (by decide)) (by decide)) (((hs.up (by omega) (by omega)).up (by omega) (by omega)).up (by omega) (by omega)) (fun k h5 h6 h7 => ?_) (fun j hj => ?_) (fun j hj => ?_) (fun j hj => ?_) (fun j hj hj2 => ?_))
      · rw [← ho k h5 h6 h7]
        simp [va_up, h5, h6, h7]
      · show vp_updL (c1 3) i (c 8 i + c 7 i) j = c 8 j + c 7 j
        by_cases hji : j = i
        · rw [hji, pk_uLs]
        · rw [pk_uLn hji]
          exact v1 j (by omega)
      · show vp_updL (c1 4) i (c 8 i - c 7 i) j = c 8 j - c 7 j
        by_cases hji : j = i
        · rw [hji, pk_uLs]
        · rw [pk_uLn hji]
          exact v2 j (by omega)
      · show vp_updL (c1 7) i (c 5 i - c 6 i) j = c 5 j - c 6 j
        by_cases hji : j = i
        · rw [hji, pk_uLs]
        · rw [pk_uLn hji]
          exact v3 j (by omega)
      · show vp_updL (c1 7) i (c 5 i - c 6 i) j = c 7 j
        rw [pk_uLn (by omega)]
        exact v4 j (by omega) hj2
set_option maxHeartbeats 4000000 in
theorem cu_cl3A (k : ∀ c2 h2, cu_S o c2 h2 → on_sm o (o + 11) h h2 → (∀ k, k ≠ 8 → c2 k = c k) → (∀ i, i < 10 → c2 8 i = c 8 i + c 5 i) → on_E G M_Curve_climb 314 (on_l [(0, .ref o), (1, .ref (o + 2)), (2, .ref (o + 3)), (3, .ref (o + 4)), (4, .ref (o + 5))]) [] h2 sz bc bs Q) :
    ∀ (m i : Nat) (c1 : Nat → Nat → Int64) (h1 : on_H), i + m = 10 → cu_S o c1 h1 → on_sm o (o + 11) h h1 → (∀ k, k ≠ 8 → c1 k = c k) → (∀ j, j < i → c1 8 j = c 8 j + c 5 j) → (∀ j, i ≤ j → j < 10 → c1 8 j = c 8 j) → on_E G M_Curve_climb 284 (on_l [(0, .ref o), (1, .ref (o + 2)), (2, .ref (o + 3)), (3, .ref (o + 4)), (4, .ref (o + 5)), (5, .int (nI i))]) [] h1 sz bc bs Q := by
  intro m
  induction m with
  | zero =>
    intro i c1 h1 hi hS hs ho v1 v4
    rw [show i = 10 by omega] at v1
    refine on_iload (pc' := 286) rfl rfl rfl ?_
    refine on_bipush (pc' := 288) (v := 10) rfl rfl lb_10 ?_
    refine on_icmp_ge (pc' := 291) (tgt := 314) rfl rfl rfl (fun cq => ?_) (fun cq => ?_)
    · exact on_relv (l := [(0, .ref o), (1, .ref (o + 2)), (2, .ref (o + 3)), (3, .ref (o + 4)), (4, .ref (o + 5))]) ⟨rfl, rfl, rfl, rfl, rfl, trivial⟩ (k c1 h1 hS hs ho v1)
    · exact absurd (nI_le (a := 10) (by omega) (by omega)) cq
  | succ m ih =>
    intro i c1 h1 hi hS hs ho v1 v4
    obtain ⟨s, s0, s1, s2, s3, s4, s5, s6, s7, s8, s9⟩ := id hS
    refine on_iload (pc' := 286) rfl rfl rfl ?_
    refine on_bipush (pc' := 288) (v := 10) rfl rfl lb_10 ?_
    refine on_icmp_ge (pc' := 291) (tgt := 314) rfl rfl rfl (fun cq => ?_) (fun cq => ?_)
    · exact absurd cq (nI_ge (b := 10) (by omega) (by omega))
    · first | refine on_aload_n (pc' := 292) rfl rfl rfl rfl ?_ | refine on_aload_nQ (pc' := 292) rfl rfl rfl rfl ?_
      apply on_get (pc' := 295) rfl rfl fl_Curve_36
      · repeat (first | assumption | exact on_up_eq _ _ _ | refine (on_up_ne (by omega)).trans ?_)
      · rfl
      refine on_iload (pc' := 297) rfl rfl rfl ?_
      first | refine on_dup2_11 (pc' := 298) rfl rfl rfl rfl ?_ | refine on_dup2_2 (pc' := 298) rfl rfl rfl ?_
      apply on_laloadK (pc' := 299) (t := 1) rfl rfl
      · repeat (first | assumption | exact on_up_eq _ _ _ | refine (on_up_ne (by omega)).trans ?_)
      · rfl
      · first | assumption | exact on_lit _ | rfl
      · first | assumption | omega | decide
      first | refine on_aload_n (pc' := 300) rfl rfl rfl rfl ?_ | refine on_aload_nQ (pc' := 300) rfl rfl rfl rfl ?_
      apply on_get (pc' := 303) rfl rfl fl_Curve_27
      · repeat (first | assumption | exact on_up_eq _ _ _ | refine (on_up_ne (by omega)).trans ?_)
      · rfl
      refine on_iload (pc' := 305) rfl rfl rfl ?_
      apply on_laloadK (pc' := 306) (t := 1) rfl rfl
      · repeat (first | assumption | exact on_up_eq _ _ _ | refine (on_up_ne (by omega)).trans ?_)
      · rfl
      · first | assumption | exact on_lit _ | rfl
      · first | assumption | omega | decide
      refine on_ladd (pc' := 307) rfl rfl ?_
      apply on_lastoreK (pc' := 308) (t := 1) rfl rfl
      · repeat (first | assumption | exact on_up_eq _ _ _ | refine (on_up_ne (by omega)).trans ?_)
      · rfl
      · first | assumption | exact on_lit _ | rfl
      · first | assumption | omega | decide
      refine on_iinc1 (pc' := 311) rfl rfl rfl ?_
      refine on_goto (tgt := 284) rfl rfl ?_
      rw [ho 5 (by decide), v4 i (Nat.le_refl i) (by omega)]
      refine on_relv (l := [(0, .ref o), (1, .ref (o + 2)), (2, .ref (o + 3)), (3, .ref (o + 4)), (4, .ref (o + 5)), (5, .int (nI (i + 1)))]) ⟨rfl, rfl, rfl, rfl, rfl, congrArg some (congrArg Value.int (nI_1 i)), trivial⟩ (ih (i + 1) (va_up c1 8 (vp_updL (c1 8) i (c 8 i + c 5 i))) _ (by omega) (cu_S_up (kr := 8) hS (by decide)) (hs.up (by omega) (by omega)) (fun k h5 => ?_) (fun j hj => ?_) (fun j hj hj2 => ?_))
      · rw [← ho k h5]
        simp [va_up, h5]
      · show vp_updL (c1 8) i (c 8 i + c 5 i) j = c 8 j + c 5 j
        by_cases hji : j = i
        · rw [hji, pk_uLs]
        · rw [pk_uLn hji]
          exact v1 j (by omega)
      · show vp_updL (c1 8) i (c 8 i + c 5 i) j = c 8 j
        rw [pk_uLn (by omega)]
        exact v4 j (by omega) hj2
set_option maxHeartbeats 8000000 in
/-- Curve.climb -/
theorem c_Curve_climbA {x p pz q qz : Int} (hS : cu_S o c h) (f0 : rp (c 0) x) (fp : rp (c 1) p) (fpz : rp (c 2) pz) (fq : rp (c 3) q) (fqz : rp (c 4) qz) (ff : ip (c 9) 121665) :
    on_Ct G M_Curve_climb [.ref o, .ref (o + 2), .ref (o + 3), .ref (o + 4), .ref (o + 5)] h sz 0 0 (fun r h2 z => r = none ∧ z = sz ∧ ∃ c2, cu_S o c2 h2 ∧ on_sm o (o + 11) h h2 ∧ rp (c2 1) ((((p) + (pz)) * ((p) + (pz))) * (((p) - (pz)) * ((p) - (pz)))) ∧ rp (c2 2) (((((p) + (pz)) * ((p) + (pz))) - (((p) - (pz)) * ((p) - (pz)))) * ((((((p) + (pz)) * ((p) + (pz))) - (((p) - (pz)) * ((p) - (pz)))) * (121665)) + (((p) + (pz)) * ((p) + (pz))))) ∧ rp (c2 3) (((((q) - (qz)) * ((p) + (pz))) + (((q) + (qz)) * ((p) - (pz)))) * ((((q) - (qz)) * ((p) + (pz))) + (((q) + (qz)) * ((p) - (pz))))) ∧ rp (c2 4) ((((((q) - (qz)) * ((p) + (pz))) - (((q) + (qz)) * ((p) - (pz)))) * ((((q) - (qz)) * ((p) + (pz))) - (((q) + (qz)) * ((p) - (pz))))) * (x)) ∧ ∀ k, k = 0 ∨ k = 9 → c2 k = c k) := by
  refine on_Ct.of (by decide) v_Curve_climb (Nat.le_of_ble_eq_true rfl) ?_
  have S0 := hS
  refine on_iconst (pc' := 1) (v := 0) rfl rfl li_0 ?_
  refine on_istore (pc' := 3) rfl rfl (by decide) ?_
  refine on_relv (l := [(0, .ref o), (1, .ref (o + 2)), (2, .ref (o + 3)), (3, .ref (o + 4)), (4, .ref (o + 5)), (5, .int (nI 0))]) ⟨rfl, rfl, rfl, rfl, rfl, rfl, trivial⟩ (cu_cl1A (fun c1 h1 S1 t1 e1 w5 w6 w7 w8 => ?_) 10 0 c h rfl hS on_sm.rf (fun _ _ _ _ _ => rfl) (fun _ hj => absurd hj (Nat.not_lt_zero _)) (fun _ hj => absurd hj (Nat.not_lt_zero _)) (fun _ hj => absurd hj (Nat.not_lt_zero _)) (fun _ hj => absurd hj (Nat.not_lt_zero _)))
  have g1_0 : rp (c1 0) (x) := by rw [e1 0 (by decide) (by decide) (by decide) (by decide)]; exact f0
  have g1_1 : rp (c1 1) (p) := by rw [e1 1 (by decide) (by decide) (by decide) (by decide)]; exact fp
  have g1_2 : rp (c1 2) (pz) := by rw [e1 2 (by decide) (by decide) (by decide) (by decide)]; exact fpz
  have g1_3 : rp (c1 3) (q) := by rw [e1 3 (by decide) (by decide) (by decide) (by decide)]; exact fq
  have g1_4 : rp (c1 4) (qz) := by rw [e1 4 (by decide) (by decide) (by decide) (by decide)]; exact fqz
  have g1_9 : ip (c1 9) (121665) := by rw [e1 9 (by decide) (by decide) (by decide) (by decide)]; exact ff
  have u5 : ip (c1 5) ((p) + (pz)) := rp_add fp fpz w5
  have u6 : ip (c1 6) ((p) - (pz)) := rp_sub fp fpz w6
  have u7 : ip (c1 7) ((q) + (qz)) := rp_add fq fqz w7
  have u8 : ip (c1 8) ((q) - (qz)) := rp_sub fq fqz w8
  obtain ⟨s, s0, s1, s2, s3, s4, s5, s6, s7, s8, s9⟩ := id S1
  first | refine on_aload_n (pc' := 83) rfl rfl rfl rfl ?_ | refine on_aload_nQ (pc' := 83) rfl rfl rfl rfl ?_
  first | refine on_aload_n (pc' := 84) rfl rfl rfl rfl ?_ | refine on_aload_nQ (pc' := 84) rfl rfl rfl rfl ?_
  apply on_get (pc' := 87) rfl rfl fl_Curve_36
  · repeat (first | assumption | exact on_up_eq _ _ _ | refine (on_up_ne (by omega)).trans ?_)
  · rfl
  first | refine on_aload_n (pc' := 88) rfl rfl rfl rfl ?_ | refine on_aload_nQ (pc' := 88) rfl rfl rfl rfl ?_
  apply on_get (pc' := 91) rfl rfl fl_Curve_36
  · repeat (first | assumption | exact on_up_eq _ _ _ | refine (on_up_ne (by omega)).trans ?_)
  · rfl
  first | refine on_aload_n (pc' := 92) rfl rfl rfl rfl ?_ | refine on_aload_nQ (pc' := 92) rfl rfl rfl rfl ?_
  apply on_get (pc' := 95) rfl rfl fl_Curve_27
  · repeat (first | assumption | exact on_up_eq _ _ _ | refine (on_up_ne (by omega)).trans ?_)
  · rfl
  refine on_mul (pc' := 98) 8 8 5 S1 (by decide) (by decide) (by decide) u8 u5 rfl rfl cw_Curve_climb_72 (fun c2 h2 S2 v2 e2 t2 => ?_)
  clear s s0 s1 s2 s3 s4 s5 s6 s7 s8 s9
  have g2_0 : rp (c2 0) (x) := by rw [e2 0 (by decide)]; exact g1_0
  have g2_1 : rp (c2 1) (p) := by rw [e2 1 (by decide)]; exact g1_1
  have g2_2 : rp (c2 2) (pz) := by rw [e2 2 (by decide)]; exact g1_2
  have g2_3 : rp (c2 3) (q) := by rw [e2 3 (by decide)]; exact g1_3
  have g2_4 : rp (c2 4) (qz) := by rw [e2 4 (by decide)]; exact g1_4
  have g2_9 : ip (c2 9) (121665) := by rw [e2 9 (by decide)]; exact g1_9
  have g2_5 : ip (c2 5) ((p) + (pz)) := by rw [e2 5 (by decide)]; exact u5
  have g2_6 : ip (c2 6) ((p) - (pz)) := by rw [e2 6 (by decide)]; exact u6
  have g2_7 : ip (c2 7) ((q) + (qz)) := by rw [e2 7 (by decide)]; exact u7
  obtain ⟨s, s0, s1, s2, s3, s4, s5, s6, s7, s8, s9⟩ := id S2
  first | refine on_aload_n (pc' := 99) rfl rfl rfl rfl ?_ | refine on_aload_nQ (pc' := 99) rfl rfl rfl rfl ?_
  first | refine on_aload_n (pc' := 100) rfl rfl rfl rfl ?_ | refine on_aload_nQ (pc' := 100) rfl rfl rfl rfl ?_
  apply on_get (pc' := 103) rfl rfl fl_Curve_33
  · repeat (first | assumption | exact on_up_eq _ _ _ | refine (on_up_ne (by omega)).trans ?_)
  · rfl
  first | refine on_aload_n (pc' := 104) rfl rfl rfl rfl ?_ | refine on_aload_nQ (pc' := 104) rfl rfl rfl rfl ?_
  apply on_get (pc' := 107) rfl rfl fl_Curve_33
  · repeat (first | assumption | exact on_up_eq _ _ _ | refine (on_up_ne (by omega)).trans ?_)
  · rfl
  first | refine on_aload_n (pc' := 108) rfl rfl rfl rfl ?_ | refine on_aload_nQ (pc' := 108) rfl rfl rfl rfl ?_
  apply on_get (pc' := 111) rfl rfl fl_Curve_30
  · repeat (first | assumption | exact on_up_eq _ _ _ | refine (on_up_ne (by omega)).trans ?_)
  · rfl
  refine on_mul (pc' := 114) 7 7 6 S2 (by decide) (by decide) (by decide) g2_7 g2_6 rfl rfl cw_Curve_climb_72 (fun c3 h3 S3 v3 e3 t3 => ?_)
  clear s s0 s1 s2 s3 s4 s5 s6 s7 s8 s9
  have g3_0 : rp (c3 0) (x) := by rw [e3 0 (by decide)]; exact g2_0
  have g3_1 : rp (c3 1) (p) := by rw [e3 1 (by decide)]; exact g2_1
  have g3_2 : rp (c3 2) (pz) := by rw [e3 2 (by decide)]; exact g2_2
  have g3_3 : rp (c3 3) (q) := by rw [e3 3 (by decide)]; exact g2_3
  have g3_4 : rp (c3 4) (qz) := by rw [e3 4 (by decide)]; exact g2_4
  have g3_9 : ip (c3 9) (121665) := by rw [e3 9 (by decide)]; exact g2_9
  have g3_5 : ip (c3 5) ((p) + (pz)) := by rw [e3 5 (by decide)]; exact g2_5
  have g3_6 : ip (c3 6) ((p) - (pz)) := by rw [e3 6 (by decide)]; exact g2_6
  have g3_8 : rp (c3 8) (((q) - (qz)) * ((p) + (pz))) := by rw [e3 8 (by decide)]; exact v2
  obtain ⟨s, s0, s1, s2, s3, s4, s5, s6, s7, s8, s9⟩ := id S3
  first | refine on_aload_n (pc' := 115) rfl rfl rfl rfl ?_ | refine on_aload_nQ (pc' := 115) rfl rfl rfl rfl ?_
  first | refine on_aload_n (pc' := 116) rfl rfl rfl rfl ?_ | refine on_aload_nQ (pc' := 116) rfl rfl rfl rfl ?_
  apply on_get (pc' := 119) rfl rfl fl_Curve_27
  · repeat (first | assumption | exact on_up_eq _ _ _ | refine (on_up_ne (by omega)).trans ?_)
  · rfl
  first | refine on_aload_n (pc' := 120) rfl rfl rfl rfl ?_ | refine on_aload_nQ (pc' := 120) rfl rfl rfl rfl ?_
  apply on_get (pc' := 123) rfl rfl fl_Curve_27
  · repeat (first | assumption | exact on_up_eq _ _ _ | refine (on_up_ne (by omega)).trans ?_)
  · rfl
  first | refine on_aload_n (pc' := 124) rfl rfl rfl rfl ?_ | refine on_aload_nQ (pc' := 124) rfl rfl rfl rfl ?_
  apply on_get (pc' := 127) rfl rfl fl_Curve_27
  · repeat (first | assumption | exact on_up_eq _ _ _ | refine (on_up_ne (by omega)).trans ?_)
  · rfl
  refine on_mul (pc' := 130) 5 5 5 S3 (by decide) (by decide) (by decide) g3_5 g3_5 rfl rfl cw_Curve_climb_72 (fun c4 h4 S4 v4 e4 t4 => ?_)
  clear s s0 s1 s2 s3 s4 s5 s6 s7 s8 s9
  have g4_0 : rp (c4 0) (x) := by rw [e4 0 (by decide)]; exact g3_0
  have g4_1 : rp (c4 1) (p) := by rw [e4 1 (by decide)]; exact g3_1
  have g4_2 : rp (c4 2) (pz) := by rw [e4 2 (by decide)]; exact g3_2
  have g4_3 : rp (c4 3) (q) := by rw [e4 3 (by decide)]; exact g3_3
  have g4_4 : rp (c4 4) (qz) := by rw [e4 4 (by decide)]; exact g3_4
  have g4_9 : ip (c4 9) (121665) := by rw [e4 9 (by decide)]; exact g3_9
  have g4_6 : ip (c4 6) ((p) - (pz)) := by rw [e4 6 (by decide)]; exact g3_6
  have g4_8 : rp (c4 8) (((q) - (qz)) * ((p) + (pz))) := by rw [e4 8 (by decide)]; exact g3_8
  have g4_7 : rp (c4 7) (((q) + (qz)) * ((p) - (pz))) := by rw [e4 7 (by decide)]; exact v3
  obtain ⟨s, s0, s1, s2, s3, s4, s5, s6, s7, s8, s9⟩ := id S4
  first | refine on_aload_n (pc' := 131) rfl rfl rfl rfl ?_ | refine on_aload_nQ (pc' := 131) rfl rfl rfl rfl ?_
  first | refine on_aload_n (pc' := 132) rfl rfl rfl rfl ?_ | refine on_aload_nQ (pc' := 132) rfl rfl rfl rfl ?_
  apply on_get (pc' := 135) rfl rfl fl_Curve_30
  · repeat (first | assumption | exact on_up_eq _ _ _ | refine (on_up_ne (by omega)).trans ?_)
  · rfl
  first | refine on_aload_n (pc' := 136) rfl rfl rfl rfl ?_ | refine on_aload_nQ (pc' := 136) rfl rfl rfl rfl ?_
  apply on_get (pc' := 139) rfl rfl fl_Curve_30
  · repeat (first | assumption | exact on_up_eq _ _ _ | refine (on_up_ne (by omega)).trans ?_)
  · rfl
  first | refine on_aload_n (pc' := 140) rfl rfl rfl rfl ?_ | refine on_aload_nQ (pc' := 140) rfl rfl rfl rfl ?_
  apply on_get (pc' := 143) rfl rfl fl_Curve_30
  · repeat (first | assumption | exact on_up_eq _ _ _ | refine (on_up_ne (by omega)).trans ?_)
  · rfl
  refine on_mul (pc' := 146) 6 6 6 S4 (by decide) (by decide) (by decide) g4_6 g4_6 rfl rfl cw_Curve_climb_72 (fun c5 h5 S5 v5 e5 t5 => ?_)
  clear s s0 s1 s2 s3 s4 s5 s6 s7 s8 s9
  have g5_0 : rp (c5 0) (x) := by rw [e5 0 (by decide)]; exact g4_0
  have g5_1 : rp (c5 1) (p) := by rw [e5 1 (by decide)]; exact g4_1
  have g5_2 : rp (c5 2) (pz) := by rw [e5 2 (by decide)]; exact g4_2
  have g5_3 : rp (c5 3) (q) := by rw [e5 3 (by decide)]; exact g4_3
  have g5_4 : rp (c5 4) (qz) := by rw [e5 4 (by decide)]; exact g4_4
  have g5_9 : ip (c5 9) (121665) := by rw [e5 9 (by decide)]; exact g4_9
  have g5_8 : rp (c5 8) (((q) - (qz)) * ((p) + (pz))) := by rw [e5 8 (by decide)]; exact g4_8
  have g5_7 : rp (c5 7) (((q) + (qz)) * ((p) - (pz))) := by rw [e5 7 (by decide)]; exact g4_7
  have g5_5 : rp (c5 5) (((p) + (pz)) * ((p) + (pz))) := by rw [e5 5 (by decide)]; exact v4
  refine on_iconst (pc' := 147) (v := 0) rfl rfl li_0 ?_
  refine on_istore (pc' := 149) rfl rfl (by decide) ?_
  refine on_relv (l := [(0, .ref o), (1, .ref (o + 2)), (2, .ref (o + 3)), (3, .ref (o + 4)), (4, .ref (o + 5)), (5, .int (nI 0))]) ⟨rfl, rfl, rfl, rfl, rfl, rfl, trivial⟩ (cu_cl2A (fun c6 h6 S6 t6 e6 w1 w2 w3 => ?_) 10 0 c5 h5 rfl S5 on_sm.rf (fun _ _ _ _ => rfl) (fun _ hj => absurd hj (Nat.not_lt_zero _)) (fun _ hj => absurd hj (Nat.not_lt_zero _)) (fun _ hj => absurd hj (Nat.not_lt_zero _)) (fun _ _ _ => rfl))
  have g6_0 : rp (c6 0) (x) := by rw [e6 0 (by decide) (by decide) (by decide)]; exact g5_0
  have g6_1 : rp (c6 1) (p) := by rw [e6 1 (by decide) (by decide) (by decide)]; exact g5_1
  have g6_2 : rp (c6 2) (pz) := by rw [e6 2 (by decide) (by decide) (by decide)]; exact g5_2
  have g6_9 : ip (c6 9) (121665) := by rw [e6 9 (by decide) (by decide) (by decide)]; exact g5_9
  have g6_8 : rp (c6 8) (((q) - (qz)) * ((p) + (pz))) := by rw [e6 8 (by decide) (by decide) (by decide)]; exact g5_8
  have g6_5 : rp (c6 5) (((p) + (pz)) * ((p) + (pz))) := by rw [e6 5 (by decide) (by decide) (by decide)]; exact g5_5
  have g6_6 : rp (c6 6) (((p) - (pz)) * ((p) - (pz))) := by rw [e6 6 (by decide) (by decide) (by decide)]; exact v5
  have z3 : ip (c6 3) ((((q) - (qz)) * ((p) + (pz))) + (((q) + (qz)) * ((p) - (pz)))) := rp_add g5_8 g5_7 w1
  have z4 : ip (c6 4) ((((q) - (qz)) * ((p) + (pz))) - (((q) + (qz)) * ((p) - (pz)))) := rp_sub g5_8 g5_7 w2
  have z7 : ip (c6 7) ((((p) + (pz)) * ((p) + (pz))) - (((p) - (pz)) * ((p) - (pz)))) := rp_sub g5_5 v5 w3
  obtain ⟨s, s0, s1, s2, s3, s4, s5, s6, s7, s8, s9⟩ := id S6
  first | refine on_aload_n (pc' := 224) rfl rfl rfl rfl ?_ | refine on_aload_nQ (pc' := 224) rfl rfl rfl rfl ?_
  first | refine on_aload_n (pc' := 225) rfl rfl rfl rfl ?_ | refine on_aload_nQ (pc' := 225) rfl rfl rfl rfl ?_
  first | refine on_aload_n (pc' := 226) rfl rfl rfl rfl ?_ | refine on_aload_nQ (pc' := 226) rfl rfl rfl rfl ?_
  first | refine on_aload_n (pc' := 227) rfl rfl rfl rfl ?_ | refine on_aload_nQ (pc' := 227) rfl rfl rfl rfl ?_
  refine on_mul (pc' := 230) 3 3 3 S6 (by decide) (by decide) (by decide) z3 z3 rfl rfl cw_Curve_climb_72 (fun c7 h7 S7 v7 e7 t7 => ?_)
  clear s s0 s1 s2 s3 s4 s5 s6 s7 s8 s9
  have g7_0 : rp (c7 0) (x) := by rw [e7 0 (by decide)]; exact g6_0
  have g7_1 : rp (c7 1) (p) := by rw [e7 1 (by decide)]; exact g6_1
  have g7_2 : rp (c7 2) (pz) := by rw [e7 2 (by decide)]; exact g6_2
  have g7_9 : ip (c7 9) (121665) := by rw [e7 9 (by decide)]; exact g6_9
  have g7_8 : rp (c7 8) (((q) - (qz)) * ((p) + (pz))) := by rw [e7 8 (by decide)]; exact g6_8
  have g7_5 : rp (c7 5) (((p) + (pz)) * ((p) + (pz))) := by rw [e7 5 (by decide)]; exact g6_5
  have g7_6 : rp (c7 6) (((p) - (pz)) * ((p) - (pz))) := by rw [e7 6 (by decide)]; exact g6_6
  have g7_4 : ip (c7 4) ((((q) - (qz)) * ((p) + (pz))) - (((q) + (qz)) * ((p) - (pz)))) := by rw [e7 4 (by decide)]; exact z4
  have g7_7 : ip (c7 7) ((((p) + (pz)) * ((p) + (pz))) - (((p) - (pz)) * ((p) - (pz)))) := by rw [e7 7 (by decide)]; exact z7
  obtain ⟨s, s0, s1, s2, s3, s4, s5, s6, s7, s8, s9⟩ := id S7
  first | refine on_aload_n (pc' := 231) rfl rfl rfl rfl ?_ | refine on_aload_nQ (pc' := 231) rfl rfl rfl rfl ?_
  first | refine on_aload (pc' := 233) rfl rfl rfl ?_ | refine on_aloadQ (pc' := 233) rfl rfl rfl ?_
  first | refine on_aload (pc' := 235) rfl rfl rfl ?_ | refine on_aloadQ (pc' := 235) rfl rfl rfl ?_
  first | refine on_aload (pc' := 237) rfl rfl rfl ?_ | refine on_aloadQ (pc' := 237) rfl rfl rfl ?_
  refine on_mul (pc' := 240) 4 4 4 S7 (by decide) (by decide) (by decide) g7_4 g7_4 rfl rfl cw_Curve_climb_72 (fun c8 h8 S8 v8 e8 t8 => ?_)
  clear s s0 s1 s2 s3 s4 s5 s6 s7 s8 s9
  have g8_0 : rp (c8 0) (x) := by rw [e8 0 (by decide)]; exact g7_0
  have g8_1 : rp (c8 1) (p) := by rw [e8 1 (by decide)]; exact g7_1
  have g8_2 : rp (c8 2) (pz) := by rw [e8 2 (by decide)]; exact g7_2
  have g8_9 : ip (c8 9) (121665) := by rw [e8 9 (by decide)]; exact g7_9
  have g8_8 : rp (c8 8) (((q) - (qz)) * ((p) + (pz))) := by rw [e8 8 (by decide)]; exact g7_8
  have g8_5 : rp (c8 5) (((p) + (pz)) * ((p) + (pz))) := by rw [e8 5 (by decide)]; exact g7_5
  have g8_6 : rp (c8 6) (((p) - (pz)) * ((p) - (pz))) := by rw [e8 6 (by decide)]; exact g7_6
  have g8_7 : ip (c8 7) ((((p) + (pz)) * ((p) + (pz))) - (((p) - (pz)) * ((p) - (pz)))) := by rw [e8 7 (by decide)]; exact g7_7
  have g8_3 : rp (c8 3) (((((q) - (qz)) * ((p) + (pz))) + (((q) + (qz)) * ((p) - (pz)))) * ((((q) - (qz)) * ((p) + (pz))) + (((q) + (qz)) * ((p) - (pz))))) := by rw [e8 3 (by decide)]; exact v7
  obtain ⟨s, s0, s1, s2, s3, s4, s5, s6, s7, s8, s9⟩ := id S8
  first | refine on_aload_n (pc' := 241) rfl rfl rfl rfl ?_ | refine on_aload_nQ (pc' := 241) rfl rfl rfl rfl ?_
  first | refine on_aload (pc' := 243) rfl rfl rfl ?_ | refine on_aloadQ (pc' := 243) rfl rfl rfl ?_
  first | refine on_aload (pc' := 245) rfl rfl rfl ?_ | refine on_aloadQ (pc' := 245) rfl rfl rfl ?_
  first | refine on_aload_n (pc' := 246) rfl rfl rfl rfl ?_ | refine on_aload_nQ (pc' := 246) rfl rfl rfl rfl ?_
  apply on_get (pc' := 249) rfl rfl fl_Curve_11
  · repeat (first | assumption | exact on_up_eq _ _ _ | refine (on_up_ne (by omega)).trans ?_)
  · rfl
  refine on_mul (pc' := 252) 4 4 0 S8 (by decide) (by decide) (by decide) (rp_ip v8) (rp_ip g8_0) rfl rfl cw_Curve_climb_72 (fun c9 h9 S9 v9 e9 t9 => ?_)
  clear s s0 s1 s2 s3 s4 s5 s6 s7 s8 s9
  have g9_0 : rp (c9 0) (x) := by rw [e9 0 (by decide)]; exact g8_0
  have g9_1 : rp (c9 1) (p) := by rw [e9 1 (by decide)]; exact g8_1
  have g9_2 : rp (c9 2) (pz) := by rw [e9 2 (by decide)]; exact g8_2
  have g9_9 : ip (c9 9) (121665) := by rw [e9 9 (by decide)]; exact g8_9
  have g9_8 : rp (c9 8) (((q) - (qz)) * ((p) + (pz))) := by rw [e9 8 (by decide)]; exact g8_8
  have g9_5 : rp (c9 5) (((p) + (pz)) * ((p) + (pz))) := by rw [e9 5 (by decide)]; exact g8_5
  have g9_6 : rp (c9 6) (((p) - (pz)) * ((p) - (pz))) := by rw [e9 6 (by decide)]; exact g8_6
  have g9_7 : ip (c9 7) ((((p) + (pz)) * ((p) + (pz))) - (((p) - (pz)) * ((p) - (pz)))) := by rw [e9 7 (by decide)]; exact g8_7
  have g9_3 : rp (c9 3) (((((q) - (qz)) * ((p) + (pz))) + (((q) + (qz)) * ((p) - (pz)))) * ((((q) - (qz)) * ((p) + (pz))) + (((q) + (qz)) * ((p) - (pz))))) := by rw [e9 3 (by decide)]; exact g8_3
  obtain ⟨s, s0, s1, s2, s3, s4, s5, s6, s7, s8, s9⟩ := id S9
  first | refine on_aload_n (pc' := 253) rfl rfl rfl rfl ?_ | refine on_aload_nQ (pc' := 253) rfl rfl rfl rfl ?_
  first | refine on_aload_n (pc' := 254) rfl rfl rfl rfl ?_ | refine on_aload_nQ (pc' := 254) rfl rfl rfl rfl ?_
  first | refine on_aload_n (pc' := 255) rfl rfl rfl rfl ?_ | refine on_aload_nQ (pc' := 255) rfl rfl rfl rfl ?_
  apply on_get (pc' := 258) rfl rfl fl_Curve_27
  · repeat (first | assumption | exact on_up_eq _ _ _ | refine (on_up_ne (by omega)).trans ?_)
  · rfl
  first | refine on_aload_n (pc' := 259) rfl rfl rfl rfl ?_ | refine on_aload_nQ (pc' := 259) rfl rfl rfl rfl ?_
  apply on_get (pc' := 262) rfl rfl fl_Curve_30
  · repeat (first | assumption | exact on_up_eq _ _ _ | refine (on_up_ne (by omega)).trans ?_)
  · rfl
  refine on_mul (pc' := 265) 1 5 6 S9 (by decide) (by decide) (by decide) (rp_ip g9_5) (rp_ip g9_6) rfl rfl cw_Curve_climb_72 (fun c10 h10 S10 v10 e10 t10 => ?_)
  clear s s0 s1 s2 s3 s4 s5 s6 s7 s8 s9
  have g10_0 : rp (c10 0) (x) := by rw [e10 0 (by decide)]; exact g9_0
  have g10_2 : rp (c10 2) (pz) := by rw [e10 2 (by decide)]; exact g9_2
  have g10_9 : ip (c10 9) (121665) := by rw [e10 9 (by decide)]; exact g9_9
  have g10_8 : rp (c10 8) (((q) - (qz)) * ((p) + (pz))) := by rw [e10 8 (by decide)]; exact g9_8
  have g10_5 : rp (c10 5) (((p) + (pz)) * ((p) + (pz))) := by rw [e10 5 (by decide)]; exact g9_5
  have g10_6 : rp (c10 6) (((p) - (pz)) * ((p) - (pz))) := by rw [e10 6 (by decide)]; exact g9_6
  have g10_7 : ip (c10 7) ((((p) + (pz)) * ((p) + (pz))) - (((p) - (pz)) * ((p) - (pz)))) := by rw [e10 7 (by decide)]; exact g9_7
  have g10_3 : rp (c10 3) (((((q) - (qz)) * ((p) + (pz))) + (((q) + (qz)) * ((p) - (pz)))) * ((((q) - (qz)) * ((p) + (pz))) + (((q) + (qz)) * ((p) - (pz))))) := by rw [e10 3 (by decide)]; exact g9_3
  have g10_4 : rp (c10 4) ((((((q) - (qz)) * ((p) + (pz))) - (((q) + (qz)) * ((p) - (pz)))) * ((((q) - (qz)) * ((p) + (pz))) - (((q) + (qz)) * ((p) - (pz))))) * (x)) := by rw [e10 4 (by decide)]; exact v9
  obtain ⟨s, s0, s1, s2, s3, s4, s5, s6, s7, s8, s9⟩ := id S10
  first | refine on_aload_n (pc' := 266) rfl rfl rfl rfl ?_ | refine on_aload_nQ (pc' := 266) rfl rfl rfl rfl ?_
  first | refine on_aload_n (pc' := 267) rfl rfl rfl rfl ?_ | refine on_aload_nQ (pc' := 267) rfl rfl rfl rfl ?_
  apply on_get (pc' := 270) rfl rfl fl_Curve_36
  · repeat (first | assumption | exact on_up_eq _ _ _ | refine (on_up_ne (by omega)).trans ?_)
  · rfl
  first | refine on_aload_n (pc' := 271) rfl rfl rfl rfl ?_ | refine on_aload_nQ (pc' := 271) rfl rfl rfl rfl ?_
  apply on_get (pc' := 274) rfl rfl fl_Curve_33
  · repeat (first | assumption | exact on_up_eq _ _ _ | refine (on_up_ne (by omega)).trans ?_)
  · rfl
  first | refine on_aload_n (pc' := 275) rfl rfl rfl rfl ?_ | refine on_aload_nQ (pc' := 275) rfl rfl rfl rfl ?_
  apply on_get (pc' := 278) rfl rfl fl_Curve_39
  · repeat (first | assumption | exact on_up_eq _ _ _ | refine (on_up_ne (by omega)).trans ?_)
  · rfl
  refine on_mul (pc' := 281) 8 7 9 S10 (by decide) (by decide) (by decide) g10_7 g10_9 rfl rfl cw_Curve_climb_72 (fun c11 h11 S11 v11 e11 t11 => ?_)
  clear s s0 s1 s2 s3 s4 s5 s6 s7 s8 s9
  have g11_0 : rp (c11 0) (x) := by rw [e11 0 (by decide)]; exact g10_0
  have g11_2 : rp (c11 2) (pz) := by rw [e11 2 (by decide)]; exact g10_2
  have g11_9 : ip (c11 9) (121665) := by rw [e11 9 (by decide)]; exact g10_9
  have g11_5 : rp (c11 5) (((p) + (pz)) * ((p) + (pz))) := by rw [e11 5 (by decide)]; exact g10_5
  have g11_6 : rp (c11 6) (((p) - (pz)) * ((p) - (pz))) := by rw [e11 6 (by decide)]; exact g10_6
  have g11_7 : ip (c11 7) ((((p) + (pz)) * ((p) + (pz))) - (((p) - (pz)) * ((p) - (pz)))) := by rw [e11 7 (by decide)]; exact g10_7
  have g11_3 : rp (c11 3) (((((q) - (qz)) * ((p) + (pz))) + (((q) + (qz)) * ((p) - (pz)))) * ((((q) - (qz)) * ((p) + (pz))) + (((q) + (qz)) * ((p) - (pz))))) := by rw [e11 3 (by decide)]; exact g10_3
  have g11_4 : rp (c11 4) ((((((q) - (qz)) * ((p) + (pz))) - (((q) + (qz)) * ((p) - (pz)))) * ((((q) - (qz)) * ((p) + (pz))) - (((q) + (qz)) * ((p) - (pz))))) * (x)) := by rw [e11 4 (by decide)]; exact g10_4
  have g11_1 : rp (c11 1) ((((p) + (pz)) * ((p) + (pz))) * (((p) - (pz)) * ((p) - (pz)))) := by rw [e11 1 (by decide)]; exact v10
  refine on_iconst (pc' := 282) (v := 0) rfl rfl li_0 ?_
  refine on_istore (pc' := 284) rfl rfl (by decide) ?_
  refine on_relv (l := [(0, .ref o), (1, .ref (o + 2)), (2, .ref (o + 3)), (3, .ref (o + 4)), (4, .ref (o + 5)), (5, .int (nI 0))]) ⟨rfl, rfl, rfl, rfl, rfl, rfl, trivial⟩ (cu_cl3A (fun c12 h12 S12 t12 e12 w9 => ?_) 10 0 c11 h11 rfl S11 on_sm.rf (fun _ _ => rfl) (fun _ hj => absurd hj (Nat.not_lt_zero _)) (fun _ _ _ => rfl))
  have g12_0 : rp (c12 0) (x) := by rw [e12 0 (by decide)]; exact g11_0
  have g12_2 : rp (c12 2) (pz) := by rw [e12 2 (by decide)]; exact g11_2
  have g12_9 : ip (c12 9) (121665) := by rw [e12 9 (by decide)]; exact g11_9
  have g12_5 : rp (c12 5) (((p) + (pz)) * ((p) + (pz))) := by rw [e12 5 (by decide)]; exact g11_5
  have g12_6 : rp (c12 6) (((p) - (pz)) * ((p) - (pz))) := by rw [e12 6 (by decide)]; exact g11_6
  have g12_7 : ip (c12 7) ((((p) + (pz)) * ((p) + (pz))) - (((p) - (pz)) * ((p) - (pz)))) := by rw [e12 7 (by decide)]; exact g11_7
  have g12_3 : rp (c12 3) (((((q) - (qz)) * ((p) + (pz))) + (((q) + (qz)) * ((p) - (pz)))) * ((((q) - (qz)) * ((p) + (pz))) + (((q) + (qz)) * ((p) - (pz))))) := by rw [e12 3 (by decide)]; exact g11_3
  have g12_4 : rp (c12 4) ((((((q) - (qz)) * ((p) + (pz))) - (((q) + (qz)) * ((p) - (pz)))) * ((((q) - (qz)) * ((p) + (pz))) - (((q) + (qz)) * ((p) - (pz))))) * (x)) := by rw [e12 4 (by decide)]; exact g11_4
  have g12_1 : rp (c12 1) ((((p) + (pz)) * ((p) + (pz))) * (((p) - (pz)) * ((p) - (pz)))) := by rw [e12 1 (by decide)]; exact g11_1
  have y8 : ip (c12 8) ((((((p) + (pz)) * ((p) + (pz))) - (((p) - (pz)) * ((p) - (pz)))) * (121665)) + (((p) + (pz)) * ((p) + (pz)))) := rp_add v11 g11_5 w9
  obtain ⟨s, s0, s1, s2, s3, s4, s5, s6, s7, s8, s9⟩ := id S12
  first | refine on_aload_n (pc' := 315) rfl rfl rfl rfl ?_ | refine on_aload_nQ (pc' := 315) rfl rfl rfl rfl ?_
  first | refine on_aload_n (pc' := 316) rfl rfl rfl rfl ?_ | refine on_aload_nQ (pc' := 316) rfl rfl rfl rfl ?_
  first | refine on_aload_n (pc' := 317) rfl rfl rfl rfl ?_ | refine on_aload_nQ (pc' := 317) rfl rfl rfl rfl ?_
  apply on_get (pc' := 320) rfl rfl fl_Curve_33
  · repeat (first | assumption | exact on_up_eq _ _ _ | refine (on_up_ne (by omega)).trans ?_)
  · rfl
  first | refine on_aload_n (pc' := 321) rfl rfl rfl rfl ?_ | refine on_aload_nQ (pc' := 321) rfl rfl rfl rfl ?_
  apply on_get (pc' := 324) rfl rfl fl_Curve_36
  · repeat (first | assumption | exact on_up_eq _ _ _ | refine (on_up_ne (by omega)).trans ?_)
  · rfl
  refine on_mul (pc' := 327) 2 7 8 S12 (by decide) (by decide) (by decide) g12_7 y8 rfl rfl cw_Curve_climb_72 (fun c13 h13 S13 v13 e13 t13 => ?_)
  clear s s0 s1 s2 s3 s4 s5 s6 s7 s8 s9
  have g13_0 : rp (c13 0) (x) := by rw [e13 0 (by decide)]; exact g12_0
  have g13_9 : ip (c13 9) (121665) := by rw [e13 9 (by decide)]; exact g12_9
  have g13_5 : rp (c13 5) (((p) + (pz)) * ((p) + (pz))) := by rw [e13 5 (by decide)]; exact g12_5
  have g13_6 : rp (c13 6) (((p) - (pz)) * ((p) - (pz))) := by rw [e13 6 (by decide)]; exact g12_6
  have g13_7 : ip (c13 7) ((((p) + (pz)) * ((p) + (pz))) - (((p) - (pz)) * ((p) - (pz)))) := by rw [e13 7 (by decide)]; exact g12_7
  have g13_3 : rp (c13 3) (((((q) - (qz)) * ((p) + (pz))) + (((q) + (qz)) * ((p) - (pz)))) * ((((q) - (qz)) * ((p) + (pz))) + (((q) + (qz)) * ((p) - (pz))))) := by rw [e13 3 (by decide)]; exact g12_3
  have g13_4 : rp (c13 4) ((((((q) - (qz)) * ((p) + (pz))) - (((q) + (qz)) * ((p) - (pz)))) * ((((q) - (qz)) * ((p) + (pz))) - (((q) + (qz)) * ((p) - (pz))))) * (x)) := by rw [e13 4 (by decide)]; exact g12_4
  have g13_1 : rp (c13 1) ((((p) + (pz)) * ((p) + (pz))) * (((p) - (pz)) * ((p) - (pz)))) := by rw [e13 1 (by decide)]; exact g12_1
  have g13_8 : ip (c13 8) ((((((p) + (pz)) * ((p) + (pz))) - (((p) - (pz)) * ((p) - (pz)))) * (121665)) + (((p) + (pz)) * ((p) + (pz)))) := by rw [e13 8 (by decide)]; exact y8
  refine on_vreturn rfl rfl ?_
  refine ⟨rfl, rfl, c13, S13, ((((((((((((t1.trans t2).trans t3).trans t4).trans t5).trans t6).trans t7).trans t8).trans t9).trans t10).trans t11).trans t12).trans t13), g13_1, v13, g13_3, g13_4, ?_⟩
  intro k hk
  rw [e13 k (by omega), e12 k (by omega), e11 k (by omega), e10 k (by omega), e9 k (by omega), e8 k (by omega), e7 k (by omega), e6 k (by omega) (by omega) (by omega), e5 k (by omega), e4 k (by omega), e3 k (by omega), e2 k (by omega), e1 k (by omega) (by omega) (by omega) (by omega)]
set_option maxHeartbeats 4000000 in
theorem cu_cl2B (k : ∀ c2 h2, cu_S o c2 h2 → on_sm o (o + 11) h h2 → (∀ k, k ≠ 1 → k ≠ 2 → k ≠ 7 → c2 k = c k) → (∀ i, i < 10 → c2 1 i = c 8 i + c 7 i) → (∀ i, i < 10 → c2 2 i = c 8 i - c 7 i) → (∀ i, i < 10 → c2 7 i = c 5 i - c 6 i) → on_E G M_Curve_climb 223 (on_l [(0, .ref o), (1, .ref (o + 4)), (2, .ref (o + 5)), (3, .ref (o + 2)), (4, .ref (o + 3))]) [] h2 sz bc bs Q) :
    ∀ (m i : Nat) (c1 : Nat → Nat → Int64) (h1 : on_H), i + m = 10 → cu_S o c1 h1 → on_sm o (o + 11) h h1 → (∀ k, k ≠ 1 → k ≠ 2 → k ≠ 7 → c1 k = c k) → (∀ j, j < i → c1 1 j = c 8 j + c 7 j) → (∀ j, j < i → c1 2 j = c 8 j - c 7 j) → (∀ j, j < i → c1 7 j = c 5 j - c 6 j) → (∀ j, i ≤ j → j < 10 → c1 7 j = c 7 j) → on_E G M_Curve_climb 149 (on_l [(0, .ref o), (1, .ref (o + 4)), (2, .ref (o + 5)), (3, .ref (o + 2)), (4, .ref (o + 3)), (5, .int (nI i))]) [] h1 sz bc bs Q := by
  intro m
  induction m with
  | zero =>
    intro i c1 h1 hi hS hs ho v1 v2 v3 v4
    rw [show i = 10 by omega] at v1 v2 v3
    refine on_iload (pc' := 151) rfl rfl rfl ?_
    refine on_bipush (pc' := 153) (v := 10) rfl rfl lb_10 ?_
    refine on_icmp_ge (pc' := 156) (tgt := 223) rfl rfl rfl (fun cq => ?_) (fun cq => ?_)
    · exact on_relv (l := [(0, .ref o), (1, .ref (o + 4)), (2, .ref (o + 5)), (3, .ref (o + 2)), (4, .ref (o + 3))]) ⟨rfl, rfl, rfl, rfl, rfl, trivial⟩ (k c1 h1 hS hs ho v1 v2 v3)
    · exact absurd (nI_le (a := 10) (by omega) (by omega)) cq
  | succ m ih =>
    intro i c1 h1 hi hS hs ho v1 v2 v3 v4
    obtain ⟨s, s0, s1, s2, s3, s4, s5, s6, s7, s8, s9⟩ := id hS
    refine on_iload (pc' := 151) rfl rfl rfl ?_
    refine on_bipush (pc' := 153) (v := 10) rfl rfl lb_10 ?_
    refine on_icmp_ge (pc' := 156) (tgt := 223) rfl rfl rfl (fun cq => ?_) (fun cq => ?_)
    · exact absurd cq (nI_ge (b := 10) (by omega) (by omega))
    · first | refine on_aload_n (pc' := 157) rfl rfl rfl rfl ?_ | refine on_aload_nQ (pc' := 157) rfl rfl rfl rfl ?_
      refine on_iload (pc' := 159) rfl rfl rfl ?_
      first | refine on_aload_n (pc' := 160) rfl rfl rfl rfl ?_ | refine on_aload_nQ (pc' := 160) rfl rfl rfl rfl ?_
      apply on_get (pc' := 163) rfl rfl fl_Curve_36
      · repeat (first | assumption | exact on_up_eq _ _ _ | refine (on_up_ne (by omega)).trans ?_)
      · rfl
      refine on_iload (pc' := 165) rfl rfl rfl ?_
      apply on_laloadK (pc' := 166) (t := 1) rfl rfl
      · repeat (first | assumption | exact on_up_eq _ _ _ | refine (on_up_ne (by omega)).trans ?_)
      · rfl
      · first | assumption | exact on_lit _ | rfl
      · first | assumption | omega | decide
      first | refine on_aload_n (pc' := 167) rfl rfl rfl rfl ?_ | refine on_aload_nQ (pc' := 167) rfl rfl rfl rfl ?_
      apply on_get (pc' := 170) rfl rfl fl_Curve_33
      · repeat (first | assumption | exact on_up_eq _ _ _ | refine (on_up_ne (by omega)).trans ?_)
      · rfl
      refine on_iload (pc' := 172) rfl rfl rfl ?_
      apply on_laloadK (pc' := 173) (t := 1) rfl rfl
      · repeat (first | assumption | exact on_up_eq _ _ _ | refine (on_up_ne (by omega)).trans ?_)
      · rfl
      · first | assumption | exact on_lit _ | rfl
      · first | assumption | omega | decide
      refine on_ladd (pc' := 174) rfl rfl ?_
      apply on_lastoreK (pc' := 175) (t := 1) rfl rfl
      · repeat (first | assumption | exact on_up_eq _ _ _ | refine (on_up_ne (by omega)).trans ?_)
      · rfl
      · first | assumption | exact on_lit _ | rfl
      · first | assumption | omega | decide
      first | refine on_aload (pc' := 177) rfl rfl rfl ?_ | refine on_aloadQ (pc' := 177) rfl rfl rfl ?_
      refine on_iload (pc' := 179) rfl rfl rfl ?_
      first | refine on_aload_n (pc' := 180) rfl rfl rfl rfl ?_ | refine on_aload_nQ (pc' := 180) rfl rfl rfl rfl ?_
      apply on_get (pc' := 183) rfl rfl fl_Curve_36
      · repeat (first | assumption | exact on_up_eq _ _ _ | refine (on_up_ne (by omega)).trans ?_)
      · rfl
      refine on_iload (pc' := 185) rfl rfl rfl ?_
      apply on_laloadK (pc' := 186) (t := 1) rfl rfl
      · repeat (first | assumption | exact on_up_eq _ _ _ | refine (on_up_ne (by omega)).trans ?_)
      · rfl
      · first | assumption | exact on_lit _ | rfl
      · first | assumption | omega | decide
      first | refine on_aload_n (pc' := 187) rfl rfl rfl rfl ?_ | refine on_aload_nQ (pc' := 187) rfl rfl rfl rfl ?_
      apply on_get (pc' := 190) rfl rfl fl_Curve_33
      · repeat (first | assumption | exact on_up_eq _ _ _ | refine (on_up_ne (by omega)).trans ?_)
      · rfl
      refine on_iload (pc' := 192) rfl rfl rfl ?_
      apply on_laloadK (pc' := 193) (t := 1) rfl rfl
      · repeat (first | assumption | exact on_up_eq _ _ _ | refine (on_up_ne (by omega)).trans ?_)
      · rfl
      · first | assumption | exact on_lit _ | rfl
      · first | assumption | omega | decide
      refine on_lsub (pc' := 194) rfl rfl ?_
      apply on_lastoreK (pc' := 195) (t := 1) rfl rfl
      · repeat (first | assumption | exact on_up_eq _ _ _ | refine (on_up_ne (by omega)).trans ?_)
      · rfl
      · first | assumption | exact on_lit _ | rfl
      · first | assumption | omega | decide
      first | refine on_aload_n (pc' := 196) rfl rfl rfl rfl ?_ | refine on_aload_nQ (pc' := 196) rfl rfl rfl rfl ?_
      apply on_get (pc' := 199) rfl rfl fl_Curve_33
      · repeat (first | assumption | exact on_up_eq _ _ _ | refine (on_up_ne (by omega)).trans ?_)
      · rfl
      refine on_iload (pc' := 201) rfl rfl rfl ?_
      first | refine on_aload_n (pc' := 202) rfl rfl rfl rfl ?_ | refine on_aload_nQ (pc' := 202) rfl rfl rfl rfl ?_
      apply on_get (pc' := 205) rfl rfl fl_Curve_27
      · repeat (first | assumption | exact on_up_eq _ _ _ | refine (on_up_ne (by omega)).trans ?_)
      · rfl
      refine on_iload (pc' := 207) rfl rfl rfl ?_
      apply on_laloadK (pc' := 208) (t := 1) rfl rfl
      · repeat (first | assumption | exact on_up_eq _ _ _ | refine (on_up_ne (by omega)).trans ?_)
      · rfl
      · first | assumption | exact on_lit _ | rfl
      · first | assumption | omega | decide
      first | refine on_aload_n (pc' := 209) rfl rfl rfl rfl ?_ | refine on_aload_nQ (pc' := 209) rfl rfl rfl rfl ?_
      apply on_get (pc' := 212) rfl rfl fl_Curve_30
      · repeat (first | assumption | exact on_up_eq _ _ _ | refine (on_up_ne (by omega)).trans ?_)
      · rfl
      refine on_iload (pc' := 214) rfl rfl rfl ?_
      apply on_laloadK (pc' := 215) (t := 1) rfl rfl
      · repeat (first | assumption | exact on_up_eq _ _ _ | refine (on_up_ne (by omega)).trans ?_)
      · rfl
      · first | assumption | exact on_lit _ | rfl
      · first | assumption | omega | decide
      refine on_lsub (pc' := 216) rfl rfl ?_
      apply on_lastoreK (pc' := 217) (t := 1) rfl rfl
      · repeat (first | assumption | exact on_up_eq _ _ _ | refine (on_up_ne (by omega)).trans ?_)
      · rfl
      · first | assumption | exact on_lit _ | rfl
      · first | assumption | omega | decide
      refine on_iinc1 (pc' := 220) rfl rfl rfl ?_
      refine on_goto (tgt := 149) rfl rfl ?_
      rw [ho 8 (by decide) (by decide) (by decide), ho 5 (by decide) (by decide) (by decide), ho 6 (by decide) (by decide) (by decide), v4 i (Nat.le_refl i) (by omega)]
      refine on_relv (l := [(0, .ref o), (1, .ref (o + 4)), (2, .ref (o + 5)), (3, .ref (o + 2)), (4, .ref (o + 3)), (5, .int (nI (i + 1)))]) ⟨rfl, rfl, rfl, rfl, rfl, congrArg some (congrArg Value.int (nI_1 i)), trivial⟩ (ih (i + 1) (va_up (va_up (va_up c1 1 (vp_updL (c1 1) i (c 8 i + c 7 i))) 2 (vp_updL (c1 2) i (c 8 i - c 7 i))) 7 (vp_updL (c1 7) i (c 5 i - c 6 i))) _ (by omega) (cu_S_up (kr := 7) (cu_S_up (kr := 2) (cu_S_up (kr := 1) hS (by decide)) (by decide)) (by decide)) (((hs.up (by omega) (by omega)).up (by omega) (by omega)).up (by omega) (by omega)) (fun k h5 h6 h7 => ?_) (fun j hj => ?_) (fun j hj => ?_) (fun j hj => ?_) (fun j hj hj2 => ?_))
      · rw [← ho k h5 h6 h7]
        simp [va_up, h5, h6, h7]
      · show vp_updL (c1 1) i (c 8 i + c 7 i) j = c 8 j + c 7 j
        by_cases hji : j = i
        · rw [hji, pk_uLs]
        · rw [pk_uLn hji]
          exact v1 j (by omega)
      · show vp_updL (c1 2) i (c 8 i - c 7 i) j = c 8 j - c 7 j
        by_cases hji : j = i
        · rw [hji, pk_uLs]
        · rw [pk_uLn hji]
          exact v2 j (by omega)
      · show vp_updL (c1 7) i (c 5 i - c 6 i) j = c 5 j - c 6 j
        by_cases hji : j = i
        · rw [hji, pk_uLs]
        · rw [pk_uLn hji]
          exact v3 j (by omega)
      · show vp_updL (c1 7) i (c 5 i - c 6 i) j = c 7 j
        rw [pk_uLn (by omega)]
        exact v4 j (by omega) hj2
set_option maxHeartbeats 4000000 in
theorem cu_cl3B (k : ∀ c2 h2, cu_S o c2 h2 → on_sm o (o + 11) h h2 → (∀ k, k ≠ 8 → c2 k = c k) → (∀ i, i < 10 → c2 8 i = c 8 i + c 5 i) → on_E G M_Curve_climb 314 (on_l [(0, .ref o), (1, .ref (o + 4)), (2, .ref (o + 5)), (3, .ref (o + 2)), (4, .ref (o + 3))]) [] h2 sz bc bs Q) :
    ∀ (m i : Nat) (c1 : Nat → Nat → Int64) (h1 : on_H), i + m = 10 → cu_S o c1 h1 → on_sm o (o + 11) h h1 → (∀ k, k ≠ 8 → c1 k = c k) → (∀ j, j < i → c1 8 j = c 8 j + c 5 j) → (∀ j, i ≤ j → j < 10 → c1 8 j = c 8 j) → on_E G M_Curve_climb 284 (on_l [(0, .ref o), (1, .ref (o + 4)), (2, .ref (o + 5)), (3, .ref (o + 2)), (4, .ref (o + 3)), (5, .int (nI i))]) [] h1 sz bc bs Q := by
  intro m
  induction m with
  | zero =>
    intro i c1 h1 hi hS hs ho v1 v4
    rw [show i = 10 by omega] at v1
    refine on_iload (pc' := 286) rfl rfl rfl ?_
    refine on_bipush (pc' := 288) (v := 10) rfl rfl lb_10 ?_
    refine on_icmp_ge (pc' := 291) (tgt := 314) rfl rfl rfl (fun cq => ?_) (fun cq => ?_)
    · exact on_relv (l := [(0, .ref o), (1, .ref (o + 4)), (2, .ref (o + 5)), (3, .ref (o + 2)), (4, .ref (o + 3))]) ⟨rfl, rfl, rfl, rfl, rfl, trivial⟩ (k c1 h1 hS hs ho v1)
    · exact absurd (nI_le (a := 10) (by omega) (by omega)) cq
  | succ m ih =>
    intro i c1 h1 hi hS hs ho v1 v4
    obtain ⟨s, s0, s1, s2, s3, s4, s5, s6, s7, s8, s9⟩ := id hS
    refine on_iload (pc' := 286) rfl rfl rfl ?_
    refine on_bipush (pc' := 288) (v := 10) rfl rfl lb_10 ?_
    refine on_icmp_ge (pc' := 291) (tgt := 314) rfl rfl rfl (fun cq => ?_) (fun cq => ?_)
    · exact absurd cq (nI_ge (b := 10) (by omega) (by omega))
    · first | refine on_aload_n (pc' := 292) rfl rfl rfl rfl ?_ | refine on_aload_nQ (pc' := 292) rfl rfl rfl rfl ?_
      apply on_get (pc' := 295) rfl rfl fl_Curve_36
      · repeat (first | assumption | exact on_up_eq _ _ _ | refine (on_up_ne (by omega)).trans ?_)
      · rfl
      refine on_iload (pc' := 297) rfl rfl rfl ?_
      first | refine on_dup2_11 (pc' := 298) rfl rfl rfl rfl ?_ | refine on_dup2_2 (pc' := 298) rfl rfl rfl ?_
      apply on_laloadK (pc' := 299) (t := 1) rfl rfl
      · repeat (first | assumption | exact on_up_eq _ _ _ | refine (on_up_ne (by omega)).trans ?_)
      · rfl
      · first | assumption | exact on_lit _ | rfl
      · first | assumption | omega | decide
      first | refine on_aload_n (pc' := 300) rfl rfl rfl rfl ?_ | refine on_aload_nQ (pc' := 300) rfl rfl rfl rfl ?_
      apply on_get (pc' := 303) rfl rfl fl_Curve_27
      · repeat (first | assumption | exact on_up_eq _ _ _ | refine (on_up_ne (by omega)).trans ?_)
      · rfl
      refine on_iload (pc' := 305) rfl rfl rfl ?_
      apply on_laloadK (pc' := 306) (t := 1) rfl rfl
      · repeat (first | assumption | exact on_up_eq _ _ _ | refine (on_up_ne (by omega)).trans ?_)
      · rfl
      · first | assumption | exact on_lit _ | rfl
      · first | assumption | omega | decide
      refine on_ladd (pc' := 307) rfl rfl ?_
      apply on_lastoreK (pc' := 308) (t := 1) rfl rfl
      · repeat (first | assumption | exact on_up_eq _ _ _ | refine (on_up_ne (by omega)).trans ?_)
      · rfl
      · first | assumption | exact on_lit _ | rfl
      · first | assumption | omega | decide
      refine on_iinc1 (pc' := 311) rfl rfl rfl ?_
      refine on_goto (tgt := 284) rfl rfl ?_
      rw [ho 5 (by decide), v4 i (Nat.le_refl i) (by omega)]
      refine on_relv (l := [(0, .ref o), (1, .ref (o + 4)), (2, .ref (o + 5)), (3, .ref (o + 2)), (4, .ref (o + 3)), (5, .int (nI (i + 1)))]) ⟨rfl, rfl, rfl, rfl, rfl, congrArg some (congrArg Value.int (nI_1 i)), trivial⟩ (ih (i + 1) (va_up c1 8 (vp_updL (c1 8) i (c 8 i + c 5 i))) _ (by omega) (cu_S_up (kr := 8) hS (by decide)) (hs.up (by omega) (by omega)) (fun k h5 => ?_) (fun j hj => ?_) (fun j hj hj2 => ?_))
      · rw [← ho k h5]
        simp [va_up, h5]
      · show vp_updL (c1 8) i (c 8 i + c 5 i) j = c 8 j + c 5 j
        by_cases hji : j = i
        · rw [hji, pk_uLs]
        · rw [pk_uLn hji]
          exact v1 j (by omega)
      · show vp_updL (c1 8) i (c 8 i + c 5 i) j = c 8 j
        rw [pk_uLn (by omega)]
        exact v4 j (by omega) hj2
set_option maxHeartbeats 8000000 in
/-- Curve.climb -/
theorem c_Curve_climbB {x p pz q qz : Int} (hS : cu_S o c h) (f0 : rp (c 0) x) (fp : rp (c 3) p) (fpz : rp (c 4) pz) (fq : rp (c 1) q) (fqz : rp (c 2) qz) (ff : ip (c 9) 121665) :
    on_Ct G M_Curve_climb [.ref o, .ref (o + 4), .ref (o + 5), .ref (o + 2), .ref (o + 3)] h sz 0 0 (fun r h2 z => r = none ∧ z = sz ∧ ∃ c2, cu_S o c2 h2 ∧ on_sm o (o + 11) h h2 ∧ rp (c2 3) ((((p) + (pz)) * ((p) + (pz))) * (((p) - (pz)) * ((p) - (pz)))) ∧ rp (c2 4) (((((p) + (pz)) * ((p) + (pz))) - (((p) - (pz)) * ((p) - (pz)))) * ((((((p) + (pz)) * ((p) + (pz))) - (((p) - (pz)) * ((p) - (pz)))) * (121665)) + (((p) + (pz)) * ((p) + (pz))))) ∧ rp (c2 1) (((((q) - (qz)) * ((p) + (pz))) + (((q) + (qz)) * ((p) - (pz)))) * ((((q) - (qz)) * ((p) + (pz))) + (((q) + (qz)) * ((p) - (pz))))) ∧ rp (c2 2) ((((((q) - (qz)) * ((p) + (pz))) - (((q) + (qz)) * ((p) - (pz)))) * ((((q) - (qz)) * ((p) + (pz))) - (((q) + (qz)) * ((p) - (pz))))) * (x)) ∧ ∀ k, k = 0 ∨ k = 9 → c2 k = c k) := by
  refine on_Ct.of (by decide) v_Curve_climb (Nat.le_of_ble_eq_true rfl) ?_
  have S0 := hS
  refine on_iconst (pc' := 1) (v := 0) rfl rfl li_0 ?_
  refine on_istore (pc' := 3) rfl rfl (by decide) ?_
  refine on_relv (l := [(0, .ref o), (1, .ref (o + 4)), (2, .ref (o + 5)), (3, .ref (o + 2)), (4, .ref (o + 3)), (5, .int (nI 0))]) ⟨rfl, rfl, rfl, rfl, rfl, rfl, trivial⟩ (cu_cl1B (fun c1 h1 S1 t1 e1 w5 w6 w7 w8 => ?_) 10 0 c h rfl hS on_sm.rf (fun _ _ _ _ _ => rfl) (fun _ hj => absurd hj (Nat.not_lt_zero _)) (fun _ hj => absurd hj (Nat.not_lt_zero _)) (fun _ hj => absurd hj (Nat.not_lt_zero _)) (fun _ hj => absurd hj (Nat.not_lt_zero _)))
  have g1_0 : rp (c1 0) (x) := by rw [e1 0 (by decide) (by decide) (by decide) (by decide)]; exact f0
  have g1_3 : rp (c1 3) (p) := by rw [e1 3 (by decide) (by decide) (by decide) (by decide)]; exact fp
  have g1_4 : rp (c1 4) (pz) := by rw [e1 4 (by decide) (by decide) (by decide) (by decide)]; exact fpz
  have g1_1 : rp (c1 1) (q) := by rw [e1 1 (by decide) (by decide) (by decide) (by decide)]; exact fq
  have g1_2 : rp (c1 2) (qz) := by rw [e1 2 (by decide) (by decide) (by decide) (by decide)]; exact fqz
  have g1_9 : ip (c1 9) (121665) := by rw [e1 9 (by decide) (by decide) (by decide) (by decide)]; exact ff
  have u5 : ip (c1 5) ((p) + (pz)) := rp_add fp fpz w5
  have u6 : ip (c1 6) ((p) - (pz)) := rp_sub fp fpz w6
  have u7 : ip (c1 7) ((q) + (qz)) := rp_add fq fqz w7
  have u8 : ip (c1 8) ((q) - (qz)) := rp_sub fq fqz w8
  obtain ⟨s, s0, s1, s2, s3, s4, s5, s6, s7, s8, s9⟩ := id S1
  first | refine on_aload_n (pc' := 83) rfl rfl rfl rfl ?_ | refine on_aload_nQ (pc' := 83) rfl rfl rfl rfl ?_
  first | refine on_aload_n (pc' := 84) rfl rfl rfl rfl ?_ | refine on_aload_nQ (pc' := 84) rfl rfl rfl rfl ?_
  apply on_get (pc' := 87) rfl rfl fl_Curve_36
  · repeat (first | assumption | exact on_up_eq _ _ _ | refine (on_up_ne (by omega)).trans ?_)
  · rfl
  first | refine on_aload_n (pc' := 88) rfl rfl rfl rfl ?_ | refine on_aload_nQ (pc' := 88) rfl rfl rfl rfl ?_
  apply on_get (pc' := 91) rfl rfl fl_Curve_36
  · repeat (first | assumption | exact on_up_eq _ _ _ | refine (on_up_ne (by omega)).trans ?_)
  · rfl
  first | refine on_aload_n (pc' := 92) rfl rfl rfl rfl ?_ | refine on_aload_nQ (pc' := 92) rfl rfl rfl rfl ?_
  apply on_get (pc' := 95) rfl rfl fl_Curve_27
  · repeat (first | assumption | exact on_up_eq _ _ _ | refine (on_up_ne (by omega)).trans ?_)
  · rfl
  refine on_mul (pc' := 98) 8 8 5 S1 (by decide) (by decide) (by decide) u8 u5 rfl rfl cw_Curve_climb_72 (fun c2 h2 S2 v2 e2 t2 => ?_)
  clear s s0 s1 s2 s3 s4 s5 s6 s7 s8 s9
  have g2_0 : rp (c2 0) (x) := by rw [e2 0 (by decide)]; exact g1_0
  have g2_3 : rp (c2 3) (p) := by rw [e2 3 (by decide)]; exact g1_3
  have g2_4 : rp (c2 4) (pz) := by rw [e2 4 (by decide)]; exact g1_4
  have g2_1 : rp (c2 1) (q) := by rw [e2 1 (by decide)]; exact g1_1
  have g2_2 : rp (c2 2) (qz) := by rw [e2 2 (by decide)]; exact g1_2
  have g2_9 : ip (c2 9) (121665) := by rw [e2 9 (by decide)]; exact g1_9
  have g2_5 : ip (c2 5) ((p) + (pz)) := by rw [e2 5 (by decide)]; exact u5
  have g2_6 : ip (c2 6) ((p) - (pz)) := by rw [e2 6 (by decide)]; exact u6
  have g2_7 : ip (c2 7) ((q) + (qz)) := by rw [e2 7 (by decide)]; exact u7
  obtain ⟨s, s0, s1, s2, s3, s4, s5, s6, s7, s8, s9⟩ := id S2
  first | refine on_aload_n (pc' := 99) rfl rfl rfl rfl ?_ | refine on_aload_nQ (pc' := 99) rfl rfl rfl rfl ?_
  first | refine on_aload_n (pc' := 100) rfl rfl rfl rfl ?_ | refine on_aload_nQ (pc' := 100) rfl rfl rfl rfl ?_
  apply on_get (pc' := 103) rfl rfl fl_Curve_33
  · repeat (first | assumption | exact on_up_eq _ _ _ | refine (on_up_ne (by omega)).trans ?_)
  · rfl
  first | refine on_aload_n (pc' := 104) rfl rfl rfl rfl ?_ | refine on_aload_nQ (pc' := 104) rfl rfl rfl rfl ?_
  apply on_get (pc' := 107) rfl rfl fl_Curve_33
  · repeat (first | assumption | exact on_up_eq _ _ _ | refine (on_up_ne (by omega)).trans ?_)
  · rfl
  first | refine on_aload_n (pc' := 108) rfl rfl rfl rfl ?_ | refine on_aload_nQ (pc' := 108) rfl rfl rfl rfl ?_
  apply on_get (pc' := 111) rfl rfl fl_Curve_30
  · repeat (first | assumption | exact on_up_eq _ _ _ | refine (on_up_ne (by omega)).trans ?_)
  · rfl
  refine on_mul (pc' := 114) 7 7 6 S2 (by decide) (by decide) (by decide) g2_7 g2_6 rfl rfl cw_Curve_climb_72 (fun c3 h3 S3 v3 e3 t3 => ?_)
  clear s s0 s1 s2 s3 s4 s5 s6 s7 s8 s9
  have g3_0 : rp (c3 0) (x) := by rw [e3 0 (by decide)]; exact g2_0
  have g3_3 : rp (c3 3) (p) := by rw [e3 3 (by decide)]; exact g2_3
  have g3_4 : rp (c3 4) (pz) := by rw [e3 4 (by decide)]; exact g2_4
  have g3_1 : rp (c3 1) (q) := by rw [e3 1 (by decide)]; exact g2_1
  have g3_2 : rp (c3 2) (qz) := by rw [e3 2 (by decide)]; exact g2_2
  have g3_9 : ip (c3 9) (121665) := by rw [e3 9 (by decide)]; exact g2_9
  have g3_5 : ip (c3 5) ((p) + (pz)) := by rw [e3 5 (by decide)]; exact g2_5
  have g3_6 : ip (c3 6) ((p) - (pz)) := by rw [e3 6 (by decide)]; exact g2_6
  have g3_8 : rp (c3 8) (((q) - (qz)) * ((p) + (pz))) := by rw [e3 8 (by decide)]; exact v2
  obtain ⟨s, s0, s1, s2, s3, s4, s5, s6, s7, s8, s9⟩ := id S3
  first | refine on_aload_n (pc' := 115) rfl rfl rfl rfl ?_ | refine on_aload_nQ (pc' := 115) rfl rfl rfl rfl ?_
  first | refine on_aload_n (pc' := 116) rfl rfl rfl rfl ?_ | refine on_aload_nQ (pc' := 116) rfl rfl rfl rfl ?_
  apply on_get (pc' := 119) rfl rfl fl_Curve_27
  · repeat (first | assumption | exact on_up_eq _ _ _ | refine (on_up_ne (by omega)).trans ?_)
  · rfl
  first | refine on_aload_n (pc' := 120) rfl rfl rfl rfl ?_ | refine on_aload_nQ (pc' := 120) rfl rfl rfl rfl ?_
  apply on_get (pc' := 123) rfl rfl fl_Curve_27
  · repeat (first | assumption | exact on_up_eq _ _ _ | refine (on_up_ne (by omega)).trans ?_)
  · rfl
  first | refine on_aload_n (pc' := 124) rfl rfl rfl rfl ?_ | refine on_aload_nQ (pc' := 124) rfl rfl rfl rfl ?_
  apply on_get (pc' := 127) rfl rfl fl_Curve_27
  · repeat (first | assumption | exact on_up_eq _ _ _ | refine (on_up_ne (by omega)).trans ?_)
  · rfl
  refine on_mul (pc' := 130) 5 5 5 S3 (by decide) (by decide) (by decide) g3_5 g3_5 rfl rfl cw_Curve_climb_72 (fun c4 h4 S4 v4 e4 t4 => ?_)
  clear s s0 s1 s2 s3 s4 s5 s6 s7 s8 s9
  have g4_0 : rp (c4 0) (x) := by rw [e4 0 (by decide)]; exact g3_0
  have g4_3 : rp (c4 3) (p) := by rw [e4 3 (by decide)]; exact g3_3
  have g4_4 : rp (c4 4) (pz) := by rw [e4 4 (by decide)]; exact g3_4
  have g4_1 : rp (c4 1) (q) := by rw [e4 1 (by decide)]; exact g3_1
  have g4_2 : rp (c4 2) (qz) := by rw [e4 2 (by decide)]; exact g3_2
  have g4_9 : ip (c4 9) (121665) := by rw [e4 9 (by decide)]; exact g3_9
  have g4_6 : ip (c4 6) ((p) - (pz)) := by rw [e4 6 (by decide)]; exact g3_6
  have g4_8 : rp (c4 8) (((q) - (qz)) * ((p) + (pz))) := by rw [e4 8 (by decide)]; exact g3_8
  have g4_7 : rp (c4 7) (((q) + (qz)) * ((p) - (pz))) := by rw [e4 7 (by decide)]; exact v3
  obtain ⟨s, s0, s1, s2, s3, s4, s5, s6, s7, s8, s9⟩ := id S4
  first | refine on_aload_n (pc' := 131) rfl rfl rfl rfl ?_ | refine on_aload_nQ (pc' := 131) rfl rfl rfl rfl ?_
  first | refine on_aload_n (pc' := 132) rfl rfl rfl rfl ?_ | refine on_aload_nQ (pc' := 132) rfl rfl rfl rfl ?_
  apply on_get (pc' := 135) rfl rfl fl_Curve_30
  · repeat (first | assumption | exact on_up_eq _ _ _ | refine (on_up_ne (by omega)).trans ?_)
  · rfl
  first | refine on_aload_n (pc' := 136) rfl rfl rfl rfl ?_ | refine on_aload_nQ (pc' := 136) rfl rfl rfl rfl ?_
  apply on_get (pc' := 139) rfl rfl fl_Curve_30
  · repeat (first | assumption | exact on_up_eq _ _ _ | refine (on_up_ne (by omega)).trans ?_)
  · rfl
  first | refine on_aload_n (pc' := 140) rfl rfl rfl rfl ?_ | refine on_aload_nQ (pc' := 140) rfl rfl rfl rfl ?_
  apply on_get (pc' := 143) rfl rfl fl_Curve_30
  · repeat (first | assumption | exact on_up_eq _ _ _ | refine (on_up_ne (by omega)).trans ?_)
  · rfl
  refine on_mul (pc' := 146) 6 6 6 S4 (by decide) (by decide) (by decide) g4_6 g4_6 rfl rfl cw_Curve_climb_72 (fun c5 h5 S5 v5 e5 t5 => ?_)
  clear s s0 s1 s2 s3 s4 s5 s6 s7 s8 s9
  have g5_0 : rp (c5 0) (x) := by rw [e5 0 (by decide)]; exact g4_0
  have g5_3 : rp (c5 3) (p) := by rw [e5 3 (by decide)]; exact g4_3
  have g5_4 : rp (c5 4) (pz) := by rw [e5 4 (by decide)]; exact g4_4
  have g5_1 : rp (c5 1) (q) := by rw [e5 1 (by decide)]; exact g4_1
  have g5_2 : rp (c5 2) (qz) := by rw [e5 2 (by decide)]; exact g4_2
  have g5_9 : ip (c5 9) (121665) := by rw [e5 9 (by decide)]; exact g4_9
  have g5_8 : rp (c5 8) (((q) - (qz)) * ((p) + (pz))) := by rw [e5 8 (by decide)]; exact g4_8
  have g5_7 : rp (c5 7) (((q) + (qz)) * ((p) - (pz))) := by rw [e5 7 (by decide)]; exact g4_7
  have g5_5 : rp (c5 5) (((p) + (pz)) * ((p) + (pz))) := by rw [e5 5 (by decide)]; exact v4
  refine on_iconst (pc' := 147) (v := 0) rfl rfl li_0 ?_
  refine on_istore (pc' := 149) rfl rfl (by decide) ?_
  refine on_relv (l := [(0, .ref o), (1, .ref (o + 4)), (2, .ref (o + 5)), (3, .ref (o + 2)), (4, .ref (o + 3)), (5, .int (nI 0))]) ⟨rfl, rfl, rfl, rfl, rfl, rfl, trivial⟩ (cu_cl2B (fun c6 h6 S6 t6 e6 w1 w2 w3 => ?_) 10 0 c5 h5 rfl S5 on_sm.rf (fun _ _ _ _ => rfl) (fun _ hj => absurd hj (Nat.not_lt_zero _)) (fun _ hj => absurd hj (Nat.not_lt_zero _)) (fun _ hj => absurd hj (Nat.not_lt_zero _)) (fun _ _ _ => rfl))
  have g6_0 : rp (c6 0) (x) := by rw [e6 0 (by decide) (by decide) (by decide)]; exact g5_0
  have g6_3 : rp (c6 3) (p) := by rw [e6 3 (by decide) (by decide) (by decide)]; exact g5_3
  have g6_4 : rp (c6 4) (pz) := by rw [e6 4 (by decide) (by decide) (by decide)]; exact g5_4
  have g6_9 : ip (c6 9) (121665) := by rw [e6 9 (by decide) (by decide) (by decide)]; exact g5_9
  have g6_8 : rp (c6 8) (((q) - (qz)) * ((p) + (pz))) := by rw [e6 8 (by decide) (by decide) (by decide)]; exact g5_8
  have g6_5 : rp (c6 5) (((p) + (pz)) * ((p) + (pz))) := by rw [e6 5 (by decide) (by decide) (by decide)]; exact g5_5
  have g6_6 : rp (c6 6) (((p) - (pz)) * ((p) - (pz))) := by rw [e6 6 (by decide) (by decide) (by decide)]; exact v5
  have z1 : ip (c6 1) ((((q) - (qz)) * ((p) + (pz))) + (((q) + (qz)) * ((p) - (pz)))) := rp_add g5_8 g5_7 w1
  have z2 : ip (c6 2) ((((q) - (qz)) * ((p) + (pz))) - (((q) + (qz)) * ((p) - (pz)))) := rp_sub g5_8 g5_7 w2
  have z7 : ip (c6 7) ((((p) + (pz)) * ((p) + (pz))) - (((p) - (pz)) * ((p) - (pz)))) := rp_sub g5_5 v5 w3
  obtain ⟨s, s0, s1, s2, s3, s4, s5, s6, s7, s8, s9⟩ := id S6
  first | refine on_aload_n (pc' := 224) rfl rfl rfl rfl ?_ | refine on_aload_nQ (pc' := 224) rfl rfl rfl rfl ?_
  first | refine on_aload_n (pc' := 225) rfl rfl rfl rfl ?_ | refine on_aload_nQ (pc' := 225) rfl rfl rfl rfl ?_
  first | refine on_aload_n (pc' := 226) rfl rfl rfl rfl ?_ | refine on_aload_nQ (pc' := 226) rfl rfl rfl rfl ?_
  first | refine on_aload_n (pc' := 227) rfl rfl rfl rfl ?_ | refine on_aload_nQ (pc' := 227) rfl rfl rfl rfl ?_
  refine on_mul (pc' := 230) 1 1 1 S6 (by decide) (by decide) (by decide) z1 z1 rfl rfl cw_Curve_climb_72 (fun c7 h7 S7 v7 e7 t7 => ?_)
  clear s s0 s1 s2 s3 s4 s5 s6 s7 s8 s9
  have g7_0 : rp (c7 0) (x) := by rw [e7 0 (by decide)]; exact g6_0
  have g7_3 : rp (c7 3) (p) := by rw [e7 3 (by decide)]; exact g6_3
  have g7_4 : rp (c7 4) (pz) := by rw [e7 4 (by decide)]; exact g6_4
  have g7_9 : ip (c7 9) (121665) := by rw [e7 9 (by decide)]; exact g6_9
  have g7_8 : rp (c7 8) (((q) - (qz)) * ((p) + (pz))) := by rw [e7 8 (by decide)]; exact g6_8
  have g7_5 : rp (c7 5) (((p) + (pz)) * ((p) + (pz))) := by rw [e7 5 (by decide)]; exact g6_5
  have g7_6 : rp (c7 6) (((p) - (pz)) * ((p) - (pz))) := by rw [e7 6 (by decide)]; exact g6_6
  have g7_2 : ip (c7 2) ((((q) - (qz)) * ((p) + (pz))) - (((q) + (qz)) * ((p) - (pz)))) := by rw [e7 2 (by decide)]; exact z2
  have g7_7 : ip (c7 7) ((((p) + (pz)) * ((p) + (pz))) - (((p) - (pz)) * ((p) - (pz)))) := by rw [e7 7 (by decide)]; exact z7
  obtain ⟨s, s0, s1, s2, s3, s4, s5, s6, s7, s8, s9⟩ := id S7
  first | refine on_aload_n (pc' := 231) rfl rfl rfl rfl ?_ | refine on_aload_nQ (pc' := 231) rfl rfl rfl rfl ?_
  first | refine on_aload (pc' := 233) rfl rfl rfl ?_ | refine on_aloadQ (pc' := 233) rfl rfl rfl ?_
  first | refine on_aload (pc' := 235) rfl rfl rfl ?_ | refine on_aloadQ (pc' := 235) rfl rfl rfl ?_
  first | refine on_aload (pc' := 237) rfl rfl rfl ?_ | refine on_aloadQ (pc' := 237) rfl rfl rfl ?_
  refine on_mul (pc' := 240) 2 2 2 S7 (by decide) (by decide) (by decide) g7_2 g7_2 rfl rfl cw_Curve_climb_72 (fun c8 h8 S8 v8 e8 t8 => ?_)
  clear s s0 s1 s2 s3 s4 s5 s6 s7 s8 s9
  have g8_0 : rp (c8 0) (x) := by rw [e8 0 (by decide)]; exact g7_0
  have g8_3 : rp (c8 3) (p) := by rw [e8 3 (by decide)]; exact g7_3
  have g8_4 : rp (c8 4) (pz) := by rw [e8 4 (by decide)]; exact g7_4
  have g8_9 : ip (c8 9) (121665) := by rw [e8 9 (by decide)]; exact g7_9
  have g8_8 : rp (c8 8) (((q) - (qz)) * ((p) + (pz))) := by rw [e8 8 (by decide)]; exact g7_8
  have g8_5 : rp (c8 5) (((p) + (pz)) * ((p) + (pz))) := by rw [e8 5 (by decide)]; exact g7_5
  have g8_6 : rp (c8 6) (((p) - (pz)) * ((p) - (pz))) := by rw [e8 6 (by decide)]; exact g7_6
  have g8_7 : ip (c8 7) ((((p) + (pz)) * ((p) + (pz))) - (((p) - (pz)) * ((p) - (pz)))) := by rw [e8 7 (by decide)]; exact g7_7
  have g8_1 : rp (c8 1) (((((q) - (qz)) * ((p) + (pz))) + (((q) + (qz)) * ((p) - (pz)))) * ((((q) - (qz)) * ((p) + (pz))) + (((q) + (qz)) * ((p) - (pz))))) := by rw [e8 1 (by decide)]; exact v7
  obtain ⟨s, s0, s1, s2, s3, s4, s5, s6, s7, s8, s9⟩ := id S8
  first | refine on_aload_n (pc' := 241) rfl rfl rfl rfl ?_ | refine on_aload_nQ (pc' := 241) rfl rfl rfl rfl ?_
  first | refine on_aload (pc' := 243) rfl rfl rfl ?_ | refine on_aloadQ (pc' := 243) rfl rfl rfl ?_
  first | refine on_aload (pc' := 245) rfl rfl rfl ?_ | refine on_aloadQ (pc' := 245) rfl rfl rfl ?_
  first | refine on_aload_n (pc' := 246) rfl rfl rfl rfl ?_ | refine on_aload_nQ (pc' := 246) rfl rfl rfl rfl ?_
  apply on_get (pc' := 249) rfl rfl fl_Curve_11
  · repeat (first | assumption | exact on_up_eq _ _ _ | refine (on_up_ne (by omega)).trans ?_)
  · rfl
  refine on_mul (pc' := 252) 2 2 0 S8 (by decide) (by decide) (by decide) (rp_ip v8) (rp_ip g8_0) rfl rfl cw_Curve_climb_72 (fun c9 h9 S9 v9 e9 t9 => ?_)
  clear s s0 s1 s2 s3 s4 s5 s6 s7 s8 s9
  have g9_0 : rp (c9 0) (x) := by rw [e9 0 (by decide)]; exact g8_0
  have g9_3 : rp (c9 3) (p) := by rw [e9 3 (by decide)]; exact g8_3
  have g9_4 : rp (c9 4) (pz) := by rw [e9 4 (by decide)]; exact g8_4
  have g9_9 : ip (c9 9) (121665) := by rw [e9 9 (by decide)]; exact g8_9
  have g9_8 : rp (c9 8) (((q) - (qz)) * ((p) + (pz))) := by rw [e9 8 (by decide)]; exact g8_8
  have g9_5 : rp (c9 5) (((p) + (pz)) * ((p) + (pz))) := by rw [e9 5 (by decide)]; exact g8_5
  have g9_6 : rp (c9 6) (((p) - (pz)) * ((p) - (pz))) := by rw [e9 6 (by decide)]; exact g8_6
  have g9_7 : ip (c9 7) ((((p) + (pz)) * ((p) + (pz))) - (((p) - (pz)) * ((p) - (pz)))) := by rw [e9 7 (by decide)]; exact g8_7
  have g9_1 : rp (c9 1) (((((q) - (qz)) * ((p) + (pz))) + (((q) + (qz)) * ((p) - (pz)))) * ((((q) - (qz)) * ((p) + (pz))) + (((q) + (qz)) * ((p) - (pz))))) := by rw [e9 1 (by decide)]; exact g8_1
  obtain ⟨s, s0, s1, s2, s3, s4, s5, s6, s7, s8, s9⟩ := id S9
  first | refine on_aload_n (pc' := 253) rfl rfl rfl rfl ?_ | refine on_aload_nQ (pc' := 253) rfl rfl rfl rfl ?_
  first | refine on_aload_n (pc' := 254) rfl rfl rfl rfl ?_ | refine on_aload_nQ (pc' := 254) rfl rfl rfl rfl ?_
  first | refine on_aload_n (pc' := 255) rfl rfl rfl rfl ?_ | refine on_aload_nQ (pc' := 255) rfl rfl rfl rfl ?_
  apply on_get (pc' := 258) rfl rfl fl_Curve_27
  · repeat (first | assumption | exact on_up_eq _ _ _ | refine (on_up_ne (by omega)).trans ?_)
  · rfl
  first | refine on_aload_n (pc' := 259) rfl rfl rfl rfl ?_ | refine on_aload_nQ (pc' := 259) rfl rfl rfl rfl ?_
  apply on_get (pc' := 262) rfl rfl fl_Curve_30
  · repeat (first | assumption | exact on_up_eq _ _ _ | refine (on_up_ne (by omega)).trans ?_)
  · rfl
  refine on_mul (pc' := 265) 3 5 6 S9 (by decide) (by decide) (by decide) (rp_ip g9_5) (rp_ip g9_6) rfl rfl cw_Curve_climb_72 (fun c10 h10 S10 v10 e10 t10 => ?_)
  clear s s0 s1 s2 s3 s4 s5 s6 s7 s8 s9
  have g10_0 : rp (c10 0) (x) := by rw [e10 0 (by decide)]; exact g9_0
  have g10_4 : rp (c10 4) (pz) := by rw [e10 4 (by decide)]; exact g9_4
  have g10_9 : ip (c10 9) (121665) := by rw [e10 9 (by decide)]; exact g9_9
  have g10_8 : rp (c10 8) (((q) - (qz)) * ((p) + (pz))) := by rw [e10 8 (by decide)]; exact g9_8
  have g10_5 : rp (c10 5) (((p) + (pz)) * ((p) + (pz))) := by rw [e10 5 (by decide)]; exact g9_5
  have g10_6 : rp (c10 6) (((p) - (pz)) * ((p) - (pz))) := by rw [e10 6 (by decide)]; exact g9_6
  have g10_7 : ip (c10 7) ((((p) + (pz)) * ((p) + (pz))) - (((p) - (pz)) * ((p) - (pz)))) := by rw [e10 7 (by decide)]; exact g9_7
  have g10_1 : rp (c10 1) (((((q) - (qz)) * ((p) + (pz))) + (((q) + (qz)) * ((p) - (pz)))) * ((((q) - (qz)) * ((p) + (pz))) + (((q) + (qz)) * ((p) - (pz))))) := by rw [e10 1 (by decide)]; exact g9_1
  have g10_2 : rp (c10 2) ((((((q) - (qz)) * ((p) + (pz))) - (((q) + (qz)) * ((p) - (pz)))) * ((((q) - (qz)) * ((p) + (pz))) - (((q) + (qz)) * ((p) - (pz))))) * (x)) := by rw [e10 2 (by decide)]; exact v9
  obtain ⟨s, s0, s1, s2, s3, s4, s5, s6, s7, s8, s9⟩ := id S10
  first | refine on_aload_n (pc' := 266) rfl rfl rfl rfl ?_ | refine on_aload_nQ (pc' := 266) rfl rfl rfl rfl ?_
  first | refine on_aload_n (pc' := 267) rfl rfl rfl rfl ?_ | refine on_aload_nQ (pc' := 267) rfl rfl rfl rfl ?_
  apply on_get (pc' := 270) rfl rfl fl_Curve_36
  · repeat (first | assumption | exact on_up_eq _ _ _ | refine (on_up_ne (by omega)).trans ?_)
  · rfl
  first | refine on_aload_n (pc' := 271) rfl rfl rfl rfl ?_ | refine on_aload_nQ (pc' := 271) rfl rfl rfl rfl ?_
  apply on_get (pc' := 274) rfl rfl fl_Curve_33
  · repeat (first | assumption | exact on_up_eq _ _ _ | refine (on_up_ne (by omega)).trans ?_)
  · rfl
  first | refine on_aload_n (pc' := 275) rfl rfl rfl rfl ?_ | refine on_aload_nQ (pc' := 275) rfl rfl rfl rfl ?_
  apply on_get (pc' := 278) rfl rfl fl_Curve_39
  · repeat (first | assumption | exact on_up_eq _ _ _ | refine (on_up_ne (by omega)).trans ?_)
  · rfl
  refine on_mul (pc' := 281) 8 7 9 S10 (by decide) (by decide) (by decide) g10_7 g10_9 rfl rfl cw_Curve_climb_72 (fun c11 h11 S11 v11 e11 t11 => ?_)
  clear s s0 s1 s2 s3 s4 s5 s6 s7 s8 s9
  have g11_0 : rp (c11 0) (x) := by rw [e11 0 (by decide)]; exact g10_0
  have g11_4 : rp (c11 4) (pz) := by rw [e11 4 (by decide)]; exact g10_4
  have g11_9 : ip (c11 9) (121665) := by rw [e11 9 (by decide)]; exact g10_9
  have g11_5 : rp (c11 5) (((p) + (pz)) * ((p) + (pz))) := by rw [e11 5 (by decide)]; exact g10_5
  have g11_6 : rp (c11 6) (((p) - (pz)) * ((p) - (pz))) := by rw [e11 6 (by decide)]; exact g10_6
  have g11_7 : ip (c11 7) ((((p) + (pz)) * ((p) + (pz))) - (((p) - (pz)) * ((p) - (pz)))) := by rw [e11 7 (by decide)]; exact g10_7
  have g11_1 : rp (c11 1) (((((q) - (qz)) * ((p) + (pz))) + (((q) + (qz)) * ((p) - (pz)))) * ((((q) - (qz)) * ((p) + (pz))) + (((q) + (qz)) * ((p) - (pz))))) := by rw [e11 1 (by decide)]; exact g10_1
  have g11_2 : rp (c11 2) ((((((q) - (qz)) * ((p) + (pz))) - (((q) + (qz)) * ((p) - (pz)))) * ((((q) - (qz)) * ((p) + (pz))) - (((q) + (qz)) * ((p) - (pz))))) * (x)) := by rw [e11 2 (by decide)]; exact g10_2
  have g11_3 : rp (c11 3) ((((p) + (pz)) * ((p) + (pz))) * (((p) - (pz)) * ((p) - (pz)))) := by rw [e11 3 (by decide)]; exact v10
  refine on_iconst (pc' := 282) (v := 0) rfl rfl li_0 ?_
  refine on_istore (pc' := 284) rfl rfl (by decide) ?_
  refine on_relv (l := [(0, .ref o), (1, .ref (o + 4)), (2, .ref (o + 5)), (3, .ref (o + 2)), (4, .ref (o + 3)), (5, .int (nI 0))]) ⟨rfl, rfl, rfl, rfl, rfl, rfl, trivial⟩ (cu_cl3B (fun c12 h12 S12 t12 e12 w9 => ?_) 10 0 c11 h11 rfl S11 on_sm.rf (fun _ _ => rfl) (fun _ hj => absurd hj (Nat.not_lt_zero _)) (fun _ _ _ => rfl))
  have g12_0 : rp (c12 0) (x) := by rw [e12 0 (by decide)]; exact g11_0
  have g12_4 : rp (c12 4) (pz) := by rw [e12 4 (by decide)]; exact g11_4
  have g12_9 : ip (c12 9) (121665) := by rw [e12 9 (by decide)]; exact g11_9
  have g12_5 : rp (c12 5) (((p) + (pz)) * ((p) + (pz))) := by rw [e12 5 (by decide)]; exact g11_5
  have g12_6 : rp (c12 6) (((p) - (pz)) * ((p) - (pz))) := by rw [e12 6 (by decide)]; exact g11_6
  have g12_7 : ip (c12 7) ((((p) + (pz)) * ((p) + (pz))) - (((p) - (pz)) * ((p) - (pz)))) := by rw [e12 7 (by decide)]; exact g11_7
  have g12_1 : rp (c12 1) (((((q) - (qz)) * ((p) + (pz))) + (((q) + (qz)) * ((p) - (pz)))) * ((((q) - (qz)) * ((p) + (pz))) + (((q) + (qz)) * ((p) - (pz))))) := by rw [e12 1 (by decide)]; exact g11_1
  have g12_2 : rp (c12 2) ((((((q) - (qz)) * ((p) + (pz))) - (((q) + (qz)) * ((p) - (pz)))) * ((((q) - (qz)) * ((p) + (pz))) - (((q) + (qz)) * ((p) - (pz))))) * (x)) := by rw [e12 2 (by decide)]; exact g11_2
  have g12_3 : rp (c12 3) ((((p) + (pz)) * ((p) + (pz))) * (((p) - (pz)) * ((p) - (pz)))) := by rw [e12 3 (by decide)]; exact g11_3
  have y8 : ip (c12 8) ((((((p) + (pz)) * ((p) + (pz))) - (((p) - (pz)) * ((p) - (pz)))) * (121665)) + (((p) + (pz)) * ((p) + (pz)))) := rp_add v11 g11_5 w9
  obtain ⟨s, s0, s1, s2, s3, s4, s5, s6, s7, s8, s9⟩ := id S12
  first | refine on_aload_n (pc' := 315) rfl rfl rfl rfl ?_ | refine on_aload_nQ (pc' := 315) rfl rfl rfl rfl ?_
  first | refine on_aload_n (pc' := 316) rfl rfl rfl rfl ?_ | refine on_aload_nQ (pc' := 316) rfl rfl rfl rfl ?_
  first | refine on_aload_n (pc' := 317) rfl rfl rfl rfl ?_ | refine on_aload_nQ (pc' := 317) rfl rfl rfl rfl ?_
  apply on_get (pc' := 320) rfl rfl fl_Curve_33
  · repeat (first | assumption | exact on_up_eq _ _ _ | refine (on_up_ne (by omega)).trans ?_)
  · rfl
  first | refine on_aload_n (pc' := 321) rfl rfl rfl rfl ?_ | refine on_aload_nQ (pc' := 321) rfl rfl rfl rfl ?_
  apply on_get (pc' := 324) rfl rfl fl_Curve_36
  · repeat (first | assumption | exact on_up_eq _ _ _ | refine (on_up_ne (by omega)).trans ?_)
  · rfl
  refine on_mul (pc' := 327) 4 7 8 S12 (by decide) (by decide) (by decide) g12_7 y8 rfl rfl cw_Curve_climb_72 (fun c13 h13 S13 v13 e13 t13 => ?_)
  clear s s0 s1 s2 s3 s4 s5 s6 s7 s8 s9
  have g13_0 : rp (c13 0) (x) := by rw [e13 0 (by decide)]; exact g12_0
  have g13_9 : ip (c13 9) (121665) := by rw [e13 9 (by decide)]; exact g12_9
  have g13_5 : rp (c13 5) (((p) + (pz)) * ((p) + (pz))) := by rw [e13 5 (by decide)]; exact g12_5
  have g13_6 : rp (c13 6) (((p) - (pz)) * ((p) - (pz))) := by rw [e13 6 (by decide)]; exact g12_6
  have g13_7 : ip (c13 7) ((((p) + (pz)) * ((p) + (pz))) - (((p) - (pz)) * ((p) - (pz)))) := by rw [e13 7 (by decide)]; exact g12_7
  have g13_1 : rp (c13 1) (((((q) - (qz)) * ((p) + (pz))) + (((q) + (qz)) * ((p) - (pz)))) * ((((q) - (qz)) * ((p) + (pz))) + (((q) + (qz)) * ((p) - (pz))))) := by rw [e13 1 (by decide)]; exact g12_1
  have g13_2 : rp (c13 2) ((((((q) - (qz)) * ((p) + (pz))) - (((q) + (qz)) * ((p) - (pz)))) * ((((q) - (qz)) * ((p) + (pz))) - (((q) + (qz)) * ((p) - (pz))))) * (x)) := by rw [e13 2 (by decide)]; exact g12_2
  have g13_3 : rp (c13 3) ((((p) + (pz)) * ((p) + (pz))) * (((p) - (pz)) * ((p) - (pz)))) := by rw [e13 3 (by decide)]; exact g12_3
  have g13_8 : ip (c13 8) ((((((p) + (pz)) * ((p) + (pz))) - (((p) - (pz)) * ((p) - (pz)))) * (121665)) + (((p) + (pz)) * ((p) + (pz)))) := by rw [e13 8 (by decide)]; exact y8
  refine on_vreturn rfl rfl ?_
  refine ⟨rfl, rfl, c13, S13, ((((((((((((t1.trans t2).trans t3).trans t4).trans t5).trans t6).trans t7).trans t8).trans t9).trans t10).trans t11).trans t12).trans t13), g13_3, v13, g13_1, g13_2, ?_⟩
  intro k hk
  rw [e13 k (by omega), e12 k (by omega), e11 k (by omega), e10 k (by omega), e9 k (by omega), e8 k (by omega), e7 k (by omega), e6 k (by omega) (by omega) (by omega), e5 k (by omega), e4 k (by omega), e3 k (by omega), e2 k (by omega), e1 k (by omega) (by omega) (by omega) (by omega)]
end CL2
