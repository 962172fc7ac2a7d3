/-! a Relay takes a cell forwards -/
theorem la_A.ob {o tr : Nat} {l : aL} {h : on_H} (k : la_A o tr l h) : ∃ fs, h o = some (.inr (2, fs)) := by
  obtain ⟨-, due, inp, mix, blk, u, c, hB, -⟩ := k
  exact ⟨_, hB.1⟩
/-- a layer laid on a row -/
theorem ln_ce {h : on_H} {q : Nat} {f : Nat → Int32} {x : aB} {K : Nat → Nat} {pos : Nat} (hx : on_by f x 140) (hq : h q = some (on_ai 0 140 (ln_x f K pos 135))) : rB h q 140 (ce_p x (cv_p K pos (fun k => x (5 + k)))) := by
  refine rB.to ⟨_, hq, ln_by hx⟩ (fun i hi => ?_)
  unfold ce_p cv_p
  by_cases z : 5 ≤ i
  · rw [if_neg (by omega), if_pos z]
    dsimp only
    rw [show 5 + (i - 5) = i by omega]
  · rw [if_pos (by omega), if_neg z]
theorem r_do_z {nr nm s : Nat} {r : aR} {e : aE} {y : aB} : r_do nr nm r s e (rc_z y) = r_do nr nm r s e y := by
  have e5 : rc_z y 5 = y 5 := if_neg (by decide)
  have e8 : rc_z y 8 = y 8 := if_neg (by decide)
  have e9 : rc_z y 9 = y 9 := if_neg (by decide)
  have e14 : rc_z y 14 = y 14 := if_neg (by decide)
  have e15 : rc_z y 15 = y 15 := if_neg (by decide)
  have e16 : rc_z y 16 = y 16 := if_neg (by decide)
  have f16 : (fun j => rc_z y (16 + j)) = fun j => y (16 + j) := funext fun j => if_neg (by omega)
  have f17 : (fun j => rc_z y (17 + j)) = fun j => y (17 + j) := funext fun j => if_neg (by omega)
  unfold r_do
  dsimp only
  rw [e5, e8, e9, e14, e15, e16, f16, f17]
section RFW
variable {G : on_G} {a ot hs nm u q s sz : Nat} {r : aR} {h h1 : on_H} {x y : aB} {e : aE}
/-- an entry destroyed -/
theorem dB_ok {c : Nat → aB} {to : Nat → Nat} {pl : Nat → Bool} {sc fr fn on_ onn wt : Int32} {S V W C : Nat → Int32} (hd : hs + 29 ≤ u ∧ u + 8 ≤ q ∧ q < a) (s12 : s < 12) (R : rl_S a ot hs nm (r_en r (fu r.en s (some e))) h) (H : hk_W hs h) (K1 : en_B (a + 8 + 21 * s) sc fr fn on_ onn 0 wt S V W C h1)
    (O1 : ob_S u (do_n e.on 1) (do_c e.on (fu c 0 (ce_k e.fn 4 (fun _ => 0) 0)) 1) (do_t e.on (fu to 0 e.fr) 1) (do_p e.on pl 1) h1) (hq : rW h q 140) (t : ∀ x, x ≠ a + 8 + 21 * s → (x < u ∨ u + 8 ≤ x) → h1 x = h x) : rl_S a ot hs nm (r_en r (fu r.en s none)) h1 ∧ hk_W hs h1 ∧ ob_L u (e_ds e) h1 ∧ rW h1 q 140 ∧ ry_f a hs u q h h1 := by
  have E := R.us s12 fu_s
  refine ⟨?_, H.keep (fun b _ _ => t b (by omega) (by omega)), ?_, hq.keep (t _ (by omega) (by omega)), fun b b1 b2 b3 b4 => t b (by omega) b3⟩
  · have := R.ent (h2 := h1) (k := s) (oe := none) s12 ⟨sc, fr, fn, on_, onn, wt, S, V, W, C, K1, (E.fwbw.1 : la_S _ _ _ _ _ _).w.keep (fun b _ _ => t b (by omega) (by omega)), (E.fwbw.2 : la_S _ _ _ _ _ _).w.keep (fun b _ _ => t b (by omega) (by omega))⟩ (fun b b1 b2 b3 => t b (by omega) (by omega))
    rw [show fu (r_en r (fu r.en s (some e))).en s none = fu r.en s none from fu_fu] at this
    exact this
  · unfold e_ds
    cases ho : e.on with
    | none =>
      rw [ho] at O1
      exact ob_1 O1 fu_s (fun j _ => congrFun fu_s j)
    | some p =>
      rw [ho] at O1
      exact ob_2 O1 ((fu_n (by decide)).trans fu_s) (fun j _ => congrFun ((fu_n (by decide)).trans fu_s) j) fu_s (fun j _ => congrFun fu_s j)
set_option maxHeartbeats 16000000 in
/-- takeForward -/
theorem c_takeForward {nr : Nat} {F : Nat → Option Nat} (hnr : nr ≤ 6) (hnm : nm < 8) (hd : hs + 29 ≤ u ∧ u + 8 ≤ q ∧ q < a) (hdo : ot < hs) (s12 : s < 12) (hot : h ot = some (on_aq 4 6 F)) (hF : ∀ j, j < 6 → (j < nr → ∃ z, F j = some z) ∧ (¬ j < nr → F j = none)) (hw : ∀ p, e.on = some p → p.1 < 10) (hL : e.fw.ms.length + 540 < 2 ^ 28 ∧ e.bw.ms.length + 540 < 2 ^ 28) (R : rl_S a ot hs nm r h) (he : r.en s = some e) (H : hk_W hs h) (O : ob_E u h) (hq : rB h q 140 x) :
    on_Ct G M_Relay_takeForward [.ref a, .ref (a + 8 + 21 * s), .ref q, .ref u] h sz 0 0 (fun v h1 z => v = none ∧ z = sz ∧ ry_P a ot hs nm u q (r_fw nr nm r s e x) h h1) := by
  have E : en_U (a + 8 + 21 * s) (hs + 4) e h := R.us s12 he
  obtain ⟨onn, S, V, W, C, b, hon, hst, LF, LB⟩ := id E
  obtain ⟨X, q1, X'⟩ := id hq
  have b0 := b.1
  obtain ⟨fs, f0⟩ := LF.ob
  refine on_Ct.of (by decide) v_Relay_takeForward (Nat.le_of_ble_eq_true rfl) ?_
  first | refine on_aload_n (pc' := 1) rfl rfl rfl rfl ?_ | refine on_aload_nQ (pc' := 1) rfl rfl rfl rfl ?_
  first | apply on_get (pc' := 4) rfl rfl fl_Relay_138 | apply on_getN (pc' := 4) rfl rfl fl_Relay_138
  · repeat (first | assumption | exact on_up_eq _ _ _ | refine (on_up_ne (by omega)).trans ?_)
  · rfl
  first | refine on_aload_n (pc' := 5) rfl rfl rfl rfl ?_ | refine on_aload_nQ (pc' := 5) rfl rfl rfl rfl ?_
  refine on_callV (pc' := 8) (As := [.ref q]) (rest := []) (b := a + 8 + 21 * s + 5) rfl rfl cw_Relay_takeForward_87 (f0) rfl rfl (Nat.le_of_ble_eq_true rfl) (Nat.zero_le _) (Nat.zero_le _) (c_Lane_lay LF.2 q1 (by omega)) ?_
  rintro v h1 sz ⟨rfl, rfl, L1, q2, t1⟩
  have T1 : ∀ b, b ≠ q → (b < a + 8 + 21 * s + 5 ∨ a + 8 + 21 * s + 5 + 8 ≤ b) → h1 b = h b := fun b b1 b2 => t1 b b1 (by unfold ln_off; omega)
  have LF1 : la_A (a + 8 + 21 * s + 5) (hs + 4) (cv_l e.fw) h1 := ⟨LF.1.keep (fun b _ _ => t1 b (by omega) (by unfold ln_off; omega)), L1⟩
  have b1 := b.keep (h2 := h1) (fun b _ _ => T1 b (by omega) (by omega))
  have b10 := b1.1
  obtain ⟨Y, y1, Y'⟩ := ln_ce (x := x) (K := e.fw.K) (pos := e.fw.pos) X' q2
  have rfw : r_fw nr nm r s e x = if rc_ok e.fw.ms (ce_p x (cv_p e.fw.K e.fw.pos (fun k => x (5 + k)))) then r_do nr nm r s (e.fr, e.fn, e.on, e.wt, rc_l (cv_l e.fw) (ce_p x (cv_p e.fw.K e.fw.pos (fun k => x (5 + k)))), e.bw, e.st) (ce_p x (cv_p e.fw.K e.fw.pos (fun k => x (5 + k)))) else match e.on with | some q => if e.wt then (r_en r (fu r.en s none), e_ds e) else (r_en r (fu r.en s (some (e.fr, e.fn, e.on, e.wt, cv_l e.fw, e.bw, e.st))), [(q.1, ce_k (nI q.2) 3 (fun k => (ce_p x (cv_p e.fw.K e.fw.pos (fun k => x (5 + k)))) (5 + k)) 135)]) | none => (r_en r (fu r.en s none), e_ds e) := rfl
  generalize ce_p x (cv_p e.fw.K e.fw.pos (fun k => x (5 + k))) = y at Y' rfw
  obtain ⟨fs1, f1⟩ := LF1.ob
  first | refine on_aload_n (pc' := 9) rfl rfl rfl rfl ?_ | refine on_aload_nQ (pc' := 9) rfl rfl rfl rfl ?_
  first | apply on_get (pc' := 12) rfl rfl fl_Relay_138 | apply on_getN (pc' := 12) rfl rfl fl_Relay_138
  · repeat (first | assumption | exact on_up_eq _ _ _ | refine (on_up_ne (by omega)).trans ?_)
  · rfl
  first | refine on_aload_n (pc' := 13) rfl rfl rfl rfl ?_ | refine on_aload_nQ (pc' := 13) rfl rfl rfl rfl ?_
  refine on_callV (pc' := 16) (As := [.ref q]) (rest := []) (b := a + 8 + 21 * s + 5) rfl rfl cw_Relay_takeForward_159 (f1) rfl rfl (Nat.le_of_ble_eq_true rfl) (Nat.zero_le _) (Nat.zero_le _) (c_Lane_recognizes (ms := e.fw.ms) (K := e.fw.K) (pos := e.fw.pos + 135) LF1 (H.tr.keep (fun b _ _ => T1 b (by omega) (by omega))) (by omega) (by omega) y1 (by omega) (by omega) Y') ?_
  rintro v h2 sz ⟨rfl, rfl, L2, W2, Q2, t2⟩
  have T2 : ∀ b, b ≠ q → (b < a + 8 + 21 * s + 5 ∨ a + 8 + 21 * s + 5 + 8 ≤ b) → (b < hs + 4 ∨ hs + 4 + 3 ≤ b) → h2 b = h b := fun b b1 b2 b3 => (t2 b b1 b2 b3).trans (T1 b b1 b2)
  have H2 : hk_W hs h2 := H.tru W2 (fun b b1 b2 b3 => T2 b (by omega) (by omega) (by omega))
  have O2 : ob_E u h2 := ob_S.keep O (fun b _ _ => T2 b (by omega) (by omega) (by omega))
  have B2 := b.keep (h2 := h2) (fun b _ _ => T2 b (by omega) (by omega) (by omega))
  have B20 := B2.1
  have RR : ∀ l, la_A (a + 8 + 21 * s + 5) (hs + 4) l h2 → rl_S a ot hs nm (r_en r (fu r.en s (some (e.fr, e.fn, e.on, e.wt, l, e.bw, e.st)))) h2 := fun l hl => R.ent s12 (E.fw hl (fun b b1 b2 b3 => T2 b (by omega) (by omega) (by omega)) : en_U _ _ _ _) (fun b b1 b2 b3 => T2 b (by omega) (by omega) (by omega))
  have o2 : h2 a = some (.inr (8, [.ref (a + 1), .ref ot, .ref hs, .ref (a + 3), .ref (a + 4), .ref (a + 5), .ref (a + 6), .ref (a + 7), .int (nI r.ke.length), .int (nI r.we)])) := (T2 a (by omega) (by omega) (by omega)).trans R.1
  have tot : ∀ h3 : on_H, ry_f a hs u q h2 h3 → ry_f a hs u q h h3 := fun h3 z b b1 b2 b3 b4 => (z b b1 b2 b3 b4).trans (T2 b b4 (by omega) (by omega))
  have onb : ∀ p, e.on = some p → p.1 < 10 ∧ onn = nI p.2 := fun p hp => ⟨hw p hp, hon p hp⟩
  by_cases ok : rc_ok e.fw.ms y = true
  · rw [if_pos ok] at L2 Q2 ⊢
    rw [if_pos ok] at rfw
    have R2 := RR (rc_l (cv_l e.fw) y) L2
    have hz := (rc_ok_iff _ _).mp ok
    have z14 : rc_z y 14 = y 14 := if_neg (by decide)
    have z15 : rc_z y 15 = y 15 := if_neg (by decide)
    refine on_if_eq (pc' := 19) (tgt := 49) rfl rfl rfl (fun cq => ?_) (fun cq => ?_)
    · exact absurd cq (by decide)
    · clear cq
      first | refine on_aload_n (pc' := 20) rfl rfl rfl rfl ?_ | refine on_aload_nQ (pc' := 20) rfl rfl rfl rfl ?_
      first | refine on_aload_n (pc' := 21) rfl rfl rfl rfl ?_ | refine on_aload_nQ (pc' := 21) rfl rfl rfl rfl ?_
      first | refine on_aload_n (pc' := 22) rfl rfl rfl rfl ?_ | refine on_aload_nQ (pc' := 22) rfl rfl rfl rfl ?_
      first | refine on_aload_n (pc' := 23) rfl rfl rfl rfl ?_ | refine on_aload_nQ (pc' := 23) rfl rfl rfl rfl ?_
      refine on_callV (pc' := 26) (As := [.ref (a + 8 + 21 * s), .ref q, .ref u]) (rest := []) (b := a) rfl rfl cw_Relay_takeForward_162 (o2) rfl rfl (Nat.le_of_ble_eq_true rfl) (Nat.zero_le _) (Nat.zero_le _) (c_doPayload (r := r) (e := (e.fr, e.fn, e.on, e.wt, rc_l (cv_l e.fw) y, e.bw, e.st)) (y := rc_z y) hnr hnm hd s12 ((T2 ot (by omega) (by omega) (by omega)).trans hot) hF hw (by rw [z14, z15]; exact hz.2.2.1) R2 O2 Q2) ?_
      rintro v h3 sz ⟨rfl, ⟨rfl, r2, e2, L, R3, eb, hL2, O3, d1, d2, t3⟩ | ⟨rfl, d1, rfl⟩⟩
      · rw [r_do_z, ← rfw] at d1 d2
        refine on_if_eq (pc' := 29) (tgt := 40) rfl rfl rfl (fun cq => ?_) (fun cq => ?_)
        · exact absurd cq (by decide)
        · clear cq
          have E3 := R3.us s12 fu_s
          obtain ⟨onn3, S3, V3, W3, C3, c3, -, -, -, LB3⟩ := id E3
          have c30 := c3.1
          obtain ⟨c, to, pl, P1, P2⟩ := O3
          have ebw : e2.bw = e.bw := eb
          rw [ebw] at LB3
          first | refine on_aload_n (pc' := 30) rfl rfl rfl rfl ?_ | refine on_aload_nQ (pc' := 30) rfl rfl rfl rfl ?_
          first | refine on_aload_n (pc' := 31) rfl rfl rfl rfl ?_ | refine on_aload_nQ (pc' := 31) rfl rfl rfl rfl ?_
          first | apply on_get (pc' := 34) rfl rfl fl_Relay_83 | apply on_getN (pc' := 34) rfl rfl fl_Relay_83
          · repeat (first | assumption | exact on_up_eq _ _ _ | refine (on_up_ne (by omega)).trans ?_)
          · rfl
          refine on_callV (pc' := 37) (As := [.ref (a + 8 + 21 * s + 13)]) (rest := []) (b := u) rfl rfl cw_Relay_takeForward_155 (P1.1) rfl rfl (Nat.le_of_ble_eq_true rfl) (Nat.zero_le _) (Nat.zero_le _) (c_sealAll (l := e.bw) P1 (by omega) LB3 (H2.tr.keep (fun b _ _ => t3 b (by omega) (by omega))) (by omega) (by omega) (by omega) (by omega)) ?_
          rintro v h4 sz ⟨rfl, rfl, P4, L4, W4, t4⟩
          refine on_goto (tgt := 86) rfl rfl ?_
          refine on_vreturn rfl rfl ?_
          obtain ⟨M1, M2⟩ := sea_P (u := u) (l := e.bw) hL2 P2 P4
          have T4 : ∀ b, (b < a ∨ a + 260 ≤ b) → (b < u ∨ u + 8 ≤ b) → (b < hs + 4 ∨ hs + 4 + 3 ≤ b) → h4 b = h2 b := fun b b1 b2 b3 => (t4 b b2 (by omega) b3).trans (t3 b b1 b2)
          refine ⟨rfl, rfl, ?_, H2.tru W4 (fun b b1 b2 b3 => T4 b (by omega) (by omega) b3), M1.to d2, ?_, tot _ (fun b b1 b2 b3 b4 => T4 b b1 b3 (by omega))⟩
          · rw [d1]
            have L5 : la_A (a + 8 + 21 * s + 13) (hs + 4) (se e.bw L).1 h4 := (congrArg (fun l => la_A (a + 8 + 21 * s + 13) (hs + 4) l h4) M2).mp L4
            have := R3.ent (h2 := h4) (k := s) (oe := some (e_bw e2 (se e.bw L).1)) s12 (E3.bw L5 (fun b b1 b2 => t4 b (by omega) (by omega) (by omega)) : en_U _ _ _ _) (fun b b1 b2 b3 => t4 b (by omega) (by omega) (by omega))
            rw [show fu (r_en r2 (fu r2.en s (some e2))).en s (some (e_bw e2 (se e.bw L).1)) = fu r2.en s (some (e_bw e2 (se e.bw L).1)) from fu_fu] at this
            exact this
          · obtain ⟨f2, q3, -⟩ := Q2
            exact ⟨f2, (T4 q (by omega) (by omega) (by omega)).trans q3⟩
      · rw [r_do_z, ← rfw] at d1
        refine on_if_eq (pc' := 29) (tgt := 40) rfl rfl rfl (fun cq => ?_) (fun cq => ?_)
        · first | refine on_aload_n (pc' := 41) rfl rfl rfl rfl ?_ | refine on_aload_nQ (pc' := 41) rfl rfl rfl rfl ?_
          first | refine on_aload_n (pc' := 42) rfl rfl rfl rfl ?_ | refine on_aload_nQ (pc' := 42) rfl rfl rfl rfl ?_
          first | refine on_aload_n (pc' := 43) rfl rfl rfl rfl ?_ | refine on_aload_nQ (pc' := 43) rfl rfl rfl rfl ?_
          refine on_callV (pc' := 46) (As := [.ref (a + 8 + 21 * s), .ref u]) (rest := []) (b := a) rfl rfl cw_Relay_takeForward_166 (o2) rfl rfl (Nat.le_of_ble_eq_true rfl) (Nat.zero_le _) (Nat.zero_le _) (c_destroyBoth (q := e.on) (ot := ot) (hs := hs) (kc := nI r.ke.length) (w := nI r.we) o2 (by omega) (by omega) onb B2 O2 (by decide) (by omega)) ?_
          rintro v h4 sz ⟨rfl, rfl, K4, O4, t4⟩
          refine on_goto (tgt := 86) rfl rfl ?_
          refine on_vreturn rfl rfl ?_
          obtain ⟨z1, z2, z3, z4, z5⟩ := dB_ok hd s12 R2 H2 K4 O4 (rB.w Q2) t4
          exact ⟨rfl, rfl, by rw [d1]; exact z1, z2, by rw [d1]; exact z3, z4, tot _ z5⟩
        · exact absurd rfl cq
  · rw [if_neg ok] at L2 Q2 ⊢
    rw [if_neg ok] at rfw
    have R2 := RR (cv_l e.fw) L2
    have dst : r_fw nr nm r s e x = (r_en r (fu r.en s none), e_ds e) → on_E G M_Relay_takeForward 64 (on_l [(0, .ref a), (1, .ref (a + 8 + 21 * s)), (3, .ref u)]) [] h2 sz 0 0 (fun v h1 z => v = none ∧ z = sz ∧ ry_P a ot hs nm u q (r_fw nr nm r s e x) h h1) := fun d1 => by
      first | refine on_aload_n (pc' := 65) rfl rfl rfl rfl ?_ | refine on_aload_nQ (pc' := 65) rfl rfl rfl rfl ?_
      first | refine on_aload_n (pc' := 66) rfl rfl rfl rfl ?_ | refine on_aload_nQ (pc' := 66) rfl rfl rfl rfl ?_
      first | refine on_aload_n (pc' := 67) rfl rfl rfl rfl ?_ | refine on_aload_nQ (pc' := 67) rfl rfl rfl rfl ?_
      refine on_callV (pc' := 70) (As := [.ref (a + 8 + 21 * s), .ref u]) (rest := []) (b := a) rfl rfl cw_Relay_takeForward_166 (o2) rfl rfl (Nat.le_of_ble_eq_true rfl) (Nat.zero_le _) (Nat.zero_le _) (c_destroyBoth (q := e.on) (ot := ot) (hs := hs) (kc := nI r.ke.length) (w := nI r.we) o2 (by omega) (by omega) onb B2 O2 (by decide) (by omega)) ?_
      rintro v h4 sz ⟨rfl, rfl, K4, O4, t4⟩
      refine on_goto (tgt := 86) rfl rfl ?_
      refine on_vreturn rfl rfl ?_
      obtain ⟨z1, z2, z3, z4, z5⟩ := dB_ok hd s12 R2 H2 K4 O4 (rB.w Q2) t4
      exact ⟨rfl, rfl, by rw [d1]; exact z1, z2, by rw [d1]; exact z3, z4, tot _ z5⟩
    refine on_if_eq (pc' := 19) (tgt := 49) rfl rfl rfl (fun cq => ?_) (fun cq => ?_)
    · clear cq
      first | refine on_aload_n (pc' := 50) rfl rfl rfl rfl ?_ | refine on_aload_nQ (pc' := 50) rfl rfl rfl rfl ?_
      first | apply on_get (pc' := 53) rfl rfl fl_Relay_112 | apply on_getN (pc' := 53) rfl rfl fl_Relay_112
      · repeat (first | assumption | exact on_up_eq _ _ _ | refine (on_up_ne (by omega)).trans ?_)
      · rfl
      refine on_iconst (pc' := 54) (v := (-1)) rfl rfl li_m1 ?_
      refine on_icmp_eq (pc' := 57) (tgt := 64) rfl rfl rfl (fun cq => ?_) (fun cq => ?_)
      · have hO : e.on = none := by
          cases hO : e.on with
          | none => rfl
          | some p =>
            rw [hO] at cq
            exact absurd cq ((by decide : ∀ f, f < 10 → ¬ (nI f = (-1 : Int32))) _ (hw p hO))
        exact on_relv (l := [(0, .ref a), (1, .ref (a + 8 + 21 * s)), (3, .ref u)]) ⟨rfl, rfl, rfl, trivial⟩ (dst (by rw [rfw, hO]))
      · obtain ⟨p, hO⟩ : ∃ p, e.on = some p := by
          cases hO : e.on with
          | none => rw [hO] at cq; exact absurd rfl cq
          | some p => exact ⟨p, rfl⟩
        clear cq
        obtain rfl := hon p hO
        first | refine on_aload_n (pc' := 58) rfl rfl rfl rfl ?_ | refine on_aload_nQ (pc' := 58) rfl rfl rfl rfl ?_
        first | apply on_get (pc' := 61) rfl rfl fl_Relay_73 | apply on_getN (pc' := 61) rfl rfl fl_Relay_73
        · repeat (first | assumption | exact on_up_eq _ _ _ | refine (on_up_ne (by omega)).trans ?_)
        · rfl
        refine on_if_eq (pc' := 64) (tgt := 73) rfl rfl rfl (fun cq => ?_) (fun cq => ?_)
        · have wt : e.wt = false := by
            cases hW : e.wt with
            | false => rfl
            | true => rw [hW] at cq; exact absurd cq (by decide)
          have d1 : r_fw nr nm r s e x = (r_en r (fu r.en s (some (e.fr, e.fn, e.on, e.wt, cv_l e.fw, e.bw, e.st))), [(p.1, ce_k (nI p.2) 3 (fun k => y (5 + k)) 135)]) := by
            rw [rfw, hO]
            show (if e.wt = true then _ else _) = _
            rw [if_neg (by rw [wt]; decide)]
          first | refine on_aload_n (pc' := 74) rfl rfl rfl rfl ?_ | refine on_aload_nQ (pc' := 74) rfl rfl rfl rfl ?_
          first | refine on_aload_n (pc' := 75) rfl rfl rfl rfl ?_ | refine on_aload_nQ (pc' := 75) rfl rfl rfl rfl ?_
          first | apply on_get (pc' := 78) rfl rfl fl_Relay_112 | apply on_getN (pc' := 78) rfl rfl fl_Relay_112
          · repeat (first | assumption | exact on_up_eq _ _ _ | refine (on_up_ne (by omega)).trans ?_)
          · rfl
          first | refine on_aload_n (pc' := 79) rfl rfl rfl rfl ?_ | refine on_aload_nQ (pc' := 79) rfl rfl rfl rfl ?_
          first | apply on_get (pc' := 82) rfl rfl fl_Relay_115 | apply on_getN (pc' := 82) rfl rfl fl_Relay_115
          · repeat (first | assumption | exact on_up_eq _ _ _ | refine (on_up_ne (by omega)).trans ?_)
          · rfl
          first | refine on_aload_n (pc' := 83) rfl rfl rfl rfl ?_ | refine on_aload_nQ (pc' := 83) rfl rfl rfl rfl ?_
          have eo : oI e.on = nI p.1 := by rw [hO]; rfl
          rw [eo]
          refine on_callV (pc' := 86) (As := [.int (nI p.1), .int (nI p.2), .ref q]) (rest := []) (b := u) rfl rfl cw_Relay_takeForward_99 (O2.1) rfl rfl (Nat.le_of_ble_eq_true rfl) (Nat.zero_le _) (Nat.zero_le _) (c_pass O2 (by decide) Q2 (by omega)) ?_
          rintro v h4 sz ⟨rfl, rfl, O4, t4⟩
          refine on_vreturn rfl rfl ?_
          rw [d1]
          exact ⟨rfl, rfl, R2.keep (fun b _ _ => t4 b (by omega)), H2.keep (fun b _ _ => t4 b (by omega)), ob_1 O4 fu_s (fun j _ => congrFun fu_s j), (rB.w Q2).keep (t4 _ (by omega)), tot _ (fun b b1 b2 b3 b4 => t4 b b3)⟩
        · have wt : e.wt = true := by
            cases hW : e.wt with
            | true => rfl
            | false => rw [hW] at cq; exact absurd rfl cq
          refine on_relv (l := [(0, .ref a), (1, .ref (a + 8 + 21 * s)), (3, .ref u)]) ⟨rfl, rfl, rfl, trivial⟩ (dst ?_)
          rw [rfw, hO]
          show (if e.wt = true then _ else _) = _
          rw [if_pos wt]
    · exact absurd rfl cq
end RFW
