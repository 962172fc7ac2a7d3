/-! a Relay takes a cell -/
section RTK
variable {G : on_G} {a ot hs nm u q sz bc bs : Nat} {r : aR} {h : on_H} {x : aB} {Q : Option Value → on_H → Nat → Prop} {lv : on_V} {st : List Value}
theorem sw_rt {v : Nat} (hv : v < 256) (k3 : v = 3 → on_E G M_Relay_takeCell 105 lv st h sz bc bs Q) (k4 : v = 4 → on_E G M_Relay_takeCell 163 lv st h sz bc bs Q) (k10 : v = 10 → on_E G M_Relay_takeCell 68 lv st h sz bc bs Q) (k11 : v = 11 → on_E G M_Relay_takeCell 80 lv st h sz bc bs Q) (kd : ¬ v = 3 → ¬ v = 4 → ¬ v = 10 → ¬ v = 11 → on_E G M_Relay_takeCell 195 lv st h sz bc bs Q) : on_E G M_Relay_takeCell 19 lv (.int (nI v) :: st) h sz bc bs Q := by
  by_cases c3 : v = 3
  · subst c3
    exact on_tableIn rfl (by decide) (by decide) rfl rfl (k3 rfl)
  by_cases c4 : v = 4
  · subst c4
    exact on_tableIn rfl (by decide) (by decide) rfl rfl (k4 rfl)
  by_cases c10 : v = 10
  · subst c10
    exact on_tableIn rfl (by decide) (by decide) rfl rfl (k10 rfl)
  by_cases c11 : v = 11
  · subst c11
    exact on_tableIn rfl (by decide) (by decide) rfl rfl (k11 rfl)
  have kx := kd c3 c4 c10 c11
  rcases (by omega : v = 5 ∨ v = 6 ∨ v = 7 ∨ v = 8 ∨ v = 9 ∨ v < 3 ∨ 11 < v) with z | z | z | z | z | z
  iterate 5
    · subst z
      exact on_tableIn rfl (by decide) (by decide) rfl rfl kx
  · exact on_tableOut rfl (by rw [nI_ti v hv]; omega) rfl kx
set_option maxHeartbeats 16000000 in
/-- takeCell -/
theorem c_Relay_takeCell {nr fr : Nat} {num : Int32} {F : Nat → Option Nat} (hnr : nr ≤ 6) (hnm : nm < 8) (hfr : fr < 10) (hd : hs + 29 ≤ u ∧ u + 8 ≤ q ∧ q < a) (hdo : ot < hs) (hot : h ot = some (on_aq 4 6 F)) (hF : ∀ j, j < 6 → (j < nr → ∃ z, F j = some z) ∧ (¬ j < nr → F j = none)) (hw : en_w r.en) (hL : ∀ j e, r.en j = some e → e.fw.ms.length + 540 < 2 ^ 28 ∧ e.bw.ms.length + 540 < 2 ^ 28) (R : rl_S a ot hs nm r h) (H : hk_W hs h) (O : ob_E u h) (hq : rB h q 140 x) (hnum : num = ce_n x) :
    on_Ct G M_Relay_takeCell [.ref a, .int (nI fr), .int num, .ref q, .ref u] h sz 0 0 (fun v h1 z => v = none ∧ z = sz ∧ ry_P a ot hs nm u q (r_tk nr nm r fr x) h h1) := by
  obtain ⟨X, q1, X'⟩ := id hq
  have x4 := X' 4 (by decide)
  have k6 := R.2.2.2.2.2.1
  have o1 : h a = some (.inr (8, [.ref (a + 1), .ref ot, .ref hs, .ref (a + 3), .ref (a + 4), .ref (a + 5), .ref (a + 6), .ref (a + 7), .int (nI r.ke.length), .int (nI r.we)])) := R.1
  have same : r_tk nr nm r fr x = (r, []) → on_E G M_Relay_takeCell 195 (on_l []) [] h sz 0 0 (fun v h1 z => v = none ∧ z = sz ∧ ry_P a ot hs nm u q (r_tk nr nm r fr x) h h1) := fun z => by
    refine on_vreturn rfl rfl ?_
    rw [z]
    exact ⟨rfl, rfl, R, H, ob_0 O, hq.w, fun _ _ _ _ _ => rfl⟩
  have ret : ∀ (h1 : on_H) (rL : aR × aO), r_tk nr nm r fr x = rL → ry_P a ot hs nm u q rL h h1 → on_E G M_Relay_takeCell 195 (on_l []) [] h1 sz 0 0 (fun v h1 z => v = none ∧ z = sz ∧ ry_P a ot hs nm u q (r_tk nr nm r fr x) h h1) := fun h1 rL z w => by
    refine on_vreturn rfl rfl ?_
    rw [z]
    exact ⟨rfl, rfl, w⟩
  refine on_Ct.of (by decide) v_Relay_takeCell (Nat.le_of_ble_eq_true rfl) ?_
  first | refine on_aload_n (pc' := 1) rfl rfl rfl rfl ?_ | refine on_aload_nQ (pc' := 1) rfl rfl rfl rfl ?_
  refine on_iload_n (pc' := 2) rfl rfl rfl rfl ?_
  refine on_iload_n (pc' := 3) rfl rfl rfl rfl ?_
  refine on_callV (pc' := 6) (As := [.int (nI fr), .int num]) (rest := []) (b := a) rfl rfl cw_Relay_takeCell_62 (o1) rfl rfl (Nat.le_of_ble_eq_true rfl) (Nat.zero_le _) (Nat.zero_le _) (c_entryFrom hfr hw R.1 k6) ?_
  rintro v h sz ⟨rfl, rfl, rfl⟩
  show on_E G M_Relay_takeCell 6 _ [va_rf ((e_fr r.en fr num).map (fun j => a + 8 + 21 * j))] h sz _ _ _
  first | refine on_astore (pc' := 8) rfl rfl (by decide) ?_ | refine on_astoreQ (pc' := 8) rfl rfl (by decide) ?_
  first | refine on_aload_n (pc' := 9) rfl rfl rfl rfl ?_ | refine on_aload_nQ (pc' := 9) rfl rfl rfl rfl ?_
  refine on_iload_n (pc' := 10) rfl rfl rfl rfl ?_
  refine on_iload_n (pc' := 11) rfl rfl rfl rfl ?_
  refine on_callV (pc' := 14) (As := [.int (nI fr), .int num]) (rest := []) (b := a) rfl rfl cw_Relay_takeCell_66 (o1) rfl rfl (Nat.le_of_ble_eq_true rfl) (Nat.zero_le _) (Nat.zero_le _) (c_entryTo hfr hw R.1 k6) ?_
  rintro v h sz ⟨rfl, rfl, rfl⟩
  show on_E G M_Relay_takeCell 14 _ [va_rf ((e_to r.en fr num).map (fun j => a + 8 + 21 * j))] h sz _ _ _
  first | refine on_astore (pc' := 16) rfl rfl (by decide) ?_ | refine on_astoreQ (pc' := 16) rfl rfl (by decide) ?_
  first | refine on_aload_n (pc' := 17) rfl rfl rfl rfl ?_ | refine on_aload_nQ (pc' := 17) rfl rfl rfl rfl ?_
  refine on_iconst (pc' := 18) (v := 4) rfl rfl li_4 ?_
  apply on_ialoadK (pc' := 19) (t := 0) (k := 4) rfl rfl
  · repeat (first | assumption | exact on_up_eq _ _ _ | refine (on_up_ne (by omega)).trans ?_)
  · rfl
  · first | assumption | exact on_lit _ | rfl
  · first | assumption | omega | decide
  rw [x4.1]
  refine on_relv (l := [(0, .ref a), (1, .int (nI fr)), (2, .int num), (3, .ref q), (4, .ref u), (5, va_rf ((e_fr r.en fr num).map (fun j => a + 8 + 21 * j))), (6, va_rf ((e_to r.en fr num).map (fun j => a + 8 + 21 * j)))]) ⟨rfl, rfl, rfl, rfl, rfl, (by generalize e_fr r.en fr num = o; cases o <;> rfl), rfl, trivial⟩ ?_
  refine sw_rt x4.2 (fun c => ?_) (fun c => ?_) (fun c => ?_) (fun c => ?_) (fun c3 c4 c10 c11 => ?_)
  · have r1 : r_tk nr nm r fr x = (match e_fr r.en fr num with | some s => (match r.en s with | some e => r_fw nr nm r s e x | none => (r, [])) | none => (match e_to r.en fr num with | some s => (match r.en s with | some e => if e.wt then (r, []) else (r_en r (fu r.en s (some (e.fr, e.fn, e.on, e.wt, e.fw, cv_l e.bw, e.st))), [(e.fr, ce_k e.fn 3 (cv_p e.bw.K e.bw.pos (fun k => x (5 + k))) 135)]) | none => (r, [])) | none => (r, []))) := by
      subst hnum
      unfold r_tk
      dsimp only
      rw [if_neg (by omega), if_neg (by omega), if_pos c]
      rfl
    cases e1 : e_fr r.en fr num with
    | some s =>
      obtain ⟨s12, e, es, -, -⟩ := e_fr_some e1
      rw [e1] at r1
      dsimp only at r1
      rw [es] at r1
      show on_E G M_Relay_takeCell 105 (on_l [(0, .ref a), (1, .int (nI fr)), (2, .int num), (3, .ref q), (4, .ref u), (5, .ref (a + 8 + 21 * s)), (6, va_rf ((e_to r.en fr num).map (fun j => a + 8 + 21 * j)))]) [] h sz _ _ _
      first | refine on_aload (pc' := 107) rfl rfl rfl ?_ | refine on_aloadQ (pc' := 107) rfl rfl rfl ?_
      refine on_ifnullR (pc' := 110) rfl rfl ?_
      first | refine on_aload_n (pc' := 111) rfl rfl rfl rfl ?_ | refine on_aload_nQ (pc' := 111) rfl rfl rfl rfl ?_
      first | refine on_aload (pc' := 113) rfl rfl rfl ?_ | refine on_aloadQ (pc' := 113) rfl rfl rfl ?_
      first | refine on_aload_n (pc' := 114) rfl rfl rfl rfl ?_ | refine on_aload_nQ (pc' := 114) rfl rfl rfl rfl ?_
      first | refine on_aload (pc' := 116) rfl rfl rfl ?_ | refine on_aloadQ (pc' := 116) rfl rfl rfl ?_
      refine on_callV (pc' := 119) (As := [.ref (a + 8 + 21 * s), .ref q, .ref u]) (rest := []) (b := a) rfl rfl cw_Relay_takeCell_80 (o1) rfl rfl (Nat.le_of_ble_eq_true rfl) (Nat.zero_le _) (Nat.zero_le _) (c_takeForward hnr hnm hd hdo s12 hot hF (hw s e es).2 (hL s e es) R es H O hq) ?_
      rintro v h1 sz ⟨rfl, rfl, P1⟩
      refine on_goto (tgt := 195) rfl rfl ?_
      exact on_relv (l := []) trivial (ret h1 _ r1 P1)
    | none =>
      rw [e1] at r1
      dsimp only at r1
      show on_E G M_Relay_takeCell 105 (on_l [(0, .ref a), (1, .int (nI fr)), (2, .int num), (3, .ref q), (4, .ref u), (5, .null), (6, va_rf ((e_to r.en fr num).map (fun j => a + 8 + 21 * j)))]) [] h sz _ _ _
      refine on_aloadQ (pc' := 107) (r := none) rfl rfl rfl ?_
      refine on_ifnullN (tgt := 122) rfl rfl ?_
      cases e2 : e_to r.en fr num with
      | none =>
        rw [e2] at r1
        refine on_aloadQ (pc' := 124) (r := none) rfl rfl rfl ?_
        refine on_ifnullN (tgt := 195) rfl rfl ?_
        exact on_relv (l := []) trivial (same r1)
      | some s =>
        obtain ⟨s12, e, p, es, hon, hp1, hp2⟩ := e_to_some e2
        rw [e2] at r1
        dsimp only at r1
        rw [es] at r1
        dsimp only at r1
        have E : en_U (a + 8 + 21 * s) (hs + 4) e h := R.us s12 es
        obtain ⟨onn, S, V, W, C, b, hon2, hst, LF, LB⟩ := id E
        have b0 := b.1
        show on_E G M_Relay_takeCell 122 (on_l [(0, .ref a), (1, .int (nI fr)), (2, .int num), (3, .ref q), (4, .ref u), (5, .null), (6, .ref (a + 8 + 21 * s))]) [] h sz _ _ _
        first | refine on_aload (pc' := 124) rfl rfl rfl ?_ | refine on_aloadQ (pc' := 124) rfl rfl rfl ?_
        refine on_ifnullR (pc' := 127) rfl rfl ?_
        first | refine on_aload (pc' := 129) rfl rfl rfl ?_ | refine on_aloadQ (pc' := 129) rfl rfl rfl ?_
        first | apply on_get (pc' := 132) rfl rfl fl_Relay_73 | apply on_getN (pc' := 132) rfl rfl fl_Relay_73
        · repeat (first | assumption | exact on_up_eq _ _ _ | refine (on_up_ne (by omega)).trans ?_)
        · rfl
        refine on_if_ne (pc' := 135) (tgt := 195) rfl rfl rfl (fun cq => ?_) (fun cq => ?_)
        · have wt : e.wt = true := by
            cases hW : e.wt with
            | true => rfl
            | false => rw [hW] at cq; exact absurd rfl cq
          rw [if_pos wt] at r1
          exact on_relv (l := []) trivial (same r1)
        · have wt : ¬ e.wt = true := fun z => by rw [z] at cq; exact absurd cq (by decide)
          rw [if_neg wt] at r1
          clear cq
          obtain ⟨fs, f0⟩ := LB.ob
          first | refine on_aload (pc' := 137) rfl rfl rfl ?_ | refine on_aloadQ (pc' := 137) rfl rfl rfl ?_
          first | apply on_get (pc' := 140) rfl rfl fl_Relay_83 | apply on_getN (pc' := 140) rfl rfl fl_Relay_83
          · repeat (first | assumption | exact on_up_eq _ _ _ | refine (on_up_ne (by omega)).trans ?_)
          · rfl
          first | refine on_aload_n (pc' := 141) rfl rfl rfl rfl ?_ | refine on_aload_nQ (pc' := 141) rfl rfl rfl rfl ?_
          refine on_callV (pc' := 144) (As := [.ref q]) (rest := []) (b := a + 8 + 21 * s + 13) rfl rfl cw_Relay_takeCell_87 (f0) rfl rfl (Nat.le_of_ble_eq_true rfl) (Nat.zero_le _) (Nat.zero_le _) (c_Lane_lay LB.2 q1 (by omega)) ?_
          rintro v h1 sz ⟨rfl, rfl, L1, q2, t1⟩
          have T1 : ∀ b, b ≠ q → (b < a + 8 + 21 * s + 13 ∨ a + 8 + 21 * s + 13 + 8 ≤ b) → h1 b = h b := fun b b1 b2 => t1 b b1 (by unfold ln_off; omega)
          have LB1 : la_A (a + 8 + 21 * s + 13) (hs + 4) (cv_l e.bw) h1 := ⟨LB.1.keep (fun b _ _ => t1 b (by omega) (by unfold ln_off; omega)), L1⟩
          have Q1 := ln_ce (x := x) (K := e.bw.K) (pos := e.bw.pos) X' q2
          have g0 := (T1 (a + 8 + 21 * s) (by omega) (by omega)).trans b0
          have R1 : rl_S a ot hs nm (r_en r (fu r.en s (some (e.fr, e.fn, e.on, e.wt, e.fw, cv_l e.bw, e.st)))) h1 := R.ent s12 (E.bw LB1 (fun b b1 b2 => T1 b (by omega) (by omega)) : en_U _ _ _ _) (fun b b1 b2 b3 => T1 b (by omega) (by omega))
          have O1 : ob_E u h1 := ob_S.keep O (fun b _ _ => T1 b (by omega) (by omega))
          first | refine on_aload (pc' := 146) rfl rfl rfl ?_ | refine on_aloadQ (pc' := 146) rfl rfl rfl ?_
          first | refine on_aload (pc' := 148) rfl rfl rfl ?_ | refine on_aloadQ (pc' := 148) rfl rfl rfl ?_
          first | apply on_get (pc' := 151) rfl rfl fl_Relay_93 | apply on_getN (pc' := 151) rfl rfl fl_Relay_93
          · repeat (first | assumption | exact on_up_eq _ _ _ | refine (on_up_ne (by omega)).trans ?_)
          · rfl
          first | refine on_aload (pc' := 153) rfl rfl rfl ?_ | refine on_aloadQ (pc' := 153) rfl rfl rfl ?_
          first | apply on_get (pc' := 156) rfl rfl fl_Relay_96 | apply on_getN (pc' := 156) rfl rfl fl_Relay_96
          · repeat (first | assumption | exact on_up_eq _ _ _ | refine (on_up_ne (by omega)).trans ?_)
          · rfl
          first | refine on_aload_n (pc' := 157) rfl rfl rfl rfl ?_ | refine on_aload_nQ (pc' := 157) rfl rfl rfl rfl ?_
          refine on_callV (pc' := 160) (As := [.int (nI e.fr), .int e.fn, .ref q]) (rest := []) (b := u) rfl rfl cw_Relay_takeCell_99 (O1.1) rfl rfl (Nat.le_of_ble_eq_true rfl) (Nat.zero_le _) (Nat.zero_le _) (c_pass O1 (by decide) Q1 (by omega)) ?_
          rintro v h2 sz ⟨rfl, rfl, O2, t2⟩
          refine on_goto (tgt := 195) rfl rfl ?_
          refine on_relv (l := []) trivial (ret h2 _ r1 ⟨R1.keep (fun b _ _ => t2 b (by omega)), H.keep (fun b _ _ => (t2 b (by omega)).trans (T1 b (by omega) (by omega))), ob_1 O2 fu_s (fun j hj => (congrFun fu_s j).trans ?_), (rB.w Q1).keep (t2 _ (by omega)), fun b b1 b2 b3 b4 => (t2 b b3).trans (T1 b b4 (by omega))⟩)
          refine congrFun (congrArg (fun p => ce_k e.fn 3 p 135) (funext fun k => ?_)) j
          show (if 5 + k < 5 then _ else cv_p e.bw.K e.bw.pos (fun k => x (5 + k)) (5 + k - 5)) = _
          rw [if_neg (by omega), show 5 + k - 5 = k by omega]
  · have r1 : r_tk nr nm r fr x = (match e_fr r.en fr num with | some s => (match r.en s with | some e => (r_en r (fu r.en s none), match e.on with | some q => [(q.1, ce_k (nI q.2) 4 (fun _ => 0) 0)] | none => []) | none => (r, [])) | none => (match e_to r.en fr num with | some s => (match r.en s with | some e => (r_en r (fu r.en s none), [(e.fr, ce_k e.fn 4 (fun _ => 0) 0)]) | none => (r, [])) | none => (r, []))) := by
      subst hnum
      unfold r_tk
      dsimp only
      rw [if_neg (by omega), if_neg (by omega), if_neg (by omega), if_pos c]
      rfl
    cases e1 : e_fr r.en fr num with
    | some s =>
      obtain ⟨s12, e, es, -, -⟩ := e_fr_some e1
      rw [e1] at r1
      dsimp only at r1
      rw [es] at r1
      dsimp only at r1
      obtain ⟨onn, S, V, W, C, b, hon2, hst, LF, LB⟩ := R.us s12 es
      show on_E G M_Relay_takeCell 163 (on_l [(0, .ref a), (1, .int (nI fr)), (2, .int num), (3, .ref q), (4, .ref u), (5, .ref (a + 8 + 21 * s)), (6, va_rf ((e_to r.en fr num).map (fun j => a + 8 + 21 * j)))]) [] h sz _ _ _
      first | refine on_aload (pc' := 165) rfl rfl rfl ?_ | refine on_aloadQ (pc' := 165) rfl rfl rfl ?_
      refine on_ifnullR (pc' := 168) rfl rfl ?_
      first | refine on_aload_n (pc' := 169) rfl rfl rfl rfl ?_ | refine on_aload_nQ (pc' := 169) rfl rfl rfl rfl ?_
      first | refine on_aload (pc' := 171) rfl rfl rfl ?_ | refine on_aloadQ (pc' := 171) rfl rfl rfl ?_
      first | refine on_aload (pc' := 173) rfl rfl rfl ?_ | refine on_aloadQ (pc' := 173) rfl rfl rfl ?_
      refine on_callV (pc' := 176) (As := [.ref (a + 8 + 21 * s), .ref u]) (rest := []) (b := a) rfl rfl cw_Relay_takeCell_105 (o1) rfl rfl (Nat.le_of_ble_eq_true rfl) (Nat.zero_le _) (Nat.zero_le _) (c_destroyOn (q := e.on) (fun p hp => ⟨(hw s e es).2 p hp, hon2 p hp⟩) b O (by decide) (by omega)) ?_
      rintro v h1 sz ⟨rfl, rfl, K1, O1, t1⟩
      refine on_goto (tgt := 195) rfl rfl ?_
      refine on_relv (l := []) trivial (ret h1 _ r1 ⟨R.ent s12 ⟨_, _, _, _, _, _, _, _, _, _, K1, (LF : la_S _ _ _ _ _ _).w.keep (fun b _ _ => t1 b (by omega) (by omega)), (LB : la_S _ _ _ _ _ _).w.keep (fun b _ _ => t1 b (by omega) (by omega))⟩ (fun b b1 b2 b3 => t1 b (by omega) (by omega)), H.keep (fun b _ _ => t1 b (by omega) (by omega)), ?_, hq.w.keep (t1 _ (by omega) (by omega)), fun b b1 b2 b3 b4 => t1 b (by omega) b3⟩)
      cases ho : e.on with
      | none =>
        rw [ho] at O1
        exact ob_0 O1
      | some p =>
        rw [ho] at O1
        exact ob_1 (c := fu (fun _ _ => 0) 0 (ce_k (nI p.2) 4 (fun _ => 0) 0)) (to := fu (fun _ => 0) 0 p.1) O1 fu_s (fun j _ => congrFun fu_s j)
    | none =>
      rw [e1] at r1
      dsimp only at r1
      show on_E G M_Relay_takeCell 163 (on_l [(0, .ref a), (1, .int (nI fr)), (2, .int num), (3, .ref q), (4, .ref u), (5, .null), (6, va_rf ((e_to r.en fr num).map (fun j => a + 8 + 21 * j)))]) [] h sz _ _ _
      refine on_aloadQ (pc' := 165) (r := none) rfl rfl rfl ?_
      refine on_ifnullN (tgt := 179) rfl rfl ?_
      cases e2 : e_to r.en fr num with
      | none =>
        rw [e2] at r1
        refine on_aloadQ (pc' := 181) (r := none) rfl rfl rfl ?_
        refine on_ifnullN (tgt := 195) rfl rfl ?_
        exact on_relv (l := []) trivial (same r1)
      | some s =>
        obtain ⟨s12, e, p, es, hon, hp1, hp2⟩ := e_to_some e2
        rw [e2] at r1
        dsimp only at r1
        rw [es] at r1
        dsimp only at r1
        obtain ⟨onn, S, V, W, C, b, hon2, hst, LF, LB⟩ := R.us s12 es
        show on_E G M_Relay_takeCell 179 (on_l [(0, .ref a), (1, .int (nI fr)), (2, .int num), (3, .ref q), (4, .ref u), (5, .null), (6, .ref (a + 8 + 21 * s))]) [] h sz _ _ _
        first | refine on_aload (pc' := 181) rfl rfl rfl ?_ | refine on_aloadQ (pc' := 181) rfl rfl rfl ?_
        refine on_ifnullR (pc' := 184) rfl rfl ?_
        first | refine on_aload_n (pc' := 185) rfl rfl rfl rfl ?_ | refine on_aload_nQ (pc' := 185) rfl rfl rfl rfl ?_
        first | refine on_aload (pc' := 187) rfl rfl rfl ?_ | refine on_aloadQ (pc' := 187) rfl rfl rfl ?_
        first | refine on_aload (pc' := 189) rfl rfl rfl ?_ | refine on_aloadQ (pc' := 189) rfl rfl rfl ?_
        refine on_callV (pc' := 192) (As := [.ref (a + 8 + 21 * s), .ref u]) (rest := []) (b := a) rfl rfl cw_Relay_takeCell_109 (o1) rfl rfl (Nat.le_of_ble_eq_true rfl) (Nat.zero_le _) (Nat.zero_le _) (c_destroyBack b O (by decide) (by omega)) ?_
        rintro v h1 sz ⟨rfl, rfl, K1, O1, t1⟩
        refine on_goto (tgt := 195) rfl rfl ?_
        exact on_relv (l := []) trivial (ret h1 _ r1 ⟨R.ent s12 ⟨_, _, _, _, _, _, _, _, _, _, K1, (LF : la_S _ _ _ _ _ _).w.keep (fun b _ _ => t1 b (by omega) (by omega)), (LB : la_S _ _ _ _ _ _).w.keep (fun b _ _ => t1 b (by omega) (by omega))⟩ (fun b b1 b2 b3 => t1 b (by omega) (by omega)), H.keep (fun b _ _ => t1 b (by omega) (by omega)), ob_1 O1 fu_s (fun j _ => congrFun fu_s j), hq.w.keep (t1 _ (by omega) (by omega)), fun b b1 b2 b3 b4 => t1 b (by omega) b3⟩)
  · have r1 : r_tk nr nm r fr x = r_cr r fr num x := by
      subst hnum
      unfold r_tk
      dsimp only
      rw [if_pos c]
      rfl
    first | refine on_aload_n (pc' := 69) rfl rfl rfl rfl ?_ | refine on_aload_nQ (pc' := 69) rfl rfl rfl rfl ?_
    refine on_iload_n (pc' := 70) rfl rfl rfl rfl ?_
    refine on_iload_n (pc' := 71) rfl rfl rfl rfl ?_
    first | refine on_aload_n (pc' := 72) rfl rfl rfl rfl ?_ | refine on_aload_nQ (pc' := 72) rfl rfl rfl rfl ?_
    first | refine on_aload (pc' := 74) rfl rfl rfl ?_ | refine on_aloadQ (pc' := 74) rfl rfl rfl ?_
    refine on_callV (pc' := 77) (As := [.int (nI fr), .int num, .ref q, .ref u]) (rest := []) (b := a) rfl rfl cw_Relay_takeCell_69 (o1) rfl rfl (Nat.le_of_ble_eq_true rfl) (Nat.zero_le _) (Nat.zero_le _) (c_create hd hfr hw R H O hq) ?_
    rintro v h1 sz ⟨rfl, rfl, P1⟩
    refine on_goto (tgt := 195) rfl rfl ?_
    exact on_relv (l := []) trivial (ret h1 _ r1 P1)
  · have r1 : r_tk nr nm r fr x = (match e_to r.en fr num with | some s => (match r.en s with | some e => if e.wt then (r_en r (fu r.en s (some (e_bk (e.fr, e.fn, e.on, false, e.fw, e.bw, e.st) 15 0 64 (fun j => x (5 + j))).1)), [(e_bk (e.fr, e.fn, e.on, false, e.fw, e.bw, e.st) 15 0 64 (fun j => x (5 + j))).2]) else (r, []) | none => (r, [])) | none => (r, [])) := by
      subst hnum
      unfold r_tk
      dsimp only
      rw [if_neg (by omega), if_pos c]
      rfl
    cases e2 : e_to r.en fr num with
    | none =>
      rw [e2] at r1
      refine on_aloadQ (pc' := 82) (r := none) rfl rfl rfl ?_
      refine on_ifnullN (tgt := 195) rfl rfl ?_
      exact on_relv (l := []) trivial (same r1)
    | some s =>
      obtain ⟨s12, e, p, es, hon, hp1, hp2⟩ := e_to_some e2
      rw [e2] at r1
      dsimp only at r1
      rw [es] at r1
      dsimp only at r1
      obtain ⟨onn, S, V, W, C, b, hon2, hst, LF, LB⟩ := R.us s12 es
      have b0 := b.1
      show on_E G M_Relay_takeCell 80 (on_l [(0, .ref a), (1, .int (nI fr)), (2, .int num), (3, .ref q), (4, .ref u), (5, va_rf ((e_fr r.en fr num).map (fun j => a + 8 + 21 * j))), (6, .ref (a + 8 + 21 * s))]) [] h sz _ _ _
      first | refine on_aload (pc' := 82) rfl rfl rfl ?_ | refine on_aloadQ (pc' := 82) rfl rfl rfl ?_
      refine on_ifnullR (pc' := 85) rfl rfl ?_
      first | refine on_aload (pc' := 87) rfl rfl rfl ?_ | refine on_aloadQ (pc' := 87) rfl rfl rfl ?_
      first | apply on_get (pc' := 90) rfl rfl fl_Relay_73 | apply on_getN (pc' := 90) rfl rfl fl_Relay_73
      · repeat (first | assumption | exact on_up_eq _ _ _ | refine (on_up_ne (by omega)).trans ?_)
      · rfl
      refine on_if_eq (pc' := 93) (tgt := 195) rfl rfl rfl (fun cq => ?_) (fun cq => ?_)
      · have wt : ¬ e.wt = true := fun z => by rw [z] at cq; exact absurd cq (by decide)
        rw [if_neg wt] at r1
        exact on_relv (l := []) trivial (same r1)
      · have wt : e.wt = true := by
          cases hW : e.wt with
          | true => rfl
          | false => rw [hW] at cq; exact absurd rfl cq
        rw [if_pos wt] at r1
        clear cq
        first | refine on_aload_n (pc' := 94) rfl rfl rfl rfl ?_ | refine on_aload_nQ (pc' := 94) rfl rfl rfl rfl ?_
        first | refine on_aload (pc' := 96) rfl rfl rfl ?_ | refine on_aloadQ (pc' := 96) rfl rfl rfl ?_
        first | refine on_aload_n (pc' := 97) rfl rfl rfl rfl ?_ | refine on_aload_nQ (pc' := 97) rfl rfl rfl rfl ?_
        first | refine on_aload (pc' := 99) rfl rfl rfl ?_ | refine on_aloadQ (pc' := 99) rfl rfl rfl ?_
        refine on_callV (pc' := 102) (As := [.ref (a + 8 + 21 * s), .ref q, .ref u]) (rest := []) (b := a) rfl rfl cw_Relay_takeCell_76 (o1) rfl rfl (Nat.le_of_ble_eq_true rfl) (Nat.zero_le _) (Nat.zero_le _) (c_sendExtended hd R H O hq s12 es (hL s e es).2) ?_
        rintro v h1 sz ⟨rfl, rfl, P1⟩
        refine on_goto (tgt := 195) rfl rfl ?_
        exact on_relv (l := []) trivial (ret h1 _ r1 P1)
  · refine on_relv (l := []) trivial (same ?_)
    unfold r_tk
    dsimp only
    rw [if_neg c10, if_neg c11, if_neg c3, if_neg c4]
end RTK
