/-! a Relay: create, sendExtended -/
theorem hk_W.tru {o : Nat} {h h1 : on_H} (K : hk_W o h) (S : sh_W (o + 4) h1) (t : ∀ a, o ≤ a → a < o + 29 → (a < o + 4 ∨ o + 7 ≤ a) → h1 a = h a) : hk_W o h1 := by
  refine ⟨?_, ?_, ?_, ?_, ?_, ?_, ?_, ?_, ?_, ?_, ?_, ?_, ?_, ?_⟩
  · exact (t _ (by omega) (by omega) (by omega)).trans K.ob
  · exact K.sh.keep (fun a h1 h2 => t a (by omega) (by omega) (by omega))
  · exact S
  · exact K.cu.keep (fun a h1 h2 => t a (by omega) (by omega) (by omega))
  · exact K.ba.keep (t _ (by omega) (by omega) (by omega))
  · exact K.la.keep (t _ (by omega) (by omega) (by omega))
  · exact K.tx.keep (t _ (by omega) (by omega) (by omega))
  · exact K.pa.keep (t _ (by omega) (by omega) (by omega))
  · exact K.inn.keep (t _ (by omega) (by omega) (by omega))
  · exact K.pr.keep (t _ (by omega) (by omega) (by omega))
  · exact K.ma.keep (t _ (by omega) (by omega) (by omega))
  · exact K.dk.keep (t _ (by omega) (by omega) (by omega))
  · exact K.ck.keep (t _ (by omega) (by omega) (by omega))
  · exact K.sm.keep (t _ (by omega) (by omega) (by omega))
abbrev o0 : Nat × aB := (0, fun _ => 0)
/-- an Outbox that holds the cells L -/
def ob_L (u : Nat) (L : aO) (h : on_H) : Prop := ∃ c to pl, ob_S u L.length c to pl h ∧ ∀ i, i < L.length → to i = (L.getD i o0).1 ∧ ∀ j, j < 140 → c i j = (L.getD i o0).2 j
theorem ob_L.keep {u : Nat} {L : aO} {h h2 : on_H} (k : ob_L u L h) (e : ∀ a, u ≤ a → a < u + 8 → h2 a = h a) : ob_L u L h2 := by
  obtain ⟨c, to, pl, k1, k2⟩ := k
  exact ⟨c, to, pl, k1.keep e, k2⟩
theorem ob_0 {u : Nat} {h : on_H} (K : ob_E u h) : ob_L u [] h := ⟨_, _, _, K, fun i hi => absurd hi (Nat.not_lt_zero i)⟩
theorem ob_1 {u t : Nat} {h : on_H} {c : Nat → aB} {to : Nat → Nat} {pl : Nat → Bool} {X : aB} (K : ob_S u 1 c to pl h) (e1 : to 0 = t) (e2 : ∀ j, j < 140 → c 0 j = X j) : ob_L u [(t, X)] h := by
  refine ⟨c, to, pl, K, fun i hi => ?_⟩
  have hi : i < 1 := hi
  obtain rfl : i = 0 := by omega
  exact ⟨e1, e2⟩
theorem ob_2 {u t t2 : Nat} {h : on_H} {c : Nat → aB} {to : Nat → Nat} {pl : Nat → Bool} {X Y : aB} (K : ob_S u 2 c to pl h) (e1 : to 0 = t) (e2 : ∀ j, j < 140 → c 0 j = X j) (f1 : to 1 = t2) (f2 : ∀ j, j < 140 → c 1 j = Y j) : ob_L u [(t, X), (t2, Y)] h := by
  refine ⟨c, to, pl, K, fun i hi => ?_⟩
  have hi : i < 2 := hi
  rcases (by omega : i = 0 ∨ i = 1) with rfl | rfl
  · exact ⟨e1, e2⟩
  · exact ⟨f1, f2⟩
/-- what a Relay at a may change -/
def ry_f (a hs u q : Nat) (h h1 : on_H) : Prop := ∀ b, (b < a ∨ a + 260 ≤ b) → (b < hs ∨ hs + 29 ≤ b) → (b < u ∨ u + 8 ≤ b) → b ≠ q → h1 b = h b
/-- what stands behind a Relay's method -/
def ry_P (a ot hs nm u q : Nat) (rL : aR × aO) (h h1 : on_H) : Prop := rl_S a ot hs nm rL.1 h1 ∧ hk_W hs h1 ∧ ob_L u rL.2 h1 ∧ rW h1 q 140 ∧ ry_f a hs u q h h1
theorem e_fe_some {en : Nat → Option aE} {s : Nat} (e : e_fe en = some s) : s < 12 ∧ en s = none := by
  unfold e_fe at e
  have h1 := List.mem_of_find?_eq_some e
  have h2 := List.find?_some e
  exact ⟨List.mem_range.mp h1, Option.isNone_iff_eq_none.mp h2⟩
theorem e_fr_some {en : Nat → Option aE} {fr s : Nat} {num : Int32} (e : e_fr en fr num = some s) : s < 12 ∧ ∃ x, en s = some x ∧ x.fr = fr ∧ x.fn = num := by
  unfold e_fr at e
  have h1 := List.mem_of_find?_eq_some e
  have h2 := List.find?_some e
  refine ⟨List.mem_range.mp h1, ?_⟩
  cases hx : en s with
  | none => rw [hx] at h2; exact Bool.noConfusion h2
  | some x =>
    rw [hx] at h2
    have h3 := (Bool.and_eq_true _ _).mp h2
    exact ⟨x, rfl, of_decide_eq_true h3.1, of_decide_eq_true h3.2⟩
theorem e_to_some {en : Nat → Option aE} {fr s : Nat} {num : Int32} (e : e_to en fr num = some s) : s < 12 ∧ ∃ x q, en s = some x ∧ x.on = some q ∧ q.1 = fr ∧ nI q.2 = num := by
  unfold e_to at e
  have h1 := List.mem_of_find?_eq_some e
  have h2 := List.find?_some e
  refine ⟨List.mem_range.mp h1, ?_⟩
  cases hx : en s with
  | none => rw [hx] at h2; exact Bool.noConfusion h2
  | some x =>
    rw [hx] at h2
    dsimp only at h2
    cases ho : x.on with
    | none => rw [ho] at h2; exact Bool.noConfusion h2
    | some q =>
      rw [ho] at h2
      have h3 := (Bool.and_eq_true _ _).mp h2
      exact ⟨x, q, rfl, ho, of_decide_eq_true h3.1, of_decide_eq_true h3.2⟩
/-- create -/
def r_cr (r : aR) (fr : Nat) (num : Int32) (x : aB) : aR × aO :=
  match (if e_fr r.en fr num = none ∧ r_me r x = true then e_fe r.en else none) with
    | some s => ((r.se, r.dr + 1, r.we, r.nx, fu r.en s (some (fr, num, none, false, ks_f (an_t r.se r.dr x), ks_b (an_t r.se r.dr x), [])), r.ke), [(fr, ce_k num 11 (an_p r.se r.dr x) 64)])
    | none => (r, [(fr, ce_k num 4 (fun _ => 0) 0)])
theorem an_lt (seed : Int64) (draws : Int32) (x : aB) (j : Nat) : an_p seed draws x j < 256 := by
  unfold an_p
  split
  · exact nb_lt _ _
  · exact sp_d_lt _ _
section RMK
variable {G : on_G} {a ot hs nm u q sz : Nat} {r : aR} {h : on_H} {x : aB}
set_option maxHeartbeats 16000000 in
theorem c_create {fr : Nat} {num : Int32} (hd : hs + 29 ≤ u ∧ u + 8 ≤ q ∧ q < a) (hfr : fr < 10) (hw : en_w r.en) (R : rl_S a ot hs nm r h) (H : hk_W hs h) (O : ob_E u h) (hq : rB h q 140 x) :
    on_Ct G M_Relay_create [.ref a, .int (nI fr), .int num, .ref q, .ref u] h sz 0 0 (fun v h1 z => v = none ∧ z = sz ∧ ry_P a ot hs nm u q (r_cr r fr num x) h h1) := by
  obtain ⟨k1, k2, k3, k4, k5, k6, k7, k8⟩ := id R
  have o1 : h a = some (.inr (8, [.ref (a + 1), .ref ot, .ref hs, .ref (a + 3), .ref (a + 4), .ref (a + 5), .ref (a + 6), .ref (a + 7), .int (nI r.ke.length), .int (nI r.we)])) := k1
  have no : r_cr r fr num x = (r, [(fr, ce_k num 4 (fun _ => 0) 0)]) → on_E G M_Relay_create 37 (on_l [(0, .ref a), (1, .int (nI fr)), (2, .int num), (3, .ref q), (4, .ref u)]) [va_rf none] h sz 0 0 (fun v h1 z => v = none ∧ z = sz ∧ ry_P a ot hs nm u q (r_cr r fr num x) h h1) := fun e => by
    first | refine on_astore (pc' := 39) rfl rfl (by decide) ?_ | refine on_astoreQ (pc' := 39) rfl rfl (by decide) ?_
    first | refine on_aload (pc' := 41) rfl rfl rfl ?_ | refine on_aloadQ (pc' := 41) rfl rfl rfl ?_
    refine on_ifnonnull (pc' := 44) (tgt := 54) rfl rfl rfl (fun cx cq => ?_) (fun cq => ?_)
    · exact nomatch cq
    · first | refine on_aload (pc' := 46) rfl rfl rfl ?_ | refine on_aloadQ (pc' := 46) rfl rfl rfl ?_
      refine on_iload_n (pc' := 47) rfl rfl rfl rfl ?_
      refine on_iload_n (pc' := 48) rfl rfl rfl rfl ?_
      refine on_iconst (pc' := 49) (v := 4) rfl rfl li_4 ?_
      refine on_callV (pc' := 52) (As := [.int (nI fr), .int num, .int (nI 4)]) (rest := []) (b := u) rfl rfl cw_Relay_create_126 (O.1) rfl rfl (Nat.le_of_ble_eq_true rfl) (Nat.zero_le _) (Nat.zero_le _) (c_addCell O (by decide) (by decide)) ?_
      rintro v h1 sz ⟨rfl, rfl, O1, t1⟩
      refine on_pop (pc' := 53) rfl rfl rfl ?_
      refine on_vreturn rfl rfl ?_
      rw [e]
      exact ⟨rfl, rfl, R.keep (fun b h1 h2 => t1 b (by omega)), H.keep (fun b h1 h2 => t1 b (by omega)), ob_1 O1 fu_s (fun j _ => congrFun fu_s j), hq.w.keep (t1 _ (by omega)), fun b b1 b2 b3 b4 => t1 b b3⟩
  have no2 : r_cr r fr num x = (r, [(fr, ce_k num 4 (fun _ => 0) 0)]) → on_E G M_Relay_create 21 (on_l [(0, .ref a), (1, .int (nI fr)), (2, .int num), (3, .ref q), (4, .ref u)]) [] h sz 0 0 (fun v h1 z => v = none ∧ z = sz ∧ ry_P a ot hs nm u q (r_cr r fr num x) h h1) := fun e => by
    refine on_iconst (pc' := 22) (v := 0) rfl rfl li_0 ?_
    refine on_istore (pc' := 24) rfl rfl (by decide) ?_
    refine on_iload (pc' := 26) rfl rfl rfl ?_
    refine on_if_eq (pc' := 29) (tgt := 36) rfl rfl rfl (fun cq => ?_) (fun cq => ?_)
    · refine on_null (pc' := 37) rfl rfl ?_
      exact on_relv (l := [(0, .ref a), (1, .int (nI fr)), (2, .int num), (3, .ref q), (4, .ref u)]) ⟨rfl, rfl, rfl, rfl, rfl, trivial⟩ (no e)
    · exact absurd rfl cq
  refine on_Ct.of (by decide) v_Relay_create (Nat.le_of_ble_eq_true rfl) ?_
  first | refine on_aload_n (pc' := 1) rfl rfl rfl rfl ?_ | refine on_aload_nQ (pc' := 1) rfl rfl rfl rfl ?_
  refine on_iload_n (pc' := 2) rfl rfl rfl rfl ?_
  refine on_iload_n (pc' := 3) rfl rfl rfl rfl ?_
  refine on_callV (pc' := 6) (As := [.int (nI fr), .int num]) (rest := []) (b := a) rfl rfl cw_Relay_create_62 (o1) rfl rfl (Nat.le_of_ble_eq_true rfl) (Nat.zero_le _) (Nat.zero_le _) (c_entryFrom hfr hw k1 k6) ?_
  rintro v h sz ⟨rfl, rfl, rfl⟩
  cases e1 : e_fr r.en fr num with
  | some k =>
    refine on_ifnonnullR (tgt := 21) rfl rfl ?_
    exact on_relv (l := [(0, .ref a), (1, .int (nI fr)), (2, .int num), (3, .ref q), (4, .ref u)]) ⟨rfl, rfl, rfl, rfl, rfl, trivial⟩ (no2 (by unfold r_cr; rw [if_neg (fun z => by rw [e1] at z; exact nomatch z.1)]))
  | none =>
    refine on_ifnonnullN (pc' := 9) rfl rfl ?_
    first | refine on_aload_n (pc' := 10) rfl rfl rfl rfl ?_ | refine on_aload_nQ (pc' := 10) rfl rfl rfl rfl ?_
    first | refine on_aload_n (pc' := 11) rfl rfl rfl rfl ?_ | refine on_aload_nQ (pc' := 11) rfl rfl rfl rfl ?_
    refine on_callV (pc' := 14) (As := [.ref q]) (rest := []) (b := a) rfl rfl cw_Relay_create_118 (o1) rfl rfl (Nat.le_of_ble_eq_true rfl) (Nat.zero_le _) (Nat.zero_le _) (c_isMine (r := r) k1 hq k5) ?_
    rintro v h sz ⟨rfl, rfl, rfl⟩
    cases e2 : r_me r x with
    | false =>
      show on_E G M_Relay_create 14 _ [.int 0] h sz _ _ _
      refine on_if_eq (pc' := 17) (tgt := 21) rfl rfl rfl (fun cq => ?_) (fun cq => ?_)
      · exact on_relv (l := [(0, .ref a), (1, .int (nI fr)), (2, .int num), (3, .ref q), (4, .ref u)]) ⟨rfl, rfl, rfl, rfl, rfl, trivial⟩ (no2 (by unfold r_cr; rw [if_neg (fun z => by rw [e2] at z; exact Bool.noConfusion z.2)]))
      · exact absurd rfl cq
    | true =>
      show on_E G M_Relay_create 14 _ [.int 1] h sz _ _ _
      refine on_if_eq (pc' := 17) (tgt := 21) rfl rfl rfl (fun cq => ?_) (fun cq => ?_)
      · exact absurd cq (by decide)
      · clear cq
        refine on_iconst (pc' := 18) (v := 1) rfl rfl li_1 ?_
        refine on_goto (tgt := 22) rfl rfl ?_
        refine on_istore (pc' := 24) rfl rfl (by decide) ?_
        refine on_iload (pc' := 26) rfl rfl rfl ?_
        refine on_if_eq (pc' := 29) (tgt := 36) rfl rfl rfl (fun cq => ?_) (fun cq => ?_)
        · exact absurd cq (by decide)
        · clear cq
          first | refine on_aload_n (pc' := 30) rfl rfl rfl rfl ?_ | refine on_aload_nQ (pc' := 30) rfl rfl rfl rfl ?_
          refine on_callV (pc' := 33) (As := []) (rest := []) (b := a) rfl rfl cw_Relay_create_122 (o1) rfl rfl (Nat.le_of_ble_eq_true rfl) (Nat.zero_le _) (Nat.zero_le _) (c_freeEntry k1 k6) ?_
          rintro v h sz ⟨rfl, rfl, rfl⟩
          refine on_goto (tgt := 37) rfl rfl ?_
          cases e3 : e_fe r.en with
          | none => exact on_relv (l := [(0, .ref a), (1, .int (nI fr)), (2, .int num), (3, .ref q), (4, .ref u)]) ⟨rfl, rfl, rfl, rfl, rfl, trivial⟩ (no (by unfold r_cr; rw [if_pos ⟨e1, e2⟩, e3]))
          | some s =>
            obtain ⟨s12, es⟩ := e_fe_some e3
            have rcr : r_cr r fr num x = ((r.se, r.dr + 1, r.we, r.nx, fu r.en s (some (fr, num, none, false, ks_f (an_t r.se r.dr x), ks_b (an_t r.se r.dr x), [])), r.ke), [(fr, ce_k num 11 (an_p r.se r.dr x) 64)]) := by unfold r_cr; rw [if_pos ⟨e1, e2⟩, e3]
            rw [rcr]
            clear rcr no no2
            have es2 := k6.2 s s12
            rw [es] at es2
            obtain ⟨sc, fr1, fn1, on1, onn, wt, S, V, W, C, b, L1, L2⟩ := (es2 : en_N _ _ _)
            show on_E G M_Relay_create 37 _ [.ref (a + 8 + 21 * s)] h sz _ _ _
            first | refine on_astore (pc' := 39) rfl rfl (by decide) ?_ | refine on_astoreQ (pc' := 39) rfl rfl (by decide) ?_
            first | refine on_aload (pc' := 41) rfl rfl rfl ?_ | refine on_aloadQ (pc' := 41) rfl rfl rfl ?_
            refine on_ifnonnullR (tgt := 54) rfl rfl ?_
            first | refine on_aload (pc' := 56) rfl rfl rfl ?_ | refine on_aloadQ (pc' := 56) rfl rfl rfl ?_
            refine on_iload_n (pc' := 57) rfl rfl rfl rfl ?_
            refine on_iload_n (pc' := 58) rfl rfl rfl rfl ?_
            refine on_callV (pc' := 61) (As := [.int (nI fr), .int num]) (rest := []) (b := a + 8 + 21 * s) rfl rfl cw_Relay_create_130 (b.1) rfl rfl (Nat.le_of_ble_eq_true rfl) (Nat.zero_le _) (Nat.zero_le _) (c_Entry_begin b) ?_
            rintro v h1 sz ⟨rfl, rfl, b1, t1⟩
            have o2 := (t1 a (by omega)).trans o1
            first | refine on_aload_n (pc' := 62) rfl rfl rfl rfl ?_ | refine on_aload_nQ (pc' := 62) rfl rfl rfl rfl ?_
            first | apply on_get (pc' := 65) rfl rfl fl_Relay_42 | apply on_getN (pc' := 65) rfl rfl fl_Relay_42
            · repeat (first | assumption | exact on_up_eq _ _ _ | refine (on_up_ne (by omega)).trans ?_)
            · rfl
            first | refine on_aload_n (pc' := 66) rfl rfl rfl rfl ?_ | refine on_aload_nQ (pc' := 66) rfl rfl rfl rfl ?_
            first | refine on_aload_n (pc' := 67) rfl rfl rfl rfl ?_ | refine on_aload_nQ (pc' := 67) rfl rfl rfl rfl ?_
            first | refine on_aload (pc' := 69) rfl rfl rfl ?_ | refine on_aloadQ (pc' := 69) rfl rfl rfl ?_
            refine on_iload_n (pc' := 70) rfl rfl rfl rfl ?_
            refine on_iload_n (pc' := 71) rfl rfl rfl rfl ?_
            refine on_bipush (pc' := 73) (v := 11) rfl rfl lb_11 ?_
            refine on_callV (pc' := 76) (As := [.int (nI fr), .int num, .int (nI 11)]) (rest := [.ref q, .ref a, .ref hs]) (b := u) rfl rfl cw_Relay_create_126 ((t1 u (by omega)).trans O.1) rfl rfl (Nat.le_of_ble_eq_true rfl) (Nat.zero_le _) (Nat.zero_le _) (c_addCell (ob_S.keep O (fun x _ _ => t1 x (by omega))) (by decide) (by decide)) ?_
            rintro v h2 sz ⟨rfl, rfl, O2, t2⟩
            have t2' : ∀ x, (x < u ∨ u + 8 ≤ x) → x ≠ a + 8 + 21 * s → h2 x = h x := fun x x1 x2 => (t2 x x1).trans (t1 x x2)
            have H2 : hk_W hs h2 := H.keep (fun x _ _ => t2' x (by omega) (by omega))
            obtain ⟨X, q1, X'⟩ := hq.keep (h2 := h2) (t2' q (by omega) (by omega))
            obtain ⟨A, a1, A'⟩ := rB.ite (O2.2.2.1 0 (by decide)) (by decide)
            rw [fu_s] at A'
            have hme : ∀ i, i < 36 → x (5 + i) = rs_i r.se i := fun i hi => of_decide_eq_true (List.all_eq_true.mp e2 i (List.mem_range.mpr hi))
            refine on_callV (pc' := 79) (As := [.ref a, .ref q, .ref (u + 2 + 0)]) (rest := []) (b := hs) rfl rfl cw_Relay_create_134 (H2.ob) rfl rfl (Nat.le_of_ble_eq_true rfl) (Nat.zero_le _) (Nat.zero_le _) (c_answer H2 (ot := ot) (kc := nI r.ke.length) (w := nI r.we) ((t2' a (by omega) (by omega)).trans k1) (k2.keep (t2' _ (by omega) (by omega)) (t2' _ (by omega) (by omega))) (k3.keep (t2' _ (by omega) (by omega))) (k4.keep (t2' _ (by omega) (by omega))) (by omega) q1 X' (by omega) (by omega) hme a1 (by omega) (by omega) (by omega)) ?_
            rintro v h3 sz ⟨rfl, rfl, H3, x3, n3, w3, ⟨A2, a2, A2', A2''⟩, t3⟩
            have o3 : h3 a = some (.inr (8, [.ref (a + 1), .ref ot, .ref hs, .ref (a + 3), .ref (a + 4), .ref (a + 5), .ref (a + 6), .ref (a + 7), .int (nI r.ke.length), .int (nI r.we)])) := (t3 a (by omega) (by omega) (by omega) (by omega)).trans ((t2' a (by omega) (by omega)).trans o1)
            have b3 := b1.keep (h2 := h3) (fun x _ _ => (t3 x (by omega) (by omega) (by omega) (by omega)).trans (t2 x (by omega)))
            have b0 := b3.1
            have t3' : ∀ x, a + 8 + 21 * s + 5 ≤ x → x < a + 8 + 21 * s + 21 → h3 x = h x := fun x _ _ => (t3 x (by omega) (by omega) (by omega) (by omega)).trans (t2' x (by omega) (by omega))
            first | refine on_aload_n (pc' := 80) rfl rfl rfl rfl ?_ | refine on_aload_nQ (pc' := 80) rfl rfl rfl rfl ?_
            first | apply on_get (pc' := 83) rfl rfl fl_Relay_42 | apply on_getN (pc' := 83) rfl rfl fl_Relay_42
            · repeat (first | assumption | exact on_up_eq _ _ _ | refine (on_up_ne (by omega)).trans ?_)
            · rfl
            first | refine on_aload (pc' := 85) rfl rfl rfl ?_ | refine on_aloadQ (pc' := 85) rfl rfl rfl ?_
            first | apply on_get (pc' := 88) rfl rfl fl_Relay_138 | apply on_getN (pc' := 88) rfl rfl fl_Relay_138
            · repeat (first | assumption | exact on_up_eq _ _ _ | refine (on_up_ne (by omega)).trans ?_)
            · rfl
            first | refine on_aload (pc' := 90) rfl rfl rfl ?_ | refine on_aloadQ (pc' := 90) rfl rfl rfl ?_
            first | apply on_get (pc' := 93) rfl rfl fl_Relay_83 | apply on_getN (pc' := 93) rfl rfl fl_Relay_83
            · repeat (first | assumption | exact on_up_eq _ _ _ | refine (on_up_ne (by omega)).trans ?_)
            · rfl
            refine on_callV (pc' := 96) (As := [.ref (a + 8 + 21 * s + 5), .ref (a + 8 + 21 * s + 13)]) (rest := []) (b := hs) rfl rfl cw_Relay_create_141 (H3.ob) rfl rfl (Nat.le_of_ble_eq_true rfl) (Nat.zero_le _) (Nat.zero_le _) (c_share (tr := hs + 4) H3 x3 (L1.keep (fun x _ _ => t3' x (by omega) (by omega))) (L2.keep (fun x _ _ => t3' x (by omega) (by omega))) (by omega) (by omega) (by omega)) ?_
            rintro v h4 sz ⟨rfl, rfl, H4, f4, g4, t4⟩
            refine on_vreturn rfl rfl ?_
            have T : ∀ x, (x < hs ∨ hs + 29 ≤ x) → x ≠ a + 1 → x ≠ a + 4 → (x < u ∨ u + 8 ≤ x) → (x < a + 8 + 21 * s ∨ a + 8 + 21 * s + 21 ≤ x) → h4 x = h x := fun x x1 x2 x3 x4 x5 => (t4 x x1 (by omega) (by omega)).trans ((t3 x x2 x3 (by omega) x1).trans (t2' x x4 (by omega)))
            have T2 : ∀ x, u ≤ x → x < u + 8 → x ≠ u + 2 + 0 → h4 x = h2 x := fun x x1 x2 x3 => (t4 x (by omega) (by omega) (by omega)).trans (t3 x (by omega) (by omega) x3 (by omega))
            refine ⟨rfl, rfl, ⟨(T a (by omega) (by omega) (by omega) (by omega) (by omega)).trans k1, n3.keep (t4 _ (by omega) (by omega) (by omega)) (t4 _ (by omega) (by omega) (by omega)), k3.keep (T _ (by omega) (by omega) (by omega) (by omega) (by omega)), w3.keep (t4 _ (by omega) (by omega) (by omega)), k5.keep (T _ (by omega) (by omega) (by omega) (by omega) (by omega)), ⟨(T _ (by omega) (by omega) (by omega) (by omega) (by omega)).trans k6.1, fun j hj => ?_⟩, ?_, k8⟩, H4, ob_1 (O2.row (k := 0) (y := ce_k num 11 (an_p r.se r.dr x) 64) (by decide) (by decide) ⟨A2, (t4 _ (by omega) (by omega) (by omega)).trans a2, fun i hi => ?_⟩ T2) fu_s (fun j _ => congrFun fu_s j), hq.w.keep (T _ (by omega) (by omega) (by omega) (by omega) (by omega)), fun b b1 b2 b3 b4 => T b b2 (by omega) (by omega) b3 (by omega)⟩
            · show en_S _ _ (fu r.en s _ j) h4
              by_cases z : j = s
              · subst z
                rw [fu_s]
                exact ⟨onn, S, V, W, C, b3.keep (fun x _ _ => t4 x (by omega) (by omega) (by omega)), (fun q hq => nomatch hq), ⟨Nat.zero_le _, fun i hi => absurd hi (Nat.not_lt_zero i)⟩, f4, g4⟩
              · rw [fu_n z]
                exact (k6.2 j hj).keep (fun x h1 h2 => T x (by omega) (by omega) (by omega) (by omega) (by omega))
            · obtain ⟨F, f1, f2⟩ := k7
              exact ⟨F, (T _ (by omega) (by omega) (by omega) (by omega) (by omega)).trans f1, f2⟩
            · by_cases z : 5 ≤ i ∧ i < 69
              · have := A2' (i - 5) (by omega)
                rw [show 5 + (i - 5) = i by omega] at this
                rw [this]
                unfold ce_k
                rw [if_neg (by omega), if_neg (by omega), if_pos (by omega)]
                exact ⟨rfl, an_lt _ _ _ _⟩
              · rw [A2'' i (by omega)]
                have := A' i hi
                unfold ce_k at this ⊢
                by_cases z4 : i < 4
                · rw [if_pos z4] at this ⊢
                  exact this
                · rw [if_neg z4] at this ⊢
                  by_cases z5 : i = 4
                  · rw [if_pos z5] at this ⊢
                    exact this
                  · rw [if_neg z5, if_neg (by omega)] at this
                    rw [if_neg z5, if_neg (by omega)]
                    exact this
end RMK
