/-! Circuit: join -/
section CJN
variable {G : on_G} {c cl hs ot u q at_ sz : Nat} {ra la sa : Nat → Nat} {rs : Nat → aR} {k : aC} {kk : aK} {h : on_H} {y : aB} {nn nx : Int32}
/-- what a Circuit at c may change -/
def cr_f (c cl hs u q sz : Nat) (la sa : Nat → Nat) (hp ns : Nat) (h h1 : on_H) : Prop := ∀ b, b < sz → (b < c ∨ c + 7 ≤ b) → (b < cl ∨ cl + 2 ≤ b) → (b < hs ∨ hs + 29 ≤ b) → (b < u ∨ u + 8 ≤ b) → b ≠ q → (∀ i, i < hp → b < la i ∨ la i + 16 ≤ b) → (∀ i, i < ns → b < sa i ∨ sa i + 3 ≤ b) → h1 b = h b
/-- what stands behind a Circuit's method -/
def cj_P (c cl hs u q sz : Nat) (ra la sa : Nat → Nat) (rs : Nat → aR) (k : aC) (nn nx : Int32) (r : aC × aK × aO) (h : on_H) : Option Value → on_H → Nat → Prop := fun v h1 z => v = none ∧ ∃ la2 : Nat → Nat, (∀ i, i < k.hp → la2 i = la i) ∧ sz ≤ z ∧ cr_S c cl hs ra la2 sa rs r.1 h1 ∧ cr_I c la2 sa r.1 ∧ (∀ i, i < r.1.hp → la2 i + 16 ≤ z) ∧ (∀ i, k.hp ≤ i → i < r.1.hp → sz ≤ la2 i) ∧ nd_S cl nn r.2.1.se r.2.1.dr nx h1 ∧ hk_W hs h1 ∧ ob_L u r.2.2 h1 ∧ rW h1 q 140 ∧ cr_f c cl hs u q sz la sa k.hp k.st.length h h1
/-- the relays of a path -/
def cj_R (c cl ot hs q : Nat) (ra : Nat → Nat) (rs : Nat → aR) (pa : List Nat) (h : on_H) : Prop := ∀ i, i < pa.length → rl_S (ra (pa.getD i 0)) ot hs (pa.getD i 0) (rs (pa.getD i 0)) h ∧ q < ra (pa.getD i 0) ∧ ra (pa.getD i 0) + 260 ≤ c ∧ (ra (pa.getD i 0) + 260 ≤ cl ∨ cl + 2 ≤ ra (pa.getD i 0)) ∧ pa.getD i 0 < 8
set_option maxHeartbeats 32000000 in
theorem c_join (hd : hs + 29 ≤ u ∧ u + 8 ≤ q ∧ q < cl ∧ cl + 2 ≤ c ∧ c + 7 ≤ sz) (hat : at_ + 64 ≤ 140) (hph : k.ph = 0) (hlz : ∀ i, i < k.hp → la i + 16 ≤ sz) (K : cr_S c cl hs ra la sa rs k h) (I : cr_I c la sa k) (RL : cj_R c cl ot hs q ra rs k.pa h) (ND : nd_S cl nn kk.se kk.dr nx h) (H : hk_W hs h) (hq : rB h q 140 y) (O : ob_E u h) {bc bs : Nat} (hb : 16 * ((c_an rs k kk (fun j => y (at_ + j))).1.hp - k.hp) ≤ bc ∧ 420 * ((c_an rs k kk (fun j => y (at_ + j))).1.hp - k.hp) ≤ bs) :
    on_Ct G M_Circuit_join [.ref (c + 1), .ref q, .int (nI at_), .ref u] h sz bc bs (cj_P c cl hs u q sz ra la sa rs k nn nx (c_an rs k kk (fun j => y (at_ + j))) h) := by
  obtain ⟨X, q1, X'⟩ := id hq
  have c0 := K.ob
  obtain ⟨K1, K2, K3, K4, K5, K6, K7⟩ := id K
  obtain ⟨i1, i2, i3, i4, i5, i6, i7⟩ := id I
  obtain ⟨hlt, hst⟩ := i6 hph
  obtain ⟨xd, xo⟩ := K7 hph
  obtain ⟨P, p1, p2⟩ := id K2
  have hl : 0 < k.pa.length ∧ k.pa.length < 2 ^ 31 := by omega
  have kn : k.hp < k.pa.length ∧ k.pa.length < 2 ^ 31 := by omega
  have s0 : k.st.length = 0 := by rw [hst]; rfl
  have sd : ∀ i, i < k.st.length → c + 7 ≤ sa i ∧ ∀ j, j < i → sa j + 3 ≤ sa i := fun i hi => ⟨(i2 i hi).1, (i2 i hi).2.1⟩
  obtain ⟨R0, R1, R2, R3, R4⟩ := RL 0 hl.1
  refine on_Ct.of (by decide) v_Circuit_join (Nat.le_of_ble_eq_true rfl) ?_
  first | refine on_aload_n (pc' := 1) rfl rfl rfl rfl ?_ | refine on_aload_nQ (pc' := 1) rfl rfl rfl rfl ?_
  first | apply on_get (pc' := 4) rfl rfl fl_Circuit_104 | apply on_getN (pc' := 4) rfl rfl fl_Circuit_104
  · repeat (first | assumption | exact on_up_eq _ _ _ | refine (on_up_ne (by omega)).trans ?_)
  · rfl
  first | refine on_aload_n (pc' := 5) rfl rfl rfl rfl ?_ | refine on_aload_nQ (pc' := 5) rfl rfl rfl rfl ?_
  first | apply on_get (pc' := 8) rfl rfl fl_Circuit_35 | apply on_getN (pc' := 8) rfl rfl fl_Circuit_35
  · repeat (first | assumption | exact on_up_eq _ _ _ | refine (on_up_ne (by omega)).trans ?_)
  · rfl
  apply on_alenQ (pc' := 9) rfl rfl
  · repeat (first | assumption | exact on_up_eq _ _ _ | refine (on_up_ne (by omega)).trans ?_)
  · rfl
  refine on_icmp_ge (pc' := 12) (tgt := 25) rfl rfl rfl (fun cq => ?_) (fun cq => ?_)
  · exact absurd cq (nI_ge (b := k.pa.length) hlt (by omega))
  · clear cq
    first | refine on_aload_n (pc' := 13) rfl rfl rfl rfl ?_ | refine on_aload_nQ (pc' := 13) rfl rfl rfl rfl ?_
    first | apply on_get (pc' := 16) rfl rfl fl_Circuit_39 | apply on_getN (pc' := 16) rfl rfl fl_Circuit_39
    · repeat (first | assumption | exact on_up_eq _ _ _ | refine (on_up_ne (by omega)).trans ?_)
    · rfl
    first | refine on_aload_n (pc' := 17) rfl rfl rfl rfl ?_ | refine on_aload_nQ (pc' := 17) rfl rfl rfl rfl ?_
    first | refine on_aload_n (pc' := 18) rfl rfl rfl rfl ?_ | refine on_aload_nQ (pc' := 18) rfl rfl rfl rfl ?_
    refine on_iload_n (pc' := 19) rfl rfl rfl rfl ?_
    refine on_callV (pc' := 22) (As := [.ref (c + 1), .ref q, .int (nI at_)]) (rest := []) (b := hs) rfl rfl cw_Circuit_join_140 (H.ob) rfl rfl (Nat.le_of_ble_eq_true rfl) (Nat.zero_le _) (Nat.zero_le _) (c_isRight (seedR := (rs (k.pa.getD k.hp 0)).se) (x := k.x) (y := fun j => y (at_ + j)) (p := fun j => y (at_ + (32 + j))) H K1 xd xo (by omega) q1 (by omega) hat (fun j hj => X' (at_ + j) (by omega)) (fun j hj => by rw [Nat.add_assoc]; exact X' (at_ + (32 + j)) (by omega))) ?_
    rintro v h1 sz ⟨rfl, rfl, H1, x1, t1⟩
    have c1 := (t1 (c + 1) (by omega)).trans c0
    have an : c_an rs k kk (fun j => y (at_ + j)) = if is_ok (rs (k.pa.getD k.hp 0)).se k.x (fun j => y (at_ + j)) (fun j => y (at_ + (32 + j))) 32 = true then (if k.hp + 1 = k.pa.length then ((k.cl, k.nu, k.pa, k.hp + 1, 1, fu k.la k.hp (ks_f (is_t (rs (k.pa.getD k.hp 0)).se k.x (fun j => y (at_ + j))), ks_b (is_t (rs (k.pa.getD k.hp 0)).se k.x (fun j => y (at_ + j)))), k.x, k.st), kk, []) else ((c_fo (k.cl, k.nu, k.pa, k.hp + 1, k.ph, fu k.la k.hp (ks_f (is_t (rs (k.pa.getD k.hp 0)).se k.x (fun j => y (at_ + j))), ks_b (is_t (rs (k.pa.getD k.hp 0)).se k.x (fun j => y (at_ + j)))), an_d kk.se kk.dr, k.st) 14 0 69 (fun j => if j = 0 then k.pa.getD (k.hp + 1) 0 else of_b (rs (k.pa.getD (k.hp + 1) 0)).se (an_d kk.se kk.dr) (j - 1))).1, (kk.se, kk.dr + 1, kk.nu), [(c_fo (k.cl, k.nu, k.pa, k.hp + 1, k.ph, fu k.la k.hp (ks_f (is_t (rs (k.pa.getD k.hp 0)).se k.x (fun j => y (at_ + j))), ks_b (is_t (rs (k.pa.getD k.hp 0)).se k.x (fun j => y (at_ + j)))), an_d kk.se kk.dr, k.st) 14 0 69 (fun j => if j = 0 then k.pa.getD (k.hp + 1) 0 else of_b (rs (k.pa.getD (k.hp + 1) 0)).se (an_d kk.se kk.dr) (j - 1))).2])) else ((c_ds k).1, kk, (c_ds k).2) := rfl
    generalize is_ok (rs (k.pa.getD k.hp 0)).se k.x (fun j => y (at_ + j)) (fun j => y (at_ + (32 + j))) 32 = ok at an
    generalize is_t (rs (k.pa.getD k.hp 0)).se k.x (fun j => y (at_ + j)) = tx at an x1
    cases ok with
    | false =>
      show on_E G M_Circuit_join 22 _ [.int 0] h1 sz _ _ _
      refine on_if_ne (pc' := 25) (tgt := 31) rfl rfl rfl (fun cq => ?_) (fun cq => ?_)
      · exact absurd rfl cq
      · clear cq
        first | refine on_aload_n (pc' := 26) rfl rfl rfl rfl ?_ | refine on_aload_nQ (pc' := 26) rfl rfl rfl rfl ?_
        first | refine on_aload_n (pc' := 27) rfl rfl rfl rfl ?_ | refine on_aload_nQ (pc' := 27) rfl rfl rfl rfl ?_
        refine on_callV (pc' := 30) (As := [.ref u]) (rest := []) (b := c + 1) rfl rfl cw_Circuit_join_129 (c1) rfl rfl (Nat.le_of_ble_eq_true rfl) (Nat.zero_le _) (Nat.zero_le _) (c_fall (sa := sa) (ra := ra) (st := k.st) sd (by omega) ((t1 _ (by omega)).trans K1) (K4.keep (t1 _ (by omega)) (fun i hi a a1 a2 => t1 a (by have := (sd i hi).1; omega))) (K2.keep (t1 _ (by omega))) hl (R0.keep (fun b _ _ => t1 b (by omega))) (ob_S.keep O (fun b _ _ => t1 b (by omega))) (by decide)) ?_
        rintro v h2 sz ⟨rfl, rfl, C2, S2, O2, t2⟩
        have T : ∀ b, b ≠ c + 1 → (b < hs ∨ hs + 29 ≤ b) → (b < u ∨ u + 8 ≤ b) → h2 b = h b := fun b b1 b2 b3 => (t2 b b1 b3 (fun i hi => absurd hi (by omega))).trans (t1 b b2)
        refine on_vreturn rfl rfl ?_
        rw [an]
        obtain ⟨z1, z2⟩ := K.gone I C2 S2 (fun b b0 b1 b2 => T b b1 (by omega) (by omega))
        exact ⟨rfl, la, fun _ _ => rfl, Nat.le_refl _, z1, z2, hlz, fun i g1 (g2 : i < k.hp) => absurd g2 (by omega), ND.keep (T _ (by omega) (by omega) (by omega)) (T _ (by omega) (by omega) (by omega)), H1.keep (fun b _ _ => t2 b (by omega) (by omega) (fun i hi => absurd hi (by omega))), ob_1 O2 fu_s (fun j _ => congrFun fu_s j), hq.w.keep (T _ (by omega) (by omega) (by omega)), fun b b0 b1 b2 b3 b4 b5 b6 b7 => T b (by omega) b3 b4⟩
    | true =>
      rw [if_pos rfl] at an
      have hb1 : (c_an rs k kk (fun j => y (at_ + j))).1.hp = k.hp + 1 := by
        rw [an]
        split <;> rfl
      rw [hb1, show k.hp + 1 - k.hp = 1 by omega] at hb
      show on_E G M_Circuit_join 22 _ [.int 1] h1 sz _ _ _
      refine on_if_ne (pc' := 25) (tgt := 31) rfl rfl rfl (fun cq => ?_) (fun cq => ?_)
      rotate_left
      · exact absurd cq (by decide)
      · clear cq
        obtain ⟨⟨F, f1, f2⟩, ⟨B, b1, b2⟩, k3⟩ := id K3
        have hob := H1.ob
        first | refine on_aload_n (pc' := 32) rfl rfl rfl rfl ?_ | refine on_aload_nQ (pc' := 32) rfl rfl rfl rfl ?_
        first | apply on_get (pc' := 35) rfl rfl fl_Circuit_45 | apply on_getN (pc' := 35) rfl rfl fl_Circuit_45
        · repeat (first | assumption | exact on_up_eq _ _ _ | refine (on_up_ne (by omega)).trans ?_)
        · rfl
        first | refine on_aload_n (pc' := 36) rfl rfl rfl rfl ?_ | refine on_aload_nQ (pc' := 36) rfl rfl rfl rfl ?_
        first | apply on_get (pc' := 39) rfl rfl fl_Circuit_104 | apply on_getN (pc' := 39) rfl rfl fl_Circuit_104
        · repeat (first | assumption | exact on_up_eq _ _ _ | refine (on_up_ne (by omega)).trans ?_)
        · rfl
        refine on_new (pc' := 42) (fs := [.null, .null, .null, .null, .null, .null, .int 0]) rfl rfl nw_Circuit_43 (by intro j hj; match j, hj with | 0, _ => rfl | 1, _ => rfl | 2, _ => rfl | 3, _ => rfl | 4, _ => rfl | 5, _ => rfl | 6, _ => rfl | j + 7, hj => exact absurd hj (by omega)) (by omega) (by omega) ?_
        refine on_dup (pc' := 43) rfl rfl rfl ?_
        first | refine on_aload_n (pc' := 44) rfl rfl rfl rfl ?_ | refine on_aload_nQ (pc' := 44) rfl rfl rfl rfl ?_
        first | apply on_get (pc' := 47) rfl rfl fl_Circuit_39 | apply on_getN (pc' := 47) rfl rfl fl_Circuit_39
        · repeat (first | assumption | exact on_up_eq _ _ _ | refine (on_up_ne (by omega)).trans ?_)
        · rfl
        first | apply on_get (pc' := 50) rfl rfl fl_Circuit_144 | apply on_getN (pc' := 50) rfl rfl fl_Circuit_144
        · repeat (first | assumption | exact on_up_eq _ _ _ | refine (on_up_ne (by omega)).trans ?_)
        · rfl
        first | refine on_callI (pc' := 53) (As := [.ref (hs + 4)]) (rest := [.ref sz, .int (nI k.hp), .ref (c + 5)]) (b := sz) rfl rfl cw_Circuit_join_148 rfl rfl (Nat.le_of_ble_eq_true rfl) (by omega) (by omega) (c_Lane_init (on_up_eq _ _ _) rfl) ?_ | refine on_callIN (pc' := 53) (As := [.ref (hs + 4)]) (rest := [.ref sz, .int (nI k.hp), .ref (c + 5)]) (b := sz) rfl rfl cw_Circuit_join_148 rfl rfl (Nat.le_of_ble_eq_true rfl) (by omega) (by omega) (c_Lane_init (on_up_eq _ _ _) rfl) ?_
        rintro v h2 z ⟨rfl, rfl, L2, t2⟩
        have T2 : ∀ b, b < sz → h2 b = h1 b := fun b hb => (t2 b (by omega)).trans (on_up_ne (by omega))
        obtain ⟨⟨due, inp, mix, blk, us, B2⟩, -⟩ := id L2
        have ob2 := B2.1
        have f5 := (T2 (c + 5) (by omega)).trans ((t1 (c + 5) (by omega)).trans f1)
        have c2 := (T2 (c + 1) (by omega)).trans c1
        have hob2 := (T2 hs (by omega)).trans hob
        show on_E G M_Circuit_join 53 _ [.ref sz, .int (nI k.hp), .ref (c + 5)] h2 (sz + 8) _ _ _
        apply on_aastoreK (pc' := 54) rfl rfl
        · repeat (first | assumption | exact on_up_eq _ _ _ | refine (on_up_ne (by omega)).trans ?_)
        rotate_left 2
        · repeat (first | assumption | exact on_up_eq _ _ _ | refine (on_up_ne (by omega)).trans ?_)
        rotate_right 2
        · rfl
        · rfl
        · first | assumption | exact on_lit _ | rfl
        · first | assumption | omega | decide
        first | refine on_aload_n (pc' := 55) rfl rfl rfl rfl ?_ | refine on_aload_nQ (pc' := 55) rfl rfl rfl rfl ?_
        first | apply on_get (pc' := 58) rfl rfl fl_Circuit_49 | apply on_getN (pc' := 58) rfl rfl fl_Circuit_49
        · repeat (first | assumption | exact on_up_eq _ _ _ | refine (on_up_ne (by omega)).trans ?_)
        · rfl
        first | refine on_aload_n (pc' := 59) rfl rfl rfl rfl ?_ | refine on_aload_nQ (pc' := 59) rfl rfl rfl rfl ?_
        first | apply on_get (pc' := 62) rfl rfl fl_Circuit_104 | apply on_getN (pc' := 62) rfl rfl fl_Circuit_104
        · repeat (first | assumption | exact on_up_eq _ _ _ | refine (on_up_ne (by omega)).trans ?_)
        · rfl
        refine on_new (pc' := 65) (fs := [.null, .null, .null, .null, .null, .null, .int 0]) rfl rfl nw_Circuit_43 (by intro j hj; match j, hj with | 0, _ => rfl | 1, _ => rfl | 2, _ => rfl | 3, _ => rfl | 4, _ => rfl | 5, _ => rfl | 6, _ => rfl | j + 7, hj => exact absurd hj (by omega)) (by omega) (by omega) ?_
        refine on_dup (pc' := 66) rfl rfl rfl ?_
        first | refine on_aload_n (pc' := 67) rfl rfl rfl rfl ?_ | refine on_aload_nQ (pc' := 67) rfl rfl rfl rfl ?_
        first | apply on_get (pc' := 70) rfl rfl fl_Circuit_39 | apply on_getN (pc' := 70) rfl rfl fl_Circuit_39
        · repeat (first | assumption | exact on_up_eq _ _ _ | refine (on_up_ne (by omega)).trans ?_)
        · rfl
        first | apply on_get (pc' := 73) rfl rfl fl_Circuit_144 | apply on_getN (pc' := 73) rfl rfl fl_Circuit_144
        · repeat (first | assumption | exact on_up_eq _ _ _ | refine (on_up_ne (by omega)).trans ?_)
        · rfl
        first | refine on_callI (pc' := 76) (As := [.ref (hs + 4)]) (rest := [.ref (sz + 8), .int (nI k.hp), .ref (c + 6)]) (b := sz + 8) rfl rfl cw_Circuit_join_148 rfl rfl (Nat.le_of_ble_eq_true rfl) (by omega) (by omega) (c_Lane_init (on_up_eq _ _ _) rfl) ?_ | refine on_callIN (pc' := 76) (As := [.ref (hs + 4)]) (rest := [.ref (sz + 8), .int (nI k.hp), .ref (c + 6)]) (b := sz + 8) rfl rfl cw_Circuit_join_148 rfl rfl (Nat.le_of_ble_eq_true rfl) (by omega) (by omega) (c_Lane_init (on_up_eq _ _ _) rfl) ?_
        rintro v h3 z ⟨rfl, rfl, L3, t3⟩
        have T3 : ∀ b, b < sz + 8 → b ≠ c + 5 → h3 b = h2 b := fun b b1 b2 => (t3 b (by omega)).trans ((on_up_ne (by omega)).trans (on_up_ne b2))
        have f35 : h3 (c + 5) = some (on_aq 6 k.pa.length (va_up F k.hp (some sz))) := (t3 _ (by omega)).trans ((on_up_ne (by omega)).trans (on_up_eq _ _ _))
        have f36 := (T3 (c + 6) (by omega) (by omega)).trans ((T2 (c + 6) (by omega)).trans ((t1 (c + 6) (by omega)).trans b1))
        obtain ⟨⟨due3, inp3, mix3, blk3, us3, B3⟩, -⟩ := id L3
        have ob3 := B3.1
        have c3 := (T3 (c + 1) (by omega) (by omega)).trans c2
        have hob3 := (T3 hs (by omega) (by omega)).trans hob2
        show on_E G M_Circuit_join 76 _ [.ref (sz + 8), .int (nI k.hp), .ref (c + 6)] h3 (sz + 16) _ _ _
        apply on_aastoreK (pc' := 77) rfl rfl
        · repeat (first | assumption | exact on_up_eq _ _ _ | refine (on_up_ne (by omega)).trans ?_)
        rotate_left 2
        · repeat (first | assumption | exact on_up_eq _ _ _ | refine (on_up_ne (by omega)).trans ?_)
        rotate_right 2
        · rfl
        · rfl
        · first | assumption | exact on_lit _ | rfl
        · first | assumption | omega | decide
        first | refine on_aload_n (pc' := 78) rfl rfl rfl rfl ?_ | refine on_aload_nQ (pc' := 78) rfl rfl rfl rfl ?_
        first | apply on_get (pc' := 81) rfl rfl fl_Circuit_39 | apply on_getN (pc' := 81) rfl rfl fl_Circuit_39
        · repeat (first | assumption | exact on_up_eq _ _ _ | refine (on_up_ne (by omega)).trans ?_)
        · rfl
        first | refine on_aload_n (pc' := 82) rfl rfl rfl rfl ?_ | refine on_aload_nQ (pc' := 82) rfl rfl rfl rfl ?_
        first | apply on_get (pc' := 85) rfl rfl fl_Circuit_45 | apply on_getN (pc' := 85) rfl rfl fl_Circuit_45
        · repeat (first | assumption | exact on_up_eq _ _ _ | refine (on_up_ne (by omega)).trans ?_)
        · rfl
        first | refine on_aload_n (pc' := 86) rfl rfl rfl rfl ?_ | refine on_aload_nQ (pc' := 86) rfl rfl rfl rfl ?_
        first | apply on_get (pc' := 89) rfl rfl fl_Circuit_104 | apply on_getN (pc' := 89) rfl rfl fl_Circuit_104
        · repeat (first | assumption | exact on_up_eq _ _ _ | refine (on_up_ne (by omega)).trans ?_)
        · rfl
        apply on_aaloadK (pc' := 90) rfl rfl
        · repeat (first | assumption | exact on_up_eq _ _ _ | refine (on_up_ne (by omega)).trans ?_)
        · rfl
        · first | assumption | exact on_lit _ | rfl
        · first | assumption | omega | decide
        rw [show va_up F k.hp (some sz) k.hp = some sz from if_pos rfl]
        show on_E G M_Circuit_join 90 _ [.ref sz, .ref hs] _ _ _ _ _
        first | refine on_aload_n (pc' := 91) rfl rfl rfl rfl ?_ | refine on_aload_nQ (pc' := 91) rfl rfl rfl rfl ?_
        first | apply on_get (pc' := 94) rfl rfl fl_Circuit_49 | apply on_getN (pc' := 94) rfl rfl fl_Circuit_49
        · repeat (first | assumption | exact on_up_eq _ _ _ | refine (on_up_ne (by omega)).trans ?_)
        · rfl
        first | refine on_aload_n (pc' := 95) rfl rfl rfl rfl ?_ | refine on_aload_nQ (pc' := 95) rfl rfl rfl rfl ?_
        first | apply on_get (pc' := 98) rfl rfl fl_Circuit_104 | apply on_getN (pc' := 98) rfl rfl fl_Circuit_104
        · repeat (first | assumption | exact on_up_eq _ _ _ | refine (on_up_ne (by omega)).trans ?_)
        · rfl
        apply on_aaloadK (pc' := 99) rfl rfl
        · repeat (first | assumption | exact on_up_eq _ _ _ | refine (on_up_ne (by omega)).trans ?_)
        · rfl
        · first | assumption | exact on_lit _ | rfl
        · first | assumption | omega | decide
        rw [show va_up B k.hp (some (sz + 8)) k.hp = some (sz + 8) from if_pos rfl]
        show on_E G M_Circuit_join 99 _ [.ref (sz + 8), .ref sz, .ref hs] _ _ _ _ _
        have G3 : ∀ b, b < sz → b ≠ c + 5 → b ≠ c + 6 → on_up h3 (c + 6) (on_aq 6 k.pa.length (va_up B k.hp (some (sz + 8)))) b = h1 b := fun b b1 b2 b3 => (on_up_ne b3).trans ((T3 b (by omega) b2).trans (T2 b b1))
        have H3 : hk_W hs (on_up h3 (c + 6) (on_aq 6 k.pa.length (va_up B k.hp (some (sz + 8))))) := H1.keep (fun b _ _ => G3 b (by omega) (by omega) (by omega))
        refine on_callV (pc' := 102) (As := [.ref sz, .ref (sz + 8)]) (rest := []) (b := hs) rfl rfl cw_Circuit_join_151 (H3.ob) rfl rfl (Nat.le_of_ble_eq_true rfl) (Nat.zero_le _) (Nat.zero_le _) (c_share (tr := hs + 4) (tx := tx) H3 (x1.keep (G3 _ (by omega) (by omega) (by omega))) (L2.keep (fun b _ _ => (on_up_ne (by omega)).trans (T3 b (by omega) (by omega)))) (L3.keep (fun b _ _ => on_up_ne (by omega))) (by omega) (by omega) (by omega)) ?_
        rintro v h5 z ⟨rfl, rfl, H5, A5, B5, t5⟩
        have T5 : ∀ b, b < sz → b ≠ c + 5 → b ≠ c + 6 → (b < hs ∨ hs + 29 ≤ b) → h5 b = h b := fun b b1 b2 b3 b4 => (t5 b b4 (by omega) (by omega)).trans ((G3 b b1 b2 b3).trans (t1 b b4))
        have f55 : h5 (c + 5) = some (on_aq 6 k.pa.length (va_up F k.hp (some sz))) := (t5 _ (by omega) (by omega) (by omega)).trans ((on_up_ne (by omega)).trans f35)
        have f56 : h5 (c + 6) = some (on_aq 6 k.pa.length (va_up B k.hp (some (sz + 8)))) := (t5 _ (by omega) (by omega) (by omega)).trans (on_up_eq _ _ _)
        have c5 := (T5 (c + 1) (by omega) (by omega) (by omega) (by omega)).trans c0
        have p5 := (T5 c (by omega) (by omega) (by omega) (by omega)).trans p1
        first | refine on_aload_n (pc' := 103) rfl rfl rfl rfl ?_ | refine on_aload_nQ (pc' := 103) rfl rfl rfl rfl ?_
        refine on_dup (pc' := 104) rfl rfl rfl ?_
        first | apply on_get (pc' := 107) rfl rfl fl_Circuit_104 | apply on_getN (pc' := 107) rfl rfl fl_Circuit_104
        · repeat (first | assumption | exact on_up_eq _ _ _ | refine (on_up_ne (by omega)).trans ?_)
        · rfl
        refine on_iconst (pc' := 108) (v := 1) rfl rfl li_1 ?_
        refine on_iadd (pc' := 109) rfl rfl ?_
        rw [show nI k.hp + 1 = nI (k.hp + 1) from nI_1 _]
        first | apply on_put (pc' := 112) rfl rfl fp_Circuit_104 | apply on_putN (pc' := 112) rfl rfl fp_Circuit_104
        · repeat (first | assumption | exact on_up_eq _ _ _ | refine (on_up_ne (by omega)).trans ?_)
        · first | rfl | assumption
        · first | rfl | assumption
        · exact Nat.le_of_ble_eq_true rfl
        show on_E G M_Circuit_join 112 _ [] (on_up h5 (c + 1) (.inr (9, [.ref cl, .int (nI k.nu), .ref c, .ref hs, .ref (c + 5), .ref (c + 6), .ref (c + 2), .ref (c + 3), .ref (c + 4), .int (nI k.ph), .int (nI (k.hp + 1)), .int (nI k.st.length)]))) (sz + 16) _ _ _
        have e1 : on_up h5 (c + 1) (.inr (9, [.ref cl, .int (nI k.nu), .ref c, .ref hs, .ref (c + 5), .ref (c + 6), .ref (c + 2), .ref (c + 3), .ref (c + 4), .int (nI k.ph), .int (nI (k.hp + 1)), .int (nI k.st.length)])) (c + 1) = some (.inr (9, [.ref cl, .int (nI k.nu), .ref c, .ref hs, .ref (c + 5), .ref (c + 6), .ref (c + 2), .ref (c + 3), .ref (c + 4), .int (nI k.ph), .int (nI (k.hp + 1)), .int (nI k.st.length)])) := on_up_eq _ _ _
        have e2 : ∀ b, b ≠ c + 1 → on_up h5 (c + 1) (.inr (9, [.ref cl, .int (nI k.nu), .ref c, .ref hs, .ref (c + 5), .ref (c + 6), .ref (c + 2), .ref (c + 3), .ref (c + 4), .int (nI k.ph), .int (nI (k.hp + 1)), .int (nI k.st.length)])) b = h5 b := fun b hb => on_up_ne hb
        generalize on_up h5 (c + 1) (.inr (9, [.ref cl, .int (nI k.nu), .ref c, .ref hs, .ref (c + 5), .ref (c + 6), .ref (c + 2), .ref (c + 3), .ref (c + 4), .int (nI k.ph), .int (nI (k.hp + 1)), .int (nI k.st.length)])) = g5 at e1 e2 ⊢
        have T6 : ∀ b, b < sz → b ≠ c + 1 → b ≠ c + 5 → b ≠ c + 6 → (b < hs ∨ hs + 29 ≤ b) → g5 b = h b := fun b b1 b2 b3 b4 b5 => (e2 b b2).trans (T5 b b1 b3 b4 b5)
        have LS : ls_S c (hs + 4) k.pa.length (fu la k.hp sz) (k.hp + 1) (fu k.la k.hp (ks_f tx, ks_b tx)) g5 := by
          refine ⟨⟨va_up F k.hp (some sz), (e2 _ (by omega)).trans f55, fun i hi => ?_⟩, ⟨va_up B k.hp (some (sz + 8)), (e2 _ (by omega)).trans f56, fun i hi => ?_⟩, fun i hi => ?_⟩
          · by_cases z : i = k.hp
            · rw [z, fu_s]; exact if_pos rfl
            · rw [fu_n z]; exact (if_neg z).trans (f2 i (by omega))
          · by_cases z : i = k.hp
            · rw [z, fu_s]; exact if_pos rfl
            · rw [fu_n z]; exact (if_neg z).trans (b2 i (by omega))
          · by_cases z : i = k.hp
            · rw [z, fu_s, fu_s]
              exact ⟨la_S.keep A5 (fun b _ _ => e2 b (by omega)), la_S.keep B5 (fun b _ _ => e2 b (by omega))⟩
            · rw [fu_n z, fu_n z]
              have g1 := (i1 i (by omega)).1
              have g2 := hlz i (by omega)
              exact ⟨(k3 i (by omega)).1.keep (fun b _ _ => T6 b (by omega) (by omega) (by omega) (by omega) (by omega)), (k3 i (by omega)).2.keep (fun b _ _ => T6 b (by omega) (by omega) (by omega) (by omega) (by omega))⟩
        have D2 : ls_D c (fu la k.hp sz) (k.hp + 1) := fun i hi => by
          by_cases z : i = k.hp
          · rw [z, fu_s]
            exact ⟨by omega, fun j hj => by rw [fu_n (by omega)]; exact hlz j hj⟩
          · rw [fu_n z]
            exact ⟨(i1 i (by omega)).1, fun j hj => by rw [fu_n (by omega)]; exact (i1 i (by omega)).2 j hj⟩
        have la1 : ∀ i, i < k.hp → fu la k.hp sz i = la i := fun i hi => fu_n (by omega)
        have la2 : ∀ i, i < k.hp + 1 → fu la k.hp sz i + 16 ≤ sz + 16 := fun i hi => by
          by_cases z : i = k.hp
          · rw [z, fu_s]; exact Nat.le_refl _
          · rw [fu_n z]; have := hlz i (by omega); omega
        have la3 : ∀ i, k.hp ≤ i → i < k.hp + 1 → sz ≤ fu la k.hp sz i := fun i g1 g2 => by
          rw [show i = k.hp by omega, fu_s]; exact Nat.le_refl _
        have H6 : hk_W hs g5 := H5.keep (fun b _ _ => e2 b (by omega))
        have p6 := (e2 c (by omega)).trans p5
        first | refine on_aload_n (pc' := 113) rfl rfl rfl rfl ?_ | refine on_aload_nQ (pc' := 113) rfl rfl rfl rfl ?_
        first | apply on_get (pc' := 116) rfl rfl fl_Circuit_104 | apply on_getN (pc' := 116) rfl rfl fl_Circuit_104
        · repeat (first | assumption | exact on_up_eq _ _ _ | refine (on_up_ne (by omega)).trans ?_)
        · rfl
        first | refine on_aload_n (pc' := 117) rfl rfl rfl rfl ?_ | refine on_aload_nQ (pc' := 117) rfl rfl rfl rfl ?_
        first | apply on_get (pc' := 120) rfl rfl fl_Circuit_35 | apply on_getN (pc' := 120) rfl rfl fl_Circuit_35
        · repeat (first | assumption | exact on_up_eq _ _ _ | refine (on_up_ne (by omega)).trans ?_)
        · rfl
        apply on_alenQ (pc' := 121) rfl rfl
        · repeat (first | assumption | exact on_up_eq _ _ _ | refine (on_up_ne (by omega)).trans ?_)
        · rfl
        refine on_icmp_ne (pc' := 124) (tgt := 130) rfl rfl rfl (fun cq => ?_) (fun cq => ?_)
        rotate_left
        · have eq : k.hp + 1 = k.pa.length := (nI_eq (a := k.hp + 1) (b := k.pa.length) (by omega) (by omega)).mp cq
          clear cq
          rw [if_pos eq] at an
          first | refine on_aload_n (pc' := 125) rfl rfl rfl rfl ?_ | refine on_aload_nQ (pc' := 125) rfl rfl rfl rfl ?_
          refine on_iconst (pc' := 126) (v := 1) rfl rfl li_1 ?_
          first | apply on_put (pc' := 129) rfl rfl fp_Circuit_24 | apply on_putN (pc' := 129) rfl rfl fp_Circuit_24
          · repeat (first | assumption | exact on_up_eq _ _ _ | refine (on_up_ne (by omega)).trans ?_)
          · first | rfl | assumption
          · first | rfl | assumption
          · exact Nat.le_of_ble_eq_true rfl
          refine on_vreturn rfl rfl ?_
          rw [an]
          have T8 : ∀ b, b < sz → b ≠ c + 1 → b ≠ c + 5 → b ≠ c + 6 → (b < hs ∨ hs + 29 ≤ b) → on_up g5 (c + 1) (.inr (9, [.ref cl, .int (nI k.nu), .ref c, .ref hs, .ref (c + 5), .ref (c + 6), .ref (c + 2), .ref (c + 3), .ref (c + 4), .int 1, .int (nI (k.hp + 1)), .int (nI k.st.length)])) b = h b := fun b b1 b2 b3 b4 b5 => (on_up_ne b2).trans (T6 b b1 b2 b3 b4 b5)
          exact ⟨rfl, fu la k.hp sz, la1, Nat.le_add_right _ _, ⟨on_up_eq _ _ _, K2.keep (T8 _ (by omega) (by omega) (by omega) (by omega) (by omega)), LS.keep (on_up_ne (by omega)) (on_up_ne (by omega)) (fun i hi b b1 b2 => on_up_ne (by have := (D2 i hi).1; omega)), K4.keep (T8 _ (by omega) (by omega) (by omega) (by omega) (by omega)) (fun i hi => absurd hi (by omega)), K5.keep (T8 _ (by omega) (by omega) (by omega) (by omega) (by omega)), K6.keep (T8 _ (by omega) (by omega) (by omega) (by omega) (by omega)), fun z => absurd (show (1 : Nat) = 0 from z) (by decide)⟩, ⟨D2, fun i (hi : i < k.st.length) => absurd hi (by omega), i3, Nat.le_succ 1, (by show k.hp + 1 ≤ k.pa.length; omega), fun z => absurd (show (1 : Nat) = 0 from z) (by decide), fun _ => eq⟩, la2, la3, ND.keep (T8 _ (by omega) (by omega) (by omega) (by omega) (by omega)) (T8 _ (by omega) (by omega) (by omega) (by omega) (by omega)), H6.keep (fun b _ _ => on_up_ne (by omega)), ob_0 (ob_S.keep O (fun b _ _ => T8 b (by omega) (by omega) (by omega) (by omega) (by omega))), hq.w.keep (T8 _ (by omega) (by omega) (by omega) (by omega) (by omega)), fun b b0 b1 b2 b3 b4 b5 b6 b7 => T8 b b0 (by omega) (by omega) (by omega) b3⟩
        · have ne : ¬ k.hp + 1 = k.pa.length := fun z => cq (by rw [z])
          clear cq
          rw [if_neg ne] at an
          obtain ⟨Q0, Q1, Q2, Q3, Q4⟩ := RL (k.hp + 1) (by omega)
          have kn2 : k.hp + 1 < k.pa.length ∧ k.pa.length < 2 ^ 31 := by omega
          first | refine on_aload_n (pc' := 131) rfl rfl rfl rfl ?_ | refine on_aload_nQ (pc' := 131) rfl rfl rfl rfl ?_
          first | apply on_get (pc' := 134) rfl rfl fl_Circuit_39 | apply on_getN (pc' := 134) rfl rfl fl_Circuit_39
          · repeat (first | assumption | exact on_up_eq _ _ _ | refine (on_up_ne (by omega)).trans ?_)
          · rfl
          first | refine on_aload_n (pc' := 135) rfl rfl rfl rfl ?_ | refine on_aload_nQ (pc' := 135) rfl rfl rfl rfl ?_
          first | refine on_aload_n (pc' := 136) rfl rfl rfl rfl ?_ | refine on_aload_nQ (pc' := 136) rfl rfl rfl rfl ?_
          first | apply on_get (pc' := 139) rfl rfl fl_Circuit_35 | apply on_getN (pc' := 139) rfl rfl fl_Circuit_35
          · repeat (first | assumption | exact on_up_eq _ _ _ | refine (on_up_ne (by omega)).trans ?_)
          · rfl
          first | refine on_aload_n (pc' := 140) rfl rfl rfl rfl ?_ | refine on_aload_nQ (pc' := 140) rfl rfl rfl rfl ?_
          first | apply on_get (pc' := 143) rfl rfl fl_Circuit_104 | apply on_getN (pc' := 143) rfl rfl fl_Circuit_104
          · repeat (first | assumption | exact on_up_eq _ _ _ | refine (on_up_ne (by omega)).trans ?_)
          · rfl
          apply on_aaloadK (pc' := 144) rfl rfl
          · repeat (first | assumption | exact on_up_eq _ _ _ | refine (on_up_ne (by omega)).trans ?_)
          · rfl
          · first | assumption | exact on_lit _ | rfl
          · first | assumption | omega | decide
          rw [p2 (k.hp + 1) kn2.1]
          show on_E G M_Circuit_join 144 _ [.ref (ra (k.pa.getD (k.hp + 1) 0)), .ref (c + 1), .ref hs] _ _ _ _ _
          have Q0' := Q0.keep (h2 := g5) (fun b _ _ => T6 b (by omega) (by omega) (by omega) (by omega) (by omega))
          refine on_callV (pc' := 147) (As := [.ref (c + 1), .ref (ra (k.pa.getD (k.hp + 1) 0))]) (rest := []) (b := hs) rfl rfl cw_Circuit_join_63 (H6.ob) rfl rfl (Nat.le_of_ble_eq_true rfl) (Nat.zero_le _) (Nat.zero_le _) (c_offer (o := hs) (c := c) (cl := cl) H6 e1 (ND.keep (T6 _ (by omega) (by omega) (by omega) (by omega) (by omega)) (T6 _ (by omega) (by omega) (by omega) (by omega) (by omega))) Q0'.1 Q0'.2.2.2.2.1 (K5.keep (T6 _ (by omega) (by omega) (by omega) (by omega) (by omega))) (K6.keep (T6 _ (by omega) (by omega) (by omega) (by omega) (by omega))) (by omega) (by omega) (by omega) (by omega) (by omega) (by omega)) ?_
          rintro v h7 z ⟨rfl, rfl, H7, N7, D7, F7, t7⟩
          have T7 : ∀ b, b < sz → (b < c ∨ c + 7 ≤ b ∨ b = c ∨ b = c + 2) → b ≠ cl → (b < hs ∨ hs + 29 ≤ b) → h7 b = h b := fun b b1 b2 b3 b4 => (t7 b b3 (by omega) (by omega) b4).trans (T6 b b1 (by omega) (by omega) (by omega) b4)
          have c7 := (t7 (c + 1) (by omega) (by omega) (by omega) (by omega)).trans e1
          have p7 := (T7 c (by omega) (by omega) (by omega) (by omega)).trans p1
          obtain ⟨Of, o7, Of'⟩ := id F7
          first | refine on_aload_n (pc' := 148) rfl rfl rfl rfl ?_ | refine on_aload_nQ (pc' := 148) rfl rfl rfl rfl ?_
          first | refine on_aload_n (pc' := 149) rfl rfl rfl rfl ?_ | refine on_aload_nQ (pc' := 149) rfl rfl rfl rfl ?_
          refine on_bipush (pc' := 151) (v := 14) rfl rfl lb_14 ?_
          refine on_iconst (pc' := 152) (v := 0) rfl rfl li_0 ?_
          refine on_bipush (pc' := 154) (v := 69) rfl rfl lb_69 ?_
          refine on_callV (pc' := 157) (As := [.ref u, .int (nI 14), .int (nI 0), .int (nI 69)]) (rest := []) (b := c + 1) rfl rfl cw_Circuit_join_85 (c7) rfl rfl (Nat.le_of_ble_eq_true rfl) (Nat.zero_le _) (Nat.zero_le _) (c_toLast (ra := ra) (pa := k.pa) c7 (K2.keep (T7 _ (by omega) (by omega) (by omega) (by omega))) hl (R0.keep (fun b _ _ => T7 b (by omega) (by omega) (by omega) (by omega))) (ob_S.keep O (fun b _ _ => T7 b (by omega) (by omega) (by omega) (by omega))) (by decide) (by decide) (by decide) (by decide)) ?_
          rintro v h8 z ⟨rfl, rfl, O8, t8⟩
          have c8 := (t8 (c + 1) (by omega)).trans c7
          have p8 := (t8 c (by omega)).trans p7
          have o8 := (t8 (c + 4) (by omega)).trans o7
          have Q8 := Q0.keep (h2 := h8) (fun b _ _ => (t8 b (by omega)).trans (T7 b (by omega) (by omega) (by omega) (by omega)))
          have r8 : h8 (ra (k.pa.getD (k.hp + 1) 0)) = some (.inr (8, [.ref (ra (k.pa.getD (k.hp + 1) 0) + 1), .ref ot, .ref hs, .ref (ra (k.pa.getD (k.hp + 1) 0) + 3), .ref (ra (k.pa.getD (k.hp + 1) 0) + 4), .ref (ra (k.pa.getD (k.hp + 1) 0) + 5), .ref (ra (k.pa.getD (k.hp + 1) 0) + 6), .ref (ra (k.pa.getD (k.hp + 1) 0) + 7), .int (nI (rs (k.pa.getD (k.hp + 1) 0)).ke.length), .int (nI (rs (k.pa.getD (k.hp + 1) 0)).we)])) := Q8.1
          have n8 := Q8.2.1.1
          obtain ⟨A, a1, A'⟩ := rB.ite (O8.2.2.1 0 (by decide)) (by decide)
          rw [fu_s] at A'
          first | refine on_astore (pc' := 159) rfl rfl (by decide) ?_ | refine on_astoreQ (pc' := 159) rfl rfl (by decide) ?_
          first | refine on_aload (pc' := 161) rfl rfl rfl ?_ | refine on_aloadQ (pc' := 161) rfl rfl rfl ?_
          refine on_bipush (pc' := 163) (v := 16) rfl rfl lb_16 ?_
          first | refine on_aload_n (pc' := 164) rfl rfl rfl rfl ?_ | refine on_aload_nQ (pc' := 164) rfl rfl rfl rfl ?_
          first | apply on_get (pc' := 167) rfl rfl fl_Circuit_35 | apply on_getN (pc' := 167) rfl rfl fl_Circuit_35
          · repeat (first | assumption | exact on_up_eq _ _ _ | refine (on_up_ne (by omega)).trans ?_)
          · rfl
          first | refine on_aload_n (pc' := 168) rfl rfl rfl rfl ?_ | refine on_aload_nQ (pc' := 168) rfl rfl rfl rfl ?_
          first | apply on_get (pc' := 171) rfl rfl fl_Circuit_104 | apply on_getN (pc' := 171) rfl rfl fl_Circuit_104
          · repeat (first | assumption | exact on_up_eq _ _ _ | refine (on_up_ne (by omega)).trans ?_)
          · rfl
          apply on_aaloadK (pc' := 172) rfl rfl
          · repeat (first | assumption | exact on_up_eq _ _ _ | refine (on_up_ne (by omega)).trans ?_)
          · rfl
          · first | assumption | exact on_lit _ | rfl
          · first | assumption | omega | decide
          rw [p2 (k.hp + 1) kn2.1]
          show on_E G M_Circuit_join 172 _ [.ref (ra (k.pa.getD (k.hp + 1) 0)), .int 16, .ref (u + 2 + 0)] _ _ _ _ _
          first | apply on_get (pc' := 175) rfl rfl fl_Circuit_52 | apply on_getN (pc' := 175) rfl rfl fl_Circuit_52
          · repeat (first | assumption | exact on_up_eq _ _ _ | refine (on_up_ne (by omega)).trans ?_)
          · rfl
          first | apply on_get (pc' := 178) rfl rfl fl_Circuit_57 | apply on_getN (pc' := 178) rfl rfl fl_Circuit_57
          · repeat (first | assumption | exact on_up_eq _ _ _ | refine (on_up_ne (by omega)).trans ?_)
          · rfl
          apply on_iastoreK (pc' := 179) (t := 0) rfl rfl
          · repeat (first | assumption | exact on_up_eq _ _ _ | refine (on_up_ne (by omega)).trans ?_)
          · rfl
          · first | assumption | exact on_lit _ | rfl
          · first | assumption | omega | decide
          first | refine on_aload_n (pc' := 180) rfl rfl rfl rfl ?_ | refine on_aload_nQ (pc' := 180) rfl rfl rfl rfl ?_
          first | apply on_get (pc' := 183) rfl rfl fl_Circuit_21 | apply on_getN (pc' := 183) rfl rfl fl_Circuit_21
          · repeat (first | assumption | exact on_up_eq _ _ _ | refine (on_up_ne (by omega)).trans ?_)
          · rfl
          refine on_iconst (pc' := 184) (v := 0) rfl rfl li_0 ?_
          first | refine on_aload (pc' := 186) rfl rfl rfl ?_ | refine on_aloadQ (pc' := 186) rfl rfl rfl ?_
          refine on_bipush (pc' := 188) (v := 17) rfl rfl lb_17 ?_
          refine on_bipush (pc' := 190) (v := 68) rfl rfl lb_68 ?_
          apply on_acopy (pc' := 193) (i0 := 0) (j0 := 17) (k0 := 68) rfl rfl jm_Circuit_78 (Nat.le_of_ble_eq_true rfl) (Nat.le_of_ble_eq_true rfl)
          · repeat (first | assumption | exact on_up_eq _ _ _ | refine (on_up_ne (by omega)).trans ?_)
          · repeat (first | assumption | exact on_up_eq _ _ _ | refine (on_up_ne (by omega)).trans ?_)
          · first | assumption | exact on_lit _ | rfl
          · first | assumption | exact on_lit _ | rfl
          · first | assumption | exact on_lit _ | rfl
          · first | assumption | omega | decide
          · first | assumption | omega | decide
          have O9 := O8.row (k := 0) (y := pl_c (nI k.nu) 14 0 69 (fun j => if j = 0 then k.pa.getD (k.hp + 1) 0 else of_b (rs (k.pa.getD (k.hp + 1) 0)).se (an_d kk.se kk.dr) (j - 1))) (h2 := on_up (on_up h8 (u + 2 + 0) (on_ai 0 140 (upd A 16 (nI (k.pa.getD (k.hp + 1) 0))))) (u + 2 + 0) (on_ai 0 140 (va_cpy Of (upd A 16 (nI (k.pa.getD (k.hp + 1) 0))) 0 17 68))) (by decide) (by decide) ⟨_, on_up_eq _ _ _, fun i hi => ?_⟩ (fun a h1 h2 h3 => (on_up_ne h3).trans (on_up_ne h3))
          · show on_E G M_Circuit_join 193 _ [] (on_up (on_up h8 (u + 2 + 0) (on_ai 0 140 (upd A 16 (nI (k.pa.getD (k.hp + 1) 0))))) (u + 2 + 0) (on_ai 0 140 (va_cpy Of (upd A 16 (nI (k.pa.getD (k.hp + 1) 0))) 0 17 68))) (sz + 16) _ _ _
            have g9 : ∀ b, (b < u ∨ u + 8 ≤ b) → (on_up (on_up h8 (u + 2 + 0) (on_ai 0 140 (upd A 16 (nI (k.pa.getD (k.hp + 1) 0))))) (u + 2 + 0) (on_ai 0 140 (va_cpy Of (upd A 16 (nI (k.pa.getD (k.hp + 1) 0))) 0 17 68))) b = h8 b := fun b hb => (on_up_ne (by omega)).trans (on_up_ne (by omega))
            generalize (on_up (on_up h8 (u + 2 + 0) (on_ai 0 140 (upd A 16 (nI (k.pa.getD (k.hp + 1) 0))))) (u + 2 + 0) (on_ai 0 140 (va_cpy Of (upd A 16 (nI (k.pa.getD (k.hp + 1) 0))) 0 17 68))) = G9 at O9 g9 ⊢
            have c9 := (g9 (c + 1) (by omega)).trans c8
            have LS9 : ls_S c (hs + 4) k.pa.length (fu la k.hp sz) (k.hp + 1) (fu k.la k.hp (ks_f tx, ks_b tx)) G9 := LS.keep ((g9 _ (by omega)).trans ((t8 _ (by omega)).trans (t7 _ (by omega) (by omega) (by omega) (by omega)))) ((g9 _ (by omega)).trans ((t8 _ (by omega)).trans (t7 _ (by omega) (by omega) (by omega) (by omega)))) (fun i hi b b1 b2 => by
              have := (D2 i hi).1
              exact (g9 _ (by omega)).trans ((t8 _ (by omega)).trans (t7 _ (by omega) (by omega) (by omega) (by omega))))
            have H9 : hk_W hs G9 := H7.keep (fun b _ _ => (g9 b (by omega)).trans (t8 b (by omega)))
            have hms : ((fu k.la k.hp (ks_f tx, ks_b tx)) (k.hp + 1 - 1)).1.ms.length + 540 < 2 ^ 28 := by
              rw [show k.hp + 1 - 1 = k.hp from rfl, fu_s]
              show (sp_sl _ _ _).length + 540 < _
              rw [sp_sl_len]
              decide
            have offl : ∀ b, b < c + 7 → ∀ i, i < k.hp + 1 → b < fu la k.hp sz i ∨ fu la k.hp sz i + 8 ≤ b := fun b hb i hi => Or.inl (by have := (D2 i hi).1; omega)
            first | refine on_aload_n (pc' := 194) rfl rfl rfl rfl ?_ | refine on_aload_nQ (pc' := 194) rfl rfl rfl rfl ?_
            first | refine on_aload_n (pc' := 195) rfl rfl rfl rfl ?_ | refine on_aload_nQ (pc' := 195) rfl rfl rfl rfl ?_
            refine on_callV (pc' := 198) (As := [.ref u]) (rest := []) (b := c + 1) rfl rfl cw_Circuit_join_89 (c9) rfl rfl (Nat.le_of_ble_eq_true rfl) (Nat.zero_le _) (Nat.zero_le _) (c_cseal1 (la := fu la k.hp sz) (np := k.pa.length) (f := (fu k.la k.hp (ks_f tx, ks_b tx))) D2 ⟨by omega, by omega⟩ ⟨by omega, by omega, by omega⟩ c9 O9 fu_s LS9 H9.tr hms) ?_
            rintro v h10 z ⟨rfl, rfl, O10, L10, W10, t10⟩
            have S10 : ∀ b, (b < u ∨ u + 8 ≤ b) → (b < hs + 4 ∨ hs + 7 ≤ b) → (∀ i, i < k.hp + 1 → b < fu la k.hp sz i ∨ fu la k.hp sz i + 8 ≤ b) → h10 b = h7 b := fun b b1 b2 b3 => (t10 b b1 b2 b3).trans ((g9 b b1).trans (t8 b b1))
            have T10 : ∀ b, b < sz → (b < c ∨ c + 7 ≤ b ∨ b = c ∨ b = c + 2) → b ≠ cl → (b < hs ∨ hs + 29 ≤ b) → (b < u ∨ u + 8 ≤ b) → (∀ i, i < k.hp + 1 → b < fu la k.hp sz i ∨ fu la k.hp sz i + 8 ≤ b) → h10 b = h b := fun b b1 b2 b3 b4 b5 b6 => (S10 b b5 (by omega) b6).trans (T7 b b1 b2 b3 b4)
            have D10 := D7.keep (h2 := h10) (S10 _ (by omega) (by omega) (offl _ (by omega)))
            have F10 := F7.keep (h2 := h10) (S10 _ (by omega) (by omega) (offl _ (by omega)))
            rw [show fu (fu (fun _ _ => 0) 0 (pl_c (nI k.nu) 14 0 69 (fun _ => 0))) 0 (pl_c (nI k.nu) 14 0 69 (fun j => if j = 0 then k.pa.getD (k.hp + 1) 0 else of_b (rs (k.pa.getD (k.hp + 1) 0)).se (an_d kk.se kk.dr) (j - 1))) 0 = pl_c (nI k.nu) 14 0 69 (fun j => if j = 0 then k.pa.getD (k.hp + 1) 0 else of_b (rs (k.pa.getD (k.hp + 1) 0)).se (an_d kk.se kk.dr) (j - 1)) from fu_s] at L10
            refine on_vreturn rfl rfl ?_
            rw [an]
            refine ⟨rfl, fu la k.hp sz, la1, Nat.le_add_right _ _, ?_, ⟨D2, fun i (hi : i < k.st.length) => absurd hi (by omega), i3, i4, (by show k.hp + 1 ≤ k.pa.length; omega), fun _ => ⟨kn2.1, hst⟩, fun z => absurd (show k.ph = 1 from z) (by omega)⟩, la2, la3, N7.keep (S10 _ (by omega) (by omega) (offl _ (by omega))) (S10 _ (by omega) (by omega) (offl _ (by omega))), H9.tru W10 (fun b b1 b2 b3 => t10 b (by omega) (by omega) (offl b (by omega))), ob_1 O10 fu_s (fun j hj => (congrFun fu_s j).trans ((congrFun (congrArg (cs_c (fu k.la k.hp (ks_f tx, ks_b tx)) (k.hp + 1)) fu_s) j).trans (cfo_2 (k := ((k.cl, k.nu, k.pa, k.hp + 1, k.ph, (fu k.la k.hp (ks_f tx, ks_b tx)), an_d kk.se kk.dr, k.st) : aC)) hj))), hq.w.keep (T10 _ (by omega) (by omega) (by omega) (by omega) (by omega) (offl _ (by omega))), fun b b0 b1 b2 b3 b4 b5 b6 b7 => T10 b b0 (by omega) (by omega) b3 b4 (fun i hi => ?_)⟩
            · show cr_S c cl hs ra (fu la k.hp sz) sa rs (c_fo ((k.cl, k.nu, k.pa, k.hp + 1, k.ph, (fu k.la k.hp (ks_f tx, ks_b tx)), an_d kk.se kk.dr, k.st) : aC) 14 0 69 (fun j => if j = 0 then k.pa.getD (k.hp + 1) 0 else of_b (rs (k.pa.getD (k.hp + 1) 0)).se (an_d kk.se kk.dr) (j - 1))).1 h10
              rw [cfo_1 (num := nI k.nu)]
              exact ⟨(t10 _ (by omega) (by omega) (offl _ (by omega))).trans c9, K2.keep (T10 _ (by omega) (by omega) (by omega) (by omega) (by omega) (offl _ (by omega))), L10, K4.keep (T10 _ (by omega) (by omega) (by omega) (by omega) (by omega) (offl _ (by omega))) (fun i hi => absurd hi (by omega)), D10.w, F10.w, fun _ => ⟨D10, F10⟩⟩
            · by_cases z : i = k.hp
              · rw [z, fu_s]; exact Or.inl b0
              · rw [fu_n z]; have := b6 i (by omega); omega
          · by_cases z : 17 ≤ i ∧ i < 85
            · rw [pk_cpy_in z.1 (show i < 17 + 68 by omega), Nat.zero_add, (Of' (i - 17) (by omega)).1]
              unfold pl_c mk_c
              rw [if_neg (by omega), if_neg (by omega), if_neg (by omega), if_neg (by omega), if_neg (by omega), if_neg (by omega), if_pos (by omega)]
              dsimp only
              rw [if_neg (by omega), show i - 16 - 1 = i - 17 by omega]
              exact ⟨rfl, of_lt _ _ _⟩
            · rw [pk_cpy_out (show i < 17 ∨ 17 + 68 ≤ i by omega)]
              by_cases z2 : i = 16
              · subst z2
                rw [pk_us]
                show _ = nI (k.pa.getD (k.hp + 1) 0) ∧ k.pa.getD (k.hp + 1) 0 < 256
                exact ⟨rfl, by omega⟩
              · rw [pk_un z2]
                have := A' i hi
                rw [show pl_c (nI k.nu) 14 0 69 (fun j => if j = 0 then k.pa.getD (k.hp + 1) 0 else of_b (rs (k.pa.getD (k.hp + 1) 0)).se (an_d kk.se kk.dr) (j - 1)) i = pl_c (nI k.nu) 14 0 69 (fun _ => 0) i from by
                  unfold pl_c mk_c
                  rw [if_neg (fun w : 16 ≤ i ∧ i < 16 + 69 => by omega), if_neg (fun w : 16 ≤ i ∧ i < 16 + 69 => by omega)]]
                exact this
end CJN
