/-! Circuit: takeCell -/
theorem c_pe_ok {hp : Nat} : ∀ (m k : Nat) (f : Nat → aL × aL) (y : aB) (j : Nat), (c_pe f hp m k y).2.2 = some j → ∃ ms, rc_ok ms (c_pe f hp m k y).2.1 = true
  | 0, _, _, _, _, e => nomatch e
  | m + 1, k, f, y, j, e => by
    have ep : c_pe f hp (m + 1) k y = if rc_ok (f k).2.ms (ce_p y (cv_p (f k).2.K (f k).2.pos (fun j => y (5 + j)))) then (fu f k ((f k).1, rc_l (cv_l (f k).2) (ce_p y (cv_p (f k).2.K (f k).2.pos (fun j => y (5 + j))))), ce_p y (cv_p (f k).2.K (f k).2.pos (fun j => y (5 + j))), some k) else c_pe (fu f k ((f k).1, cv_l (f k).2)) hp m (k + 1) (ce_p y (cv_p (f k).2.K (f k).2.pos (fun j => y (5 + j)))) := rfl
    by_cases ok : rc_ok (f k).2.ms (ce_p y (cv_p (f k).2.K (f k).2.pos (fun j => y (5 + j)))) = true
    · rw [if_pos ok] at ep
      rw [ep]
      exact ⟨_, ok⟩
    · rw [if_neg ok] at ep
      rw [ep] at e ⊢
      exact c_pe_ok m (k + 1) _ _ j e
theorem c_pe_f {hp : Nat} : ∀ (m k : Nat) (f : Nat → aL × aL) (y : aB) (i : Nat), ((c_pe f hp m k y).1 i).1 = (f i).1
  | 0, _, _, _, _ => rfl
  | m + 1, k, f, y, i => by
    have ep : c_pe f hp (m + 1) k y = if rc_ok (f k).2.ms (ce_p y (cv_p (f k).2.K (f k).2.pos (fun j => y (5 + j)))) then (fu f k ((f k).1, rc_l (cv_l (f k).2) (ce_p y (cv_p (f k).2.K (f k).2.pos (fun j => y (5 + j))))), ce_p y (cv_p (f k).2.K (f k).2.pos (fun j => y (5 + j))), some k) else c_pe (fu f k ((f k).1, cv_l (f k).2)) hp m (k + 1) (ce_p y (cv_p (f k).2.K (f k).2.pos (fun j => y (5 + j)))) := rfl
    have hf : ∀ l, (fu f k ((f k).1, l) i).1 = (f i).1 := fun l => by
      by_cases z : i = k
      · rw [z, fu_s]
      · rw [fu_n z]
    rw [ep]
    by_cases ok : rc_ok (f k).2.ms (ce_p y (cv_p (f k).2.K (f k).2.pos (fun j => y (5 + j)))) = true
    · rw [if_pos ok]
      exact hf _
    · rw [if_neg ok, c_pe_f m (k + 1)]
      exact hf _
theorem c_do_z {rs : Nat → aR} {k : aC} {kk : aK} {y : aB} : c_do rs k kk (rc_z y) = c_do rs k kk y := by
  have e5 : rc_z y 5 = y 5 := if_neg (by decide)
  have e8 : rc_z y 8 = y 8 := if_neg (by decide)
  have e9 : rc_z y 9 = y 9 := if_neg (by decide)
  have e14 : rc_z y 14 = y 14 := if_neg (by decide)
  have e15 : rc_z y 15 = y 15 := if_neg (by decide)
  have f16 : (fun j => rc_z y (16 + j)) = fun j => y (16 + j) := funext fun j => if_neg (by omega)
  unfold c_do
  dsimp only
  rw [e5, e8, e9, e14, e15, f16]
section CTK
variable {G : on_G} {c cl hs ot u q sz bc bs : Nat} {ra la sa : Nat → Nat} {rs : Nat → aR} {k : aC} {kk : aK} {h : on_H} {x : aB} {nn nx : Int32} {Q : Option Value → on_H → Nat → Prop} {lv : on_V} {st : List Value}
theorem lo_ct : ∀ v, v < 256 → ¬ v = 3 → ¬ v = 4 → ¬ v = 11 → Op.lookupswitch.offset [((3 : Int), (50 : Int)), (4, 109), (11, 33)] 116 (nI v).toInt = 116 := by decide +kernel
theorem sw_ct {v : Nat} (hv : v < 256) (k3 : v = 3 → on_E G M_Circuit_takeCell 53 lv st h sz bc bs Q) (k4 : v = 4 → on_E G M_Circuit_takeCell 112 lv st h sz bc bs Q) (k11 : v = 11 → on_E G M_Circuit_takeCell 36 lv st h sz bc bs Q) (kd : ¬ v = 3 → ¬ v = 4 → ¬ v = 11 → on_E G M_Circuit_takeCell 119 lv st h sz bc bs Q) : on_E G M_Circuit_takeCell 3 lv (.int (nI v) :: st) h sz bc bs Q := by
  by_cases c3 : v = 3
  · subst c3
    exact on_lookup (off := 50) rfl rfl (by decide) rfl (k3 rfl)
  by_cases c4 : v = 4
  · subst c4
    exact on_lookup (off := 109) rfl rfl (by decide) rfl (k4 rfl)
  by_cases c11 : v = 11
  · subst c11
    exact on_lookup (off := 33) rfl rfl (by decide) rfl (k11 rfl)
  exact on_lookup (off := 116) rfl rfl (lo_ct v hv c3 c4 c11) rfl (kd c3 c4 c11)
/-- other lanes -/
theorem cr_S.lan {f : Nat → aL × aL} {h2 : on_H} (K : cr_S c cl hs ra la sa rs k h) (I : cr_I c la sa k) (L : ls_S c (hs + 4) k.pa.length la k.hp f h2) (e : ∀ b, c ≤ b → (∀ i, i < k.hp → b < la i ∨ la i + 16 ≤ b) → h2 b = h b) : cr_S c cl hs ra la sa rs (c_la k f) h2 ∧ cr_I c la sa (c_la k f) := by
  obtain ⟨k1, k2, k3, k4, k5, k6, k7⟩ := K
  obtain ⟨i1, i2, i3, i4, i5, i6, i7⟩ := id I
  have off : ∀ b, b < c + 7 → ∀ i, i < k.hp → b < la i ∨ la i + 16 ≤ b := fun b hb i hi => Or.inl (by have := (i1 i hi).1; omega)
  exact ⟨⟨(e _ (by omega) (off _ (by omega))).trans k1, k2.keep (e _ (by omega) (off _ (by omega))), L, k4.keep (e _ (by omega) (off _ (by omega))) (fun i hi a a1 a2 => e a (by have := (i2 i hi).1; omega) (fun j hj => by have := (i2 i hi).2.2 j hj; omega)), k5.keep (e _ (by omega) (off _ (by omega))), k6.keep (e _ (by omega) (off _ (by omega))), fun z => ⟨(k7 z).1.keep (e _ (by omega) (off _ (by omega))), (k7 z).2.keep (e _ (by omega) (off _ (by omega)))⟩⟩, I⟩
set_option maxHeartbeats 32000000 in
theorem c_Circuit_takeCell (hd : hs + 29 ≤ u ∧ u + 8 ≤ q ∧ q < cl ∧ cl + 2 ≤ c ∧ c + 7 ≤ sz) (hg : ¬ k.ph = 2) (hlz : ∀ i, i < k.hp → la i + 16 ≤ sz) (hsz : ∀ i, i < k.st.length → sa i + 3 ≤ sz) (hL : ∀ i, i < k.hp → (k.la i).1.ms.length + 540 < 2 ^ 28 ∧ (k.la i).2.ms.length + 540 < 2 ^ 28) (K : cr_S c cl hs ra la sa rs k h) (I : cr_I c la sa k) (RL : cj_R c cl ot hs q ra rs k.pa h) (ND : nd_S cl nn kk.se kk.dr nx h) (H : hk_W hs h) (hq : rB h q 140 x) (O : ob_E u h) (hb : 16 * ((c_tk rs k kk x).1.hp - k.hp) ≤ bc ∧ 420 * ((c_tk rs k kk x).1.hp - k.hp) ≤ bs) :
    on_Ct G M_Circuit_takeCell [.ref (c + 1), .ref q, .ref u] h sz bc bs (cj_P c cl hs u q sz ra la sa rs k nn nx (c_tk rs k kk x) h) := by
  obtain ⟨X, q1, X'⟩ := id hq
  have x4 := X' 4 (by decide)
  have c0 := K.ob
  obtain ⟨K1, K2, K3, K4, K5, K6, K7⟩ := id K
  obtain ⟨i1, i2, i3, i4, i5, i6, i7⟩ := id I
  have hl : 0 < k.pa.length ∧ k.pa.length < 2 ^ 31 := by omega
  have sd : ∀ i, i < k.st.length → c + 7 ≤ sa i ∧ ∀ j, j < i → sa j + 3 ≤ sa i := fun i hi => ⟨(i2 i hi).1, (i2 i hi).2.1⟩
  obtain ⟨R0, R1, R2, R3, R4⟩ := RL 0 hl.1
  have off : ∀ b, b < c + 7 → ∀ i, i < k.st.length → b < sa i ∨ sa i + 3 ≤ b := fun b hb i hi => Or.inl (by have := (sd i hi).1; omega)
  have offn : ∀ b, b < c + 7 → ∀ i, i < k.st.length → b ≠ sa i := fun b hb i hi => by have := (sd i hi).1; omega
  have offl : ∀ b, b < c + 7 → ∀ i, i < k.hp → b < la i ∨ la i + 16 ≤ b := fun b hb i hi => Or.inl (by have := (i1 i hi).1; omega)
  have same : ∀ lv bc bs, c_tk rs k kk x = (k, kk, []) → on_E G M_Circuit_takeCell 119 lv [] h sz bc bs (cj_P c cl hs u q sz ra la sa rs k nn nx (c_tk rs k kk x) h) := fun lv bc bs z => by
    refine on_vreturn rfl rfl ?_
    rw [z]
    exact ⟨rfl, la, fun _ _ => rfl, Nat.le_refl _, K, I, hlz, fun i g1 (g2 : i < k.hp) => absurd g2 (by omega), ND, H, ob_0 O, hq.w, fun _ _ _ _ _ _ _ _ _ => rfl⟩
  refine on_Ct.of (by decide) v_Circuit_takeCell (Nat.le_of_ble_eq_true rfl) ?_
  first | refine on_aload_n (pc' := 1) rfl rfl rfl rfl ?_ | refine on_aload_nQ (pc' := 1) rfl rfl rfl rfl ?_
  refine on_iconst (pc' := 2) (v := 4) rfl rfl li_4 ?_
  apply on_ialoadK (pc' := 3) (t := 0) (k := 4) rfl rfl
  · repeat (first | assumption | exact on_up_eq _ _ _ | refine (on_up_ne (by omega)).trans ?_)
  · rfl
  · first | assumption | exact on_lit _ | rfl
  · first | assumption | omega | decide
  rw [x4.1]
  refine sw_ct x4.2 (fun e => ?_) (fun e => ?_) (fun e => ?_) (fun c3 c4 c11 => ?_)
  · have r1 : c_tk rs k kk x = if k.hp = 0 then (k, kk, []) else (if (c_pe k.la k.hp k.hp 0 x).2.2 = some (k.hp - 1) then c_do rs (c_la k (c_pe k.la k.hp k.hp 0 x).1) kk (c_pe k.la k.hp k.hp 0 x).2.1 else ((c_ds (c_la k (c_pe k.la k.hp k.hp 0 x).1)).1, kk, (c_ds (c_la k (c_pe k.la k.hp k.hp 0 x).1)).2)) := by
      unfold c_tk
      dsimp only
      rw [if_neg (by omega), if_pos e]
    first | refine on_aload_n (pc' := 54) rfl rfl rfl rfl ?_ | refine on_aload_nQ (pc' := 54) rfl rfl rfl rfl ?_
    first | apply on_get (pc' := 57) rfl rfl fl_Circuit_104 | apply on_getN (pc' := 57) rfl rfl fl_Circuit_104
    · repeat (first | assumption | exact on_up_eq _ _ _ | refine (on_up_ne (by omega)).trans ?_)
    · rfl
    refine on_if_ne (pc' := 60) (tgt := 63) rfl rfl rfl (fun cq => ?_) (fun cq => ?_)
    rotate_left
    · have z0 : k.hp = 0 := (nI_eq (a := k.hp) (b := 0) (by omega) (by decide)).mp cq
      rw [if_pos z0] at r1
      refine on_goto (tgt := 119) rfl rfl ?_
      exact same _ _ _ r1
    · have z0 : ¬ k.hp = 0 := fun z => cq (by rw [z]; rfl)
      clear cq
      rw [if_neg z0] at r1
      first | refine on_aload_n (pc' := 64) rfl rfl rfl rfl ?_ | refine on_aload_nQ (pc' := 64) rfl rfl rfl rfl ?_
      first | refine on_aload_n (pc' := 65) rfl rfl rfl rfl ?_ | refine on_aload_nQ (pc' := 65) rfl rfl rfl rfl ?_
      refine on_callV (pc' := 68) (As := [.ref q]) (rest := []) (b := c + 1) rfl rfl cw_Circuit_takeCell_125 (c0) rfl rfl (Nat.le_of_ble_eq_true rfl) (Nat.zero_le _) (Nat.zero_le _) (c_peel (np := k.pa.length) (f := k.la) (y := x) i1 ⟨by omega, by omega⟩ ⟨i5, by omega⟩ K1 (fun i hi => (hL i hi).2) K3 hq H.tr) ?_
      rintro v h1 sz ⟨rfl, rfl, L1, Q1, W1, t1⟩
      have pok := fun j => c_pe_ok (hp := k.hp) k.hp 0 k.la x j
      have pef := fun i => c_pe_f (hp := k.hp) k.hp 0 k.la x i
      generalize c_pe k.la k.hp k.hp 0 x = qq at *
      have T1 : ∀ b, b ≠ q → (b < hs + 4 ∨ hs + 7 ≤ b) → (∀ i, i < k.hp → b < la i ∨ la i + 16 ≤ b) → h1 b = h b := fun b b1 b2 b3 => t1 b b1 b2 (fun i hi => by have := b3 i hi; omega)
      obtain ⟨z1, z2⟩ := K.lan I L1 (fun b b1 b2 => T1 b (by omega) (by omega) b2)
      have H1 : hk_W hs h1 := H.tru W1 (fun b b1 b2 b3 => T1 b (by omega) b3 (offl b (by omega)))
      have O1 : ob_E u h1 := ob_S.keep O (fun b _ _ => T1 b (by omega) (by omega) (offl b (by omega)))
      have N1 : nd_S cl nn kk.se kk.dr nx h1 := ND.keep (T1 _ (by omega) (by omega) (offl _ (by omega))) (T1 _ (by omega) (by omega) (offl _ (by omega)))
      have RL1 : cj_R c cl ot hs q ra rs k.pa h1 := fun i hi => by
        obtain ⟨g0, g1, g2, g3, g4⟩ := RL i hi
        exact ⟨g0.keep (fun b _ _ => T1 b (by omega) (by omega) (offl _ (by omega))), g1, g2, g3, g4⟩
      have c1 := z1.ob
      by_cases ok : qq.2.2 = some (k.hp - 1)
      · rw [if_pos ok] at r1
        have er : pe_r qq = rc_z qq.2.1 := by unfold pe_r; rw [ok]
        rw [er] at Q1
        obtain ⟨ms, hok⟩ := pok _ ok
        have n124 := ((rc_ok_iff _ _).mp hok).2.2.1
        have e5 : rc_z qq.2.1 5 = qq.2.1 5 := if_neg (by decide)
        have e14 : rc_z qq.2.1 14 = qq.2.1 14 := if_neg (by decide)
        have e15 : rc_z qq.2.1 15 = qq.2.1 15 := if_neg (by decide)
        have f16 : (fun j => rc_z qq.2.1 (16 + j)) = fun j => qq.2.1 (16 + j) := funext fun j => if_neg (by omega)
        rw [show pe_v k.hp qq.2.2 = 1 from if_pos ok]
        refine on_if_ne (pc' := 71) (tgt := 79) rfl rfl rfl (fun cq => ?_) (fun cq => ?_)
        rotate_left
        · exact absurd cq (by decide)
        · clear cq
          first | refine on_aload_n (pc' := 80) rfl rfl rfl rfl ?_ | refine on_aload_nQ (pc' := 80) rfl rfl rfl rfl ?_
          first | refine on_aload_n (pc' := 81) rfl rfl rfl rfl ?_ | refine on_aload_nQ (pc' := 81) rfl rfl rfl rfl ?_
          refine on_callV (pc' := 84) (As := [.ref q]) (rest := []) (b := c + 1) rfl rfl cw_Circuit_takeCell_132 (c1) rfl rfl (Nat.le_of_ble_eq_true rfl) (Nat.zero_le _) (Nat.zero_le _) (c_isExtended (p := k.ph) i4 z1.1 Q1) ?_
          rintro v h1 sz ⟨rfl, rfl, ⟨cnd, rfl⟩ | ⟨cnd, rfl⟩⟩
          · rw [e5, e14, e15] at cnd
            have r2 : c_tk rs k kk x = c_an rs (c_la k qq.1) kk (fun j => qq.2.1 (16 + j)) := by
              rw [r1]
              unfold c_do
              dsimp only
              rw [if_pos cnd.2.1, if_pos ⟨cnd.2.2, cnd.1⟩]
            refine on_if_eq (pc' := 87) (tgt := 98) rfl rfl rfl (fun cq => ?_) (fun cq => ?_)
            · exact absurd cq (by decide)
            · clear cq
              first | refine on_aload_n (pc' := 88) rfl rfl rfl rfl ?_ | refine on_aload_nQ (pc' := 88) rfl rfl rfl rfl ?_
              first | refine on_aload_n (pc' := 89) rfl rfl rfl rfl ?_ | refine on_aload_nQ (pc' := 89) rfl rfl rfl rfl ?_
              refine on_bipush (pc' := 91) (v := 16) rfl rfl lb_16 ?_
              first | refine on_aload_n (pc' := 92) rfl rfl rfl rfl ?_ | refine on_aload_nQ (pc' := 92) rfl rfl rfl rfl ?_
              refine on_callV (pc' := 95) (As := [.ref q, .int (nI 16), .ref u]) (rest := []) (b := c + 1) rfl rfl cw_Circuit_takeCell_121 (c1) rfl rfl (Nat.le_of_ble_eq_true rfl) (by omega) (by omega) (c_join (k := c_la k qq.1) (at_ := 16) (bc := bc) (bs := bs) hd (by decide) cnd.1 hlz z1 z2 RL1 N1 H1 Q1 O1 (by rw [f16, ← r2]; exact hb)) ?_
              rintro v h2 z ⟨rfl, P1⟩
              refine on_goto (tgt := 119) rfl rfl ?_
              refine on_vreturn rfl rfl ?_
              rw [f16] at P1
              rw [r2]
              obtain ⟨la2, a1, a2, a3, a4, a5, a6, a7, a8, a9, a10, a11⟩ := P1
              exact ⟨rfl, la2, a1, a2, a3, a4, a5, a6, a7, a8, a9, a10, fun b b0 b1 b2 b3 b4 b5 b6 b7 => (a11 b b0 b1 b2 b3 b4 b5 b6 b7).trans (T1 b b5 (by omega) b6)⟩
          · rw [e5, e14, e15] at cnd
            have fin : ∀ (lv : on_V) (bc bs : Nat) (h3 : on_H) (k3 : aC) (A : aO), c_tk rs k kk x = (k3, kk, (c_tk rs k kk x).2.2) → cr_S c cl hs ra la sa rs k3 h3 → cr_I c la sa k3 → k3.hp = k.hp → ob_L u A h3 → ao_eq A (c_tk rs k kk x).2.2 → hk_W hs h3 → (∀ b, b ≠ c + 1 → (b < u ∨ u + 8 ≤ b) → (b < hs + 4 ∨ hs + 7 ≤ b) → (∀ i, i < k.hp → b < la i ∨ la i + 16 ≤ b) → (∀ i, i < k.st.length → b < sa i ∨ sa i + 3 ≤ b) → h3 b = h1 b) → on_E G M_Circuit_takeCell 109 lv [] h3 sz bc bs (cj_P c cl hs u q sz ra la sa rs k nn nx (c_tk rs k kk x) h) := fun lv bc bs h3 k3 A z g1 g2 g3 g4 g5 g6 g7 => by
              have e1 : (c_tk rs k kk x).1 = k3 := congrArg (·.1) z
              have e2 : (c_tk rs k kk x).2.1 = kk := congrArg (·.2.1) z
              refine on_goto (tgt := 119) rfl rfl ?_
              refine on_vreturn rfl rfl ?_
              refine ⟨rfl, la, fun _ _ => rfl, Nat.le_refl _, by rw [e1]; exact g1, by rw [e1]; exact g2, fun i hi => ?_, fun i w1 hi => ?_, ?_, g6, g4.to g5, ?_, fun b b0 b1 b2 b3 b4 b5 b6 b7 => (g7 b (by omega) b4 (by omega) b6 b7).trans (T1 b b5 (by omega) b6)⟩
              · rw [e1, g3] at hi
                exact hlz i hi
              · rw [e1, g3] at hi
                exact absurd hi (by omega)
              · rw [e2]
                exact N1.keep (g7 _ (by omega) (by omega) (by omega) (offl _ (by omega)) (off _ (by omega))) (g7 _ (by omega) (by omega) (by omega) (offl _ (by omega)) (off _ (by omega)))
              · exact (rB.w Q1).keep (g7 _ (by omega) (by omega) (by omega) (offl _ (by omega)) (off _ (by omega)))
            refine on_if_eq (pc' := 87) (tgt := 98) rfl rfl rfl (fun cq => ?_) (fun cq => ?_)
            rotate_left
            · exact absurd rfl cq
            · clear cq
              first | refine on_aload_n (pc' := 99) rfl rfl rfl rfl ?_ | refine on_aload_nQ (pc' := 99) rfl rfl rfl rfl ?_
              first | refine on_aload_n (pc' := 100) rfl rfl rfl rfl ?_ | refine on_aload_nQ (pc' := 100) rfl rfl rfl rfl ?_
              first | refine on_aload_n (pc' := 101) rfl rfl rfl rfl ?_ | refine on_aload_nQ (pc' := 101) rfl rfl rfl rfl ?_
              refine on_callV (pc' := 104) (As := [.ref q, .ref u]) (rest := []) (b := c + 1) rfl rfl cw_Circuit_takeCell_135 (c1) rfl rfl (Nat.le_of_ble_eq_true rfl) (Nat.zero_le _) (Nat.zero_le _) (c_Circuit_doPayload (kk := kk) (k := c_la k qq.1) (y := rc_z qq.2.1) ⟨by omega, by omega⟩ (by rw [e14, e15]; exact n124) (by rw [e5, e14, e15]; exact cnd) z1 z2 (R0.keep (fun b _ _ => T1 b (by omega) (by omega) (offl _ (by omega)))) R2 Q1 O1) ?_
              rintro v h2 sz ⟨rfl, rfl, k2, L, y1, y2, y3, y4, y5, y6, y7, y8, y9, y10, y11⟩
              rw [c_do_z, ← r1] at y9 y10
              have y3 : k2.hp = k.hp := y3
              have y11 : ∀ b, b ≠ c + 1 → (b < u ∨ u + 8 ≤ b) → (∀ i, i < k.st.length → b < sa i ∨ sa i + 3 ≤ b) → h2 b = h1 b := y11
              have H2 : hk_W hs h2 := H1.keep (fun b _ _ => y11 b (by omega) (by omega) (off _ (by omega)))
              obtain ⟨cc, to, pl, P1, P2⟩ := y8
              have k2o := y1.ob
              first | refine on_aload_n (pc' := 105) rfl rfl rfl rfl ?_ | refine on_aload_nQ (pc' := 105) rfl rfl rfl rfl ?_
              first | refine on_aload_n (pc' := 106) rfl rfl rfl rfl ?_ | refine on_aload_nQ (pc' := 106) rfl rfl rfl rfl ?_
              match L, y7, y9, y10, P1, P2 with
              | [], y7, y9, y10, P1, P2 =>
                refine on_callV (pc' := 109) (As := [.ref u]) (rest := []) (b := c + 1) rfl rfl cw_Circuit_takeCell_89 (k2o) rfl rfl (Nat.le_of_ble_eq_true rfl) (Nat.zero_le _) (Nat.zero_le _) (c_cseal0 (n := 0) (by omega) (by omega) y1.1 P1 (fun z => nomatch z)) ?_
                rintro v h2 sz ⟨rfl, rfl, rfl⟩
                exact fin _ _ _ h2 k2 [] y9 y1 y2 y3 ⟨cc, to, pl, P1, fun i hi => absurd hi (Nat.not_lt_zero i)⟩ y10 H2 (fun b b1 b2 _ _ b5 => y11 b b1 b2 b5)
              | [(t, Y, false)], y7, y9, y10, P1, P2 =>
                have w := P2 0 (Nat.zero_lt_succ _)
                refine on_callV (pc' := 109) (As := [.ref u]) (rest := []) (b := c + 1) rfl rfl cw_Circuit_takeCell_89 (k2o) rfl rfl (Nat.le_of_ble_eq_true rfl) (Nat.zero_le _) (Nat.zero_le _) (c_cseal0 (n := 1) (by omega) (Nat.le_refl 1) y1.1 P1 (fun _ => congrArg (·.2.2) w)) ?_
                rintro v h2 sz ⟨rfl, rfl, rfl⟩
                exact fin _ _ _ h2 k2 [(t, Y)] y9 y1 y2 y3 (ob_1 P1 (congrArg (·.1) w) (fun j _ => congrFun (congrArg (·.2.1) w) j)) y10 H2 (fun b b1 b2 _ _ b5 => y11 b b1 b2 b5)
              | [(t, Y, true)], y7, y9, y10, P1, P2 =>
                have w := P2 0 (Nat.zero_lt_succ _)
                have w2 : cc 0 = Y := congrArg (·.2.1) w
                have hms : (k2.la (k2.hp - 1)).1.ms.length + 540 < 2 ^ 28 := by
                  rw [y4, y3]
                  show (qq.1 (k.hp - 1)).1.ms.length + 540 < 2 ^ 28
                  rw [pef]
                  exact (hL _ (by omega)).1
                refine on_callV (pc' := 109) (As := [.ref u]) (rest := []) (b := c + 1) rfl rfl cw_Circuit_takeCell_89 (k2o) rfl rfl (Nat.le_of_ble_eq_true rfl) (Nat.zero_le _) (Nat.zero_le _) (c_cseal1 (la := la) (np := k2.pa.length) (f := k2.la) y2.1 ⟨by omega, by omega⟩ ⟨by omega, y2.2.2.2.2.1, by have := y2.2.2.1; omega⟩ y1.1 P1 (congrArg (·.2.2) w) y1.2.2.1 H2.tr hms) ?_
                rintro v h3 sz ⟨rfl, rfl, O3, L3, W3, t3⟩
                rw [w2] at L3 O3
                obtain ⟨u1, u2⟩ := y1.lan y2 L3 (fun b b1 b2 => t3 b (by omega) (by omega) (fun i hi => by have := b2 i hi; omega))
                exact fin _ _ _ h3 (c_la k2 (cs_q k2.la k2.hp Y).1) [(t, cs_c k2.la k2.hp Y)] y9 u1 u2 y3 (ob_1 O3 (congrArg (·.1) w) (fun j _ => congrFun fu_s j)) y10 (H2.tru W3 (fun b b1 b2 b3 => t3 b (by omega) (by omega) (fun i hi => Or.inl (by have := (y2.1 i hi).1; omega)))) (fun b b1 b2 b3 b4 b5 => (t3 b b2 b3 (fun i hi => by rw [y3] at hi; have := b4 i hi; omega)).trans (y11 b b1 b2 b5))
              | _ :: _ :: _, y7, _, _, _, _ => exact absurd y7 (fun z => by have : _ + 1 + 1 ≤ 1 := z; omega)
      · rw [if_neg ok] at r1
        rw [show pe_v k.hp qq.2.2 = 0 from if_neg ok]
        refine on_if_ne (pc' := 71) (tgt := 79) rfl rfl rfl (fun cq => ?_) (fun cq => ?_)
        · exact absurd rfl cq
        · clear cq
          first | refine on_aload_n (pc' := 72) rfl rfl rfl rfl ?_ | refine on_aload_nQ (pc' := 72) rfl rfl rfl rfl ?_
          first | refine on_aload_n (pc' := 73) rfl rfl rfl rfl ?_ | refine on_aload_nQ (pc' := 73) rfl rfl rfl rfl ?_
          refine on_callV (pc' := 76) (As := [.ref u]) (rest := []) (b := c + 1) rfl rfl cw_Circuit_takeCell_129 (c1) rfl rfl (Nat.le_of_ble_eq_true rfl) (Nat.zero_le _) (Nat.zero_le _) (c_fall (sa := sa) (ra := ra) (st := k.st) sd (by omega) z1.1 z1.2.2.2.1 z1.2.1 hl (R0.keep (fun b _ _ => T1 b (by omega) (by omega) (offl _ (by omega)))) O1 (by decide)) ?_
          rintro v h2 sz ⟨rfl, rfl, C2, S2, O2, t2⟩
          obtain ⟨w1, w2⟩ := z1.gone z2 C2 S2 (fun b b0 b1 b2 => t2 b b1 (by omega) b2)
          refine on_goto (tgt := 119) rfl rfl ?_
          refine on_vreturn rfl rfl ?_
          rw [r1]
          exact ⟨rfl, la, fun _ _ => rfl, Nat.le_refl _, w1, w2, hlz, fun i g1 (g2 : i < k.hp) => absurd g2 (by omega), N1.keep (t2 _ (by omega) (by omega) (offn _ (by omega))) (t2 _ (by omega) (by omega) (offn _ (by omega))), H1.keep (fun b _ _ => t2 b (by omega) (by omega) (offn _ (by omega))), ob_1 O2 fu_s (fun j _ => congrFun fu_s j), (rB.w Q1).keep (t2 _ (by omega) (by omega) (offn _ (by omega))), fun b b0 b1 b2 b3 b4 b5 b6 b7 => (t2 b (by omega) b4 (fun i hi => by have := b7 i hi; omega)).trans (T1 b b5 (by omega) b6)⟩
  · have r1 : c_tk rs k kk x = (c_go k, kk, []) := by
      unfold c_tk
      dsimp only
      rw [if_neg (by omega), if_neg (by omega), if_pos e]
    first | refine on_aload_n (pc' := 113) rfl rfl rfl rfl ?_ | refine on_aload_nQ (pc' := 113) rfl rfl rfl rfl ?_
    refine on_callV (pc' := 116) (As := []) (rest := []) (b := c + 1) rfl rfl cw_Circuit_takeCell_118 (c0) rfl rfl (Nat.le_of_ble_eq_true rfl) (Nat.zero_le _) (Nat.zero_le _) (c_endAll (sa := sa) (st := k.st) sd K1 K4) ?_
    rintro v h1 sz ⟨rfl, rfl, C2, S2, t2⟩
    obtain ⟨z1, z2⟩ := K.gone I C2 S2 (fun b b0 b1 b2 => t2 b b1 b2)
    refine on_goto (tgt := 119) rfl rfl ?_
    refine on_vreturn rfl rfl ?_
    rw [r1]
    exact ⟨rfl, la, fun _ _ => rfl, Nat.le_refl _, z1, z2, hlz, fun i g1 (g2 : i < k.hp) => absurd g2 (by omega), ND.keep (t2 _ (by omega) (offn _ (by omega))) (t2 _ (by omega) (offn _ (by omega))), H.keep (fun b _ _ => t2 b (by omega) (offn _ (by omega))), ob_0 (ob_S.keep O (fun b _ _ => t2 b (by omega) (offn _ (by omega)))), hq.w.keep (t2 _ (by omega) (offn _ (by omega))), fun b b0 b1 b2 b3 b4 b5 b6 b7 => t2 b (by omega) (fun i hi => by have := b7 i hi; omega)⟩
  · have r1 : c_tk rs k kk x = if k.hp = 0 then c_an rs k kk (fun j => x (5 + j)) else (k, kk, []) := by
      unfold c_tk
      dsimp only
      rw [if_pos e]
    first | refine on_aload_n (pc' := 37) rfl rfl rfl rfl ?_ | refine on_aload_nQ (pc' := 37) rfl rfl rfl rfl ?_
    first | apply on_get (pc' := 40) rfl rfl fl_Circuit_104 | apply on_getN (pc' := 40) rfl rfl fl_Circuit_104
    · repeat (first | assumption | exact on_up_eq _ _ _ | refine (on_up_ne (by omega)).trans ?_)
    · rfl
    refine on_if_ne (pc' := 43) (tgt := 119) rfl rfl rfl (fun cq => ?_) (fun cq => ?_)
    · have z0 : ¬ k.hp = 0 := fun z => cq (by rw [z]; rfl)
      rw [if_neg z0] at r1
      exact same _ _ _ r1
    · have z0 : k.hp = 0 := (nI_eq (a := k.hp) (b := 0) (by omega) (by decide)).mp cq
      clear cq
      rw [if_pos z0] at r1
      have p0 : k.ph = 0 := by
        rcases (by omega : k.ph = 0 ∨ k.ph = 1 ∨ k.ph = 2) with w | w | w
        · exact w
        · have := i7 w; omega
        · exact absurd w hg
      first | refine on_aload_n (pc' := 44) rfl rfl rfl rfl ?_ | refine on_aload_nQ (pc' := 44) rfl rfl rfl rfl ?_
      first | refine on_aload_n (pc' := 45) rfl rfl rfl rfl ?_ | refine on_aload_nQ (pc' := 45) rfl rfl rfl rfl ?_
      refine on_iconst (pc' := 46) (v := 5) rfl rfl li_5 ?_
      first | refine on_aload_n (pc' := 47) rfl rfl rfl rfl ?_ | refine on_aload_nQ (pc' := 47) rfl rfl rfl rfl ?_
      refine on_callV (pc' := 50) (As := [.ref q, .int (nI 5), .ref u]) (rest := []) (b := c + 1) rfl rfl cw_Circuit_takeCell_121 (c0) rfl rfl (Nat.le_of_ble_eq_true rfl) (by omega) (by omega) (c_join (at_ := 5) (bc := bc) (bs := bs) hd (by decide) p0 hlz K I RL ND H hq O (by rw [← r1]; exact hb)) ?_
      rintro v h1 sz ⟨rfl, P1⟩
      refine on_goto (tgt := 119) rfl rfl ?_
      refine on_vreturn rfl rfl ?_
      rw [r1]
      exact ⟨rfl, P1⟩
  · refine same _ _ _ ?_
    unfold c_tk
    dsimp only
    rw [if_neg c11, if_neg c3, if_neg c4]
end CTK
