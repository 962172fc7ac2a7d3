/-! Circuit: doPayload -/
def c_st (k : aC) (st : List aT) : aC := (k.cl, k.nu, k.pa, k.hp, k.ph, k.la, k.x, st)
section CD2
variable {G : on_G} {c cl hs ot u q p sz : Nat} {ra la sa : Nat → Nat} {rs : Nat → aR} {k : aC} {kk : aK} {h h2 : on_H} {y : aB}
theorem cr_S.ob (K : cr_S c cl hs ra la sa rs k h) : h (c + 1) = some (.inr (9, [.ref cl, .int (nI k.nu), .ref c, .ref hs, .ref (c + 5), .ref (c + 6), .ref (c + 2), .ref (c + 3), .ref (c + 4), .int (nI k.ph), .int (nI k.hp), .int (nI k.st.length)])) := K.1
/-- a stream of it is changed -/
theorem cr_S.str {i : Nat} {t : aT} (K : cr_S c cl hs ra la sa rs k h) (I : cr_I c la sa k) (hi : i < k.st.length) (hs2 : sm_S (sa i) t h2) (e : ∀ b, (b < sa i ∨ sa i + 3 ≤ b) → c ≤ b → h2 b = h b) : cr_S c cl hs ra la sa rs (c_st k (k.st.set i t)) h2 ∧ cr_I c la sa (c_st k (k.st.set i t)) := by
  obtain ⟨k1, k2, k3, ⟨S, s1, s2, s3⟩, k5, k6, k7⟩ := K
  obtain ⟨i1, i2, i3, i4, i5, i6, i7⟩ := I
  have d := i2 i hi
  have el : (k.st.set i t).length = k.st.length := List.length_set
  refine ⟨⟨?_, k2.keep (e _ (by omega) (by omega)), k3.keep (e _ (by omega) (by omega)) (e _ (by omega) (by omega)) (fun j hj a a1 a2 => e a (by have := d.2.2 j hj; omega) (by have := (i1 j hj).1; omega)), ⟨S, (e _ (by omega) (by omega)).trans s1, by rw [show (c_st k (k.st.set i t)).st.length = k.st.length from el]; exact s2, fun j hj => ?_⟩, k5.keep (e _ (by omega) (by omega)), k6.keep (e _ (by omega) (by omega)), fun z => ⟨(k7 z).1.keep (e _ (by omega) (by omega)), (k7 z).2.keep (e _ (by omega) (by omega))⟩⟩, i1, ?_, i3, i4, i5, fun z => ?_, i7⟩
  · rw [show (c_st k (k.st.set i t)).st.length = k.st.length from el]
    exact (e _ (by omega) (by omega)).trans k1
  · have hj : j < k.st.length := by rw [← el]; exact hj
    refine ⟨(s3 j hj).1, ?_⟩
    show sm_S (sa j) ((k.st.set i t).getD j t0) h2
    rw [getD_set hi]
    by_cases z : j = i
    · subst z
      rw [if_pos rfl]
      exact hs2
    · rw [if_neg z]
      have dj := i2 j hj
      refine (s3 j hj).2.keep (fun a a1 a2 => e a ?_ (by omega))
      rcases Nat.lt_or_ge j i with w | w
      · have := d.2.1 j w; omega
      · have := dj.2.1 i (by omega); omega
  · intro j hj
    rw [show (c_st k (k.st.set i t)).st.length = k.st.length from el] at hj
    exact i2 j hj
  · have := (i6 z).2
    rw [this] at hi
    exact absurd hi (Nat.not_lt_zero _)
/-- it has fallen -/
theorem cr_S.gone (K : cr_S c cl hs ra la sa rs k h) (I : cr_I c la sa k) (C2 : cr_O c cl hs (nI k.nu) 2 (nI k.hp) (nI k.st.length) h2) (S2 : ss_S c sa (k.st.map (fun t => (2, t.wi, t.ca, t.wa, t.go))) h2) (e : ∀ b, c ≤ b → b ≠ c + 1 → (∀ i, i < k.st.length → b ≠ sa i) → h2 b = h b) : cr_S c cl hs ra la sa rs (c_go k) h2 ∧ cr_I c la sa (c_go k) := by
  obtain ⟨k1, k2, k3, k4, k5, k6, k7⟩ := K
  obtain ⟨i1, i2, i3, i4, i5, i6, i7⟩ := I
  have el : (k.st.map (fun t => ((2, t.wi, t.ca, t.wa, t.go) : aT))).length = k.st.length := List.length_map _
  have off : ∀ b, b < c + 7 → ∀ i, i < k.st.length → b ≠ sa i := fun b hb i hi => by have := (i2 i hi).1; omega
  refine ⟨⟨?_, k2.keep (e _ (by omega) (by omega) (off _ (by omega))), k3.keep (e _ (by omega) (by omega) (off _ (by omega))) (e _ (by omega) (by omega) (off _ (by omega))) (fun j hj a a1 a2 => e a (by have := (i1 j hj).1; omega) (by have := (i1 j hj).1; omega) (fun i hi => by have := (i2 i hi).2.2 j hj; omega)), S2, k5.keep (e _ (by omega) (by omega) (off _ (by omega))), k6.keep (e _ (by omega) (by omega) (off _ (by omega))), fun z => absurd (show (2 : Nat) = 0 from z) (by decide)⟩, i1, ?_, i3, Nat.le_refl 2, i5, fun z => absurd (show (2 : Nat) = 0 from z) (by decide), fun z => absurd (show (2 : Nat) = 1 from z) (by decide)⟩
  · show cr_O c cl hs (nI k.nu) (nI 2) (nI k.hp) (nI (k.st.map (fun t => ((2, t.wi, t.ca, t.wa, t.go) : aT))).length) h2
    rw [el]
    exact C2
  · intro j hj
    have hj : j < (k.st.map (fun t => ((2, t.wi, t.ca, t.wa, t.go) : aT))).length := hj
    rw [el] at hj
    exact i2 j hj
/-- what stands behind doPayload -/
def cd_P (c cl hs u sz : Nat) (ra la sa : Nat → Nat) (rs : Nat → aR) (k : aC) (kk : aK) (y : aB) (h : on_H) : Option Value → on_H → Nat → Prop := fun v h1 z => v = none ∧ z = sz ∧ ∃ (k1 : aC) (L : aP), cr_S c cl hs ra la sa rs k1 h1 ∧ cr_I c la sa k1 ∧ k1.hp = k.hp ∧ k1.la = k.la ∧ k1.pa = k.pa ∧ k1.nu = k.nu ∧ L.length ≤ 1 ∧ ob_P u L h1 ∧ c_do rs k kk y = ((cs_L k1 L).1, kk, (c_do rs k kk y).2.2) ∧ ao_eq (cs_L k1 L).2 (c_do rs k kk y).2.2 ∧ ∀ b, b ≠ c + 1 → (b < u ∨ u + 8 ≤ b) → (∀ i, i < k.st.length → b < sa i ∨ sa i + 3 ≤ b) → h1 b = h b
set_option maxHeartbeats 16000000 in
theorem c_Circuit_doPayload {r : aR} (hd : u + 8 ≤ q ∧ q < c) (hn : y 14 * 256 + y 15 ≤ 124) (hx : ¬ (k.ph = 0 ∧ y 5 = 15 ∧ y 14 * 256 + y 15 = 64)) (K : cr_S c cl hs ra la sa rs k h) (I : cr_I c la sa k) (R : rl_S (ra (k.pa.getD 0 0)) ot hs (k.pa.getD 0 0) r h) (hR : ra (k.pa.getD 0 0) + 260 ≤ c) (hq : rB h q 140 y) (O : ob_E u h) :
    on_Ct G M_Circuit_doPayload [.ref (c + 1), .ref q, .ref u] h sz 0 0 (cd_P c cl hs u sz ra la sa rs k kk y h) := by
  obtain ⟨X, q1, X'⟩ := id hq
  have x5 := X' 5 (by decide)
  have x8 := X' 8 (by decide)
  have x9 := X' 9 (by decide)
  have hid : y 8 * 256 + y 9 < 65536 := by omega
  have c0 := K.ob
  obtain ⟨K1, K2, K3, K4, K5, K6, K7⟩ := id K
  obtain ⟨i1, i2, i3, i4, i5, i6, i7⟩ := id I
  have hl : 0 < k.pa.length ∧ k.pa.length < 2 ^ 31 := by omega
  have sd : ∀ i, i < k.st.length → c + 7 ≤ sa i ∧ ∀ j, j < i → sa j + 3 ≤ sa i := fun i hi => ⟨(i2 i hi).1, (i2 i hi).2.1⟩
  have same : ∀ lv, c_do rs k kk y = (k, kk, []) → on_E G M_Circuit_doPayload 143 lv [] h sz 0 0 (cd_P c cl hs u sz ra la sa rs k kk y h) := fun lv z => by
    refine on_vreturn rfl rfl ?_
    exact ⟨rfl, rfl, k, [], K, I, rfl, rfl, rfl, rfl, Nat.zero_le _, ob_P.nil O, by rw [z]; rfl, by rw [z]; exact ao_0, fun _ _ _ _ => rfl⟩
  have strm : ∀ (lv : on_V) (i : Nat) (t : aT) (h1 : on_H), i < k.st.length → c_do rs k kk y = (c_st k (k.st.set i t), kk, []) → sm_S (sa i) t h1 → (∀ b, (b < sa i ∨ sa i + 3 ≤ b) → h1 b = h b) → on_E G M_Circuit_doPayload 143 lv [] h1 sz 0 0 (cd_P c cl hs u sz ra la sa rs k kk y h) := fun lv i t h1 hi z s1 t1 => by
    obtain ⟨z1, z2⟩ := K.str I hi s1 (fun b b1 _ => t1 b b1)
    have := (i2 i hi).1
    refine on_vreturn rfl rfl ?_
    exact ⟨rfl, rfl, c_st k (k.st.set i t), [], z1, z2, rfl, rfl, rfl, rfl, Nat.zero_le _, ob_P.nil (ob_S.keep O (fun b _ _ => t1 b (by omega))), by rw [z]; rfl, by rw [z]; exact ao_0, fun b _ _ b3 => t1 b (b3 i hi)⟩
  have dflt : (c_do rs k kk y = ((c_ds k).1, kk, (c_ds k).2)) → on_E G M_Circuit_doPayload 138 (on_l [(0, .ref (c + 1)), (2, .ref u)]) [] h sz 0 0 (cd_P c cl hs u sz ra la sa rs k kk y h) := fun z => by
    first | refine on_aload_n (pc' := 139) rfl rfl rfl rfl ?_ | refine on_aload_nQ (pc' := 139) rfl rfl rfl rfl ?_
    first | refine on_aload_n (pc' := 140) rfl rfl rfl rfl ?_ | refine on_aload_nQ (pc' := 140) rfl rfl rfl rfl ?_
    refine on_callV (pc' := 143) (As := [.ref u]) (rest := []) (b := c + 1) rfl rfl cw_Circuit_doPayload_129 (c0) rfl rfl (Nat.le_of_ble_eq_true rfl) (Nat.zero_le _) (Nat.zero_le _) (c_fall sd (by omega) K1 K4 K2 hl R O (by decide)) ?_
    rintro v h1 sz ⟨rfl, rfl, C2, S2, O2, t2⟩
    obtain ⟨z1, z2⟩ := K.gone I C2 S2 (fun b b0 b1 b2 => t2 b b1 (by omega) b2)
    refine on_vreturn rfl rfl ?_
    refine ⟨rfl, rfl, c_go k, [(k.pa.getD 0 0, ce_k (nI k.nu) 4 (fun _ => 0) 0, false)], z1, z2, rfl, rfl, rfl, rfl, Nat.le_refl 1, ⟨_, _, _, O2, fun i (hi : i < 1) => by obtain rfl : i = 0 := (by omega); rw [fu_s, fu_s, fu_s]; rfl⟩, by rw [z]; rfl, by rw [z]; exact ao_c (fun _ _ => rfl) ao_0, fun b b1 b2 b3 => t2 b b1 b2 (fun i hi => by have := b3 i hi; omega)⟩
  refine on_Ct.of (by decide) v_Circuit_doPayload (Nat.le_of_ble_eq_true rfl) ?_
  first | refine on_aload_n (pc' := 1) rfl rfl rfl rfl ?_ | refine on_aload_nQ (pc' := 1) rfl rfl rfl rfl ?_
  refine on_bipush (pc' := 3) (v := 8) rfl rfl lb_8 ?_
  refine on_callS (pc' := 6) (As := [.ref q, .int (nI 8)]) (rest := []) rfl rfl cw_Circuit_doPayload_158 rfl rfl (Nat.le_of_ble_eq_true rfl) (Nat.zero_le _) (Nat.zero_le _) (c_pairAt (at_ := 8) q1 (by decide) x8.1 x9.1 x8.2 x9.2) ?_
  rintro v h sz ⟨rfl, rfl, rfl⟩
  refine on_istore_n (pc' := 7) rfl rfl rfl (by decide) ?_
  first | refine on_aload_n (pc' := 8) rfl rfl rfl rfl ?_ | refine on_aload_nQ (pc' := 8) rfl rfl rfl rfl ?_
  refine on_iload_n (pc' := 9) rfl rfl rfl rfl ?_
  refine on_callV (pc' := 12) (As := [.int (nI (y 8 * 256 + y 9))]) (rest := []) (b := c + 1) rfl rfl cw_Circuit_doPayload_162 (c0) rfl rfl (Nat.le_of_ble_eq_true rfl) (Nat.zero_le _) (Nat.zero_le _) (c_streamOf hid K1 K4) ?_
  rintro v h sz ⟨rfl, rfl, rfl⟩
  have r15 : c_do rs k kk y = if y 5 = 15 then ((c_ds k).1, kk, (c_ds k).2) else if y 5 = 4 then ((if 1 ≤ y 8 * 256 + y 9 ∧ y 8 * 256 + y 9 ≤ k.st.length ∧ (k.st.getD (y 8 * 256 + y 9 - 1) t0).ph = 0 then c_st k (k.st.set (y 8 * 256 + y 9 - 1) (1, (k.st.getD (y 8 * 256 + y 9 - 1) t0).wi, (k.st.getD (y 8 * 256 + y 9 - 1) t0).ca, (k.st.getD (y 8 * 256 + y 9 - 1) t0).wa, (k.st.getD (y 8 * 256 + y 9 - 1) t0).go)) else k), kk, []) else if y 5 = 2 then (if 1 ≤ y 8 * 256 + y 9 ∧ y 8 * 256 + y 9 ≤ k.st.length ∧ (k.st.getD (y 8 * 256 + y 9 - 1) t0).ph = 1 then (let c1 := c_st k (k.st.set (y 8 * 256 + y 9 - 1) ((k.st.getD (y 8 * 256 + y 9 - 1) t0).ph, (k.st.getD (y 8 * 256 + y 9 - 1) t0).wi, (k.st.getD (y 8 * 256 + y 9 - 1) t0).ca + 1, (k.st.getD (y 8 * 256 + y 9 - 1) t0).wa, ke_a (k.st.getD (y 8 * 256 + y 9 - 1) t0).go (fun j => y (16 + j)) (y 14 * 256 + y 15))); if i_rem ((k.st.getD (y 8 * 256 + y 9 - 1) t0).ca + 1) 2 = 0 then ((c_fo c1 5 (y 8 * 256 + y 9) 0 (fun _ => 0)).1, kk, [(c_fo c1 5 (y 8 * 256 + y 9) 0 (fun _ => 0)).2]) else (c1, kk, [])) else (k, kk, [])) else if y 5 = 3 then ((if 1 ≤ y 8 * 256 + y 9 ∧ y 8 * 256 + y 9 ≤ k.st.length then c_st k (k.st.set (y 8 * 256 + y 9 - 1) (2, (k.st.getD (y 8 * 256 + y 9 - 1) t0).wi, (k.st.getD (y 8 * 256 + y 9 - 1) t0).ca, (k.st.getD (y 8 * 256 + y 9 - 1) t0).wa, (k.st.getD (y 8 * 256 + y 9 - 1) t0).go)) else k), kk, []) else if y 5 = 5 then ((if 1 ≤ y 8 * 256 + y 9 ∧ y 8 * 256 + y 9 ≤ k.st.length ∧ (k.st.getD (y 8 * 256 + y 9 - 1) t0).ph ≠ 2 then c_st k (k.st.set (y 8 * 256 + y 9 - 1) ((k.st.getD (y 8 * 256 + y 9 - 1) t0).ph, (k.st.getD (y 8 * 256 + y 9 - 1) t0).wi + 2, (k.st.getD (y 8 * 256 + y 9 - 1) t0).ca, (k.st.getD (y 8 * 256 + y 9 - 1) t0).wa, (k.st.getD (y 8 * 256 + y 9 - 1) t0).go)) else k), kk, []) else ((c_ds k).1, kk, (c_ds k).2) := by
    by_cases c15 : y 5 = 15
    · rw [if_pos c15]
      unfold c_do
      dsimp only
      rw [if_pos c15, if_neg (fun z => hx ⟨z.2, c15, z.1⟩)]
    · rw [if_neg c15]
      unfold c_do
      dsimp only
      rw [if_neg c15]
      rfl
  by_cases hS : 1 ≤ y 8 * 256 + y 9 ∧ y 8 * 256 + y 9 ≤ k.st.length
  · obtain ⟨S, s1, s2, s3⟩ := id K4
    have hi : y 8 * 256 + y 9 - 1 < k.st.length := by omega
    obtain ⟨f, W, o0, w0, hf, hwl, hW, kp, hph⟩ := (s3 _ hi).2
    rw [show s_of sa k.st.length (y 8 * 256 + y 9) = some (sa (y 8 * 256 + y 9 - 1)) from if_pos hS]
    show on_E G M_Circuit_doPayload 12 _ [.ref (sa (y 8 * 256 + y 9 - 1))] h sz _ _ _
    have dc := (i2 _ hi).1
    generalize hm : y 8 * 256 + y 9 - 1 = m at *
    first | refine on_astore (pc' := 14) rfl rfl (by decide) ?_ | refine on_astoreQ (pc' := 14) rfl rfl (by decide) ?_
    first | refine on_aload_n (pc' := 15) rfl rfl rfl rfl ?_ | refine on_aload_nQ (pc' := 15) rfl rfl rfl rfl ?_
    refine on_iconst (pc' := 16) (v := 5) rfl rfl li_5 ?_
    apply on_ialoadK (pc' := 17) (t := 0) (k := 5) rfl rfl
    · repeat (first | assumption | exact on_up_eq _ _ _ | refine (on_up_ne (by omega)).trans ?_)
    · rfl
    · first | assumption | exact on_lit _ | rfl
    · first | assumption | omega | decide
    rw [x5.1]
    refine sw_cd x5.2 (fun e => ?_) (fun e => ?_) (fun e => ?_) (fun e => ?_) (fun c2 c3 c4 c5 => ?_)
    · rw [if_neg (by omega), if_neg (by omega), if_pos e] at r15
      first | refine on_aload (pc' := 72) rfl rfl rfl ?_ | refine on_aloadQ (pc' := 72) rfl rfl rfl ?_
      refine on_ifnullR (pc' := 75) rfl rfl ?_
      first | refine on_aload (pc' := 77) rfl rfl rfl ?_ | refine on_aloadQ (pc' := 77) rfl rfl rfl ?_
      first | apply on_get (pc' := 80) rfl rfl fl_Circuit_139 | apply on_getN (pc' := 80) rfl rfl fl_Circuit_139
      · repeat (first | assumption | exact on_up_eq _ _ _ | refine (on_up_ne (by omega)).trans ?_)
      · rfl
      refine on_iconst (pc' := 81) (v := 1) rfl rfl li_1 ?_
      refine on_icmp_ne (pc' := 84) (tgt := 143) rfl rfl rfl (fun cq => ?_) (fun cq => ?_)
      · rw [if_neg (fun z => cq (by rw [z.2.2]; rfl))] at r15
        exact same _ r15
      · have p1 : (k.st.getD m t0).ph = 1 := (nI_eq (a := (k.st.getD m t0).ph) (b := 1) (by omega) (by decide)).mp cq
        clear cq
        rw [if_pos ⟨hS.1, hS.2, p1⟩] at r15
        first | refine on_aload_n (pc' := 85) rfl rfl rfl rfl ?_ | refine on_aload_nQ (pc' := 85) rfl rfl rfl rfl ?_
        first | refine on_aload (pc' := 87) rfl rfl rfl ?_ | refine on_aloadQ (pc' := 87) rfl rfl rfl ?_
        refine on_iload_n (pc' := 88) rfl rfl rfl rfl ?_
        first | refine on_aload_n (pc' := 89) rfl rfl rfl rfl ?_ | refine on_aload_nQ (pc' := 89) rfl rfl rfl rfl ?_
        first | refine on_aload_n (pc' := 90) rfl rfl rfl rfl ?_ | refine on_aload_nQ (pc' := 90) rfl rfl rfl rfl ?_
        refine on_callV (pc' := 93) (As := [.ref (sa m), .int (nI (y 8 * 256 + y 9)), .ref q, .ref u]) (rest := []) (b := c + 1) rfl rfl cw_Circuit_doPayload_166 (c0) rfl rfl (Nat.le_of_ble_eq_true rfl) (Nat.zero_le _) (Nat.zero_le _) (c_Circuit_takeData (n := y 14 * 256 + y 15) ⟨hd.1, hd.2, dc⟩ hid ⟨rfl, hn⟩ K1 K2 hl R hR (s3 _ hi).2 hq O) ?_
        rintro v h1 sz ⟨rfl, rfl, s5, O5, t5⟩
        refine on_goto (tgt := 143) rfl rfl ?_
        refine on_vreturn rfl rfl ?_
        obtain ⟨z1, z2⟩ := K.str I hi s5 (fun b b1 b2 => t5 b b1 (by omega))
        refine ⟨rfl, rfl, c_st k (k.st.set m ((k.st.getD m t0).ph, (k.st.getD m t0).wi, (k.st.getD m t0).ca + 1, (k.st.getD m t0).wa, ke_a (k.st.getD m t0).go (fun j => y (16 + j)) (y 14 * 256 + y 15))), _, z1, z2, rfl, rfl, rfl, rfl, ?_, O5, ?_, ?_, fun b b1 b2 b3 => t5 b (b3 m hi) b2⟩
        · split
          · exact Nat.le_refl 1
          · exact Nat.zero_le 1
        · dsimp only at r15
          by_cases c2 : i_rem ((k.st.getD m t0).ca + 1) 2 = 0
          · rw [if_pos c2] at r15
            rw [r15, if_pos c2]
            refine Prod.ext ?_ rfl
            exact cfo_1
          · rw [if_neg c2] at r15
            rw [r15, if_neg c2]
            rfl
        · dsimp only at r15
          by_cases c2 : i_rem ((k.st.getD m t0).ca + 1) 2 = 0
          · rw [if_pos c2] at r15
            rw [r15, if_pos c2]
            exact ao_c (fun j hj => cfo_2 hj) ao_0
          · rw [if_neg c2] at r15
            rw [r15, if_neg c2]
            exact ao_0
    · rw [if_neg (by omega), if_neg (by omega), if_neg (by omega), if_pos e, if_pos hS] at r15
      first | refine on_aload (pc' := 98) rfl rfl rfl ?_ | refine on_aloadQ (pc' := 98) rfl rfl rfl ?_
      refine on_ifnullR (pc' := 101) rfl rfl ?_
      first | refine on_aload (pc' := 103) rfl rfl rfl ?_ | refine on_aloadQ (pc' := 103) rfl rfl rfl ?_
      refine on_iconst (pc' := 104) (v := 2) rfl rfl li_2 ?_
      first | apply on_put (pc' := 107) rfl rfl fp_Circuit_139 | apply on_putN (pc' := 107) rfl rfl fp_Circuit_139
      · repeat (first | assumption | exact on_up_eq _ _ _ | refine (on_up_ne (by omega)).trans ?_)
      · first | rfl | assumption
      · first | rfl | assumption
      · exact Nat.le_of_ble_eq_true rfl
      refine on_goto (tgt := 143) rfl rfl ?_
      exact strm _ m _ _ hi r15 ⟨f, W, on_up_eq _ _ _, (on_up_ne (by omega)).trans w0, hf, hwl, hW, kp.keep (on_up_ne (by omega)), Nat.le_refl 2⟩ (fun b b1 => on_up_ne (by omega))
    · rw [if_neg (by omega), if_pos e] at r15
      first | refine on_aload (pc' := 50) rfl rfl rfl ?_ | refine on_aloadQ (pc' := 50) rfl rfl rfl ?_
      refine on_ifnullR (pc' := 53) rfl rfl ?_
      first | refine on_aload (pc' := 55) rfl rfl rfl ?_ | refine on_aloadQ (pc' := 55) rfl rfl rfl ?_
      first | apply on_get (pc' := 58) rfl rfl fl_Circuit_139 | apply on_getN (pc' := 58) rfl rfl fl_Circuit_139
      · repeat (first | assumption | exact on_up_eq _ _ _ | refine (on_up_ne (by omega)).trans ?_)
      · rfl
      refine on_if_ne (pc' := 61) (tgt := 143) rfl rfl rfl (fun cq => ?_) (fun cq => ?_)
      · rw [if_neg (fun z => cq (by rw [z.2.2]; rfl))] at r15
        exact same _ r15
      · have p0 : (k.st.getD m t0).ph = 0 := (nI_eq (a := (k.st.getD m t0).ph) (b := 0) (by omega) (by decide)).mp cq
        clear cq
        rw [if_pos ⟨hS.1, hS.2, p0⟩] at r15
        first | refine on_aload (pc' := 63) rfl rfl rfl ?_ | refine on_aloadQ (pc' := 63) rfl rfl rfl ?_
        refine on_iconst (pc' := 64) (v := 1) rfl rfl li_1 ?_
        first | apply on_put (pc' := 67) rfl rfl fp_Circuit_139 | apply on_putN (pc' := 67) rfl rfl fp_Circuit_139
        · repeat (first | assumption | exact on_up_eq _ _ _ | refine (on_up_ne (by omega)).trans ?_)
        · first | rfl | assumption
        · first | rfl | assumption
        · exact Nat.le_of_ble_eq_true rfl
        refine on_goto (tgt := 143) rfl rfl ?_
        exact strm _ m _ _ hi r15 ⟨f, W, on_up_eq _ _ _, (on_up_ne (by omega)).trans w0, hf, hwl, hW, kp.keep (on_up_ne (by omega)), Nat.le_succ 1⟩ (fun b b1 => on_up_ne (by omega))
    · rw [if_neg (by omega), if_neg (by omega), if_neg (by omega), if_neg (by omega), if_pos e] at r15
      first | refine on_aload (pc' := 112) rfl rfl rfl ?_ | refine on_aloadQ (pc' := 112) rfl rfl rfl ?_
      refine on_ifnullR (pc' := 115) rfl rfl ?_
      first | refine on_aload (pc' := 117) rfl rfl rfl ?_ | refine on_aloadQ (pc' := 117) rfl rfl rfl ?_
      first | apply on_get (pc' := 120) rfl rfl fl_Circuit_139 | apply on_getN (pc' := 120) rfl rfl fl_Circuit_139
      · repeat (first | assumption | exact on_up_eq _ _ _ | refine (on_up_ne (by omega)).trans ?_)
      · rfl
      refine on_iconst (pc' := 121) (v := 2) rfl rfl li_2 ?_
      refine on_icmp_eq (pc' := 124) (tgt := 143) rfl rfl rfl (fun cq => ?_) (fun cq => ?_)
      · have p2 : (k.st.getD m t0).ph = 2 := (nI_eq (a := (k.st.getD m t0).ph) (b := 2) (by omega) (by decide)).mp cq
        rw [if_neg (fun z => z.2.2 p2)] at r15
        exact same _ r15
      · rw [if_pos ⟨hS.1, hS.2, fun z => cq (by rw [z]; rfl)⟩] at r15
        clear cq
        first | refine on_aload (pc' := 126) rfl rfl rfl ?_ | refine on_aloadQ (pc' := 126) rfl rfl rfl ?_
        refine on_dup (pc' := 127) rfl rfl rfl ?_
        first | apply on_get (pc' := 130) rfl rfl fl_Circuit_170 | apply on_getN (pc' := 130) rfl rfl fl_Circuit_170
        · repeat (first | assumption | exact on_up_eq _ _ _ | refine (on_up_ne (by omega)).trans ?_)
        · rfl
        refine on_iconst (pc' := 131) (v := 2) rfl rfl li_2 ?_
        refine on_iadd (pc' := 132) rfl rfl ?_
        first | apply on_put (pc' := 135) rfl rfl fp_Circuit_170 | apply on_putN (pc' := 135) rfl rfl fp_Circuit_170
        · repeat (first | assumption | exact on_up_eq _ _ _ | refine (on_up_ne (by omega)).trans ?_)
        · first | rfl | assumption
        · first | rfl | assumption
        · exact Nat.le_of_ble_eq_true rfl
        refine on_goto (tgt := 143) rfl rfl ?_
        exact strm _ m _ _ hi r15 ⟨f, W, on_up_eq _ _ _, (on_up_ne (by omega)).trans w0, hf, hwl, hW, kp.keep (on_up_ne (by omega)), hph⟩ (fun b b1 => on_up_ne (by omega))
    · refine on_relv (l := [(0, .ref (c + 1)), (2, .ref u)]) ⟨rfl, rfl, trivial⟩ (dflt ?_)
      rw [r15]
      by_cases c15 : y 5 = 15
      · rw [if_pos c15]
      · rw [if_neg c15, if_neg c4, if_neg c2, if_neg c3, if_neg c5]
  · rw [show s_of sa k.st.length (y 8 * 256 + y 9) = none from if_neg hS]
    first | refine on_astore (pc' := 14) rfl rfl (by decide) ?_ | refine on_astoreQ (pc' := 14) rfl rfl (by decide) ?_
    first | refine on_aload_n (pc' := 15) rfl rfl rfl rfl ?_ | refine on_aload_nQ (pc' := 15) rfl rfl rfl rfl ?_
    refine on_iconst (pc' := 16) (v := 5) rfl rfl li_5 ?_
    apply on_ialoadK (pc' := 17) (t := 0) (k := 5) rfl rfl
    · repeat (first | assumption | exact on_up_eq _ _ _ | refine (on_up_ne (by omega)).trans ?_)
    · rfl
    · first | assumption | exact on_lit _ | rfl
    · first | assumption | omega | decide
    rw [x5.1]
    refine sw_cd x5.2 (fun e => ?_) (fun e => ?_) (fun e => ?_) (fun e => ?_) (fun c2 c3 c4 c5 => ?_)
    · rw [if_neg (by omega), if_neg (by omega), if_pos e, if_neg (fun z => hS ⟨z.1, z.2.1⟩)] at r15
      refine on_aloadQ (pc' := 72) (r := none) rfl rfl rfl ?_
      refine on_ifnullN (tgt := 143) rfl rfl ?_
      exact same _ r15
    · rw [if_neg (by omega), if_neg (by omega), if_neg (by omega), if_pos e, if_neg hS] at r15
      refine on_aloadQ (pc' := 98) (r := none) rfl rfl rfl ?_
      refine on_ifnullN (tgt := 143) rfl rfl ?_
      exact same _ r15
    · rw [if_neg (by omega), if_pos e, if_neg (fun z => hS ⟨z.1, z.2.1⟩)] at r15
      refine on_aloadQ (pc' := 50) (r := none) rfl rfl rfl ?_
      refine on_ifnullN (tgt := 143) rfl rfl ?_
      exact same _ r15
    · rw [if_neg (by omega), if_neg (by omega), if_neg (by omega), if_neg (by omega), if_pos e, if_neg (fun z => hS ⟨z.1, z.2.1⟩)] at r15
      refine on_aloadQ (pc' := 112) (r := none) rfl rfl rfl ?_
      refine on_ifnullN (tgt := 143) rfl rfl ?_
      exact same _ r15
    · refine on_relv (l := [(0, .ref (c + 1)), (2, .ref u)]) ⟨rfl, rfl, trivial⟩ (dflt ?_)
      rw [r15]
      by_cases c15 : y 5 = 15
      · rw [if_pos c15]
      · rw [if_neg c15, if_neg c4, if_neg c2, if_neg c3, if_neg c5]
end CD2
