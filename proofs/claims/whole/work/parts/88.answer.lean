/-! the class's Handshake: both sides of an agreement -/
section ANS
variable {G : on_G} {o a c q ot sz bc bs : Nat} {h : on_H} {Q : Option Value → on_H → Nat → Prop} {kc w : Int32} {x : Nat → Nat}
/-- the text's row is written -/
theorem hk_W.txu {F : Nat → Int32} (K : hk_W o h) (hF : ∀ j, j < 8 → F (164 + j) = nI (nm_b j)) : hk_W o (on_up h (o + 21) (on_ai 0 172 F)) := by
  refine ⟨?_, ?_, ?_, ?_, ?_, ?_, ?_, ?_, ?_, ?_, ?_, ?_, ?_, ?_⟩
  · exact (on_up_ne (by omega)).trans K.ob
  · exact K.sh.keep (fun a h1 h2 => on_up_ne (by omega))
  · exact K.tr.keep (fun a h1 h2 => on_up_ne (by omega))
  · exact K.cu.keep (fun a h1 h2 => on_up_ne (by omega))
  · exact K.ba.keep (on_up_ne (by omega))
  · exact K.la.keep (on_up_ne (by omega))
  · exact ⟨F, on_up_eq _ _ _, hF⟩
  · exact K.pa.keep (on_up_ne (by omega))
  · exact K.inn.keep (on_up_ne (by omega))
  · exact K.pr.keep (on_up_ne (by omega))
  · exact K.ma.keep (on_up_ne (by omega))
  · exact K.dk.keep (on_up_ne (by omega))
  · exact K.ck.keep (on_up_ne (by omega))
  · exact K.sm.keep (on_up_ne (by omega))
/-- behind times into the text -/
theorem hk_W.cut {h1 : on_H} {F : Nat → Int32} (K : hk_W o h) (C : cu_K (o + 7) h1) (hq : h1 (o + 21) = some (on_ai 0 172 F)) (hF : ∀ j, j < 8 → F (164 + j) = nI (nm_b j)) (t : ∀ a, a ≠ o + 21 → (a < o + 7 ∨ o + 7 + 12 ≤ a) → h1 a = h a) : hk_W o h1 := by
  refine ⟨?_, ?_, ?_, ?_, ?_, ?_, ?_, ?_, ?_, ?_, ?_, ?_, ?_, ?_⟩
  · exact (t _ (by omega) (by omega)).trans K.ob
  · exact K.sh.keep (fun a h1 h2 => t a (by omega) (by omega))
  · exact K.tr.keep (fun a h1 h2 => t a (by omega) (by omega))
  · exact C
  · exact K.ba.keep (t _ (by omega) (by omega))
  · exact K.la.keep (t _ (by omega) (by omega))
  · exact ⟨F, hq, hF⟩
  · exact K.pa.keep (t _ (by omega) (by omega))
  · exact K.inn.keep (t _ (by omega) (by omega))
  · exact K.pr.keep (t _ (by omega) (by omega))
  · exact K.ma.keep (t _ (by omega) (by omega))
  · exact K.dk.keep (t _ (by omega) (by omega))
  · exact K.ck.keep (t _ (by omega) (by omega))
  · exact K.sm.keep (t _ (by omega) (by omega))
/-- a call of times out of a row into the text -/
theorem on_tim {M : on_M} {pc pc' idx s b n n0 at_ rat : Nat} {lv : on_V} {R0 R1 T : Nat → Int32} {k p : Nat → Nat} (K : hk_W o h) (hs : h s = some (on_ai 0 n0 R0)) (hso : s < o + 7 ∨ o + 19 ≤ s) (hn0 : 32 ≤ n0 ∧ n0 < 2 ^ 31) (hk : ∀ i, i < 32 → R0 i = nI (k i)) (hk2 : ∀ i, i < 32 → k i < 256)
    (hb : h b = some (on_ai 0 n R1)) (hat : at_ + 32 ≤ n ∧ n < 2 ^ 31) (hp : ∀ i, i < 32 → R1 (at_ + i) = nI (p i)) (hp2 : ∀ i, i < 32 → p i < 256) (ht : h (o + 21) = some (on_ai 0 172 T)) (hT : ∀ j, j < 8 → T (164 + j) = nI (nm_b j)) (hr : rat + 32 ≤ 164)
    (hd : on_tb M pc = some (.invokevirtual idx, 3)) (hpc : pc + 3 = pc') (hC : on_CV M M_Curve_times idx 5 1)
    (kk : ∀ h2, hk_W o h2 → h2 (o + 21) = some (on_ai 0 172 (wr_by T rat (cv_x k p) 32)) → (∀ j, j < 8 → wr_by T rat (cv_x k p) 32 (164 + j) = nI (nm_b j)) → (∀ a, a ≠ o + 21 → (a < o + 7 ∨ o + 19 ≤ a) → h2 a = h a) → on_E G M pc' lv [] h2 sz bc bs Q) :
    on_E G M pc lv [.int (nI rat), .ref (o + 21), .int (nI at_), .ref b, .ref s, .ref (o + 7)] h sz bc bs Q := by
  obtain ⟨cc, cl, C, -, -⟩ := id K.cu
  refine on_callV (As := [.ref s, .ref b, .int (nI at_), .ref (o + 21), .int (nI rat)]) (rest := []) (b := o + 7) hd hpc hC C.1 rfl rfl (by decide) (Nat.zero_le _) (Nat.zero_le _) (c_Curve_times (k := k) (p := p) K.cu hs (by omega) hn0 hk hk2 hb hat hp hp2 ht ⟨by omega, by decide⟩ (by omega)) ?_
  rintro r h2 sz ⟨rfl, rfl, C2, q2, t2⟩
  have hT2 : ∀ j, j < 8 → wr_by T rat (cv_x k p) 32 (164 + j) = nI (nm_b j) := fun j hj => by rw [wr_out (by omega)]; exact hT j hj
  exact kk h2 (K.cut C2 q2 hT2 t2) q2 hT2 (fun a h1 h3 => t2 a h1 (by omega))
/-- the text's offer: 68 bytes of a row -/
theorem tx_cp {R T : Nat → Int32} {i0 j0 k0 : Nat} (hT : ∀ j, j < 8 → T (164 + j) = nI (nm_b j)) (h : j0 + k0 ≤ 164) : ∀ j, j < 8 → va_cpy R T i0 j0 k0 (164 + j) = nI (nm_b j) := fun j hj => by
  rw [pk_cpy_out (by omega)]
  exact hT j hj
def an_d (seed : Int64) (draws : Int32) : Nat → Nat := sp_d (dr_m seed draws)
/-- X of a cell that asks -/
def an_X (x : Nat → Nat) : Nat → Nat := fun j => x (41 + j)
/-- the relay's text: what was drawn, the secret, who it is, the cell's X -/
def an_t (seed : Int64) (draws : Int32) (x : Nat → Nat) : Nat → Nat := st_x (nb (cv_x (an_d seed draws) (an_X x))) (nb (cv_x (rs_s seed) (an_X x))) (rs_m seed) (rs_k seed) (an_X x) (nb (cv_x (an_d seed draws) bs_p))
/-- its answer: Y and the proof -/
def an_p (seed : Int64) (draws : Int32) (x : Nat → Nat) : Nat → Nat := fun j => if j < 32 then nb (cv_x (an_d seed draws) bs_p) j else hm (nt_b 4) 9 (an_t seed draws x) 172 (j - 32)
set_option maxHeartbeats 32000000 in
/-- answer -/
theorem c_answer {num : Int32} {seed : Int64} {draws next : Int32} {X A : Nat → Int32} (K0 : hk_W o h) (hR : rl_O a ot o kc w h) (hN : nd_S (a + 1) num seed draws next h) (hs : rB h (a + 3) 32 (rs_s seed)) (hdw : rW h (a + 4) 32) (ha : a + 8 ≤ o ∨ o + 29 ≤ a)
    (hc : h c = some (on_ai 0 140 X)) (hX : on_by X x 140) (hco : c < o ∨ o + 29 ≤ c) (hca : c < a ∨ a + 8 ≤ c) (hme : ∀ i, i < 36 → x (5 + i) = rs_i seed i) (hq : h q = some (on_ai 0 140 A)) (hqo : q < o ∨ o + 29 ≤ q) (hqa : q < a ∨ a + 8 ≤ q) (hqc : q ≠ c) :
    on_Ct G M_Handshake_answer [.ref o, .ref a, .ref c, .ref q] h sz 0 0 (fun r h1 z => r = none ∧ z = sz ∧ hk_W o h1 ∧ rB h1 (o + 21) 172 (an_t seed draws x) ∧ nd_S (a + 1) num seed (draws + 1) next h1 ∧ rW h1 (a + 4) 32 ∧ (∃ A2, h1 q = some (on_ai 0 140 A2) ∧ (∀ j, j < 64 → A2 (5 + j) = nI (an_p seed draws x j)) ∧ ∀ j, (j < 5 ∨ 69 ≤ j) → A2 j = A j) ∧ ∀ b, b ≠ a + 1 → b ≠ a + 4 → b ≠ q → (b < o ∨ o + 29 ≤ b) → h1 b = h b) := by
  have r0 : h a = some (.inr (8, [.ref (a + 1), .ref ot, .ref o, .ref (a + 3), .ref (a + 4), .ref (a + 5), .ref (a + 6), .ref (a + 7), .int kc, .int w])) := hR
  refine on_Ct.of (by decide) v_Handshake_answer (Nat.le_of_ble_eq_true rfl) ?_
  first | refine on_aload_n (pc' := 1) rfl rfl rfl rfl ?_ | refine on_aload_nQ (pc' := 1) rfl rfl rfl rfl ?_
  first | refine on_aload_n (pc' := 2) rfl rfl rfl rfl ?_ | refine on_aload_nQ (pc' := 2) rfl rfl rfl rfl ?_
  first | apply on_get (pc' := 5) rfl rfl fl_Handshake_74 | apply on_getN (pc' := 5) rfl rfl fl_Handshake_74
  · repeat (first | assumption | exact on_up_eq _ _ _ | refine (on_up_ne (by omega)).trans ?_)
  · rfl
  first | refine on_aload_n (pc' := 6) rfl rfl rfl rfl ?_ | refine on_aload_nQ (pc' := 6) rfl rfl rfl rfl ?_
  first | apply on_get (pc' := 9) rfl rfl fl_Handshake_118 | apply on_getN (pc' := 9) rfl rfl fl_Handshake_118
  · repeat (first | assumption | exact on_up_eq _ _ _ | refine (on_up_ne (by omega)).trans ?_)
  · rfl
  refine on_callV (pc' := 12) (As := [.ref (a + 1), .ref (a + 4)]) (rest := []) (b := o) rfl rfl cw_Handshake_answer_121 K0.ob rfl rfl (by decide) (Nat.zero_le _) (Nat.zero_le _) (c_Handshake_draw K0 hN (by omega) hdw (by omega) (by omega)) ?_
  rintro r h1 sz ⟨rfl, rfl, K1, N1, D1, t1⟩
  have r1 := (t1 a (by omega) (by omega) (by omega)).trans r0
  have c1 := (t1 c (by omega) (by omega) (by omega)).trans hc
  have q1 := (t1 q (by omega) (by omega) (by omega)).trans hq
  have s1 := hs.keep (h2 := h1) (t1 _ (by omega) (by omega) (by omega))
  have ho := K1.ob
  obtain ⟨T, x1, hT⟩ := K1.tx
  obtain ⟨Dw, d1, D1'⟩ := D1
  obtain ⟨Se, s1, S1'⟩ := s1
  clear r0 hc hq
  have i1 : 5 + 68 ≤ 140 ∧ 140 < 2 ^ 31 := by decide
  have i2 : 64 + 68 ≤ 172 ∧ 172 < 2 ^ 31 := by decide
  first | refine on_aload_n (pc' := 13) rfl rfl rfl rfl ?_ | refine on_aload_nQ (pc' := 13) rfl rfl rfl rfl ?_
  refine on_iconst (pc' := 14) (v := 5) rfl rfl li_5 ?_
  first | refine on_aload_n (pc' := 15) rfl rfl rfl rfl ?_ | refine on_aload_nQ (pc' := 15) rfl rfl rfl rfl ?_
  first | apply on_get (pc' := 18) rfl rfl fl_Handshake_35 | apply on_getN (pc' := 18) rfl rfl fl_Handshake_35
  · repeat (first | assumption | exact on_up_eq _ _ _ | refine (on_up_ne (by omega)).trans ?_)
  · rfl
  refine on_bipush (pc' := 20) (v := 64) rfl rfl lb_64 ?_
  refine on_bipush (pc' := 22) (v := 68) rfl rfl lb_68 ?_
  apply on_acopy (pc' := 25) (i0 := 5) (j0 := 64) (k0 := 68) rfl rfl jm_Handshake_64 (Nat.le_of_ble_eq_true rfl) (Nat.le_of_ble_eq_true rfl)
  · repeat (first | assumption | exact on_up_eq _ _ _ | refine (on_up_ne (by omega)).trans ?_)
  · repeat (first | assumption | exact on_up_eq _ _ _ | refine (on_up_ne (by omega)).trans ?_)
  · first | assumption | exact on_lit _ | rfl
  · first | assumption | exact on_lit _ | rfl
  · first | assumption | exact on_lit _ | rfl
  · first | assumption | omega | decide
  · first | assumption | omega | decide
  have hT2 := tx_cp (R := X) (i0 := 5) (j0 := 64) (k0 := 68) hT (by decide)
  have K2 := K1.txu hT2
  have x2 : on_up h1 (o + 21) (on_ai 0 172 (va_cpy X T 5 64 68)) (o + 21) = some (on_ai 0 172 (va_cpy X T 5 64 68)) := on_up_eq _ _ _
  have t2 : ∀ b, b ≠ o + 21 → on_up h1 (o + 21) (on_ai 0 172 (va_cpy X T 5 64 68)) b = h1 b := fun b hb => on_up_ne hb
  generalize on_up h1 (o + 21) (on_ai 0 172 (va_cpy X T 5 64 68)) = h2 at *
  have r2 := (t2 a (by omega)).trans r1
  have q2 := (t2 q (by omega)).trans q1
  have d2 := (t2 (a + 4) (by omega)).trans d1
  have s2 := (t2 (a + 3) (by omega)).trans s1
  have N2 := N1.keep (h2 := h2) (t2 _ (by omega)) (t2 _ (by omega))
  clear ho r1 c1 q1 d1 s1 x1
  have ho := K2.ob
  obtain ⟨B2, b2, B2'⟩ := K2.ba
  first | refine on_aload_n (pc' := 26) rfl rfl rfl rfl ?_ | refine on_aload_nQ (pc' := 26) rfl rfl rfl rfl ?_
  first | apply on_get (pc' := 29) rfl rfl fl_Handshake_24 | apply on_getN (pc' := 29) rfl rfl fl_Handshake_24
  · repeat (first | assumption | exact on_up_eq _ _ _ | refine (on_up_ne (by omega)).trans ?_)
  · rfl
  first | refine on_aload_n (pc' := 30) rfl rfl rfl rfl ?_ | refine on_aload_nQ (pc' := 30) rfl rfl rfl rfl ?_
  first | apply on_get (pc' := 33) rfl rfl fl_Handshake_118 | apply on_getN (pc' := 33) rfl rfl fl_Handshake_118
  · repeat (first | assumption | exact on_up_eq _ _ _ | refine (on_up_ne (by omega)).trans ?_)
  · rfl
  first | refine on_aload_n (pc' := 34) rfl rfl rfl rfl ?_ | refine on_aload_nQ (pc' := 34) rfl rfl rfl rfl ?_
  first | apply on_get (pc' := 37) rfl rfl fl_Handshake_28 | apply on_getN (pc' := 37) rfl rfl fl_Handshake_28
  · repeat (first | assumption | exact on_up_eq _ _ _ | refine (on_up_ne (by omega)).trans ?_)
  · rfl
  refine on_iconst (pc' := 38) (v := 0) rfl rfl li_0 ?_
  first | refine on_aload_n (pc' := 39) rfl rfl rfl rfl ?_ | refine on_aload_nQ (pc' := 39) rfl rfl rfl rfl ?_
  first | apply on_get (pc' := 42) rfl rfl fl_Handshake_35 | apply on_getN (pc' := 42) rfl rfl fl_Handshake_35
  · repeat (first | assumption | exact on_up_eq _ _ _ | refine (on_up_ne (by omega)).trans ?_)
  · rfl
  refine on_sipush (pc' := 45) (v := 132) rfl rfl ls_132 ?_
  refine on_tim (pc' := 48) (k := an_d seed draws) (p := bs_p) K2 d2 (by omega) (by decide) (fun i hi => (D1' i hi).1) (fun i hi => sp_d_lt _ _) b2 (by decide) (fun i hi => by rw [Nat.zero_add]; exact (B2' i hi).1) (fun i hi => bs_lt i) x2 hT2 (by decide) rfl rfl cw_Handshake_answer_99 (fun h3 K3 x3 hT3 t3 => ?_)
  have r3 := (t3 a (by omega) (by omega)).trans r2
  have q3 := (t3 q (by omega) (by omega)).trans q2
  have d3 := (t3 (a + 4) (by omega) (by omega)).trans d2
  have s3 := (t3 (a + 3) (by omega) (by omega)).trans s2
  have N3 := N2.keep (h2 := h3) (t3 _ (by omega) (by omega)) (t3 _ (by omega) (by omega))
  clear ho r2 q2 d2 s2 x2 b2
  have ho := K3.ob
  have eX3 : ∀ i, i < 32 → wr_by (va_cpy X T 5 64 68) 132 (cv_x (an_d seed draws) bs_p) 32 (100 + i) = nI (an_X x i) := fun i hi => by
    rw [wr_out (by omega), pk_cpy_in (by omega) (by omega), show 5 + (100 + i - 64) = 41 + i by omega]
    exact (hX _ (by omega)).1
  have lX : ∀ i, i < 32 → an_X x i < 256 := fun i hi => (hX (41 + i) (by omega)).2
  first | refine on_aload_n (pc' := 49) rfl rfl rfl rfl ?_ | refine on_aload_nQ (pc' := 49) rfl rfl rfl rfl ?_
  first | apply on_get (pc' := 52) rfl rfl fl_Handshake_24 | apply on_getN (pc' := 52) rfl rfl fl_Handshake_24
  · repeat (first | assumption | exact on_up_eq _ _ _ | refine (on_up_ne (by omega)).trans ?_)
  · rfl
  first | refine on_aload_n (pc' := 53) rfl rfl rfl rfl ?_ | refine on_aload_nQ (pc' := 53) rfl rfl rfl rfl ?_
  first | apply on_get (pc' := 56) rfl rfl fl_Handshake_118 | apply on_getN (pc' := 56) rfl rfl fl_Handshake_118
  · repeat (first | assumption | exact on_up_eq _ _ _ | refine (on_up_ne (by omega)).trans ?_)
  · rfl
  first | refine on_aload_n (pc' := 57) rfl rfl rfl rfl ?_ | refine on_aload_nQ (pc' := 57) rfl rfl rfl rfl ?_
  first | apply on_get (pc' := 60) rfl rfl fl_Handshake_35 | apply on_getN (pc' := 60) rfl rfl fl_Handshake_35
  · repeat (first | assumption | exact on_up_eq _ _ _ | refine (on_up_ne (by omega)).trans ?_)
  · rfl
  refine on_bipush (pc' := 62) (v := 100) rfl rfl lb_100 ?_
  first | refine on_aload_n (pc' := 63) rfl rfl rfl rfl ?_ | refine on_aload_nQ (pc' := 63) rfl rfl rfl rfl ?_
  first | apply on_get (pc' := 66) rfl rfl fl_Handshake_35 | apply on_getN (pc' := 66) rfl rfl fl_Handshake_35
  · repeat (first | assumption | exact on_up_eq _ _ _ | refine (on_up_ne (by omega)).trans ?_)
  · rfl
  refine on_iconst (pc' := 67) (v := 0) rfl rfl li_0 ?_
  refine on_tim (pc' := 70) (k := an_d seed draws) (p := an_X x) K3 d3 (by omega) (by decide) (fun i hi => (D1' i hi).1) (fun i hi => sp_d_lt _ _) x3 (by decide) eX3 lX x3 hT3 (by decide) rfl rfl cw_Handshake_answer_99 (fun h4 K4 x4 hT4 t4 => ?_)
  have r4 := (t4 a (by omega) (by omega)).trans r3
  have q4 := (t4 q (by omega) (by omega)).trans q3
  have s4 := (t4 (a + 3) (by omega) (by omega)).trans s3
  have d4 := (t4 (a + 4) (by omega) (by omega)).trans d3
  have N4 := N3.keep (h2 := h4) (t4 _ (by omega) (by omega)) (t4 _ (by omega) (by omega))
  clear ho r3 q3 d3 s3 x3
  have ho := K4.ob
  have eX4 : ∀ i, i < 32 → wr_by (wr_by (va_cpy X T 5 64 68) 132 (cv_x (an_d seed draws) bs_p) 32) 0 (cv_x (an_d seed draws) (an_X x)) 32 (100 + i) = nI (an_X x i) := fun i hi => by
    rw [wr_out (by omega)]
    exact eX3 i hi
  first | refine on_aload_n (pc' := 71) rfl rfl rfl rfl ?_ | refine on_aload_nQ (pc' := 71) rfl rfl rfl rfl ?_
  first | apply on_get (pc' := 74) rfl rfl fl_Handshake_24 | apply on_getN (pc' := 74) rfl rfl fl_Handshake_24
  · repeat (first | assumption | exact on_up_eq _ _ _ | refine (on_up_ne (by omega)).trans ?_)
  · rfl
  first | refine on_aload_n (pc' := 75) rfl rfl rfl rfl ?_ | refine on_aload_nQ (pc' := 75) rfl rfl rfl rfl ?_
  first | apply on_get (pc' := 78) rfl rfl fl_Handshake_89 | apply on_getN (pc' := 78) rfl rfl fl_Handshake_89
  · repeat (first | assumption | exact on_up_eq _ _ _ | refine (on_up_ne (by omega)).trans ?_)
  · rfl
  first | refine on_aload_n (pc' := 79) rfl rfl rfl rfl ?_ | refine on_aload_nQ (pc' := 79) rfl rfl rfl rfl ?_
  first | apply on_get (pc' := 82) rfl rfl fl_Handshake_35 | apply on_getN (pc' := 82) rfl rfl fl_Handshake_35
  · repeat (first | assumption | exact on_up_eq _ _ _ | refine (on_up_ne (by omega)).trans ?_)
  · rfl
  refine on_bipush (pc' := 84) (v := 100) rfl rfl lb_100 ?_
  first | refine on_aload_n (pc' := 85) rfl rfl rfl rfl ?_ | refine on_aload_nQ (pc' := 85) rfl rfl rfl rfl ?_
  first | apply on_get (pc' := 88) rfl rfl fl_Handshake_35 | apply on_getN (pc' := 88) rfl rfl fl_Handshake_35
  · repeat (first | assumption | exact on_up_eq _ _ _ | refine (on_up_ne (by omega)).trans ?_)
  · rfl
  refine on_bipush (pc' := 90) (v := 32) rfl rfl lb_32 ?_
  refine on_tim (pc' := 93) (k := rs_s seed) (p := an_X x) K4 s4 (by omega) (by decide) (fun i hi => (S1' i hi).1) (fun i hi => sp_d_lt _ _) x4 (by decide) eX4 lX x4 hT4 (by decide) rfl rfl cw_Handshake_answer_99 (fun h5 K5 x5 hT5 t5 => ?_)
  have r5 := (t5 a (by omega) (by omega)).trans r4
  have q5 := (t5 q (by omega) (by omega)).trans q4
  have d5 := (t5 (a + 4) (by omega) (by omega)).trans d4
  have N5 := N4.keep (h2 := h5) (t5 _ (by omega) (by omega)) (t5 _ (by omega) (by omega))
  clear ho r4 q4 d4 s4 x4
  have ho := K5.ob
  have hx5 : on_by (wr_by (wr_by (wr_by (va_cpy X T 5 64 68) 132 (cv_x (an_d seed draws) bs_p) 32) 0 (cv_x (an_d seed draws) (an_X x)) 32) 32 (cv_x (rs_s seed) (an_X x)) 32) (an_t seed draws x) 172 := by
    refine st_by (fun j hj => ⟨?_, ?_, ?_, ?_, ?_⟩) (fun j hj => ?_) (fun j hj => ?_) (fun j hj => ⟨nb_lt _ _, nb_lt _ _, nb_lt _ _, lX j hj, nb_lt _ _⟩) (fun j hj => sp_d_lt _ _)
    · rw [wr_out (by omega), show j = 0 + j by omega, wr_in hj, Nat.zero_add]
    · rw [wr_in hj]
    · rw [wr_out (by omega), wr_out (by omega), wr_out (by omega), pk_cpy_in (by omega) (by omega), (hX _ (by omega)).1, show 5 + (68 + j - 64) = 5 + (4 + j) by omega, hme _ (by omega)]
      unfold rs_i
      rw [if_neg (by omega), show 4 + j - 4 = j by omega]
    · rw [wr_out (by omega)]
      exact eX4 j hj
    · rw [wr_out (by omega), wr_out (by omega), wr_in hj]
    · rw [wr_out (by omega), wr_out (by omega), wr_out (by omega), pk_cpy_in (by omega) (by omega), (hX _ (by omega)).1, show 5 + (64 + j - 64) = 5 + j by omega, hme _ (by omega)]
      unfold rs_i
      rw [if_pos hj]
    · exact hT5 j hj
  have hY5 : ∀ j, j < 32 → (wr_by (wr_by (wr_by (va_cpy X T 5 64 68) 132 (cv_x (an_d seed draws) bs_p) 32) 0 (cv_x (an_d seed draws) (an_X x)) 32) 32 (cv_x (rs_s seed) (an_X x)) 32) (132 + j) = nI (nb (cv_x (an_d seed draws) bs_p) j) := fun j hj => by
    rw [wr_out (by omega), wr_out (by omega), wr_in hj]
  generalize wr_by (wr_by (wr_by (va_cpy X T 5 64 68) 132 (cv_x (an_d seed draws) bs_p) 32) 0 (cv_x (an_d seed draws) (an_X x)) 32) 32 (cv_x (rs_s seed) (an_X x)) 32 = T5 at *
  obtain ⟨L, l5, hL⟩ := K5.la
  have h8 : (8 : Nat) < 9 ∧ 9 < 2 ^ 31 := by decide
  obtain ⟨la1, la2⟩ := la_tag (tag := 4) hL (by decide)
  first | refine on_aload_n (pc' := 94) rfl rfl rfl rfl ?_ | refine on_aload_nQ (pc' := 94) rfl rfl rfl rfl ?_
  first | apply on_get (pc' := 97) rfl rfl fl_Handshake_32 | apply on_getN (pc' := 97) rfl rfl fl_Handshake_32
  · repeat (first | assumption | exact on_up_eq _ _ _ | refine (on_up_ne (by omega)).trans ?_)
  · rfl
  refine on_bipush (pc' := 99) (v := 8) rfl rfl lb_8 ?_
  refine on_iconst (pc' := 100) (v := 4) rfl rfl li_4 ?_
  apply on_iastoreK (pc' := 101) (t := 0) rfl rfl
  · repeat (first | assumption | exact on_up_eq _ _ _ | refine (on_up_ne (by omega)).trans ?_)
  · rfl
  · first | assumption | exact on_lit _ | rfl
  · first | assumption | omega | decide
  have K6 : hk_W o (on_up h5 (o + 20) (on_ai 0 9 (upd L 8 4))) := K5.lau la2
  have e6 : on_up h5 (o + 20) (on_ai 0 9 (upd L 8 4)) (o + 20) = some (on_ai 0 9 (upd L 8 4)) := on_up_eq _ _ _
  have t6 : ∀ b, b ≠ o + 20 → on_up h5 (o + 20) (on_ai 0 9 (upd L 8 4)) b = h5 b := fun b hb => on_up_ne hb
  generalize on_up h5 (o + 20) (on_ai 0 9 (upd L 8 4)) = h6 at *
  have r6 := (t6 a (by omega)).trans r5
  have q6 := (t6 q (by omega)).trans q5
  have d6 := (t6 (a + 4) (by omega)).trans d5
  have x6 := (t6 (o + 21) (by omega)).trans x5
  have N6 := N5.keep (h2 := h6) (t6 _ (by omega)) (t6 _ (by omega))
  clear ho r5 q5 d5 x5
  have ho := K6.ob
  first | refine on_aload_n (pc' := 102) rfl rfl rfl rfl ?_ | refine on_aload_nQ (pc' := 102) rfl rfl rfl rfl ?_
  first | refine on_aload_n (pc' := 103) rfl rfl rfl rfl ?_ | refine on_aload_nQ (pc' := 103) rfl rfl rfl rfl ?_
  first | apply on_get (pc' := 106) rfl rfl fl_Handshake_32 | apply on_getN (pc' := 106) rfl rfl fl_Handshake_32
  · repeat (first | assumption | exact on_up_eq _ _ _ | refine (on_up_ne (by omega)).trans ?_)
  · rfl
  first | refine on_aload_n (pc' := 107) rfl rfl rfl rfl ?_ | refine on_aload_nQ (pc' := 107) rfl rfl rfl rfl ?_
  first | apply on_get (pc' := 110) rfl rfl fl_Handshake_35 | apply on_getN (pc' := 110) rfl rfl fl_Handshake_35
  · repeat (first | assumption | exact on_up_eq _ _ _ | refine (on_up_ne (by omega)).trans ?_)
  · rfl
  refine on_sipush (pc' := 113) (v := 172) rfl rfl ls_172 ?_
  first | refine on_aload_n (pc' := 114) rfl rfl rfl rfl ?_ | refine on_aload_nQ (pc' := 114) rfl rfl rfl rfl ?_
  first | apply on_get (pc' := 117) rfl rfl fl_Handshake_46 | apply on_getN (pc' := 117) rfl rfl fl_Handshake_46
  · repeat (first | assumption | exact on_up_eq _ _ _ | refine (on_up_ne (by omega)).trans ?_)
  · rfl
  refine on_callV (pc' := 120) (As := [.ref (o + 20), .ref (o + 21), .int (nI 172), .ref (o + 24)]) (rest := []) (b := o) rfl rfl cw_Handshake_answer_125 ho rfl rfl (by decide) (Nat.zero_le _) (Nat.zero_le _) (c_hmac (k0 := nt_b 4) (t := an_t seed draws x) ho K6.sh K6.pa K6.inn ⟨_, e6, la1⟩ (by omega) (by decide) x6 (by omega) (by decide) (by decide) hx5 K6.pr (by omega)) ?_
  rintro r h7 sz ⟨rfl, rfl, s7, p7, i7, y7, u7⟩
  have K7 := K6.hm s7 p7 i7 y7.w (by omega) u7
  have r7 := (u7 a (by omega) (by omega) (by omega) (by omega)).trans r6
  have q7 := (u7 q (by omega) (by omega) (by omega) (by omega)).trans q6
  have d7 := (u7 (a + 4) (by omega) (by omega) (by omega) (by omega)).trans d6
  have x7 := (u7 (o + 21) (by omega) (by omega) (by omega) (by omega)).trans x6
  have N7 := N6.keep (h2 := h7) (u7 _ (by omega) (by omega) (by omega) (by omega)) (u7 _ (by omega) (by omega) (by omega) (by omega))
  obtain ⟨Y7, y7, Y7'⟩ := y7
  clear ho
  have ho := K7.ob
  have j1 : 132 + 32 ≤ 172 ∧ 172 < 2 ^ 31 := by decide
  have j2 : 5 + 32 ≤ 140 ∧ 140 < 2 ^ 31 := by decide
  have j3 : 0 + 32 ≤ 32 ∧ 32 < 2 ^ 31 := by decide
  have j4 : 37 + 32 ≤ 140 ∧ 140 < 2 ^ 31 := by decide
  first | refine on_aload_n (pc' := 121) rfl rfl rfl rfl ?_ | refine on_aload_nQ (pc' := 121) rfl rfl rfl rfl ?_
  first | apply on_get (pc' := 124) rfl rfl fl_Handshake_35 | apply on_getN (pc' := 124) rfl rfl fl_Handshake_35
  · repeat (first | assumption | exact on_up_eq _ _ _ | refine (on_up_ne (by omega)).trans ?_)
  · rfl
  refine on_sipush (pc' := 127) (v := 132) rfl rfl ls_132 ?_
  first | refine on_aload_n (pc' := 128) rfl rfl rfl rfl ?_ | refine on_aload_nQ (pc' := 128) rfl rfl rfl rfl ?_
  refine on_iconst (pc' := 129) (v := 5) rfl rfl li_5 ?_
  refine on_bipush (pc' := 131) (v := 32) rfl rfl lb_32 ?_
  apply on_acopy (pc' := 134) (i0 := 132) (j0 := 5) (k0 := 32) rfl rfl jm_Handshake_64 (Nat.le_of_ble_eq_true rfl) (Nat.le_of_ble_eq_true rfl)
  · repeat (first | assumption | exact on_up_eq _ _ _ | refine (on_up_ne (by omega)).trans ?_)
  · repeat (first | assumption | exact on_up_eq _ _ _ | refine (on_up_ne (by omega)).trans ?_)
  · first | assumption | exact on_lit _ | rfl
  · first | assumption | exact on_lit _ | rfl
  · first | assumption | exact on_lit _ | rfl
  · first | assumption | omega | decide
  · first | assumption | omega | decide
  first | refine on_aload_n (pc' := 135) rfl rfl rfl rfl ?_ | refine on_aload_nQ (pc' := 135) rfl rfl rfl rfl ?_
  first | apply on_get (pc' := 138) rfl rfl fl_Handshake_46 | apply on_getN (pc' := 138) rfl rfl fl_Handshake_46
  · repeat (first | assumption | exact on_up_eq _ _ _ | refine (on_up_ne (by omega)).trans ?_)
  · rfl
  refine on_iconst (pc' := 139) (v := 0) rfl rfl li_0 ?_
  first | refine on_aload_n (pc' := 140) rfl rfl rfl rfl ?_ | refine on_aload_nQ (pc' := 140) rfl rfl rfl rfl ?_
  refine on_bipush (pc' := 142) (v := 37) rfl rfl lb_37 ?_
  refine on_bipush (pc' := 144) (v := 32) rfl rfl lb_32 ?_
  apply on_acopy (pc' := 147) (i0 := 0) (j0 := 37) (k0 := 32) rfl rfl jm_Handshake_64 (Nat.le_of_ble_eq_true rfl) (Nat.le_of_ble_eq_true rfl)
  · repeat (first | assumption | exact on_up_eq _ _ _ | refine (on_up_ne (by omega)).trans ?_)
  · repeat (first | assumption | exact on_up_eq _ _ _ | refine (on_up_ne (by omega)).trans ?_)
  · first | assumption | exact on_lit _ | rfl
  · first | assumption | exact on_lit _ | rfl
  · first | assumption | exact on_lit _ | rfl
  · first | assumption | omega | decide
  · first | assumption | omega | decide
  refine on_vreturn rfl rfl ?_
  rw [on_up_up]
  refine ⟨rfl, rfl, K7.keep (fun b h1 h2 => on_up_ne (by omega)), ⟨T5, (on_up_ne (by omega)).trans x7, hx5⟩, N7.keep (on_up_ne (by omega)) (on_up_ne (by omega)), ⟨Dw, (on_up_ne (by omega)).trans d7⟩, ⟨_, on_up_eq _ _ _, fun j hj => ?_, fun j hj => ?_⟩, fun b h1 h2 h3 h4 => ?_⟩
  · unfold an_p
    by_cases e : j < 32
    · rw [if_pos e, pk_cpy_out (by omega), pk_cpy_in (by omega) (by omega), show 132 + (5 + j - 5) = 132 + j by omega]
      exact hY5 j e
    · rw [if_neg e, pk_cpy_in (by omega) (by omega), show 0 + (5 + j - 37) = j - 32 by omega]
      exact (Y7' _ (by omega)).1
  · rw [pk_cpy_out (by omega), pk_cpy_out (by omega)]
  · rw [on_up_ne h3, u7 b (by omega) (by omega) (by omega) (by omega), t6 b (by omega), t5 b (by omega) (by omega), t4 b (by omega) (by omega), t3 b (by omega) (by omega), t2 b (by omega), t1 b h2 h1 h4]
end ANS
