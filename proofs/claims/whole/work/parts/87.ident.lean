/-! who a relay is -/
/-- the bytes of a number, the lowest first -/
def nb (V i : Nat) : Nat := V / 2 ^ (8 * i) % 256
theorem nb_lt (V i : Nat) : nb V i < 256 := Nat.mod_lt _ (by decide)
theorem wr_in {R : Nat → Int32} {rat V j : Nat} (h : j < 32) : wr_by R rat V 32 (rat + j) = nI (nb V j) := by
  unfold wr_by
  rw [if_pos (by omega), show rat + j - rat = j by omega]
  rfl
theorem wr_out {R : Nat → Int32} {rat V j : Nat} (h : j < rat ∨ rat + 32 ≤ j) : wr_by R rat V 32 j = R j := if_neg (by omega)
def rs_s (seed : Int64) : Nat → Nat := sp_d (sp_sl nm_b 0 8 ++ [2] ++ sp_sl (sd_b seed) 0 8)
def rs_k (seed : Int64) : Nat → Nat := nb (cv_x (rs_s seed) bs_p)
def rs_m (seed : Int64) : Nat → Nat := sp_d (sp_sl nm_b 0 8 ++ [3] ++ sp_sl (rs_k seed) 0 32)
/-- mark and key -/
def rs_i (seed : Int64) : Nat → Nat := fun i => if i < 4 then rs_m seed i else rs_k seed (i - 4)
theorem rs_i_lt (seed : Int64) (i : Nat) : rs_i seed i < 256 := by
  unfold rs_i
  split
  · exact sp_d_lt _ _
  · exact nb_lt _ _
/-- a Relay's object at a -/
def rl_O (a ot hs : Nat) (kc w : Int32) (h : on_H) : Prop := h a = some (.inr (8, [.ref (a + 1), .ref ot, .ref hs, .ref (a + 3), .ref (a + 4), .ref (a + 5), .ref (a + 6), .ref (a + 7), .int kc, .int w]))
section IDN
variable {G : on_G} {o a ot sz bc bs : Nat} {h : on_H} {Q : Option Value → on_H → Nat → Prop} {kc w : Int32}
theorem hk_W.shl {h1 : on_H} (K : hk_W o h) (S : sh_W (o + 1) h1) (L : hk_L o h1) (t : ∀ a, (a < o + 1 ∨ o + 4 ≤ a) → a ≠ o + 20 → h1 a = h a) : hk_W o h1 := by
  refine ⟨?_, ?_, ?_, ?_, ?_, ?_, ?_, ?_, ?_, ?_, ?_, ?_, ?_, ?_⟩
  · exact (t _ (by omega) (by omega)).trans K.ob
  · exact S
  · exact K.tr.keep (fun a h1 h2 => t a (by omega) (by omega))
  · exact K.cu.keep (fun a h1 h2 => t a (by omega) (by omega))
  · exact K.ba.keep (t _ (by omega) (by omega))
  · exact L
  · exact K.tx.keep (t _ (by omega) (by omega))
  · exact K.pa.keep (t _ (by omega) (by omega))
  · exact K.inn.keep (t _ (by omega) (by omega))
  · exact K.pr.keep (t _ (by omega) (by omega))
  · exact K.ma.keep (t _ (by omega) (by omega))
  · exact K.dk.keep (t _ (by omega) (by omega))
  · exact K.ck.keep (t _ (by omega) (by omega))
  · exact K.sm.keep (t _ (by omega) (by omega))
/-- behind times: the curve's rows, and q off the Handshake -/
theorem hk_W.cur {h1 : on_H} {q : Nat} (K : hk_W o h) (C : cu_K (o + 7) h1) (hq : q < o ∨ o + 29 ≤ q) (t : ∀ a, a ≠ q → (a < o + 7 ∨ o + 7 + 12 ≤ a) → h1 a = h a) : hk_W o h1 := by
  refine ⟨?_, ?_, ?_, ?_, ?_, ?_, ?_, ?_, ?_, ?_, ?_, ?_, ?_, ?_⟩
  · exact (t _ (by omega) (by omega)).trans K.ob
  · exact K.sh.keep (fun a h1 h2 => t a (by omega) (by omega))
  · exact K.tr.keep (fun a h1 h2 => t a (by omega) (by omega))
  · exact C
  · exact K.ba.keep (t _ (by omega) (by omega))
  · exact K.la.keep (t _ (by omega) (by omega))
  · exact K.tx.keep (t _ (by omega) (by omega))
  · exact K.pa.keep (t _ (by omega) (by omega))
  · exact K.inn.keep (t _ (by omega) (by omega))
  · exact K.pr.keep (t _ (by omega) (by omega))
  · exact K.ma.keep (t _ (by omega) (by omega))
  · exact K.dk.keep (t _ (by omega) (by omega))
  · exact K.ck.keep (t _ (by omega) (by omega))
  · exact K.sm.keep (t _ (by omega) (by omega))
set_option maxHeartbeats 16000000 in
/-- identify -/
theorem c_identify {num : Int32} {seed : Int64} {draws next : Int32} (K0 : hk_W o h) (hR : rl_O a ot o kc w h) (hN : nd_S (a + 1) num seed draws next h) (hs : rW h (a + 3) 32) (hi : rW h (a + 5) 36) (ha : a + 8 ≤ o ∨ o + 29 ≤ a) :
    on_Ct G M_Handshake_identify [.ref o, .ref a] h sz 0 0 (fun r h1 z => r = none ∧ z = sz ∧ hk_W o h1 ∧ rB h1 (a + 3) 32 (rs_s seed) ∧ rB h1 (a + 5) 36 (rs_i seed) ∧ ∀ b, b ≠ a + 3 → b ≠ a + 5 → (b < o ∨ o + 29 ≤ b) → h1 b = h b) := by
  obtain ⟨n1, Sd, n2, hSd⟩ := hN
  obtain ⟨S0, hs⟩ := hs
  obtain ⟨I0, hi⟩ := hi
  refine on_Ct.of (by decide) v_Handshake_identify (Nat.le_of_ble_eq_true rfl) ?_
  first | refine on_aload_n (pc' := 1) rfl rfl rfl rfl ?_ | refine on_aload_nQ (pc' := 1) rfl rfl rfl rfl ?_
  refine on_iconst (pc' := 2) (v := 2) rfl rfl li_2 ?_
  refine on_callV (pc' := 5) (As := [.int (nI 2)]) (rest := []) (b := o) rfl rfl cw_Handshake_identify_70 K0.ob rfl rfl (by decide) (Nat.zero_le _) (Nat.zero_le _) (c_startLabelled (by decide) K0.ob K0.sh K0.la) ?_
  rintro r h1 sz ⟨rfl, rfl, X1, L1, t1⟩
  have K1 := K0.shl X1.w L1 t1
  have ho := K1.ob
  have r1 : rl_O a ot o kc w h1 := (t1 _ (by omega) (by omega)).trans hR
  have m1 := (t1 (a + 1) (by omega) (by omega)).trans n1
  have d1 := (t1 (a + 2) (by omega) (by omega)).trans n2
  have s1 := (t1 (a + 3) (by omega) (by omega)).trans hs
  obtain ⟨f1, g1, X1', -⟩ := id X1
  unfold rl_O at r1
  first | refine on_aload_n (pc' := 6) rfl rfl rfl rfl ?_ | refine on_aload_nQ (pc' := 6) rfl rfl rfl rfl ?_
  first | apply on_get (pc' := 9) rfl rfl fl_Handshake_12 | apply on_getN (pc' := 9) rfl rfl fl_Handshake_12
  · repeat (first | assumption | exact on_up_eq _ _ _ | refine (on_up_ne (by omega)).trans ?_)
  · rfl
  first | refine on_aload_n (pc' := 10) rfl rfl rfl rfl ?_ | refine on_aload_nQ (pc' := 10) rfl rfl rfl rfl ?_
  first | apply on_get (pc' := 13) rfl rfl fl_Handshake_74 | apply on_getN (pc' := 13) rfl rfl fl_Handshake_74
  · repeat (first | assumption | exact on_up_eq _ _ _ | refine (on_up_ne (by omega)).trans ?_)
  · rfl
  first | apply on_get (pc' := 16) rfl rfl fl_Handshake_80 | apply on_getN (pc' := 16) rfl rfl fl_Handshake_80
  · repeat (first | assumption | exact on_up_eq _ _ _ | refine (on_up_ne (by omega)).trans ?_)
  · rfl
  refine on_iconst (pc' := 17) (v := 0) rfl rfl li_0 ?_
  refine on_bipush (pc' := 19) (v := 8) rfl rfl lb_8 ?_
  refine on_callV (pc' := 22) (As := [.ref (a + 2), .int (nI 0), .int (nI 8)]) (rest := []) (b := o + 1) rfl rfl cw_Handshake_identify_85 X1'.1 rfl rfl (by decide) (Nat.zero_le _) (Nat.zero_le _) (c_Sha_add (b := sd_b seed) X1 (by rw [List.length_append, sp_sl_len]; decide) d1 (by omega) (by decide) (by decide) (fun i hi => by rw [Nat.zero_add]; exact hSd i hi)) ?_
  rintro r h2 sz ⟨rfl, rfl, X2, t2⟩
  have K2 := K1.shl X2.w (K1.la.keep (t2 _ (by omega))) (fun a h1 h2 => t2 a (by omega))
  clear ho
  have ho := K2.ob
  have r2 := (t2 a (by omega)).trans r1
  have s2 := (t2 (a + 3) (by omega)).trans s1
  obtain ⟨f2, g2, X2', -⟩ := id X2
  first | refine on_aload_n (pc' := 23) rfl rfl rfl rfl ?_ | refine on_aload_nQ (pc' := 23) rfl rfl rfl rfl ?_
  first | apply on_get (pc' := 26) rfl rfl fl_Handshake_12 | apply on_getN (pc' := 26) rfl rfl fl_Handshake_12
  · repeat (first | assumption | exact on_up_eq _ _ _ | refine (on_up_ne (by omega)).trans ?_)
  · rfl
  first | refine on_aload_n (pc' := 27) rfl rfl rfl rfl ?_ | refine on_aload_nQ (pc' := 27) rfl rfl rfl rfl ?_
  first | apply on_get (pc' := 30) rfl rfl fl_Handshake_89 | apply on_getN (pc' := 30) rfl rfl fl_Handshake_89
  · repeat (first | assumption | exact on_up_eq _ _ _ | refine (on_up_ne (by omega)).trans ?_)
  · rfl
  refine on_callV (pc' := 33) (As := [.ref (a + 3)]) (rest := []) (b := o + 1) rfl rfl cw_Handshake_identify_92 X2'.1 rfl rfl (by decide) (Nat.zero_le _) (Nat.zero_le _) (c_Sha_end X2 (by rw [List.length_append, List.length_append, sp_sl_len, sp_sl_len]; decide) s2 (by omega)) ?_
  rintro r h3 sz ⟨rfl, rfl, S3, s3, t3⟩
  have K3 : hk_W o h3 := K2.hm S3 (K2.pa.keep (t3 _ (by omega) (by omega))) (K2.inn.keep (t3 _ (by omega) (by omega))) (q := a + 3) ⟨_, s3⟩ (by omega) (fun b h1 h2 h3 h4 => t3 b h1 (by omega))
  have r3 := (t3 a (by omega) (by omega)).trans r2
  have u3 : ∀ b, b ≠ a + 3 → (b < o ∨ o + 29 ≤ b) → h3 b = h b := fun b h1 h2 => (t3 b h1 (by omega)).trans ((t2 b (by omega)).trans (t1 b (by omega) (by omega)))
  have i3 := (u3 (a + 5) (by omega) (by omega)).trans hi
  have hs3 : ∀ i, i < 32 → on_tk (fun i => nI (sp_d (sp_sl nm_b 0 8 ++ [2] ++ sp_sl (sd_b seed) 0 8) i)) S0 32 i = nI (rs_s seed i) := fun i hi => on_tk_lt hi
  clear ho t1 t2 t3 r1 r2 m1 d1 s1 s2
  have ho := K3.ob
  obtain ⟨B3, b3, B3'⟩ := K3.ba
  obtain ⟨cc, cl, C3, -, -⟩ := id K3.cu
  first | refine on_aload_n (pc' := 34) rfl rfl rfl rfl ?_ | refine on_aload_nQ (pc' := 34) rfl rfl rfl rfl ?_
  first | apply on_get (pc' := 37) rfl rfl fl_Handshake_24 | apply on_getN (pc' := 37) rfl rfl fl_Handshake_24
  · repeat (first | assumption | exact on_up_eq _ _ _ | refine (on_up_ne (by omega)).trans ?_)
  · rfl
  first | refine on_aload_n (pc' := 38) rfl rfl rfl rfl ?_ | refine on_aload_nQ (pc' := 38) rfl rfl rfl rfl ?_
  first | apply on_get (pc' := 41) rfl rfl fl_Handshake_89 | apply on_getN (pc' := 41) rfl rfl fl_Handshake_89
  · repeat (first | assumption | exact on_up_eq _ _ _ | refine (on_up_ne (by omega)).trans ?_)
  · rfl
  first | refine on_aload_n (pc' := 42) rfl rfl rfl rfl ?_ | refine on_aload_nQ (pc' := 42) rfl rfl rfl rfl ?_
  first | apply on_get (pc' := 45) rfl rfl fl_Handshake_28 | apply on_getN (pc' := 45) rfl rfl fl_Handshake_28
  · repeat (first | assumption | exact on_up_eq _ _ _ | refine (on_up_ne (by omega)).trans ?_)
  · rfl
  refine on_iconst (pc' := 46) (v := 0) rfl rfl li_0 ?_
  first | refine on_aload_n (pc' := 47) rfl rfl rfl rfl ?_ | refine on_aload_nQ (pc' := 47) rfl rfl rfl rfl ?_
  first | apply on_get (pc' := 50) rfl rfl fl_Handshake_96 | apply on_getN (pc' := 50) rfl rfl fl_Handshake_96
  · repeat (first | assumption | exact on_up_eq _ _ _ | refine (on_up_ne (by omega)).trans ?_)
  · rfl
  refine on_iconst (pc' := 51) (v := 4) rfl rfl li_4 ?_
  refine on_callV (pc' := 54) (As := [.ref (a + 3), .ref (o + 19), .int (nI 0), .ref (a + 5), .int (nI 4)]) (rest := []) (b := o + 7) rfl rfl cw_Handshake_identify_99 C3.1 rfl rfl (by decide) (Nat.zero_le _) (Nat.zero_le _) (c_Curve_times (k := rs_s seed) (p := bs_p) K3.cu s3 (by omega) (by decide) hs3 (fun i hi => sp_d_lt _ _) b3 (by decide) (fun i hi => by rw [Nat.zero_add]; exact (B3' i hi).1) (fun i hi => bs_lt i) i3 (by decide) (by omega)) ?_
  rintro r h4 sz ⟨rfl, rfl, C4, i4, t4⟩
  have K4 := K3.cur C4 (by omega) t4
  have r4 := (t4 a (by omega) (by omega)).trans r3
  have s4 := (t4 (a + 3) (by omega) (by omega)).trans s3
  first | refine on_aload_n (pc' := 55) rfl rfl rfl rfl ?_ | refine on_aload_nQ (pc' := 55) rfl rfl rfl rfl ?_
  refine on_iconst (pc' := 56) (v := 3) rfl rfl li_3 ?_
  refine on_callV (pc' := 59) (As := [.int (nI 3)]) (rest := []) (b := o) rfl rfl cw_Handshake_identify_70 K4.ob rfl rfl (by decide) (Nat.zero_le _) (Nat.zero_le _) (c_startLabelled (by decide) K4.ob K4.sh K4.la) ?_
  rintro r h5 sz ⟨rfl, rfl, X5, L5, t5⟩
  have K5 := K4.shl X5.w L5 t5
  clear ho
  have ho := K5.ob
  have r5 := (t5 a (by omega) (by omega)).trans r4
  have i5 := (t5 (a + 5) (by omega) (by omega)).trans i4
  have s5 := (t5 (a + 3) (by omega) (by omega)).trans s4
  obtain ⟨f5, g5, X5', -⟩ := id X5
  first | refine on_aload_n (pc' := 60) rfl rfl rfl rfl ?_ | refine on_aload_nQ (pc' := 60) rfl rfl rfl rfl ?_
  first | apply on_get (pc' := 63) rfl rfl fl_Handshake_12 | apply on_getN (pc' := 63) rfl rfl fl_Handshake_12
  · repeat (first | assumption | exact on_up_eq _ _ _ | refine (on_up_ne (by omega)).trans ?_)
  · rfl
  first | refine on_aload_n (pc' := 64) rfl rfl rfl rfl ?_ | refine on_aload_nQ (pc' := 64) rfl rfl rfl rfl ?_
  first | apply on_get (pc' := 67) rfl rfl fl_Handshake_96 | apply on_getN (pc' := 67) rfl rfl fl_Handshake_96
  · repeat (first | assumption | exact on_up_eq _ _ _ | refine (on_up_ne (by omega)).trans ?_)
  · rfl
  refine on_iconst (pc' := 68) (v := 4) rfl rfl li_4 ?_
  refine on_bipush (pc' := 70) (v := 32) rfl rfl lb_32 ?_
  refine on_callV (pc' := 73) (As := [.ref (a + 5), .int (nI 4), .int (nI 32)]) (rest := []) (b := o + 1) rfl rfl cw_Handshake_identify_85 X5'.1 rfl rfl (by decide) (Nat.zero_le _) (Nat.zero_le _) (c_Sha_add (b := fun j => rs_k seed (j - 4)) X5 (by rw [List.length_append, sp_sl_len]; decide) i5 (by omega) (by decide) (by decide) (fun i hi => ⟨by rw [wr_in hi, show 4 + i - 4 = i by omega]; rfl, nb_lt _ _⟩)) ?_
  rintro r h6 sz ⟨rfl, rfl, X6, t6⟩
  have e6 : sp_sl (fun j => rs_k seed (j - 4)) 4 32 = sp_sl (rs_k seed) 0 32 := by
    unfold sp_sl
    refine List.map_congr_left (fun i hi => ?_)
    show rs_k seed (4 + i - 4) = rs_k seed (0 + i)
    rw [show 4 + i - 4 = i by omega, Nat.zero_add]
  rw [e6] at X6
  have K6 := K5.shl X6.w (K5.la.keep (t6 _ (by omega))) (fun a h1 h2 => t6 a (by omega))
  clear ho
  have ho := K6.ob
  have r6 := (t6 a (by omega)).trans r5
  obtain ⟨J6, j6⟩ := K6.inn
  obtain ⟨f6, g6, X6', -⟩ := id X6
  first | refine on_aload_n (pc' := 74) rfl rfl rfl rfl ?_ | refine on_aload_nQ (pc' := 74) rfl rfl rfl rfl ?_
  first | apply on_get (pc' := 77) rfl rfl fl_Handshake_12 | apply on_getN (pc' := 77) rfl rfl fl_Handshake_12
  · repeat (first | assumption | exact on_up_eq _ _ _ | refine (on_up_ne (by omega)).trans ?_)
  · rfl
  first | refine on_aload_n (pc' := 78) rfl rfl rfl rfl ?_ | refine on_aload_nQ (pc' := 78) rfl rfl rfl rfl ?_
  first | apply on_get (pc' := 81) rfl rfl fl_Handshake_43 | apply on_getN (pc' := 81) rfl rfl fl_Handshake_43
  · repeat (first | assumption | exact on_up_eq _ _ _ | refine (on_up_ne (by omega)).trans ?_)
  · rfl
  refine on_callV (pc' := 84) (As := [.ref (o + 23)]) (rest := []) (b := o + 1) rfl rfl cw_Handshake_identify_92 X6'.1 rfl rfl (by decide) (Nat.zero_le _) (Nat.zero_le _) (c_Sha_end X6 (by rw [List.length_append, List.length_append, sp_sl_len, sp_sl_len]; decide) j6 (by omega)) ?_
  rintro r h7 sz ⟨rfl, rfl, S7, j7, t7⟩
  have K7 : hk_W o h7 := K6.hm S7 (K6.pa.keep (t7 _ (by omega) (by omega))) ⟨_, j7⟩ (q := o + 24) (K6.pr.keep (t7 _ (by omega) (by omega))) (by omega) (fun b h1 h2 h3 h4 => t7 b (by omega) (by omega))
  have r7 := (t7 a (by omega) (by omega)).trans r6
  have i7 := (t7 (a + 5) (by omega) (by omega)).trans ((t6 _ (by omega)).trans i5)
  have s7 := (t7 (a + 3) (by omega) (by omega)).trans ((t6 _ (by omega)).trans s5)
  clear ho
  have ho := K7.ob
  first | refine on_aload_n (pc' := 85) rfl rfl rfl rfl ?_ | refine on_aload_nQ (pc' := 85) rfl rfl rfl rfl ?_
  first | apply on_get (pc' := 88) rfl rfl fl_Handshake_43 | apply on_getN (pc' := 88) rfl rfl fl_Handshake_43
  · repeat (first | assumption | exact on_up_eq _ _ _ | refine (on_up_ne (by omega)).trans ?_)
  · rfl
  refine on_iconst (pc' := 89) (v := 0) rfl rfl li_0 ?_
  first | refine on_aload_n (pc' := 90) rfl rfl rfl rfl ?_ | refine on_aload_nQ (pc' := 90) rfl rfl rfl rfl ?_
  first | apply on_get (pc' := 93) rfl rfl fl_Handshake_96 | apply on_getN (pc' := 93) rfl rfl fl_Handshake_96
  · repeat (first | assumption | exact on_up_eq _ _ _ | refine (on_up_ne (by omega)).trans ?_)
  · rfl
  refine on_iconst (pc' := 94) (v := 0) rfl rfl li_0 ?_
  refine on_iconst (pc' := 95) (v := 4) rfl rfl li_4 ?_
  apply on_acopy (pc' := 98) (i0 := 0) (j0 := 0) (k0 := 4) rfl rfl jm_Handshake_64 (Nat.le_of_ble_eq_true rfl) (Nat.le_of_ble_eq_true rfl)
  · repeat (first | assumption | exact on_up_eq _ _ _ | refine (on_up_ne (by omega)).trans ?_)
  · repeat (first | assumption | exact on_up_eq _ _ _ | refine (on_up_ne (by omega)).trans ?_)
  · first | assumption | exact on_lit _ | rfl
  · first | assumption | exact on_lit _ | rfl
  · first | assumption | exact on_lit _ | rfl
  · first | assumption | omega | decide
  · first | assumption | omega | decide
  refine on_vreturn rfl rfl ?_
  refine ⟨rfl, rfl, K7.keep (fun b h1 h2 => on_up_ne (by omega)), ⟨_, (on_up_ne (by omega)).trans s7, fun i hi => ⟨hs3 i hi, sp_d_lt _ _⟩⟩, ⟨_, on_up_eq _ _ _, fun i hi => ⟨?_, rs_i_lt _ _⟩⟩, fun b h1 h2 h3 => ?_⟩
  · unfold rs_i
    by_cases e : i < 4
    · rw [if_pos e, pk_cpy_in (Nat.zero_le _) (show i < 0 + 4 by omega), on_tk_lt (show 0 + (i - 0) < 32 by omega), Nat.zero_add, Nat.sub_zero]
      rfl
    · rw [if_neg e, pk_cpy_out (show i < 0 ∨ 0 + 4 ≤ i by omega), show i = 4 + (i - 4) by omega, wr_in (by omega), show 4 + (i - 4) - 4 = i - 4 by omega]
      rfl
  · rw [on_up_ne h2, t7 b (by omega) (by omega), t6 b (by omega), t5 b (by omega) (by omega), t4 b h2 (by omega), u3 b h1 h3]
end IDN
