/-! the law: its cases -/
def lw_w (Q : Nat × Nat × (Nat → Int32)) (k : Nat) : Int64 := sl_l (Q.2.2 k).toInt64 32 ||| ((Q.2.2 (k + 1)).toInt64 &&& 4294967295)
def lw_K (G : on_G) (o p n : Nat) (Q : Nat × Nat × (Nat → Int32)) : Prop := ∀ (a2 : aN) (L2 : nL) (RA2 CA2 : Nat → Nat) (h2 : on_H) (z2 bc2 bs2 : Nat), lw_J o p z2 L2 RA2 CA2 ((n + 1) * 108540) a2 h2 → n_pc a2 + m_pc a2 ≤ bc2 → n_ps a2 + m_ps a2 ≤ bs2 → lx_E G M_Law_law 1046 (on_l [(0, .ref Q.1), (1, .ref o), (2, .ref p), (3, .int (nI (5 * n)))]) [] h2 z2 bc2 bs2 Q
section LWC
variable {G : on_G} {o p sz n bc bs : Nat} {L : nL} {RA CA : Nat → Nat} {a : aN} {h : on_H} {Q : Nat × Nat × (Nat → Int32)}
set_option maxHeartbeats 8000000 in
theorem lw_c0 (J : lw_J o p sz L RA CA (n * 108540) a h) (hn : 5 * n + 5 ≤ Q.2.1) (hL : Q.2.1 ≤ 2560) (hbc : n_pc a + m_pc a ≤ bc) (hbs : n_ps a + m_ps a ≤ bs) (kk : lw_K G o p n Q) : lx_E G M_Law_law 144 (on_l [(0, .ref Q.1), (1, .ref o), (2, .ref p), (3, .int (nI (5 * n)))]) [] h sz bc bs Q := by
  have X := J.1
  have V := J.2.2.1
  have o1 : h o = some (.inr (11, [.ref (o + 1), .ref (o + 2), .ref (o + 3), .ref (o + 4), .ref (o + 5), .ref (o + 34), .ref (o + 42), .ref (o + 43), .int (nI a.nr), .int (nI a.nk), .int (nI a.nc)])) := X.1.1
  have p1 := J.2.1.1.ob.1
  have e1 : nI (5 * n) + 1 = nI (5 * n + 1) := nI_add (5 * n) 1
  have i1 : 5 * n + 1 < Q.2.1 ∧ Q.2.1 < 2 ^ 31 := by omega
  have e2 : nI (5 * n) + 2 = nI (5 * n + 2) := nI_add (5 * n) 2
  have i2 : 5 * n + 2 < Q.2.1 ∧ Q.2.1 < 2 ^ 31 := by omega
  have e3 : nI (5 * n) + 3 = nI (5 * n + 3) := nI_add (5 * n) 3
  have i3 : 5 * n + 3 < Q.2.1 ∧ Q.2.1 < 2 ^ 31 := by omega
  have e4 : nI (5 * n) + 4 = nI (5 * n + 4) := nI_add (5 * n) 4
  have i4 : 5 * n + 4 < Q.2.1 ∧ Q.2.1 < 2 ^ 31 := by omega
  have qv : q_V ((n + 1) * 108540) a (q_relay a (lw_w Q (5 * n + 1))).2 := q_relay_ok V (by omega)
  obtain ⟨V2, qc, qs⟩ := qv
  refine lx_aload_n (pc' := 145) rfl rfl rfl rfl ?_
  refine lx_aload_n (pc' := 146) rfl rfl rfl rfl ?_
  refine lx_iload_n (pc' := 147) rfl rfl rfl rfl ?_
  refine lx_iconst (pc' := 148) (v := 1) rfl rfl li_1 ?_
  refine lx_iadd (pc' := 149) rfl rfl ?_
  apply lx_sld (pc' := 150) rfl rfl
  · first | assumption | rfl
  · assumption
  refine lx_i2l (pc' := 151) rfl rfl ?_
  refine lx_bipush (pc' := 153) (v := 32) rfl rfl lb_32 ?_
  refine lx_lshl (pc' := 154) rfl rfl ?_
  refine lx_aload_n (pc' := 155) rfl rfl rfl rfl ?_
  refine lx_iload_n (pc' := 156) rfl rfl rfl rfl ?_
  refine lx_iconst (pc' := 157) (v := 2) rfl rfl li_2 ?_
  refine lx_iadd (pc' := 158) rfl rfl ?_
  apply lx_sld (pc' := 159) rfl rfl
  · first | assumption | rfl
  · assumption
  refine lx_i2l (pc' := 160) rfl rfl ?_
  refine lx_ldc2 (pc' := 163) rfl rfl ld_Law_13 ?_
  refine lx_land (pc' := 164) rfl rfl ?_
  refine lx_lor (pc' := 165) rfl rfl ?_
  refine lx_callV (pc' := 168) (As := [.long (lw_w Q (5 * n + 1))]) (rest := []) (b := o) rfl rfl cw_Law_law_15 (o1) rfl rfl (Nat.le_of_ble_eq_true rfl) (by omega) (by omega) (c_N_relay (bc := n_pc a - n_pc (q_relay a (lw_w Q (5 * n + 1))).2) (bs := n_ps a - n_ps (q_relay a (lw_w Q (5 * n + 1))).2) X V ⟨by omega, by omega⟩) ?_
  rintro v h1 z1 ⟨rfl, R1⟩
  have Y1 := J.cls R1
  have p2 := Y1.1.ob.1
  show lx_E G M_Law_law 168 _ [.int (q_relay a (lw_w Q (5 * n + 1))).1] h1 z1 _ _ _
  refine lx_aload_n (pc' := 169) rfl rfl rfl rfl ?_
  refine lx_aload_n (pc' := 170) rfl rfl rfl rfl ?_
  refine lx_iload_n (pc' := 171) rfl rfl rfl rfl ?_
  refine lx_iconst (pc' := 172) (v := 1) rfl rfl li_1 ?_
  refine lx_iadd (pc' := 173) rfl rfl ?_
  apply lx_sld (pc' := 174) rfl rfl
  · first | assumption | rfl
  · assumption
  refine lx_i2l (pc' := 175) rfl rfl ?_
  refine lx_bipush (pc' := 177) (v := 32) rfl rfl lb_32 ?_
  refine lx_lshl (pc' := 178) rfl rfl ?_
  refine lx_aload_n (pc' := 179) rfl rfl rfl rfl ?_
  refine lx_iload_n (pc' := 180) rfl rfl rfl rfl ?_
  refine lx_iconst (pc' := 181) (v := 2) rfl rfl li_2 ?_
  refine lx_iadd (pc' := 182) rfl rfl ?_
  apply lx_sld (pc' := 183) rfl rfl
  · first | assumption | rfl
  · assumption
  refine lx_i2l (pc' := 184) rfl rfl ?_
  refine lx_ldc2 (pc' := 187) rfl rfl ld_Law_13 ?_
  refine lx_land (pc' := 188) rfl rfl ?_
  refine lx_lor (pc' := 189) rfl rfl ?_
  obtain ⟨m1, m2, m3⟩ := q_relay_m (a := a) (seed := (lw_w Q (5 * n + 1)))
  have mb := m3
  refine lx_callV (pc' := 192) (As := [.long (lw_w Q (5 * n + 1))]) (rest := [.int (q_relay a (lw_w Q (5 * n + 1))).1]) (b := p) rfl rfl cw_Law_law_19 (p2) rfl rfl (Nat.le_of_ble_eq_true rfl) (by omega) (by omega) (c_M_relay (bc := m_pc a - m_pc (q_relay a (lw_w Q (5 * n + 1))).2) (bs := m_ps a - m_ps (q_relay a (lw_w Q (5 * n + 1))).2) Y1 V mb) ?_
  rintro v h2 z2 ⟨rfl, R2⟩
  show lx_E G M_Law_law 192 _ [.int (q_relay a (lw_w Q (5 * n + 1))).1, .int (q_relay a (lw_w Q (5 * n + 1))).1] h2 z2 _ _ _
  refine lx_icmp_eq (pc' := 195) (tgt := 1046) rfl rfl rfl (fun cq => ?_) (fun cq => ?_)
  · obtain ⟨L3, RA2, CA2, J2⟩ := J.ref R1 R2 V2
    exact kk (q_relay a (lw_w Q (5 * n + 1))).2 L3 RA2 CA2 h2 _ _ _ J2 (by omega) (by omega)
  · exact absurd rfl cq
set_option maxHeartbeats 8000000 in
theorem lw_c1 (J : lw_J o p sz L RA CA (n * 108540) a h) (hn : 5 * n + 5 ≤ Q.2.1) (hL : Q.2.1 ≤ 2560) (hbc : n_pc a + m_pc a ≤ bc) (hbs : n_ps a + m_ps a ≤ bs) (kk : lw_K G o p n Q) : lx_E G M_Law_law 197 (on_l [(0, .ref Q.1), (1, .ref o), (2, .ref p), (3, .int (nI (5 * n)))]) [] h sz bc bs Q := by
  have X := J.1
  have V := J.2.2.1
  have o1 : h o = some (.inr (11, [.ref (o + 1), .ref (o + 2), .ref (o + 3), .ref (o + 4), .ref (o + 5), .ref (o + 34), .ref (o + 42), .ref (o + 43), .int (nI a.nr), .int (nI a.nk), .int (nI a.nc)])) := X.1.1
  have p1 := J.2.1.1.ob.1
  have e1 : nI (5 * n) + 1 = nI (5 * n + 1) := nI_add (5 * n) 1
  have i1 : 5 * n + 1 < Q.2.1 ∧ Q.2.1 < 2 ^ 31 := by omega
  have e2 : nI (5 * n) + 2 = nI (5 * n + 2) := nI_add (5 * n) 2
  have i2 : 5 * n + 2 < Q.2.1 ∧ Q.2.1 < 2 ^ 31 := by omega
  have e3 : nI (5 * n) + 3 = nI (5 * n + 3) := nI_add (5 * n) 3
  have i3 : 5 * n + 3 < Q.2.1 ∧ Q.2.1 < 2 ^ 31 := by omega
  have e4 : nI (5 * n) + 4 = nI (5 * n + 4) := nI_add (5 * n) 4
  have i4 : 5 * n + 4 < Q.2.1 ∧ Q.2.1 < 2 ^ 31 := by omega
  have qv : q_V ((n + 1) * 108540) a (q_client a (lw_w Q (5 * n + 1))).2 := q_client_ok V (by omega)
  obtain ⟨V2, qc, qs⟩ := qv
  refine lx_aload_n (pc' := 198) rfl rfl rfl rfl ?_
  refine lx_aload_n (pc' := 199) rfl rfl rfl rfl ?_
  refine lx_iload_n (pc' := 200) rfl rfl rfl rfl ?_
  refine lx_iconst (pc' := 201) (v := 1) rfl rfl li_1 ?_
  refine lx_iadd (pc' := 202) rfl rfl ?_
  apply lx_sld (pc' := 203) rfl rfl
  · first | assumption | rfl
  · assumption
  refine lx_i2l (pc' := 204) rfl rfl ?_
  refine lx_bipush (pc' := 206) (v := 32) rfl rfl lb_32 ?_
  refine lx_lshl (pc' := 207) rfl rfl ?_
  refine lx_aload_n (pc' := 208) rfl rfl rfl rfl ?_
  refine lx_iload_n (pc' := 209) rfl rfl rfl rfl ?_
  refine lx_iconst (pc' := 210) (v := 2) rfl rfl li_2 ?_
  refine lx_iadd (pc' := 211) rfl rfl ?_
  apply lx_sld (pc' := 212) rfl rfl
  · first | assumption | rfl
  · assumption
  refine lx_i2l (pc' := 213) rfl rfl ?_
  refine lx_ldc2 (pc' := 216) rfl rfl ld_Law_13 ?_
  refine lx_land (pc' := 217) rfl rfl ?_
  refine lx_lor (pc' := 218) rfl rfl ?_
  refine lx_callV (pc' := 221) (As := [.long (lw_w Q (5 * n + 1))]) (rest := []) (b := o) rfl rfl cw_Law_law_20 (o1) rfl rfl (Nat.le_of_ble_eq_true rfl) (by omega) (by omega) (c_N_client (bc := n_pc a - n_pc (q_client a (lw_w Q (5 * n + 1))).2) (bs := n_ps a - n_ps (q_client a (lw_w Q (5 * n + 1))).2) X V ⟨by omega, by omega⟩) ?_
  rintro v h1 z1 ⟨rfl, R1⟩
  have Y1 := J.cls R1
  have p2 := Y1.1.ob.1
  show lx_E G M_Law_law 221 _ [.int (q_client a (lw_w Q (5 * n + 1))).1] h1 z1 _ _ _
  refine lx_aload_n (pc' := 222) rfl rfl rfl rfl ?_
  refine lx_aload_n (pc' := 223) rfl rfl rfl rfl ?_
  refine lx_iload_n (pc' := 224) rfl rfl rfl rfl ?_
  refine lx_iconst (pc' := 225) (v := 1) rfl rfl li_1 ?_
  refine lx_iadd (pc' := 226) rfl rfl ?_
  apply lx_sld (pc' := 227) rfl rfl
  · first | assumption | rfl
  · assumption
  refine lx_i2l (pc' := 228) rfl rfl ?_
  refine lx_bipush (pc' := 230) (v := 32) rfl rfl lb_32 ?_
  refine lx_lshl (pc' := 231) rfl rfl ?_
  refine lx_aload_n (pc' := 232) rfl rfl rfl rfl ?_
  refine lx_iload_n (pc' := 233) rfl rfl rfl rfl ?_
  refine lx_iconst (pc' := 234) (v := 2) rfl rfl li_2 ?_
  refine lx_iadd (pc' := 235) rfl rfl ?_
  apply lx_sld (pc' := 236) rfl rfl
  · first | assumption | rfl
  · assumption
  refine lx_i2l (pc' := 237) rfl rfl ?_
  refine lx_ldc2 (pc' := 240) rfl rfl ld_Law_13 ?_
  refine lx_land (pc' := 241) rfl rfl ?_
  refine lx_lor (pc' := 242) rfl rfl ?_
  refine lx_callV (pc' := 245) (As := [.long (lw_w Q (5 * n + 1))]) (rest := [.int (q_client a (lw_w Q (5 * n + 1))).1]) (b := p) rfl rfl cw_Law_law_23 (p2) rfl rfl (Nat.le_of_ble_eq_true rfl) (Nat.zero_le _) (Nat.zero_le _) (c_M_client Y1 V) ?_
  rintro v h2 z2 ⟨rfl, rfl, Y2, f2⟩
  have n1 : (q_client a (lw_w Q (5 * n + 1))).2.nr = a.nr := q_client_n.1
  have n2 : (q_client a (lw_w Q (5 * n + 1))).2.nc = a.nc := q_client_n.2
  obtain ⟨m1, m2⟩ := m_pc_le n1 n2
  have R2 := m_R.of Y2 f2 n1 n2
  show lx_E G M_Law_law 245 _ [.int (q_client a (lw_w Q (5 * n + 1))).1, .int (q_client a (lw_w Q (5 * n + 1))).1] h2 z2 _ _ _
  refine lx_icmp_eq (pc' := 248) (tgt := 1046) rfl rfl rfl (fun cq => ?_) (fun cq => ?_)
  · obtain ⟨L3, RA2, CA2, J2⟩ := J.ref R1 R2 V2
    exact kk (q_client a (lw_w Q (5 * n + 1))).2 L3 RA2 CA2 h2 _ _ _ J2 (by omega) (by omega)
  · exact absurd rfl cq
set_option maxHeartbeats 8000000 in
theorem lw_c2 (J : lw_J o p sz L RA CA (n * 108540) a h) (hn : 5 * n + 5 ≤ Q.2.1) (hL : Q.2.1 ≤ 2560) (hbc : n_pc a + m_pc a ≤ bc) (hbs : n_ps a + m_ps a ≤ bs) (kk : lw_K G o p n Q) : lx_E G M_Law_law 250 (on_l [(0, .ref Q.1), (1, .ref o), (2, .ref p), (3, .int (nI (5 * n)))]) [] h sz bc bs Q := by
  have X := J.1
  have V := J.2.2.1
  have o1 : h o = some (.inr (11, [.ref (o + 1), .ref (o + 2), .ref (o + 3), .ref (o + 4), .ref (o + 5), .ref (o + 34), .ref (o + 42), .ref (o + 43), .int (nI a.nr), .int (nI a.nk), .int (nI a.nc)])) := X.1.1
  have p1 := J.2.1.1.ob.1
  have e1 : nI (5 * n) + 1 = nI (5 * n + 1) := nI_add (5 * n) 1
  have i1 : 5 * n + 1 < Q.2.1 ∧ Q.2.1 < 2 ^ 31 := by omega
  have e2 : nI (5 * n) + 2 = nI (5 * n + 2) := nI_add (5 * n) 2
  have i2 : 5 * n + 2 < Q.2.1 ∧ Q.2.1 < 2 ^ 31 := by omega
  have e3 : nI (5 * n) + 3 = nI (5 * n + 3) := nI_add (5 * n) 3
  have i3 : 5 * n + 3 < Q.2.1 ∧ Q.2.1 < 2 ^ 31 := by omega
  have e4 : nI (5 * n) + 4 = nI (5 * n + 4) := nI_add (5 * n) 4
  have i4 : 5 * n + 4 < Q.2.1 ∧ Q.2.1 < 2 ^ 31 := by omega
  refine lx_aload_n (pc' := 251) rfl rfl rfl rfl ?_
  refine lx_aload_n (pc' := 252) rfl rfl rfl rfl ?_
  refine lx_iload_n (pc' := 253) rfl rfl rfl rfl ?_
  refine lx_iconst (pc' := 254) (v := 1) rfl rfl li_1 ?_
  refine lx_iadd (pc' := 255) rfl rfl ?_
  apply lx_sld (pc' := 256) rfl rfl
  · first | assumption | rfl
  · assumption
  refine lx_aload_n (pc' := 257) rfl rfl rfl rfl ?_
  refine lx_iload_n (pc' := 258) rfl rfl rfl rfl ?_
  refine lx_iconst (pc' := 259) (v := 2) rfl rfl li_2 ?_
  refine lx_iadd (pc' := 260) rfl rfl ?_
  apply lx_sld (pc' := 261) rfl rfl
  · first | assumption | rfl
  · assumption
  refine lx_callV (pc' := 264) (As := [.int (Q.2.2 (5 * n + 1)), .int (Q.2.2 (5 * n + 2))]) (rest := []) (b := o) rfl rfl cw_Law_law_24 (o1) rfl rfl (Nat.le_of_ble_eq_true rfl) (Nat.zero_le _) (Nat.zero_le _) (c_N_key X V) ?_
  rintro v h sz ⟨rfl, rfl, rfl⟩
  show lx_E G M_Law_law 264 _ [.int (q_key a (Q.2.2 (5 * n + 1)) (Q.2.2 (5 * n + 2)))] h sz _ _ _
  refine lx_aload_n (pc' := 265) rfl rfl rfl rfl ?_
  refine lx_aload_n (pc' := 266) rfl rfl rfl rfl ?_
  refine lx_iload_n (pc' := 267) rfl rfl rfl rfl ?_
  refine lx_iconst (pc' := 268) (v := 1) rfl rfl li_1 ?_
  refine lx_iadd (pc' := 269) rfl rfl ?_
  apply lx_sld (pc' := 270) rfl rfl
  · first | assumption | rfl
  · assumption
  refine lx_aload_n (pc' := 271) rfl rfl rfl rfl ?_
  refine lx_iload_n (pc' := 272) rfl rfl rfl rfl ?_
  refine lx_iconst (pc' := 273) (v := 2) rfl rfl li_2 ?_
  refine lx_iadd (pc' := 274) rfl rfl ?_
  apply lx_sld (pc' := 275) rfl rfl
  · first | assumption | rfl
  · assumption
  refine lx_callV (pc' := 278) (As := [.int (Q.2.2 (5 * n + 1)), .int (Q.2.2 (5 * n + 2))]) (rest := [.int (q_key a (Q.2.2 (5 * n + 1)) (Q.2.2 (5 * n + 2)))]) (b := p) rfl rfl cw_Law_law_28 (p1) rfl rfl (Nat.le_of_ble_eq_true rfl) (Nat.zero_le _) (Nat.zero_le _) (c_M_key J.2.1 V) ?_
  rintro v h sz ⟨rfl, rfl, rfl⟩
  show lx_E G M_Law_law 278 _ [.int (q_key a (Q.2.2 (5 * n + 1)) (Q.2.2 (5 * n + 2))), .int (q_key a (Q.2.2 (5 * n + 1)) (Q.2.2 (5 * n + 2)))] h sz _ _ _
  refine lx_icmp_eq (pc' := 281) (tgt := 1046) rfl rfl rfl (fun cq => ?_) (fun cq => ?_)
  · exact kk a L RA CA h sz _ _ (J.up (by omega)) (by omega) (by omega)
  · exact absurd rfl cq
set_option maxHeartbeats 8000000 in
theorem lw_c3 (J : lw_J o p sz L RA CA (n * 108540) a h) (hn : 5 * n + 5 ≤ Q.2.1) (hL : Q.2.1 ≤ 2560) (hbc : n_pc a + m_pc a ≤ bc) (hbs : n_ps a + m_ps a ≤ bs) (kk : lw_K G o p n Q) : lx_E G M_Law_law 283 (on_l [(0, .ref Q.1), (1, .ref o), (2, .ref p), (3, .int (nI (5 * n)))]) [] h sz bc bs Q := by
  have X := J.1
  have V := J.2.2.1
  have o1 : h o = some (.inr (11, [.ref (o + 1), .ref (o + 2), .ref (o + 3), .ref (o + 4), .ref (o + 5), .ref (o + 34), .ref (o + 42), .ref (o + 43), .int (nI a.nr), .int (nI a.nk), .int (nI a.nc)])) := X.1.1
  have p1 := J.2.1.1.ob.1
  have e1 : nI (5 * n) + 1 = nI (5 * n + 1) := nI_add (5 * n) 1
  have i1 : 5 * n + 1 < Q.2.1 ∧ Q.2.1 < 2 ^ 31 := by omega
  have e2 : nI (5 * n) + 2 = nI (5 * n + 2) := nI_add (5 * n) 2
  have i2 : 5 * n + 2 < Q.2.1 ∧ Q.2.1 < 2 ^ 31 := by omega
  have e3 : nI (5 * n) + 3 = nI (5 * n + 3) := nI_add (5 * n) 3
  have i3 : 5 * n + 3 < Q.2.1 ∧ Q.2.1 < 2 ^ 31 := by omega
  have e4 : nI (5 * n) + 4 = nI (5 * n + 4) := nI_add (5 * n) 4
  have i4 : 5 * n + 4 < Q.2.1 ∧ Q.2.1 < 2 ^ 31 := by omega
  have qv : q_V ((n + 1) * 108540) a (q_weigh a (Q.2.2 (5 * n + 1)) (Q.2.2 (5 * n + 2))).2 := q_weigh_ok V (by omega)
  obtain ⟨V2, qc, qs⟩ := qv
  refine lx_aload_n (pc' := 284) rfl rfl rfl rfl ?_
  refine lx_aload_n (pc' := 285) rfl rfl rfl rfl ?_
  refine lx_iload_n (pc' := 286) rfl rfl rfl rfl ?_
  refine lx_iconst (pc' := 287) (v := 1) rfl rfl li_1 ?_
  refine lx_iadd (pc' := 288) rfl rfl ?_
  apply lx_sld (pc' := 289) rfl rfl
  · first | assumption | rfl
  · assumption
  refine lx_aload_n (pc' := 290) rfl rfl rfl rfl ?_
  refine lx_iload_n (pc' := 291) rfl rfl rfl rfl ?_
  refine lx_iconst (pc' := 292) (v := 2) rfl rfl li_2 ?_
  refine lx_iadd (pc' := 293) rfl rfl ?_
  apply lx_sld (pc' := 294) rfl rfl
  · first | assumption | rfl
  · assumption
  refine lx_callV (pc' := 297) (As := [.int (Q.2.2 (5 * n + 1)), .int (Q.2.2 (5 * n + 2))]) (rest := []) (b := o) rfl rfl cw_Law_law_29 (o1) rfl rfl (Nat.le_of_ble_eq_true rfl) (Nat.zero_le _) (Nat.zero_le _) (c_N_weigh X V) ?_
  rintro v h1 z1 ⟨rfl, R1⟩
  have Y1 := J.cls R1
  have p2 := Y1.1.ob.1
  show lx_E G M_Law_law 297 _ [.int (q_weigh a (Q.2.2 (5 * n + 1)) (Q.2.2 (5 * n + 2))).1] h1 z1 _ _ _
  refine lx_aload_n (pc' := 298) rfl rfl rfl rfl ?_
  refine lx_aload_n (pc' := 299) rfl rfl rfl rfl ?_
  refine lx_iload_n (pc' := 300) rfl rfl rfl rfl ?_
  refine lx_iconst (pc' := 301) (v := 1) rfl rfl li_1 ?_
  refine lx_iadd (pc' := 302) rfl rfl ?_
  apply lx_sld (pc' := 303) rfl rfl
  · first | assumption | rfl
  · assumption
  refine lx_aload_n (pc' := 304) rfl rfl rfl rfl ?_
  refine lx_iload_n (pc' := 305) rfl rfl rfl rfl ?_
  refine lx_iconst (pc' := 306) (v := 2) rfl rfl li_2 ?_
  refine lx_iadd (pc' := 307) rfl rfl ?_
  apply lx_sld (pc' := 308) rfl rfl
  · first | assumption | rfl
  · assumption
  refine lx_callV (pc' := 311) (As := [.int (Q.2.2 (5 * n + 1)), .int (Q.2.2 (5 * n + 2))]) (rest := [.int (q_weigh a (Q.2.2 (5 * n + 1)) (Q.2.2 (5 * n + 2))).1]) (b := p) rfl rfl cw_Law_law_33 (p2) rfl rfl (Nat.le_of_ble_eq_true rfl) (Nat.zero_le _) (Nat.zero_le _) (c_M_weigh Y1 V) ?_
  rintro v h2 z2 ⟨rfl, rfl, Y2, f2⟩
  have n1 : (q_weigh a (Q.2.2 (5 * n + 1)) (Q.2.2 (5 * n + 2))).2.nr = a.nr := q_weigh_n.1
  have n2 : (q_weigh a (Q.2.2 (5 * n + 1)) (Q.2.2 (5 * n + 2))).2.nc = a.nc := q_weigh_n.2
  obtain ⟨m1, m2⟩ := m_pc_le n1 n2
  have R2 := m_R.of Y2 f2 n1 n2
  show lx_E G M_Law_law 311 _ [.int (q_weigh a (Q.2.2 (5 * n + 1)) (Q.2.2 (5 * n + 2))).1, .int (q_weigh a (Q.2.2 (5 * n + 1)) (Q.2.2 (5 * n + 2))).1] h2 z2 _ _ _
  refine lx_icmp_eq (pc' := 314) (tgt := 1046) rfl rfl rfl (fun cq => ?_) (fun cq => ?_)
  · obtain ⟨L3, RA2, CA2, J2⟩ := J.ref R1 R2 V2
    exact kk (q_weigh a (Q.2.2 (5 * n + 1)) (Q.2.2 (5 * n + 2))).2 L3 RA2 CA2 h2 _ _ _ J2 (by omega) (by omega)
  · exact absurd rfl cq
set_option maxHeartbeats 8000000 in
theorem lw_c4 (J : lw_J o p sz L RA CA (n * 108540) a h) (hn : 5 * n + 5 ≤ Q.2.1) (hL : Q.2.1 ≤ 2560) (hbc : n_pc a + m_pc a ≤ bc) (hbs : n_ps a + m_ps a ≤ bs) (kk : lw_K G o p n Q) : lx_E G M_Law_law 316 (on_l [(0, .ref Q.1), (1, .ref o), (2, .ref p), (3, .int (nI (5 * n)))]) [] h sz bc bs Q := by
  have X := J.1
  have V := J.2.2.1
  have o1 : h o = some (.inr (11, [.ref (o + 1), .ref (o + 2), .ref (o + 3), .ref (o + 4), .ref (o + 5), .ref (o + 34), .ref (o + 42), .ref (o + 43), .int (nI a.nr), .int (nI a.nk), .int (nI a.nc)])) := X.1.1
  have p1 := J.2.1.1.ob.1
  have e1 : nI (5 * n) + 1 = nI (5 * n + 1) := nI_add (5 * n) 1
  have i1 : 5 * n + 1 < Q.2.1 ∧ Q.2.1 < 2 ^ 31 := by omega
  have e2 : nI (5 * n) + 2 = nI (5 * n + 2) := nI_add (5 * n) 2
  have i2 : 5 * n + 2 < Q.2.1 ∧ Q.2.1 < 2 ^ 31 := by omega
  have e3 : nI (5 * n) + 3 = nI (5 * n + 3) := nI_add (5 * n) 3
  have i3 : 5 * n + 3 < Q.2.1 ∧ Q.2.1 < 2 ^ 31 := by omega
  have e4 : nI (5 * n) + 4 = nI (5 * n + 4) := nI_add (5 * n) 4
  have i4 : 5 * n + 4 < Q.2.1 ∧ Q.2.1 < 2 ^ 31 := by omega
  refine lx_aload_n (pc' := 317) rfl rfl rfl rfl ?_
  refine lx_aload_n (pc' := 318) rfl rfl rfl rfl ?_
  refine lx_iload_n (pc' := 319) rfl rfl rfl rfl ?_
  refine lx_iconst (pc' := 320) (v := 1) rfl rfl li_1 ?_
  refine lx_iadd (pc' := 321) rfl rfl ?_
  apply lx_sld (pc' := 322) rfl rfl
  · first | assumption | rfl
  · assumption
  refine lx_i2l (pc' := 323) rfl rfl ?_
  refine lx_bipush (pc' := 325) (v := 32) rfl rfl lb_32 ?_
  refine lx_lshl (pc' := 326) rfl rfl ?_
  refine lx_aload_n (pc' := 327) rfl rfl rfl rfl ?_
  refine lx_iload_n (pc' := 328) rfl rfl rfl rfl ?_
  refine lx_iconst (pc' := 329) (v := 2) rfl rfl li_2 ?_
  refine lx_iadd (pc' := 330) rfl rfl ?_
  apply lx_sld (pc' := 331) rfl rfl
  · first | assumption | rfl
  · assumption
  refine lx_i2l (pc' := 332) rfl rfl ?_
  refine lx_ldc2 (pc' := 335) rfl rfl ld_Law_13 ?_
  refine lx_land (pc' := 336) rfl rfl ?_
  refine lx_lor (pc' := 337) rfl rfl ?_
  refine lx_aload_n (pc' := 338) rfl rfl rfl rfl ?_
  refine lx_iload_n (pc' := 339) rfl rfl rfl rfl ?_
  refine lx_iconst (pc' := 340) (v := 3) rfl rfl li_3 ?_
  refine lx_iadd (pc' := 341) rfl rfl ?_
  apply lx_sld (pc' := 342) rfl rfl
  · first | assumption | rfl
  · assumption
  refine lx_callV (pc' := 345) (As := [.long (lw_w Q (5 * n + 1)), .int (Q.2.2 (5 * n + 3))]) (rest := []) (b := o) rfl rfl cw_Law_law_34 (o1) rfl rfl (Nat.le_of_ble_eq_true rfl) (Nat.zero_le _) (Nat.zero_le _) (c_N_path X V) ?_
  rintro v h sz ⟨rfl, rfl, rfl⟩
  show lx_E G M_Law_law 345 _ [.int (q_path a (lw_w Q (5 * n + 1)) (Q.2.2 (5 * n + 3)))] h sz _ _ _
  refine lx_aload_n (pc' := 346) rfl rfl rfl rfl ?_
  refine lx_aload_n (pc' := 347) rfl rfl rfl rfl ?_
  refine lx_iload_n (pc' := 348) rfl rfl rfl rfl ?_
  refine lx_iconst (pc' := 349) (v := 1) rfl rfl li_1 ?_
  refine lx_iadd (pc' := 350) rfl rfl ?_
  apply lx_sld (pc' := 351) rfl rfl
  · first | assumption | rfl
  · assumption
  refine lx_i2l (pc' := 352) rfl rfl ?_
  refine lx_bipush (pc' := 354) (v := 32) rfl rfl lb_32 ?_
  refine lx_lshl (pc' := 355) rfl rfl ?_
  refine lx_aload_n (pc' := 356) rfl rfl rfl rfl ?_
  refine lx_iload_n (pc' := 357) rfl rfl rfl rfl ?_
  refine lx_iconst (pc' := 358) (v := 2) rfl rfl li_2 ?_
  refine lx_iadd (pc' := 359) rfl rfl ?_
  apply lx_sld (pc' := 360) rfl rfl
  · first | assumption | rfl
  · assumption
  refine lx_i2l (pc' := 361) rfl rfl ?_
  refine lx_ldc2 (pc' := 364) rfl rfl ld_Law_13 ?_
  refine lx_land (pc' := 365) rfl rfl ?_
  refine lx_lor (pc' := 366) rfl rfl ?_
  refine lx_aload_n (pc' := 367) rfl rfl rfl rfl ?_
  refine lx_iload_n (pc' := 368) rfl rfl rfl rfl ?_
  refine lx_iconst (pc' := 369) (v := 3) rfl rfl li_3 ?_
  refine lx_iadd (pc' := 370) rfl rfl ?_
  apply lx_sld (pc' := 371) rfl rfl
  · first | assumption | rfl
  · assumption
  refine lx_callV (pc' := 374) (As := [.long (lw_w Q (5 * n + 1)), .int (Q.2.2 (5 * n + 3))]) (rest := [.int (q_path a (lw_w Q (5 * n + 1)) (Q.2.2 (5 * n + 3)))]) (b := p) rfl rfl cw_Law_law_38 (p1) rfl rfl (Nat.le_of_ble_eq_true rfl) (Nat.zero_le _) (Nat.zero_le _) (c_M_path J.2.1 V) ?_
  rintro v h sz ⟨rfl, rfl, rfl⟩
  show lx_E G M_Law_law 374 _ [.int (q_path a (lw_w Q (5 * n + 1)) (Q.2.2 (5 * n + 3))), .int (q_path a (lw_w Q (5 * n + 1)) (Q.2.2 (5 * n + 3)))] h sz _ _ _
  refine lx_icmp_eq (pc' := 377) (tgt := 1046) rfl rfl rfl (fun cq => ?_) (fun cq => ?_)
  · exact kk a L RA CA h sz _ _ (J.up (by omega)) (by omega) (by omega)
  · exact absurd rfl cq
set_option maxHeartbeats 8000000 in
theorem lw_c5 (J : lw_J o p sz L RA CA (n * 108540) a h) (hn : 5 * n + 5 ≤ Q.2.1) (hL : Q.2.1 ≤ 2560) (hbc : n_pc a + m_pc a ≤ bc) (hbs : n_ps a + m_ps a ≤ bs) (kk : lw_K G o p n Q) : lx_E G M_Law_law 379 (on_l [(0, .ref Q.1), (1, .ref o), (2, .ref p), (3, .int (nI (5 * n)))]) [] h sz bc bs Q := by
  have X := J.1
  have V := J.2.2.1
  have o1 : h o = some (.inr (11, [.ref (o + 1), .ref (o + 2), .ref (o + 3), .ref (o + 4), .ref (o + 5), .ref (o + 34), .ref (o + 42), .ref (o + 43), .int (nI a.nr), .int (nI a.nk), .int (nI a.nc)])) := X.1.1
  have p1 := J.2.1.1.ob.1
  have e1 : nI (5 * n) + 1 = nI (5 * n + 1) := nI_add (5 * n) 1
  have i1 : 5 * n + 1 < Q.2.1 ∧ Q.2.1 < 2 ^ 31 := by omega
  have e2 : nI (5 * n) + 2 = nI (5 * n + 2) := nI_add (5 * n) 2
  have i2 : 5 * n + 2 < Q.2.1 ∧ Q.2.1 < 2 ^ 31 := by omega
  have e3 : nI (5 * n) + 3 = nI (5 * n + 3) := nI_add (5 * n) 3
  have i3 : 5 * n + 3 < Q.2.1 ∧ Q.2.1 < 2 ^ 31 := by omega
  have e4 : nI (5 * n) + 4 = nI (5 * n + 4) := nI_add (5 * n) 4
  have i4 : 5 * n + 4 < Q.2.1 ∧ Q.2.1 < 2 ^ 31 := by omega
  have qv : q_V ((n + 1) * 108540) a a := ⟨V.up (by omega), Nat.le_refl _, Nat.le_refl _⟩
  obtain ⟨V2, qc, qs⟩ := qv
  refine lx_aload_n (pc' := 380) rfl rfl rfl rfl ?_
  refine lx_aload_n (pc' := 381) rfl rfl rfl rfl ?_
  refine lx_iload_n (pc' := 382) rfl rfl rfl rfl ?_
  refine lx_iconst (pc' := 383) (v := 1) rfl rfl li_1 ?_
  refine lx_iadd (pc' := 384) rfl rfl ?_
  apply lx_sld (pc' := 385) rfl rfl
  · first | assumption | rfl
  · assumption
  refine lx_callV (pc' := 388) (As := [.int (Q.2.2 (5 * n + 1))]) (rest := []) (b := o) rfl rfl cw_Law_law_39 (o1) rfl rfl (Nat.le_of_ble_eq_true rfl) (Nat.zero_le _) (Nat.zero_le _) (c_N_seal X V) ?_
  rintro v h1 z1 ⟨rfl, R1⟩
  have Y1 := J.cls R1
  have p2 := Y1.1.ob.1
  show lx_E G M_Law_law 388 _ [.int (q_seal a (Q.2.2 (5 * n + 1)))] h1 z1 _ _ _
  refine lx_aload_n (pc' := 389) rfl rfl rfl rfl ?_
  refine lx_aload_n (pc' := 390) rfl rfl rfl rfl ?_
  refine lx_iload_n (pc' := 391) rfl rfl rfl rfl ?_
  refine lx_iconst (pc' := 392) (v := 1) rfl rfl li_1 ?_
  refine lx_iadd (pc' := 393) rfl rfl ?_
  apply lx_sld (pc' := 394) rfl rfl
  · first | assumption | rfl
  · assumption
  refine lx_callV (pc' := 397) (As := [.int (Q.2.2 (5 * n + 1))]) (rest := [.int (q_seal a (Q.2.2 (5 * n + 1)))]) (b := p) rfl rfl cw_Law_law_43 (p2) rfl rfl (Nat.le_of_ble_eq_true rfl) (Nat.zero_le _) (Nat.zero_le _) (c_M_seal Y1 V) ?_
  rintro v h2 z2 ⟨rfl, rfl, Y2, f2⟩
  have n1 : a.nr = a.nr := rfl
  have n2 : a.nc = a.nc := rfl
  obtain ⟨m1, m2⟩ := m_pc_le n1 n2
  have R2 := m_R.of Y2 f2 n1 n2
  show lx_E G M_Law_law 397 _ [.int (q_seal a (Q.2.2 (5 * n + 1))), .int (q_seal a (Q.2.2 (5 * n + 1)))] h2 z2 _ _ _
  refine lx_icmp_eq (pc' := 400) (tgt := 1046) rfl rfl rfl (fun cq => ?_) (fun cq => ?_)
  · obtain ⟨L3, RA2, CA2, J2⟩ := J.ref R1 R2 V2
    exact kk a L3 RA2 CA2 h2 _ _ _ J2 (by omega) (by omega)
  · exact absurd rfl cq
set_option maxHeartbeats 8000000 in
theorem lw_c6 (J : lw_J o p sz L RA CA (n * 108540) a h) (hn : 5 * n + 5 ≤ Q.2.1) (hL : Q.2.1 ≤ 2560) (hbc : n_pc a + m_pc a ≤ bc) (hbs : n_ps a + m_ps a ≤ bs) (kk : lw_K G o p n Q) : lx_E G M_Law_law 402 (on_l [(0, .ref Q.1), (1, .ref o), (2, .ref p), (3, .int (nI (5 * n)))]) [] h sz bc bs Q := by
  have X := J.1
  have V := J.2.2.1
  have o1 : h o = some (.inr (11, [.ref (o + 1), .ref (o + 2), .ref (o + 3), .ref (o + 4), .ref (o + 5), .ref (o + 34), .ref (o + 42), .ref (o + 43), .int (nI a.nr), .int (nI a.nk), .int (nI a.nc)])) := X.1.1
  have p1 := J.2.1.1.ob.1
  have e1 : nI (5 * n) + 1 = nI (5 * n + 1) := nI_add (5 * n) 1
  have i1 : 5 * n + 1 < Q.2.1 ∧ Q.2.1 < 2 ^ 31 := by omega
  have e2 : nI (5 * n) + 2 = nI (5 * n + 2) := nI_add (5 * n) 2
  have i2 : 5 * n + 2 < Q.2.1 ∧ Q.2.1 < 2 ^ 31 := by omega
  have e3 : nI (5 * n) + 3 = nI (5 * n + 3) := nI_add (5 * n) 3
  have i3 : 5 * n + 3 < Q.2.1 ∧ Q.2.1 < 2 ^ 31 := by omega
  have e4 : nI (5 * n) + 4 = nI (5 * n + 4) := nI_add (5 * n) 4
  have i4 : 5 * n + 4 < Q.2.1 ∧ Q.2.1 < 2 ^ 31 := by omega
  have qv : q_V ((n + 1) * 108540) a (q_circuit a (Q.2.2 (5 * n + 1)) (Q.2.2 (5 * n + 2)) (Q.2.2 (5 * n + 3)) (Q.2.2 (5 * n + 4))).2 := q_circuit_ok V (by omega)
  obtain ⟨V2, qc, qs⟩ := qv
  refine lx_aload_n (pc' := 403) rfl rfl rfl rfl ?_
  refine lx_aload_n (pc' := 404) rfl rfl rfl rfl ?_
  refine lx_iload_n (pc' := 405) rfl rfl rfl rfl ?_
  refine lx_iconst (pc' := 406) (v := 1) rfl rfl li_1 ?_
  refine lx_iadd (pc' := 407) rfl rfl ?_
  apply lx_sld (pc' := 408) rfl rfl
  · first | assumption | rfl
  · assumption
  refine lx_aload_n (pc' := 409) rfl rfl rfl rfl ?_
  refine lx_iload_n (pc' := 410) rfl rfl rfl rfl ?_
  refine lx_iconst (pc' := 411) (v := 2) rfl rfl li_2 ?_
  refine lx_iadd (pc' := 412) rfl rfl ?_
  apply lx_sld (pc' := 413) rfl rfl
  · first | assumption | rfl
  · assumption
  refine lx_aload_n (pc' := 414) rfl rfl rfl rfl ?_
  refine lx_iload_n (pc' := 415) rfl rfl rfl rfl ?_
  refine lx_iconst (pc' := 416) (v := 3) rfl rfl li_3 ?_
  refine lx_iadd (pc' := 417) rfl rfl ?_
  apply lx_sld (pc' := 418) rfl rfl
  · first | assumption | rfl
  · assumption
  refine lx_aload_n (pc' := 419) rfl rfl rfl rfl ?_
  refine lx_iload_n (pc' := 420) rfl rfl rfl rfl ?_
  refine lx_iconst (pc' := 421) (v := 4) rfl rfl li_4 ?_
  refine lx_iadd (pc' := 422) rfl rfl ?_
  apply lx_sld (pc' := 423) rfl rfl
  · first | assumption | rfl
  · assumption
  refine lx_callV (pc' := 426) (As := [.int (Q.2.2 (5 * n + 1)), .int (Q.2.2 (5 * n + 2)), .int (Q.2.2 (5 * n + 3)), .int (Q.2.2 (5 * n + 4))]) (rest := []) (b := o) rfl rfl cw_Law_law_44 (o1) rfl rfl (Nat.le_of_ble_eq_true rfl) (by omega) (by omega) (c_N_circuit (bc := n_pc a - n_pc (q_circuit a (Q.2.2 (5 * n + 1)) (Q.2.2 (5 * n + 2)) (Q.2.2 (5 * n + 3)) (Q.2.2 (5 * n + 4))).2) (bs := n_ps a - n_ps (q_circuit a (Q.2.2 (5 * n + 1)) (Q.2.2 (5 * n + 2)) (Q.2.2 (5 * n + 3)) (Q.2.2 (5 * n + 4))).2) X V ⟨by omega, by omega⟩) ?_
  rintro v h1 z1 ⟨rfl, R1⟩
  have Y1 := J.cls R1
  have p2 := Y1.1.ob.1
  show lx_E G M_Law_law 426 _ [.int (q_circuit a (Q.2.2 (5 * n + 1)) (Q.2.2 (5 * n + 2)) (Q.2.2 (5 * n + 3)) (Q.2.2 (5 * n + 4))).1] h1 z1 _ _ _
  refine lx_aload_n (pc' := 427) rfl rfl rfl rfl ?_
  refine lx_aload_n (pc' := 428) rfl rfl rfl rfl ?_
  refine lx_iload_n (pc' := 429) rfl rfl rfl rfl ?_
  refine lx_iconst (pc' := 430) (v := 1) rfl rfl li_1 ?_
  refine lx_iadd (pc' := 431) rfl rfl ?_
  apply lx_sld (pc' := 432) rfl rfl
  · first | assumption | rfl
  · assumption
  refine lx_aload_n (pc' := 433) rfl rfl rfl rfl ?_
  refine lx_iload_n (pc' := 434) rfl rfl rfl rfl ?_
  refine lx_iconst (pc' := 435) (v := 2) rfl rfl li_2 ?_
  refine lx_iadd (pc' := 436) rfl rfl ?_
  apply lx_sld (pc' := 437) rfl rfl
  · first | assumption | rfl
  · assumption
  refine lx_aload_n (pc' := 438) rfl rfl rfl rfl ?_
  refine lx_iload_n (pc' := 439) rfl rfl rfl rfl ?_
  refine lx_iconst (pc' := 440) (v := 3) rfl rfl li_3 ?_
  refine lx_iadd (pc' := 441) rfl rfl ?_
  apply lx_sld (pc' := 442) rfl rfl
  · first | assumption | rfl
  · assumption
  refine lx_aload_n (pc' := 443) rfl rfl rfl rfl ?_
  refine lx_iload_n (pc' := 444) rfl rfl rfl rfl ?_
  refine lx_iconst (pc' := 445) (v := 4) rfl rfl li_4 ?_
  refine lx_iadd (pc' := 446) rfl rfl ?_
  apply lx_sld (pc' := 447) rfl rfl
  · first | assumption | rfl
  · assumption
  obtain ⟨m1, m2, m3⟩ := q_circuit_m (a := a) (cl := (Q.2.2 (5 * n + 1))) (x := (Q.2.2 (5 * n + 2))) (y := (Q.2.2 (5 * n + 3))) (z := (Q.2.2 (5 * n + 4)))
  have mb : (q_circuit a (Q.2.2 (5 * n + 1)) (Q.2.2 (5 * n + 2)) (Q.2.2 (5 * n + 3)) (Q.2.2 (5 * n + 4))).2.nc = a.nc + 1 → 38 ≤ m_pc a - m_pc (q_circuit a (Q.2.2 (5 * n + 1)) (Q.2.2 (5 * n + 2)) (Q.2.2 (5 * n + 3)) (Q.2.2 (5 * n + 4))).2 ∧ 10334 ≤ m_ps a - m_ps (q_circuit a (Q.2.2 (5 * n + 1)) (Q.2.2 (5 * n + 2)) (Q.2.2 (5 * n + 3)) (Q.2.2 (5 * n + 4))).2 := fun u => by
    have := m3 u (by have := V2.1.2.2; omega)
    omega
  refine lx_callV (pc' := 450) (As := [.int (Q.2.2 (5 * n + 1)), .int (Q.2.2 (5 * n + 2)), .int (Q.2.2 (5 * n + 3)), .int (Q.2.2 (5 * n + 4))]) (rest := [.int (q_circuit a (Q.2.2 (5 * n + 1)) (Q.2.2 (5 * n + 2)) (Q.2.2 (5 * n + 3)) (Q.2.2 (5 * n + 4))).1]) (b := p) rfl rfl cw_Law_law_48 (p2) rfl rfl (Nat.le_of_ble_eq_true rfl) (by omega) (by omega) (c_M_circuit (bc := m_pc a - m_pc (q_circuit a (Q.2.2 (5 * n + 1)) (Q.2.2 (5 * n + 2)) (Q.2.2 (5 * n + 3)) (Q.2.2 (5 * n + 4))).2) (bs := m_ps a - m_ps (q_circuit a (Q.2.2 (5 * n + 1)) (Q.2.2 (5 * n + 2)) (Q.2.2 (5 * n + 3)) (Q.2.2 (5 * n + 4))).2) Y1 V mb) ?_
  rintro v h2 z2 ⟨rfl, R2⟩
  show lx_E G M_Law_law 450 _ [.int (q_circuit a (Q.2.2 (5 * n + 1)) (Q.2.2 (5 * n + 2)) (Q.2.2 (5 * n + 3)) (Q.2.2 (5 * n + 4))).1, .int (q_circuit a (Q.2.2 (5 * n + 1)) (Q.2.2 (5 * n + 2)) (Q.2.2 (5 * n + 3)) (Q.2.2 (5 * n + 4))).1] h2 z2 _ _ _
  refine lx_icmp_eq (pc' := 453) (tgt := 1046) rfl rfl rfl (fun cq => ?_) (fun cq => ?_)
  · obtain ⟨L3, RA2, CA2, J2⟩ := J.ref R1 R2 V2
    exact kk (q_circuit a (Q.2.2 (5 * n + 1)) (Q.2.2 (5 * n + 2)) (Q.2.2 (5 * n + 3)) (Q.2.2 (5 * n + 4))).2 L3 RA2 CA2 h2 _ _ _ J2 (by omega) (by omega)
  · exact absurd rfl cq
set_option maxHeartbeats 8000000 in
theorem lw_c7 (J : lw_J o p sz L RA CA (n * 108540) a h) (hn : 5 * n + 5 ≤ Q.2.1) (hL : Q.2.1 ≤ 2560) (hbc : n_pc a + m_pc a ≤ bc) (hbs : n_ps a + m_ps a ≤ bs) (kk : lw_K G o p n Q) : lx_E G M_Law_law 455 (on_l [(0, .ref Q.1), (1, .ref o), (2, .ref p), (3, .int (nI (5 * n)))]) [] h sz bc bs Q := by
  have X := J.1
  have V := J.2.2.1
  have o1 : h o = some (.inr (11, [.ref (o + 1), .ref (o + 2), .ref (o + 3), .ref (o + 4), .ref (o + 5), .ref (o + 34), .ref (o + 42), .ref (o + 43), .int (nI a.nr), .int (nI a.nk), .int (nI a.nc)])) := X.1.1
  have p1 := J.2.1.1.ob.1
  have e1 : nI (5 * n) + 1 = nI (5 * n + 1) := nI_add (5 * n) 1
  have i1 : 5 * n + 1 < Q.2.1 ∧ Q.2.1 < 2 ^ 31 := by omega
  have e2 : nI (5 * n) + 2 = nI (5 * n + 2) := nI_add (5 * n) 2
  have i2 : 5 * n + 2 < Q.2.1 ∧ Q.2.1 < 2 ^ 31 := by omega
  have e3 : nI (5 * n) + 3 = nI (5 * n + 3) := nI_add (5 * n) 3
  have i3 : 5 * n + 3 < Q.2.1 ∧ Q.2.1 < 2 ^ 31 := by omega
  have e4 : nI (5 * n) + 4 = nI (5 * n + 4) := nI_add (5 * n) 4
  have i4 : 5 * n + 4 < Q.2.1 ∧ Q.2.1 < 2 ^ 31 := by omega
  have qv : q_V ((n + 1) * 108540) a (q_stream a (Q.2.2 (5 * n + 1)) (Q.2.2 (5 * n + 2))).2 := q_stream_ok V (by omega)
  obtain ⟨V2, qc, qs⟩ := qv
  refine lx_aload_n (pc' := 456) rfl rfl rfl rfl ?_
  refine lx_aload_n (pc' := 457) rfl rfl rfl rfl ?_
  refine lx_iload_n (pc' := 458) rfl rfl rfl rfl ?_
  refine lx_iconst (pc' := 459) (v := 1) rfl rfl li_1 ?_
  refine lx_iadd (pc' := 460) rfl rfl ?_
  apply lx_sld (pc' := 461) rfl rfl
  · first | assumption | rfl
  · assumption
  refine lx_aload_n (pc' := 462) rfl rfl rfl rfl ?_
  refine lx_iload_n (pc' := 463) rfl rfl rfl rfl ?_
  refine lx_iconst (pc' := 464) (v := 2) rfl rfl li_2 ?_
  refine lx_iadd (pc' := 465) rfl rfl ?_
  apply lx_sld (pc' := 466) rfl rfl
  · first | assumption | rfl
  · assumption
  refine lx_callV (pc' := 469) (As := [.int (Q.2.2 (5 * n + 1)), .int (Q.2.2 (5 * n + 2))]) (rest := []) (b := o) rfl rfl cw_Law_law_49 (o1) rfl rfl (Nat.le_of_ble_eq_true rfl) (by omega) (by omega) (c_N_stream (bc := n_pc a - n_pc (q_stream a (Q.2.2 (5 * n + 1)) (Q.2.2 (5 * n + 2))).2) (bs := n_ps a - n_ps (q_stream a (Q.2.2 (5 * n + 1)) (Q.2.2 (5 * n + 2))).2) X V (by omega) ⟨by omega, by omega⟩) ?_
  rintro v h1 z1 ⟨rfl, R1⟩
  have Y1 := J.cls R1
  have p2 := Y1.1.ob.1
  show lx_E G M_Law_law 469 _ [.int (q_stream a (Q.2.2 (5 * n + 1)) (Q.2.2 (5 * n + 2))).1] h1 z1 _ _ _
  refine lx_aload_n (pc' := 470) rfl rfl rfl rfl ?_
  refine lx_aload_n (pc' := 471) rfl rfl rfl rfl ?_
  refine lx_iload_n (pc' := 472) rfl rfl rfl rfl ?_
  refine lx_iconst (pc' := 473) (v := 1) rfl rfl li_1 ?_
  refine lx_iadd (pc' := 474) rfl rfl ?_
  apply lx_sld (pc' := 475) rfl rfl
  · first | assumption | rfl
  · assumption
  refine lx_aload_n (pc' := 476) rfl rfl rfl rfl ?_
  refine lx_iload_n (pc' := 477) rfl rfl rfl rfl ?_
  refine lx_iconst (pc' := 478) (v := 2) rfl rfl li_2 ?_
  refine lx_iadd (pc' := 479) rfl rfl ?_
  apply lx_sld (pc' := 480) rfl rfl
  · first | assumption | rfl
  · assumption
  refine lx_callV (pc' := 483) (As := [.int (Q.2.2 (5 * n + 1)), .int (Q.2.2 (5 * n + 2))]) (rest := [.int (q_stream a (Q.2.2 (5 * n + 1)) (Q.2.2 (5 * n + 2))).1]) (b := p) rfl rfl cw_Law_law_52 (p2) rfl rfl (Nat.le_of_ble_eq_true rfl) (Nat.zero_le _) (Nat.zero_le _) (c_M_stream Y1 V (by omega)) ?_
  rintro v h2 z2 ⟨rfl, rfl, Y2, f2⟩
  have n1 : (q_stream a (Q.2.2 (5 * n + 1)) (Q.2.2 (5 * n + 2))).2.nr = a.nr := q_stream_n.1
  have n2 : (q_stream a (Q.2.2 (5 * n + 1)) (Q.2.2 (5 * n + 2))).2.nc = a.nc := q_stream_n.2
  obtain ⟨m1, m2⟩ := m_pc_le n1 n2
  have R2 := m_R.of Y2 f2 n1 n2
  show lx_E G M_Law_law 483 _ [.int (q_stream a (Q.2.2 (5 * n + 1)) (Q.2.2 (5 * n + 2))).1, .int (q_stream a (Q.2.2 (5 * n + 1)) (Q.2.2 (5 * n + 2))).1] h2 z2 _ _ _
  refine lx_icmp_eq (pc' := 486) (tgt := 1046) rfl rfl rfl (fun cq => ?_) (fun cq => ?_)
  · obtain ⟨L3, RA2, CA2, J2⟩ := J.ref R1 R2 V2
    exact kk (q_stream a (Q.2.2 (5 * n + 1)) (Q.2.2 (5 * n + 2))).2 L3 RA2 CA2 h2 _ _ _ J2 (by omega) (by omega)
  · exact absurd rfl cq
set_option maxHeartbeats 8000000 in
theorem lw_c8 (J : lw_J o p sz L RA CA (n * 108540) a h) (hn : 5 * n + 5 ≤ Q.2.1) (hL : Q.2.1 ≤ 2560) (hbc : n_pc a + m_pc a ≤ bc) (hbs : n_ps a + m_ps a ≤ bs) (kk : lw_K G o p n Q) : lx_E G M_Law_law 488 (on_l [(0, .ref Q.1), (1, .ref o), (2, .ref p), (3, .int (nI (5 * n)))]) [] h sz bc bs Q := by
  have X := J.1
  have V := J.2.2.1
  have o1 : h o = some (.inr (11, [.ref (o + 1), .ref (o + 2), .ref (o + 3), .ref (o + 4), .ref (o + 5), .ref (o + 34), .ref (o + 42), .ref (o + 43), .int (nI a.nr), .int (nI a.nk), .int (nI a.nc)])) := X.1.1
  have p1 := J.2.1.1.ob.1
  have e1 : nI (5 * n) + 1 = nI (5 * n + 1) := nI_add (5 * n) 1
  have i1 : 5 * n + 1 < Q.2.1 ∧ Q.2.1 < 2 ^ 31 := by omega
  have e2 : nI (5 * n) + 2 = nI (5 * n + 2) := nI_add (5 * n) 2
  have i2 : 5 * n + 2 < Q.2.1 ∧ Q.2.1 < 2 ^ 31 := by omega
  have e3 : nI (5 * n) + 3 = nI (5 * n + 3) := nI_add (5 * n) 3
  have i3 : 5 * n + 3 < Q.2.1 ∧ Q.2.1 < 2 ^ 31 := by omega
  have e4 : nI (5 * n) + 4 = nI (5 * n + 4) := nI_add (5 * n) 4
  have i4 : 5 * n + 4 < Q.2.1 ∧ Q.2.1 < 2 ^ 31 := by omega
  have qv : q_V ((n + 1) * 108540) a (q_put a (Q.2.2 (5 * n + 1)) (Q.2.2 (5 * n + 2)) (Q.2.2 (5 * n + 3))).2 := q_put_ok V (by omega)
  obtain ⟨V2, qc, qs⟩ := qv
  refine lx_aload_n (pc' := 489) rfl rfl rfl rfl ?_
  refine lx_aload_n (pc' := 490) rfl rfl rfl rfl ?_
  refine lx_iload_n (pc' := 491) rfl rfl rfl rfl ?_
  refine lx_iconst (pc' := 492) (v := 1) rfl rfl li_1 ?_
  refine lx_iadd (pc' := 493) rfl rfl ?_
  apply lx_sld (pc' := 494) rfl rfl
  · first | assumption | rfl
  · assumption
  refine lx_aload_n (pc' := 495) rfl rfl rfl rfl ?_
  refine lx_iload_n (pc' := 496) rfl rfl rfl rfl ?_
  refine lx_iconst (pc' := 497) (v := 2) rfl rfl li_2 ?_
  refine lx_iadd (pc' := 498) rfl rfl ?_
  apply lx_sld (pc' := 499) rfl rfl
  · first | assumption | rfl
  · assumption
  refine lx_aload_n (pc' := 500) rfl rfl rfl rfl ?_
  refine lx_iload_n (pc' := 501) rfl rfl rfl rfl ?_
  refine lx_iconst (pc' := 502) (v := 3) rfl rfl li_3 ?_
  refine lx_iadd (pc' := 503) rfl rfl ?_
  apply lx_sld (pc' := 504) rfl rfl
  · first | assumption | rfl
  · assumption
  refine lx_callV (pc' := 507) (As := [.int (Q.2.2 (5 * n + 1)), .int (Q.2.2 (5 * n + 2)), .int (Q.2.2 (5 * n + 3))]) (rest := []) (b := o) rfl rfl cw_Law_law_53 (o1) rfl rfl (Nat.le_of_ble_eq_true rfl) (Nat.zero_le _) (Nat.zero_le _) (c_N_put X V) ?_
  rintro v h1 z1 ⟨rfl, R1⟩
  have Y1 := J.cls R1
  have p2 := Y1.1.ob.1
  show lx_E G M_Law_law 507 _ [.int (q_put a (Q.2.2 (5 * n + 1)) (Q.2.2 (5 * n + 2)) (Q.2.2 (5 * n + 3))).1] h1 z1 _ _ _
  refine lx_aload_n (pc' := 508) rfl rfl rfl rfl ?_
  refine lx_aload_n (pc' := 509) rfl rfl rfl rfl ?_
  refine lx_iload_n (pc' := 510) rfl rfl rfl rfl ?_
  refine lx_iconst (pc' := 511) (v := 1) rfl rfl li_1 ?_
  refine lx_iadd (pc' := 512) rfl rfl ?_
  apply lx_sld (pc' := 513) rfl rfl
  · first | assumption | rfl
  · assumption
  refine lx_aload_n (pc' := 514) rfl rfl rfl rfl ?_
  refine lx_iload_n (pc' := 515) rfl rfl rfl rfl ?_
  refine lx_iconst (pc' := 516) (v := 2) rfl rfl li_2 ?_
  refine lx_iadd (pc' := 517) rfl rfl ?_
  apply lx_sld (pc' := 518) rfl rfl
  · first | assumption | rfl
  · assumption
  refine lx_aload_n (pc' := 519) rfl rfl rfl rfl ?_
  refine lx_iload_n (pc' := 520) rfl rfl rfl rfl ?_
  refine lx_iconst (pc' := 521) (v := 3) rfl rfl li_3 ?_
  refine lx_iadd (pc' := 522) rfl rfl ?_
  apply lx_sld (pc' := 523) rfl rfl
  · first | assumption | rfl
  · assumption
  refine lx_callV (pc' := 526) (As := [.int (Q.2.2 (5 * n + 1)), .int (Q.2.2 (5 * n + 2)), .int (Q.2.2 (5 * n + 3))]) (rest := [.int (q_put a (Q.2.2 (5 * n + 1)) (Q.2.2 (5 * n + 2)) (Q.2.2 (5 * n + 3))).1]) (b := p) rfl rfl cw_Law_law_57 (p2) rfl rfl (Nat.le_of_ble_eq_true rfl) (Nat.zero_le _) (Nat.zero_le _) (c_M_put Y1 V) ?_
  rintro v h2 z2 ⟨rfl, rfl, Y2, f2⟩
  have n1 : (q_put a (Q.2.2 (5 * n + 1)) (Q.2.2 (5 * n + 2)) (Q.2.2 (5 * n + 3))).2.nr = a.nr := q_put_n.1
  have n2 : (q_put a (Q.2.2 (5 * n + 1)) (Q.2.2 (5 * n + 2)) (Q.2.2 (5 * n + 3))).2.nc = a.nc := q_put_n.2
  obtain ⟨m1, m2⟩ := m_pc_le n1 n2
  have R2 := m_R.of Y2 f2 n1 n2
  show lx_E G M_Law_law 526 _ [.int (q_put a (Q.2.2 (5 * n + 1)) (Q.2.2 (5 * n + 2)) (Q.2.2 (5 * n + 3))).1, .int (q_put a (Q.2.2 (5 * n + 1)) (Q.2.2 (5 * n + 2)) (Q.2.2 (5 * n + 3))).1] h2 z2 _ _ _
  refine lx_icmp_eq (pc' := 529) (tgt := 1046) rfl rfl rfl (fun cq => ?_) (fun cq => ?_)
  · obtain ⟨L3, RA2, CA2, J2⟩ := J.ref R1 R2 V2
    exact kk (q_put a (Q.2.2 (5 * n + 1)) (Q.2.2 (5 * n + 2)) (Q.2.2 (5 * n + 3))).2 L3 RA2 CA2 h2 _ _ _ J2 (by omega) (by omega)
  · exact absurd rfl cq
set_option maxHeartbeats 8000000 in
theorem lw_c9 (J : lw_J o p sz L RA CA (n * 108540) a h) (hn : 5 * n + 5 ≤ Q.2.1) (hL : Q.2.1 ≤ 2560) (hbc : n_pc a + m_pc a ≤ bc) (hbs : n_ps a + m_ps a ≤ bs) (kk : lw_K G o p n Q) : lx_E G M_Law_law 531 (on_l [(0, .ref Q.1), (1, .ref o), (2, .ref p), (3, .int (nI (5 * n)))]) [] h sz bc bs Q := by
  have X := J.1
  have V := J.2.2.1
  have o1 : h o = some (.inr (11, [.ref (o + 1), .ref (o + 2), .ref (o + 3), .ref (o + 4), .ref (o + 5), .ref (o + 34), .ref (o + 42), .ref (o + 43), .int (nI a.nr), .int (nI a.nk), .int (nI a.nc)])) := X.1.1
  have p1 := J.2.1.1.ob.1
  have e1 : nI (5 * n) + 1 = nI (5 * n + 1) := nI_add (5 * n) 1
  have i1 : 5 * n + 1 < Q.2.1 ∧ Q.2.1 < 2 ^ 31 := by omega
  have e2 : nI (5 * n) + 2 = nI (5 * n + 2) := nI_add (5 * n) 2
  have i2 : 5 * n + 2 < Q.2.1 ∧ Q.2.1 < 2 ^ 31 := by omega
  have e3 : nI (5 * n) + 3 = nI (5 * n + 3) := nI_add (5 * n) 3
  have i3 : 5 * n + 3 < Q.2.1 ∧ Q.2.1 < 2 ^ 31 := by omega
  have e4 : nI (5 * n) + 4 = nI (5 * n + 4) := nI_add (5 * n) 4
  have i4 : 5 * n + 4 < Q.2.1 ∧ Q.2.1 < 2 ^ 31 := by omega
  have qv : q_V ((n + 1) * 108540) a (q_push a (Q.2.2 (5 * n + 1)) (Q.2.2 (5 * n + 2))).2 := q_push_ok V (by omega)
  obtain ⟨V2, qc, qs⟩ := qv
  refine lx_aload_n (pc' := 532) rfl rfl rfl rfl ?_
  refine lx_aload_n (pc' := 533) rfl rfl rfl rfl ?_
  refine lx_iload_n (pc' := 534) rfl rfl rfl rfl ?_
  refine lx_iconst (pc' := 535) (v := 1) rfl rfl li_1 ?_
  refine lx_iadd (pc' := 536) rfl rfl ?_
  apply lx_sld (pc' := 537) rfl rfl
  · first | assumption | rfl
  · assumption
  refine lx_aload_n (pc' := 538) rfl rfl rfl rfl ?_
  refine lx_iload_n (pc' := 539) rfl rfl rfl rfl ?_
  refine lx_iconst (pc' := 540) (v := 2) rfl rfl li_2 ?_
  refine lx_iadd (pc' := 541) rfl rfl ?_
  apply lx_sld (pc' := 542) rfl rfl
  · first | assumption | rfl
  · assumption
  refine lx_callV (pc' := 545) (As := [.int (Q.2.2 (5 * n + 1)), .int (Q.2.2 (5 * n + 2))]) (rest := []) (b := o) rfl rfl cw_Law_law_58 (o1) rfl rfl (Nat.le_of_ble_eq_true rfl) (Nat.zero_le _) (Nat.zero_le _) (c_N_push X V (by omega)) ?_
  rintro v h1 z1 ⟨rfl, R1⟩
  have Y1 := J.cls R1
  have p2 := Y1.1.ob.1
  show lx_E G M_Law_law 545 _ [.int (q_push a (Q.2.2 (5 * n + 1)) (Q.2.2 (5 * n + 2))).1] h1 z1 _ _ _
  refine lx_aload_n (pc' := 546) rfl rfl rfl rfl ?_
  refine lx_aload_n (pc' := 547) rfl rfl rfl rfl ?_
  refine lx_iload_n (pc' := 548) rfl rfl rfl rfl ?_
  refine lx_iconst (pc' := 549) (v := 1) rfl rfl li_1 ?_
  refine lx_iadd (pc' := 550) rfl rfl ?_
  apply lx_sld (pc' := 551) rfl rfl
  · first | assumption | rfl
  · assumption
  refine lx_aload_n (pc' := 552) rfl rfl rfl rfl ?_
  refine lx_iload_n (pc' := 553) rfl rfl rfl rfl ?_
  refine lx_iconst (pc' := 554) (v := 2) rfl rfl li_2 ?_
  refine lx_iadd (pc' := 555) rfl rfl ?_
  apply lx_sld (pc' := 556) rfl rfl
  · first | assumption | rfl
  · assumption
  refine lx_callV (pc' := 559) (As := [.int (Q.2.2 (5 * n + 1)), .int (Q.2.2 (5 * n + 2))]) (rest := [.int (q_push a (Q.2.2 (5 * n + 1)) (Q.2.2 (5 * n + 2))).1]) (b := p) rfl rfl cw_Law_law_61 (p2) rfl rfl (Nat.le_of_ble_eq_true rfl) (Nat.zero_le _) (Nat.zero_le _) (c_M_push Y1 V (by omega)) ?_
  rintro v h2 z2 ⟨rfl, rfl, Y2, f2⟩
  have n1 : (q_push a (Q.2.2 (5 * n + 1)) (Q.2.2 (5 * n + 2))).2.nr = a.nr := q_push_n.1
  have n2 : (q_push a (Q.2.2 (5 * n + 1)) (Q.2.2 (5 * n + 2))).2.nc = a.nc := q_push_n.2
  obtain ⟨m1, m2⟩ := m_pc_le n1 n2
  have R2 := m_R.of Y2 f2 n1 n2
  show lx_E G M_Law_law 559 _ [.int (q_push a (Q.2.2 (5 * n + 1)) (Q.2.2 (5 * n + 2))).1, .int (q_push a (Q.2.2 (5 * n + 1)) (Q.2.2 (5 * n + 2))).1] h2 z2 _ _ _
  refine lx_icmp_eq (pc' := 562) (tgt := 1046) rfl rfl rfl (fun cq => ?_) (fun cq => ?_)
  · obtain ⟨L3, RA2, CA2, J2⟩ := J.ref R1 R2 V2
    exact kk (q_push a (Q.2.2 (5 * n + 1)) (Q.2.2 (5 * n + 2))).2 L3 RA2 CA2 h2 _ _ _ J2 (by omega) (by omega)
  · exact absurd rfl cq
set_option maxHeartbeats 8000000 in
theorem lw_c10 (J : lw_J o p sz L RA CA (n * 108540) a h) (hn : 5 * n + 5 ≤ Q.2.1) (hL : Q.2.1 ≤ 2560) (hbc : n_pc a + m_pc a ≤ bc) (hbs : n_ps a + m_ps a ≤ bs) (kk : lw_K G o p n Q) : lx_E G M_Law_law 564 (on_l [(0, .ref Q.1), (1, .ref o), (2, .ref p), (3, .int (nI (5 * n)))]) [] h sz bc bs Q := by
  have X := J.1
  have V := J.2.2.1
  have o1 : h o = some (.inr (11, [.ref (o + 1), .ref (o + 2), .ref (o + 3), .ref (o + 4), .ref (o + 5), .ref (o + 34), .ref (o + 42), .ref (o + 43), .int (nI a.nr), .int (nI a.nk), .int (nI a.nc)])) := X.1.1
  have p1 := J.2.1.1.ob.1
  have e1 : nI (5 * n) + 1 = nI (5 * n + 1) := nI_add (5 * n) 1
  have i1 : 5 * n + 1 < Q.2.1 ∧ Q.2.1 < 2 ^ 31 := by omega
  have e2 : nI (5 * n) + 2 = nI (5 * n + 2) := nI_add (5 * n) 2
  have i2 : 5 * n + 2 < Q.2.1 ∧ Q.2.1 < 2 ^ 31 := by omega
  have e3 : nI (5 * n) + 3 = nI (5 * n + 3) := nI_add (5 * n) 3
  have i3 : 5 * n + 3 < Q.2.1 ∧ Q.2.1 < 2 ^ 31 := by omega
  have e4 : nI (5 * n) + 4 = nI (5 * n + 4) := nI_add (5 * n) 4
  have i4 : 5 * n + 4 < Q.2.1 ∧ Q.2.1 < 2 ^ 31 := by omega
  have qv : q_V ((n + 1) * 108540) a (q_close a (Q.2.2 (5 * n + 1)) (Q.2.2 (5 * n + 2))).2 := q_close_ok V (by omega)
  obtain ⟨V2, qc, qs⟩ := qv
  refine lx_aload_n (pc' := 565) rfl rfl rfl rfl ?_
  refine lx_aload_n (pc' := 566) rfl rfl rfl rfl ?_
  refine lx_iload_n (pc' := 567) rfl rfl rfl rfl ?_
  refine lx_iconst (pc' := 568) (v := 1) rfl rfl li_1 ?_
  refine lx_iadd (pc' := 569) rfl rfl ?_
  apply lx_sld (pc' := 570) rfl rfl
  · first | assumption | rfl
  · assumption
  refine lx_aload_n (pc' := 571) rfl rfl rfl rfl ?_
  refine lx_iload_n (pc' := 572) rfl rfl rfl rfl ?_
  refine lx_iconst (pc' := 573) (v := 2) rfl rfl li_2 ?_
  refine lx_iadd (pc' := 574) rfl rfl ?_
  apply lx_sld (pc' := 575) rfl rfl
  · first | assumption | rfl
  · assumption
  refine lx_callV (pc' := 578) (As := [.int (Q.2.2 (5 * n + 1)), .int (Q.2.2 (5 * n + 2))]) (rest := []) (b := o) rfl rfl cw_Law_law_62 (o1) rfl rfl (Nat.le_of_ble_eq_true rfl) (Nat.zero_le _) (Nat.zero_le _) (c_N_close X V (by omega)) ?_
  rintro v h1 z1 ⟨rfl, R1⟩
  have Y1 := J.cls R1
  have p2 := Y1.1.ob.1
  show lx_E G M_Law_law 578 _ [.int (q_close a (Q.2.2 (5 * n + 1)) (Q.2.2 (5 * n + 2))).1] h1 z1 _ _ _
  refine lx_aload_n (pc' := 579) rfl rfl rfl rfl ?_
  refine lx_aload_n (pc' := 580) rfl rfl rfl rfl ?_
  refine lx_iload_n (pc' := 581) rfl rfl rfl rfl ?_
  refine lx_iconst (pc' := 582) (v := 1) rfl rfl li_1 ?_
  refine lx_iadd (pc' := 583) rfl rfl ?_
  apply lx_sld (pc' := 584) rfl rfl
  · first | assumption | rfl
  · assumption
  refine lx_aload_n (pc' := 585) rfl rfl rfl rfl ?_
  refine lx_iload_n (pc' := 586) rfl rfl rfl rfl ?_
  refine lx_iconst (pc' := 587) (v := 2) rfl rfl li_2 ?_
  refine lx_iadd (pc' := 588) rfl rfl ?_
  apply lx_sld (pc' := 589) rfl rfl
  · first | assumption | rfl
  · assumption
  refine lx_callV (pc' := 592) (As := [.int (Q.2.2 (5 * n + 1)), .int (Q.2.2 (5 * n + 2))]) (rest := [.int (q_close a (Q.2.2 (5 * n + 1)) (Q.2.2 (5 * n + 2))).1]) (b := p) rfl rfl cw_Law_law_65 (p2) rfl rfl (Nat.le_of_ble_eq_true rfl) (Nat.zero_le _) (Nat.zero_le _) (c_M_close Y1 V (by omega)) ?_
  rintro v h2 z2 ⟨rfl, rfl, Y2, f2⟩
  have n1 : (q_close a (Q.2.2 (5 * n + 1)) (Q.2.2 (5 * n + 2))).2.nr = a.nr := q_close_n.1
  have n2 : (q_close a (Q.2.2 (5 * n + 1)) (Q.2.2 (5 * n + 2))).2.nc = a.nc := q_close_n.2
  obtain ⟨m1, m2⟩ := m_pc_le n1 n2
  have R2 := m_R.of Y2 f2 n1 n2
  show lx_E G M_Law_law 592 _ [.int (q_close a (Q.2.2 (5 * n + 1)) (Q.2.2 (5 * n + 2))).1, .int (q_close a (Q.2.2 (5 * n + 1)) (Q.2.2 (5 * n + 2))).1] h2 z2 _ _ _
  refine lx_icmp_eq (pc' := 595) (tgt := 1046) rfl rfl rfl (fun cq => ?_) (fun cq => ?_)
  · obtain ⟨L3, RA2, CA2, J2⟩ := J.ref R1 R2 V2
    exact kk (q_close a (Q.2.2 (5 * n + 1)) (Q.2.2 (5 * n + 2))).2 L3 RA2 CA2 h2 _ _ _ J2 (by omega) (by omega)
  · exact absurd rfl cq
set_option maxHeartbeats 8000000 in
theorem lw_c11 (J : lw_J o p sz L RA CA (n * 108540) a h) (hn : 5 * n + 5 ≤ Q.2.1) (hL : Q.2.1 ≤ 2560) (hbc : n_pc a + m_pc a ≤ bc) (hbs : n_ps a + m_ps a ≤ bs) (kk : lw_K G o p n Q) : lx_E G M_Law_law 597 (on_l [(0, .ref Q.1), (1, .ref o), (2, .ref p), (3, .int (nI (5 * n)))]) [] h sz bc bs Q := by
  have X := J.1
  have V := J.2.2.1
  have o1 : h o = some (.inr (11, [.ref (o + 1), .ref (o + 2), .ref (o + 3), .ref (o + 4), .ref (o + 5), .ref (o + 34), .ref (o + 42), .ref (o + 43), .int (nI a.nr), .int (nI a.nk), .int (nI a.nc)])) := X.1.1
  have p1 := J.2.1.1.ob.1
  have e1 : nI (5 * n) + 1 = nI (5 * n + 1) := nI_add (5 * n) 1
  have i1 : 5 * n + 1 < Q.2.1 ∧ Q.2.1 < 2 ^ 31 := by omega
  have e2 : nI (5 * n) + 2 = nI (5 * n + 2) := nI_add (5 * n) 2
  have i2 : 5 * n + 2 < Q.2.1 ∧ Q.2.1 < 2 ^ 31 := by omega
  have e3 : nI (5 * n) + 3 = nI (5 * n + 3) := nI_add (5 * n) 3
  have i3 : 5 * n + 3 < Q.2.1 ∧ Q.2.1 < 2 ^ 31 := by omega
  have e4 : nI (5 * n) + 4 = nI (5 * n + 4) := nI_add (5 * n) 4
  have i4 : 5 * n + 4 < Q.2.1 ∧ Q.2.1 < 2 ^ 31 := by omega
  have qv : q_V ((n + 1) * 108540) a (q_destroy a (Q.2.2 (5 * n + 1))).2 := q_destroy_ok V (by omega)
  obtain ⟨V2, qc, qs⟩ := qv
  refine lx_aload_n (pc' := 598) rfl rfl rfl rfl ?_
  refine lx_aload_n (pc' := 599) rfl rfl rfl rfl ?_
  refine lx_iload_n (pc' := 600) rfl rfl rfl rfl ?_
  refine lx_iconst (pc' := 601) (v := 1) rfl rfl li_1 ?_
  refine lx_iadd (pc' := 602) rfl rfl ?_
  apply lx_sld (pc' := 603) rfl rfl
  · first | assumption | rfl
  · assumption
  refine lx_callV (pc' := 606) (As := [.int (Q.2.2 (5 * n + 1))]) (rest := []) (b := o) rfl rfl cw_Law_law_66 (o1) rfl rfl (Nat.le_of_ble_eq_true rfl) (Nat.zero_le _) (Nat.zero_le _) (c_N_destroy X V) ?_
  rintro v h1 z1 ⟨rfl, R1⟩
  have Y1 := J.cls R1
  have p2 := Y1.1.ob.1
  show lx_E G M_Law_law 606 _ [.int (q_destroy a (Q.2.2 (5 * n + 1))).1] h1 z1 _ _ _
  refine lx_aload_n (pc' := 607) rfl rfl rfl rfl ?_
  refine lx_aload_n (pc' := 608) rfl rfl rfl rfl ?_
  refine lx_iload_n (pc' := 609) rfl rfl rfl rfl ?_
  refine lx_iconst (pc' := 610) (v := 1) rfl rfl li_1 ?_
  refine lx_iadd (pc' := 611) rfl rfl ?_
  apply lx_sld (pc' := 612) rfl rfl
  · first | assumption | rfl
  · assumption
  refine lx_callV (pc' := 615) (As := [.int (Q.2.2 (5 * n + 1))]) (rest := [.int (q_destroy a (Q.2.2 (5 * n + 1))).1]) (b := p) rfl rfl cw_Law_law_70 (p2) rfl rfl (Nat.le_of_ble_eq_true rfl) (Nat.zero_le _) (Nat.zero_le _) (c_M_destroy Y1 V) ?_
  rintro v h2 z2 ⟨rfl, rfl, Y2, f2⟩
  have n1 : (q_destroy a (Q.2.2 (5 * n + 1))).2.nr = a.nr := q_destroy_n.1
  have n2 : (q_destroy a (Q.2.2 (5 * n + 1))).2.nc = a.nc := q_destroy_n.2
  obtain ⟨m1, m2⟩ := m_pc_le n1 n2
  have R2 := m_R.of Y2 f2 n1 n2
  show lx_E G M_Law_law 615 _ [.int (q_destroy a (Q.2.2 (5 * n + 1))).1, .int (q_destroy a (Q.2.2 (5 * n + 1))).1] h2 z2 _ _ _
  refine lx_icmp_eq (pc' := 618) (tgt := 1046) rfl rfl rfl (fun cq => ?_) (fun cq => ?_)
  · obtain ⟨L3, RA2, CA2, J2⟩ := J.ref R1 R2 V2
    exact kk (q_destroy a (Q.2.2 (5 * n + 1))).2 L3 RA2 CA2 h2 _ _ _ J2 (by omega) (by omega)
  · exact absurd rfl cq
set_option maxHeartbeats 8000000 in
theorem lw_c12 (J : lw_J o p sz L RA CA (n * 108540) a h) (hn : 5 * n + 5 ≤ Q.2.1) (hL : Q.2.1 ≤ 2560) (hbc : n_pc a + m_pc a ≤ bc) (hbs : n_ps a + m_ps a ≤ bs) (kk : lw_K G o p n Q) : lx_E G M_Law_law 620 (on_l [(0, .ref Q.1), (1, .ref o), (2, .ref p), (3, .int (nI (5 * n)))]) [] h sz bc bs Q := by
  have X := J.1
  have V := J.2.2.1
  have o1 : h o = some (.inr (11, [.ref (o + 1), .ref (o + 2), .ref (o + 3), .ref (o + 4), .ref (o + 5), .ref (o + 34), .ref (o + 42), .ref (o + 43), .int (nI a.nr), .int (nI a.nk), .int (nI a.nc)])) := X.1.1
  have p1 := J.2.1.1.ob.1
  have e1 : nI (5 * n) + 1 = nI (5 * n + 1) := nI_add (5 * n) 1
  have i1 : 5 * n + 1 < Q.2.1 ∧ Q.2.1 < 2 ^ 31 := by omega
  have e2 : nI (5 * n) + 2 = nI (5 * n + 2) := nI_add (5 * n) 2
  have i2 : 5 * n + 2 < Q.2.1 ∧ Q.2.1 < 2 ^ 31 := by omega
  have e3 : nI (5 * n) + 3 = nI (5 * n + 3) := nI_add (5 * n) 3
  have i3 : 5 * n + 3 < Q.2.1 ∧ Q.2.1 < 2 ^ 31 := by omega
  have e4 : nI (5 * n) + 4 = nI (5 * n + 4) := nI_add (5 * n) 4
  have i4 : 5 * n + 4 < Q.2.1 ∧ Q.2.1 < 2 ^ 31 := by omega
  have qv : q_V ((n + 1) * 108540) a (q_deliver a (Q.2.2 (5 * n + 1)) (Q.2.2 (5 * n + 2))).2 := q_deliver_ok V (by omega)
  obtain ⟨V2, qc, qs⟩ := qv
  refine lx_aload_n (pc' := 621) rfl rfl rfl rfl ?_
  refine lx_aload_n (pc' := 622) rfl rfl rfl rfl ?_
  refine lx_iload_n (pc' := 623) rfl rfl rfl rfl ?_
  refine lx_iconst (pc' := 624) (v := 1) rfl rfl li_1 ?_
  refine lx_iadd (pc' := 625) rfl rfl ?_
  apply lx_sld (pc' := 626) rfl rfl
  · first | assumption | rfl
  · assumption
  refine lx_aload_n (pc' := 627) rfl rfl rfl rfl ?_
  refine lx_iload_n (pc' := 628) rfl rfl rfl rfl ?_
  refine lx_iconst (pc' := 629) (v := 2) rfl rfl li_2 ?_
  refine lx_iadd (pc' := 630) rfl rfl ?_
  apply lx_sld (pc' := 631) rfl rfl
  · first | assumption | rfl
  · assumption
  refine lx_callV (pc' := 634) (As := [.int (Q.2.2 (5 * n + 1)), .int (Q.2.2 (5 * n + 2))]) (rest := []) (b := o) rfl rfl cw_Law_law_71 (o1) rfl rfl (Nat.le_of_ble_eq_true rfl) (by omega) (by omega) (c_N_deliver (bc := n_pc a - n_pc (q_deliver a (Q.2.2 (5 * n + 1)) (Q.2.2 (5 * n + 2))).2) (bs := n_ps a - n_ps (q_deliver a (Q.2.2 (5 * n + 1)) (Q.2.2 (5 * n + 2))).2) X V (by omega) ⟨by omega, by omega⟩) ?_
  rintro v h1 z1 ⟨rfl, R1⟩
  have Y1 := J.cls R1
  have p2 := Y1.1.ob.1
  show lx_E G M_Law_law 634 _ [.int (q_deliver a (Q.2.2 (5 * n + 1)) (Q.2.2 (5 * n + 2))).1] h1 z1 _ _ _
  refine lx_aload_n (pc' := 635) rfl rfl rfl rfl ?_
  refine lx_aload_n (pc' := 636) rfl rfl rfl rfl ?_
  refine lx_iload_n (pc' := 637) rfl rfl rfl rfl ?_
  refine lx_iconst (pc' := 638) (v := 1) rfl rfl li_1 ?_
  refine lx_iadd (pc' := 639) rfl rfl ?_
  apply lx_sld (pc' := 640) rfl rfl
  · first | assumption | rfl
  · assumption
  refine lx_aload_n (pc' := 641) rfl rfl rfl rfl ?_
  refine lx_iload_n (pc' := 642) rfl rfl rfl rfl ?_
  refine lx_iconst (pc' := 643) (v := 2) rfl rfl li_2 ?_
  refine lx_iadd (pc' := 644) rfl rfl ?_
  apply lx_sld (pc' := 645) rfl rfl
  · first | assumption | rfl
  · assumption
  refine lx_callV (pc' := 648) (As := [.int (Q.2.2 (5 * n + 1)), .int (Q.2.2 (5 * n + 2))]) (rest := [.int (q_deliver a (Q.2.2 (5 * n + 1)) (Q.2.2 (5 * n + 2))).1]) (b := p) rfl rfl cw_Law_law_74 (p2) rfl rfl (Nat.le_of_ble_eq_true rfl) (Nat.zero_le _) (Nat.zero_le _) (c_M_deliver Y1 V (by omega)) ?_
  rintro v h2 z2 ⟨rfl, rfl, Y2, f2⟩
  have n1 : (q_deliver a (Q.2.2 (5 * n + 1)) (Q.2.2 (5 * n + 2))).2.nr = a.nr := q_deliver_n.1
  have n2 : (q_deliver a (Q.2.2 (5 * n + 1)) (Q.2.2 (5 * n + 2))).2.nc = a.nc := q_deliver_n.2
  obtain ⟨m1, m2⟩ := m_pc_le n1 n2
  have R2 := m_R.of Y2 f2 n1 n2
  show lx_E G M_Law_law 648 _ [.int (q_deliver a (Q.2.2 (5 * n + 1)) (Q.2.2 (5 * n + 2))).1, .int (q_deliver a (Q.2.2 (5 * n + 1)) (Q.2.2 (5 * n + 2))).1] h2 z2 _ _ _
  refine lx_icmp_eq (pc' := 651) (tgt := 1046) rfl rfl rfl (fun cq => ?_) (fun cq => ?_)
  · obtain ⟨L3, RA2, CA2, J2⟩ := J.ref R1 R2 V2
    exact kk (q_deliver a (Q.2.2 (5 * n + 1)) (Q.2.2 (5 * n + 2))).2 L3 RA2 CA2 h2 _ _ _ J2 (by omega) (by omega)
  · exact absurd rfl cq
set_option maxHeartbeats 8000000 in
theorem lw_c13 (J : lw_J o p sz L RA CA (n * 108540) a h) (hn : 5 * n + 5 ≤ Q.2.1) (hL : Q.2.1 ≤ 2560) (hbc : n_pc a + m_pc a ≤ bc) (hbs : n_ps a + m_ps a ≤ bs) (kk : lw_K G o p n Q) : lx_E G M_Law_law 653 (on_l [(0, .ref Q.1), (1, .ref o), (2, .ref p), (3, .int (nI (5 * n)))]) [] h sz bc bs Q := by
  have X := J.1
  have V := J.2.2.1
  have o1 : h o = some (.inr (11, [.ref (o + 1), .ref (o + 2), .ref (o + 3), .ref (o + 4), .ref (o + 5), .ref (o + 34), .ref (o + 42), .ref (o + 43), .int (nI a.nr), .int (nI a.nk), .int (nI a.nc)])) := X.1.1
  have p1 := J.2.1.1.ob.1
  have e1 : nI (5 * n) + 1 = nI (5 * n + 1) := nI_add (5 * n) 1
  have i1 : 5 * n + 1 < Q.2.1 ∧ Q.2.1 < 2 ^ 31 := by omega
  have e2 : nI (5 * n) + 2 = nI (5 * n + 2) := nI_add (5 * n) 2
  have i2 : 5 * n + 2 < Q.2.1 ∧ Q.2.1 < 2 ^ 31 := by omega
  have e3 : nI (5 * n) + 3 = nI (5 * n + 3) := nI_add (5 * n) 3
  have i3 : 5 * n + 3 < Q.2.1 ∧ Q.2.1 < 2 ^ 31 := by omega
  have e4 : nI (5 * n) + 4 = nI (5 * n + 4) := nI_add (5 * n) 4
  have i4 : 5 * n + 4 < Q.2.1 ∧ Q.2.1 < 2 ^ 31 := by omega
  have qv : q_V ((n + 1) * 108540) a (q_drop a (Q.2.2 (5 * n + 1)) (Q.2.2 (5 * n + 2))).2 := q_drop_ok V (by omega)
  obtain ⟨V2, qc, qs⟩ := qv
  refine lx_aload_n (pc' := 654) rfl rfl rfl rfl ?_
  refine lx_aload_n (pc' := 655) rfl rfl rfl rfl ?_
  refine lx_iload_n (pc' := 656) rfl rfl rfl rfl ?_
  refine lx_iconst (pc' := 657) (v := 1) rfl rfl li_1 ?_
  refine lx_iadd (pc' := 658) rfl rfl ?_
  apply lx_sld (pc' := 659) rfl rfl
  · first | assumption | rfl
  · assumption
  refine lx_aload_n (pc' := 660) rfl rfl rfl rfl ?_
  refine lx_iload_n (pc' := 661) rfl rfl rfl rfl ?_
  refine lx_iconst (pc' := 662) (v := 2) rfl rfl li_2 ?_
  refine lx_iadd (pc' := 663) rfl rfl ?_
  apply lx_sld (pc' := 664) rfl rfl
  · first | assumption | rfl
  · assumption
  refine lx_callV (pc' := 667) (As := [.int (Q.2.2 (5 * n + 1)), .int (Q.2.2 (5 * n + 2))]) (rest := []) (b := o) rfl rfl cw_Law_law_75 (o1) rfl rfl (Nat.le_of_ble_eq_true rfl) (Nat.zero_le _) (Nat.zero_le _) (c_N_drop X) ?_
  rintro v h1 z1 ⟨rfl, R1⟩
  have Y1 := J.cls R1
  have p2 := Y1.1.ob.1
  show lx_E G M_Law_law 667 _ [.int (q_drop a (Q.2.2 (5 * n + 1)) (Q.2.2 (5 * n + 2))).1] h1 z1 _ _ _
  refine lx_aload_n (pc' := 668) rfl rfl rfl rfl ?_
  refine lx_aload_n (pc' := 669) rfl rfl rfl rfl ?_
  refine lx_iload_n (pc' := 670) rfl rfl rfl rfl ?_
  refine lx_iconst (pc' := 671) (v := 1) rfl rfl li_1 ?_
  refine lx_iadd (pc' := 672) rfl rfl ?_
  apply lx_sld (pc' := 673) rfl rfl
  · first | assumption | rfl
  · assumption
  refine lx_aload_n (pc' := 674) rfl rfl rfl rfl ?_
  refine lx_iload_n (pc' := 675) rfl rfl rfl rfl ?_
  refine lx_iconst (pc' := 676) (v := 2) rfl rfl li_2 ?_
  refine lx_iadd (pc' := 677) rfl rfl ?_
  apply lx_sld (pc' := 678) rfl rfl
  · first | assumption | rfl
  · assumption
  refine lx_callV (pc' := 681) (As := [.int (Q.2.2 (5 * n + 1)), .int (Q.2.2 (5 * n + 2))]) (rest := [.int (q_drop a (Q.2.2 (5 * n + 1)) (Q.2.2 (5 * n + 2))).1]) (b := p) rfl rfl cw_Law_law_78 (p2) rfl rfl (Nat.le_of_ble_eq_true rfl) (Nat.zero_le _) (Nat.zero_le _) (c_M_drop Y1 V) ?_
  rintro v h2 z2 ⟨rfl, rfl, Y2, f2⟩
  have n1 : (q_drop a (Q.2.2 (5 * n + 1)) (Q.2.2 (5 * n + 2))).2.nr = a.nr := q_drop_n.1
  have n2 : (q_drop a (Q.2.2 (5 * n + 1)) (Q.2.2 (5 * n + 2))).2.nc = a.nc := q_drop_n.2
  obtain ⟨m1, m2⟩ := m_pc_le n1 n2
  have R2 := m_R.of Y2 f2 n1 n2
  show lx_E G M_Law_law 681 _ [.int (q_drop a (Q.2.2 (5 * n + 1)) (Q.2.2 (5 * n + 2))).1, .int (q_drop a (Q.2.2 (5 * n + 1)) (Q.2.2 (5 * n + 2))).1] h2 z2 _ _ _
  refine lx_icmp_eq (pc' := 684) (tgt := 1046) rfl rfl rfl (fun cq => ?_) (fun cq => ?_)
  · obtain ⟨L3, RA2, CA2, J2⟩ := J.ref R1 R2 V2
    exact kk (q_drop a (Q.2.2 (5 * n + 1)) (Q.2.2 (5 * n + 2))).2 L3 RA2 CA2 h2 _ _ _ J2 (by omega) (by omega)
  · exact absurd rfl cq
set_option maxHeartbeats 8000000 in
theorem lw_c14 (J : lw_J o p sz L RA CA (n * 108540) a h) (hn : 5 * n + 5 ≤ Q.2.1) (hL : Q.2.1 ≤ 2560) (hbc : n_pc a + m_pc a ≤ bc) (hbs : n_ps a + m_ps a ≤ bs) (kk : lw_K G o p n Q) : lx_E G M_Law_law 686 (on_l [(0, .ref Q.1), (1, .ref o), (2, .ref p), (3, .int (nI (5 * n)))]) [] h sz bc bs Q := by
  have X := J.1
  have V := J.2.2.1
  have o1 : h o = some (.inr (11, [.ref (o + 1), .ref (o + 2), .ref (o + 3), .ref (o + 4), .ref (o + 5), .ref (o + 34), .ref (o + 42), .ref (o + 43), .int (nI a.nr), .int (nI a.nk), .int (nI a.nc)])) := X.1.1
  have p1 := J.2.1.1.ob.1
  have e1 : nI (5 * n) + 1 = nI (5 * n + 1) := nI_add (5 * n) 1
  have i1 : 5 * n + 1 < Q.2.1 ∧ Q.2.1 < 2 ^ 31 := by omega
  have e2 : nI (5 * n) + 2 = nI (5 * n + 2) := nI_add (5 * n) 2
  have i2 : 5 * n + 2 < Q.2.1 ∧ Q.2.1 < 2 ^ 31 := by omega
  have e3 : nI (5 * n) + 3 = nI (5 * n + 3) := nI_add (5 * n) 3
  have i3 : 5 * n + 3 < Q.2.1 ∧ Q.2.1 < 2 ^ 31 := by omega
  have e4 : nI (5 * n) + 4 = nI (5 * n + 4) := nI_add (5 * n) 4
  have i4 : 5 * n + 4 < Q.2.1 ∧ Q.2.1 < 2 ^ 31 := by omega
  have qv : q_V ((n + 1) * 108540) a (q_alter a (Q.2.2 (5 * n + 1)) (Q.2.2 (5 * n + 2)) (Q.2.2 (5 * n + 3)) (Q.2.2 (5 * n + 4))).2 := q_alter_ok V (by omega)
  obtain ⟨V2, qc, qs⟩ := qv
  refine lx_aload_n (pc' := 687) rfl rfl rfl rfl ?_
  refine lx_aload_n (pc' := 688) rfl rfl rfl rfl ?_
  refine lx_iload_n (pc' := 689) rfl rfl rfl rfl ?_
  refine lx_iconst (pc' := 690) (v := 1) rfl rfl li_1 ?_
  refine lx_iadd (pc' := 691) rfl rfl ?_
  apply lx_sld (pc' := 692) rfl rfl
  · first | assumption | rfl
  · assumption
  refine lx_aload_n (pc' := 693) rfl rfl rfl rfl ?_
  refine lx_iload_n (pc' := 694) rfl rfl rfl rfl ?_
  refine lx_iconst (pc' := 695) (v := 2) rfl rfl li_2 ?_
  refine lx_iadd (pc' := 696) rfl rfl ?_
  apply lx_sld (pc' := 697) rfl rfl
  · first | assumption | rfl
  · assumption
  refine lx_aload_n (pc' := 698) rfl rfl rfl rfl ?_
  refine lx_iload_n (pc' := 699) rfl rfl rfl rfl ?_
  refine lx_iconst (pc' := 700) (v := 3) rfl rfl li_3 ?_
  refine lx_iadd (pc' := 701) rfl rfl ?_
  apply lx_sld (pc' := 702) rfl rfl
  · first | assumption | rfl
  · assumption
  refine lx_aload_n (pc' := 703) rfl rfl rfl rfl ?_
  refine lx_iload_n (pc' := 704) rfl rfl rfl rfl ?_
  refine lx_iconst (pc' := 705) (v := 4) rfl rfl li_4 ?_
  refine lx_iadd (pc' := 706) rfl rfl ?_
  apply lx_sld (pc' := 707) rfl rfl
  · first | assumption | rfl
  · assumption
  refine lx_callV (pc' := 710) (As := [.int (Q.2.2 (5 * n + 1)), .int (Q.2.2 (5 * n + 2)), .int (Q.2.2 (5 * n + 3)), .int (Q.2.2 (5 * n + 4))]) (rest := []) (b := o) rfl rfl cw_Law_law_79 (o1) rfl rfl (Nat.le_of_ble_eq_true rfl) (Nat.zero_le _) (Nat.zero_le _) (c_N_alter X) ?_
  rintro v h1 z1 ⟨rfl, R1⟩
  have Y1 := J.cls R1
  have p2 := Y1.1.ob.1
  show lx_E G M_Law_law 710 _ [.int (q_alter a (Q.2.2 (5 * n + 1)) (Q.2.2 (5 * n + 2)) (Q.2.2 (5 * n + 3)) (Q.2.2 (5 * n + 4))).1] h1 z1 _ _ _
  refine lx_aload_n (pc' := 711) rfl rfl rfl rfl ?_
  refine lx_aload_n (pc' := 712) rfl rfl rfl rfl ?_
  refine lx_iload_n (pc' := 713) rfl rfl rfl rfl ?_
  refine lx_iconst (pc' := 714) (v := 1) rfl rfl li_1 ?_
  refine lx_iadd (pc' := 715) rfl rfl ?_
  apply lx_sld (pc' := 716) rfl rfl
  · first | assumption | rfl
  · assumption
  refine lx_aload_n (pc' := 717) rfl rfl rfl rfl ?_
  refine lx_iload_n (pc' := 718) rfl rfl rfl rfl ?_
  refine lx_iconst (pc' := 719) (v := 2) rfl rfl li_2 ?_
  refine lx_iadd (pc' := 720) rfl rfl ?_
  apply lx_sld (pc' := 721) rfl rfl
  · first | assumption | rfl
  · assumption
  refine lx_aload_n (pc' := 722) rfl rfl rfl rfl ?_
  refine lx_iload_n (pc' := 723) rfl rfl rfl rfl ?_
  refine lx_iconst (pc' := 724) (v := 3) rfl rfl li_3 ?_
  refine lx_iadd (pc' := 725) rfl rfl ?_
  apply lx_sld (pc' := 726) rfl rfl
  · first | assumption | rfl
  · assumption
  refine lx_aload_n (pc' := 727) rfl rfl rfl rfl ?_
  refine lx_iload_n (pc' := 728) rfl rfl rfl rfl ?_
  refine lx_iconst (pc' := 729) (v := 4) rfl rfl li_4 ?_
  refine lx_iadd (pc' := 730) rfl rfl ?_
  apply lx_sld (pc' := 731) rfl rfl
  · first | assumption | rfl
  · assumption
  refine lx_callV (pc' := 734) (As := [.int (Q.2.2 (5 * n + 1)), .int (Q.2.2 (5 * n + 2)), .int (Q.2.2 (5 * n + 3)), .int (Q.2.2 (5 * n + 4))]) (rest := [.int (q_alter a (Q.2.2 (5 * n + 1)) (Q.2.2 (5 * n + 2)) (Q.2.2 (5 * n + 3)) (Q.2.2 (5 * n + 4))).1]) (b := p) rfl rfl cw_Law_law_83 (p2) rfl rfl (Nat.le_of_ble_eq_true rfl) (Nat.zero_le _) (Nat.zero_le _) (c_M_alter Y1 V) ?_
  rintro v h2 z2 ⟨rfl, rfl, Y2, f2⟩
  have n1 : (q_alter a (Q.2.2 (5 * n + 1)) (Q.2.2 (5 * n + 2)) (Q.2.2 (5 * n + 3)) (Q.2.2 (5 * n + 4))).2.nr = a.nr := q_alter_n.1
  have n2 : (q_alter a (Q.2.2 (5 * n + 1)) (Q.2.2 (5 * n + 2)) (Q.2.2 (5 * n + 3)) (Q.2.2 (5 * n + 4))).2.nc = a.nc := q_alter_n.2
  obtain ⟨m1, m2⟩ := m_pc_le n1 n2
  have R2 := m_R.of Y2 f2 n1 n2
  show lx_E G M_Law_law 734 _ [.int (q_alter a (Q.2.2 (5 * n + 1)) (Q.2.2 (5 * n + 2)) (Q.2.2 (5 * n + 3)) (Q.2.2 (5 * n + 4))).1, .int (q_alter a (Q.2.2 (5 * n + 1)) (Q.2.2 (5 * n + 2)) (Q.2.2 (5 * n + 3)) (Q.2.2 (5 * n + 4))).1] h2 z2 _ _ _
  refine lx_icmp_eq (pc' := 737) (tgt := 1046) rfl rfl rfl (fun cq => ?_) (fun cq => ?_)
  · obtain ⟨L3, RA2, CA2, J2⟩ := J.ref R1 R2 V2
    exact kk (q_alter a (Q.2.2 (5 * n + 1)) (Q.2.2 (5 * n + 2)) (Q.2.2 (5 * n + 3)) (Q.2.2 (5 * n + 4))).2 L3 RA2 CA2 h2 _ _ _ J2 (by omega) (by omega)
  · exact absurd rfl cq
set_option maxHeartbeats 8000000 in
theorem lw_c15 (J : lw_J o p sz L RA CA (n * 108540) a h) (hn : 5 * n + 5 ≤ Q.2.1) (hL : Q.2.1 ≤ 2560) (hbc : n_pc a + m_pc a ≤ bc) (hbs : n_ps a + m_ps a ≤ bs) (kk : lw_K G o p n Q) : lx_E G M_Law_law 739 (on_l [(0, .ref Q.1), (1, .ref o), (2, .ref p), (3, .int (nI (5 * n)))]) [] h sz bc bs Q := by
  have X := J.1
  have V := J.2.2.1
  have o1 : h o = some (.inr (11, [.ref (o + 1), .ref (o + 2), .ref (o + 3), .ref (o + 4), .ref (o + 5), .ref (o + 34), .ref (o + 42), .ref (o + 43), .int (nI a.nr), .int (nI a.nk), .int (nI a.nc)])) := X.1.1
  have p1 := J.2.1.1.ob.1
  have e1 : nI (5 * n) + 1 = nI (5 * n + 1) := nI_add (5 * n) 1
  have i1 : 5 * n + 1 < Q.2.1 ∧ Q.2.1 < 2 ^ 31 := by omega
  have e2 : nI (5 * n) + 2 = nI (5 * n + 2) := nI_add (5 * n) 2
  have i2 : 5 * n + 2 < Q.2.1 ∧ Q.2.1 < 2 ^ 31 := by omega
  have e3 : nI (5 * n) + 3 = nI (5 * n + 3) := nI_add (5 * n) 3
  have i3 : 5 * n + 3 < Q.2.1 ∧ Q.2.1 < 2 ^ 31 := by omega
  have e4 : nI (5 * n) + 4 = nI (5 * n + 4) := nI_add (5 * n) 4
  have i4 : 5 * n + 4 < Q.2.1 ∧ Q.2.1 < 2 ^ 31 := by omega
  refine lx_aload_n (pc' := 740) rfl rfl rfl rfl ?_
  refine lx_aload_n (pc' := 741) rfl rfl rfl rfl ?_
  refine lx_iload_n (pc' := 742) rfl rfl rfl rfl ?_
  refine lx_iconst (pc' := 743) (v := 1) rfl rfl li_1 ?_
  refine lx_iadd (pc' := 744) rfl rfl ?_
  apply lx_sld (pc' := 745) rfl rfl
  · first | assumption | rfl
  · assumption
  refine lx_aload_n (pc' := 746) rfl rfl rfl rfl ?_
  refine lx_iload_n (pc' := 747) rfl rfl rfl rfl ?_
  refine lx_iconst (pc' := 748) (v := 2) rfl rfl li_2 ?_
  refine lx_iadd (pc' := 749) rfl rfl ?_
  apply lx_sld (pc' := 750) rfl rfl
  · first | assumption | rfl
  · assumption
  refine lx_callV (pc' := 753) (As := [.int (Q.2.2 (5 * n + 1)), .int (Q.2.2 (5 * n + 2))]) (rest := []) (b := o) rfl rfl cw_Law_law_84 (o1) rfl rfl (Nat.le_of_ble_eq_true rfl) (Nat.zero_le _) (Nat.zero_le _) (c_N_waiting X) ?_
  rintro v h sz ⟨rfl, rfl, rfl⟩
  show lx_E G M_Law_law 753 _ [.int (q_wait a (Q.2.2 (5 * n + 1)) (Q.2.2 (5 * n + 2)))] h sz _ _ _
  refine lx_aload_n (pc' := 754) rfl rfl rfl rfl ?_
  refine lx_aload_n (pc' := 755) rfl rfl rfl rfl ?_
  refine lx_iload_n (pc' := 756) rfl rfl rfl rfl ?_
  refine lx_iconst (pc' := 757) (v := 1) rfl rfl li_1 ?_
  refine lx_iadd (pc' := 758) rfl rfl ?_
  apply lx_sld (pc' := 759) rfl rfl
  · first | assumption | rfl
  · assumption
  refine lx_aload_n (pc' := 760) rfl rfl rfl rfl ?_
  refine lx_iload_n (pc' := 761) rfl rfl rfl rfl ?_
  refine lx_iconst (pc' := 762) (v := 2) rfl rfl li_2 ?_
  refine lx_iadd (pc' := 763) rfl rfl ?_
  apply lx_sld (pc' := 764) rfl rfl
  · first | assumption | rfl
  · assumption
  refine lx_callV (pc' := 767) (As := [.int (Q.2.2 (5 * n + 1)), .int (Q.2.2 (5 * n + 2))]) (rest := [.int (q_wait a (Q.2.2 (5 * n + 1)) (Q.2.2 (5 * n + 2)))]) (b := p) rfl rfl cw_Law_law_87 (p1) rfl rfl (Nat.le_of_ble_eq_true rfl) (Nat.zero_le _) (Nat.zero_le _) (c_M_waiting J.2.1 V) ?_
  rintro v h sz ⟨rfl, rfl, rfl⟩
  show lx_E G M_Law_law 767 _ [.int (q_wait a (Q.2.2 (5 * n + 1)) (Q.2.2 (5 * n + 2))), .int (q_wait a (Q.2.2 (5 * n + 1)) (Q.2.2 (5 * n + 2)))] h sz _ _ _
  refine lx_icmp_eq (pc' := 770) (tgt := 1046) rfl rfl rfl (fun cq => ?_) (fun cq => ?_)
  · exact kk a L RA CA h sz _ _ (J.up (by omega)) (by omega) (by omega)
  · exact absurd rfl cq
set_option maxHeartbeats 8000000 in
theorem lw_c16 (J : lw_J o p sz L RA CA (n * 108540) a h) (hn : 5 * n + 5 ≤ Q.2.1) (hL : Q.2.1 ≤ 2560) (hbc : n_pc a + m_pc a ≤ bc) (hbs : n_ps a + m_ps a ≤ bs) (kk : lw_K G o p n Q) : lx_E G M_Law_law 772 (on_l [(0, .ref Q.1), (1, .ref o), (2, .ref p), (3, .int (nI (5 * n)))]) [] h sz bc bs Q := by
  have X := J.1
  have V := J.2.2.1
  have o1 : h o = some (.inr (11, [.ref (o + 1), .ref (o + 2), .ref (o + 3), .ref (o + 4), .ref (o + 5), .ref (o + 34), .ref (o + 42), .ref (o + 43), .int (nI a.nr), .int (nI a.nk), .int (nI a.nc)])) := X.1.1
  have p1 := J.2.1.1.ob.1
  have e1 : nI (5 * n) + 1 = nI (5 * n + 1) := nI_add (5 * n) 1
  have i1 : 5 * n + 1 < Q.2.1 ∧ Q.2.1 < 2 ^ 31 := by omega
  have e2 : nI (5 * n) + 2 = nI (5 * n + 2) := nI_add (5 * n) 2
  have i2 : 5 * n + 2 < Q.2.1 ∧ Q.2.1 < 2 ^ 31 := by omega
  have e3 : nI (5 * n) + 3 = nI (5 * n + 3) := nI_add (5 * n) 3
  have i3 : 5 * n + 3 < Q.2.1 ∧ Q.2.1 < 2 ^ 31 := by omega
  have e4 : nI (5 * n) + 4 = nI (5 * n + 4) := nI_add (5 * n) 4
  have i4 : 5 * n + 4 < Q.2.1 ∧ Q.2.1 < 2 ^ 31 := by omega
  refine lx_aload_n (pc' := 773) rfl rfl rfl rfl ?_
  refine lx_aload_n (pc' := 774) rfl rfl rfl rfl ?_
  refine lx_iload_n (pc' := 775) rfl rfl rfl rfl ?_
  refine lx_iconst (pc' := 776) (v := 1) rfl rfl li_1 ?_
  refine lx_iadd (pc' := 777) rfl rfl ?_
  apply lx_sld (pc' := 778) rfl rfl
  · first | assumption | rfl
  · assumption
  refine lx_aload_n (pc' := 779) rfl rfl rfl rfl ?_
  refine lx_iload_n (pc' := 780) rfl rfl rfl rfl ?_
  refine lx_iconst (pc' := 781) (v := 2) rfl rfl li_2 ?_
  refine lx_iadd (pc' := 782) rfl rfl ?_
  apply lx_sld (pc' := 783) rfl rfl
  · first | assumption | rfl
  · assumption
  refine lx_aload_n (pc' := 784) rfl rfl rfl rfl ?_
  refine lx_iload_n (pc' := 785) rfl rfl rfl rfl ?_
  refine lx_iconst (pc' := 786) (v := 3) rfl rfl li_3 ?_
  refine lx_iadd (pc' := 787) rfl rfl ?_
  apply lx_sld (pc' := 788) rfl rfl
  · first | assumption | rfl
  · assumption
  refine lx_aload_n (pc' := 789) rfl rfl rfl rfl ?_
  refine lx_iload_n (pc' := 790) rfl rfl rfl rfl ?_
  refine lx_iconst (pc' := 791) (v := 4) rfl rfl li_4 ?_
  refine lx_iadd (pc' := 792) rfl rfl ?_
  apply lx_sld (pc' := 793) rfl rfl
  · first | assumption | rfl
  · assumption
  refine lx_callV (pc' := 796) (As := [.int (Q.2.2 (5 * n + 1)), .int (Q.2.2 (5 * n + 2)), .int (Q.2.2 (5 * n + 3)), .int (Q.2.2 (5 * n + 4))]) (rest := []) (b := o) rfl rfl cw_Law_law_88 (o1) rfl rfl (Nat.le_of_ble_eq_true rfl) (Nat.zero_le _) (Nat.zero_le _) (c_N_look X) ?_
  rintro v h sz ⟨rfl, rfl, rfl⟩
  show lx_E G M_Law_law 796 _ [.int (q_look a (Q.2.2 (5 * n + 1)) (Q.2.2 (5 * n + 2)) (Q.2.2 (5 * n + 3)) (Q.2.2 (5 * n + 4)))] h sz _ _ _
  refine lx_aload_n (pc' := 797) rfl rfl rfl rfl ?_
  refine lx_aload_n (pc' := 798) rfl rfl rfl rfl ?_
  refine lx_iload_n (pc' := 799) rfl rfl rfl rfl ?_
  refine lx_iconst (pc' := 800) (v := 1) rfl rfl li_1 ?_
  refine lx_iadd (pc' := 801) rfl rfl ?_
  apply lx_sld (pc' := 802) rfl rfl
  · first | assumption | rfl
  · assumption
  refine lx_aload_n (pc' := 803) rfl rfl rfl rfl ?_
  refine lx_iload_n (pc' := 804) rfl rfl rfl rfl ?_
  refine lx_iconst (pc' := 805) (v := 2) rfl rfl li_2 ?_
  refine lx_iadd (pc' := 806) rfl rfl ?_
  apply lx_sld (pc' := 807) rfl rfl
  · first | assumption | rfl
  · assumption
  refine lx_aload_n (pc' := 808) rfl rfl rfl rfl ?_
  refine lx_iload_n (pc' := 809) rfl rfl rfl rfl ?_
  refine lx_iconst (pc' := 810) (v := 3) rfl rfl li_3 ?_
  refine lx_iadd (pc' := 811) rfl rfl ?_
  apply lx_sld (pc' := 812) rfl rfl
  · first | assumption | rfl
  · assumption
  refine lx_aload_n (pc' := 813) rfl rfl rfl rfl ?_
  refine lx_iload_n (pc' := 814) rfl rfl rfl rfl ?_
  refine lx_iconst (pc' := 815) (v := 4) rfl rfl li_4 ?_
  refine lx_iadd (pc' := 816) rfl rfl ?_
  apply lx_sld (pc' := 817) rfl rfl
  · first | assumption | rfl
  · assumption
  refine lx_callV (pc' := 820) (As := [.int (Q.2.2 (5 * n + 1)), .int (Q.2.2 (5 * n + 2)), .int (Q.2.2 (5 * n + 3)), .int (Q.2.2 (5 * n + 4))]) (rest := [.int (q_look a (Q.2.2 (5 * n + 1)) (Q.2.2 (5 * n + 2)) (Q.2.2 (5 * n + 3)) (Q.2.2 (5 * n + 4)))]) (b := p) rfl rfl cw_Law_law_91 (p1) rfl rfl (Nat.le_of_ble_eq_true rfl) (Nat.zero_le _) (Nat.zero_le _) (c_M_look J.2.1 V) ?_
  rintro v h sz ⟨rfl, rfl, rfl⟩
  show lx_E G M_Law_law 820 _ [.int (q_look a (Q.2.2 (5 * n + 1)) (Q.2.2 (5 * n + 2)) (Q.2.2 (5 * n + 3)) (Q.2.2 (5 * n + 4))), .int (q_look a (Q.2.2 (5 * n + 1)) (Q.2.2 (5 * n + 2)) (Q.2.2 (5 * n + 3)) (Q.2.2 (5 * n + 4)))] h sz _ _ _
  refine lx_icmp_eq (pc' := 823) (tgt := 1046) rfl rfl rfl (fun cq => ?_) (fun cq => ?_)
  · exact kk a L RA CA h sz _ _ (J.up (by omega)) (by omega) (by omega)
  · exact absurd rfl cq
set_option maxHeartbeats 8000000 in
theorem lw_c17 (J : lw_J o p sz L RA CA (n * 108540) a h) (hn : 5 * n + 5 ≤ Q.2.1) (hL : Q.2.1 ≤ 2560) (hbc : n_pc a + m_pc a ≤ bc) (hbs : n_ps a + m_ps a ≤ bs) (kk : lw_K G o p n Q) : lx_E G M_Law_law 825 (on_l [(0, .ref Q.1), (1, .ref o), (2, .ref p), (3, .int (nI (5 * n)))]) [] h sz bc bs Q := by
  have X := J.1
  have V := J.2.2.1
  have o1 : h o = some (.inr (11, [.ref (o + 1), .ref (o + 2), .ref (o + 3), .ref (o + 4), .ref (o + 5), .ref (o + 34), .ref (o + 42), .ref (o + 43), .int (nI a.nr), .int (nI a.nk), .int (nI a.nc)])) := X.1.1
  have p1 := J.2.1.1.ob.1
  have e1 : nI (5 * n) + 1 = nI (5 * n + 1) := nI_add (5 * n) 1
  have i1 : 5 * n + 1 < Q.2.1 ∧ Q.2.1 < 2 ^ 31 := by omega
  have e2 : nI (5 * n) + 2 = nI (5 * n + 2) := nI_add (5 * n) 2
  have i2 : 5 * n + 2 < Q.2.1 ∧ Q.2.1 < 2 ^ 31 := by omega
  have e3 : nI (5 * n) + 3 = nI (5 * n + 3) := nI_add (5 * n) 3
  have i3 : 5 * n + 3 < Q.2.1 ∧ Q.2.1 < 2 ^ 31 := by omega
  have e4 : nI (5 * n) + 4 = nI (5 * n + 4) := nI_add (5 * n) 4
  have i4 : 5 * n + 4 < Q.2.1 ∧ Q.2.1 < 2 ^ 31 := by omega
  have qv : q_V ((n + 1) * 108540) a (q_settle a (Q.2.2 (5 * n + 1))).2 := q_settle_ok V (by omega)
  obtain ⟨V2, qc, qs⟩ := qv
  refine lx_aload_n (pc' := 826) rfl rfl rfl rfl ?_
  refine lx_aload_n (pc' := 827) rfl rfl rfl rfl ?_
  refine lx_iload_n (pc' := 828) rfl rfl rfl rfl ?_
  refine lx_iconst (pc' := 829) (v := 1) rfl rfl li_1 ?_
  refine lx_iadd (pc' := 830) rfl rfl ?_
  apply lx_sld (pc' := 831) rfl rfl
  · first | assumption | rfl
  · assumption
  refine lx_callV (pc' := 834) (As := [.int (Q.2.2 (5 * n + 1))]) (rest := []) (b := o) rfl rfl cw_Law_law_92 (o1) rfl rfl (Nat.le_of_ble_eq_true rfl) (by omega) (by omega) (c_N_settle (bc := n_pc a - n_pc (q_settle a (Q.2.2 (5 * n + 1))).2) (bs := n_ps a - n_ps (q_settle a (Q.2.2 (5 * n + 1))).2) X V (by omega) ⟨by omega, by omega⟩) ?_
  rintro v h1 z1 ⟨rfl, R1⟩
  have Y1 := J.cls R1
  have p2 := Y1.1.ob.1
  show lx_E G M_Law_law 834 _ [.int (q_settle a (Q.2.2 (5 * n + 1))).1] h1 z1 _ _ _
  refine lx_aload_n (pc' := 835) rfl rfl rfl rfl ?_
  refine lx_aload_n (pc' := 836) rfl rfl rfl rfl ?_
  refine lx_iload_n (pc' := 837) rfl rfl rfl rfl ?_
  refine lx_iconst (pc' := 838) (v := 1) rfl rfl li_1 ?_
  refine lx_iadd (pc' := 839) rfl rfl ?_
  apply lx_sld (pc' := 840) rfl rfl
  · first | assumption | rfl
  · assumption
  refine lx_callV (pc' := 843) (As := [.int (Q.2.2 (5 * n + 1))]) (rest := [.int (q_settle a (Q.2.2 (5 * n + 1))).1]) (b := p) rfl rfl cw_Law_law_95 (p2) rfl rfl (Nat.le_of_ble_eq_true rfl) (Nat.zero_le _) (Nat.zero_le _) (c_M_settle Y1 V (by omega)) ?_
  rintro v h2 z2 ⟨rfl, rfl, Y2, f2, n1, n2⟩
  obtain ⟨m1, m2⟩ := m_pc_le n1 n2
  have R2 := m_R.of Y2 f2 n1 n2
  show lx_E G M_Law_law 843 _ [.int (q_settle a (Q.2.2 (5 * n + 1))).1, .int (q_settle a (Q.2.2 (5 * n + 1))).1] h2 z2 _ _ _
  refine lx_icmp_eq (pc' := 846) (tgt := 1046) rfl rfl rfl (fun cq => ?_) (fun cq => ?_)
  · obtain ⟨L3, RA2, CA2, J2⟩ := J.ref R1 R2 V2
    exact kk (q_settle a (Q.2.2 (5 * n + 1))).2 L3 RA2 CA2 h2 _ _ _ J2 (by omega) (by omega)
  · exact absurd rfl cq
set_option maxHeartbeats 8000000 in
theorem lw_c18 (J : lw_J o p sz L RA CA (n * 108540) a h) (hn : 5 * n + 5 ≤ Q.2.1) (hL : Q.2.1 ≤ 2560) (hbc : n_pc a + m_pc a ≤ bc) (hbs : n_ps a + m_ps a ≤ bs) (kk : lw_K G o p n Q) : lx_E G M_Law_law 848 (on_l [(0, .ref Q.1), (1, .ref o), (2, .ref p), (3, .int (nI (5 * n)))]) [] h sz bc bs Q := by
  have X := J.1
  have V := J.2.2.1
  have o1 : h o = some (.inr (11, [.ref (o + 1), .ref (o + 2), .ref (o + 3), .ref (o + 4), .ref (o + 5), .ref (o + 34), .ref (o + 42), .ref (o + 43), .int (nI a.nr), .int (nI a.nk), .int (nI a.nc)])) := X.1.1
  have p1 := J.2.1.1.ob.1
  have e1 : nI (5 * n) + 1 = nI (5 * n + 1) := nI_add (5 * n) 1
  have i1 : 5 * n + 1 < Q.2.1 ∧ Q.2.1 < 2 ^ 31 := by omega
  have e2 : nI (5 * n) + 2 = nI (5 * n + 2) := nI_add (5 * n) 2
  have i2 : 5 * n + 2 < Q.2.1 ∧ Q.2.1 < 2 ^ 31 := by omega
  have e3 : nI (5 * n) + 3 = nI (5 * n + 3) := nI_add (5 * n) 3
  have i3 : 5 * n + 3 < Q.2.1 ∧ Q.2.1 < 2 ^ 31 := by omega
  have e4 : nI (5 * n) + 4 = nI (5 * n + 4) := nI_add (5 * n) 4
  have i4 : 5 * n + 4 < Q.2.1 ∧ Q.2.1 < 2 ^ 31 := by omega
  refine lx_aload_n (pc' := 849) rfl rfl rfl rfl ?_
  refine lx_aload_n (pc' := 850) rfl rfl rfl rfl ?_
  refine lx_iload_n (pc' := 851) rfl rfl rfl rfl ?_
  refine lx_iconst (pc' := 852) (v := 1) rfl rfl li_1 ?_
  refine lx_iadd (pc' := 853) rfl rfl ?_
  apply lx_sld (pc' := 854) rfl rfl
  · first | assumption | rfl
  · assumption
  refine lx_callV (pc' := 857) (As := [.int (Q.2.2 (5 * n + 1))]) (rest := []) (b := o) rfl rfl cw_Law_law_96 (o1) rfl rfl (Nat.le_of_ble_eq_true rfl) (Nat.zero_le _) (Nat.zero_le _) (c_N_state X V) ?_
  rintro v h sz ⟨rfl, rfl, rfl⟩
  show lx_E G M_Law_law 857 _ [.int (q_state a (Q.2.2 (5 * n + 1)))] h sz _ _ _
  refine lx_aload_n (pc' := 858) rfl rfl rfl rfl ?_
  refine lx_aload_n (pc' := 859) rfl rfl rfl rfl ?_
  refine lx_iload_n (pc' := 860) rfl rfl rfl rfl ?_
  refine lx_iconst (pc' := 861) (v := 1) rfl rfl li_1 ?_
  refine lx_iadd (pc' := 862) rfl rfl ?_
  apply lx_sld (pc' := 863) rfl rfl
  · first | assumption | rfl
  · assumption
  refine lx_callV (pc' := 866) (As := [.int (Q.2.2 (5 * n + 1))]) (rest := [.int (q_state a (Q.2.2 (5 * n + 1)))]) (b := p) rfl rfl cw_Law_law_99 (p1) rfl rfl (Nat.le_of_ble_eq_true rfl) (Nat.zero_le _) (Nat.zero_le _) (c_M_state J.2.1 V) ?_
  rintro v h sz ⟨rfl, rfl, rfl⟩
  show lx_E G M_Law_law 866 _ [.int (q_state a (Q.2.2 (5 * n + 1))), .int (q_state a (Q.2.2 (5 * n + 1)))] h sz _ _ _
  refine lx_icmp_eq (pc' := 869) (tgt := 1046) rfl rfl rfl (fun cq => ?_) (fun cq => ?_)
  · exact kk a L RA CA h sz _ _ (J.up (by omega)) (by omega) (by omega)
  · exact absurd rfl cq
set_option maxHeartbeats 8000000 in
theorem lw_c19 (J : lw_J o p sz L RA CA (n * 108540) a h) (hn : 5 * n + 5 ≤ Q.2.1) (hL : Q.2.1 ≤ 2560) (hbc : n_pc a + m_pc a ≤ bc) (hbs : n_ps a + m_ps a ≤ bs) (kk : lw_K G o p n Q) : lx_E G M_Law_law 871 (on_l [(0, .ref Q.1), (1, .ref o), (2, .ref p), (3, .int (nI (5 * n)))]) [] h sz bc bs Q := by
  have X := J.1
  have V := J.2.2.1
  have o1 : h o = some (.inr (11, [.ref (o + 1), .ref (o + 2), .ref (o + 3), .ref (o + 4), .ref (o + 5), .ref (o + 34), .ref (o + 42), .ref (o + 43), .int (nI a.nr), .int (nI a.nk), .int (nI a.nc)])) := X.1.1
  have p1 := J.2.1.1.ob.1
  have e1 : nI (5 * n) + 1 = nI (5 * n + 1) := nI_add (5 * n) 1
  have i1 : 5 * n + 1 < Q.2.1 ∧ Q.2.1 < 2 ^ 31 := by omega
  have e2 : nI (5 * n) + 2 = nI (5 * n + 2) := nI_add (5 * n) 2
  have i2 : 5 * n + 2 < Q.2.1 ∧ Q.2.1 < 2 ^ 31 := by omega
  have e3 : nI (5 * n) + 3 = nI (5 * n + 3) := nI_add (5 * n) 3
  have i3 : 5 * n + 3 < Q.2.1 ∧ Q.2.1 < 2 ^ 31 := by omega
  have e4 : nI (5 * n) + 4 = nI (5 * n + 4) := nI_add (5 * n) 4
  have i4 : 5 * n + 4 < Q.2.1 ∧ Q.2.1 < 2 ^ 31 := by omega
  refine lx_aload_n (pc' := 872) rfl rfl rfl rfl ?_
  refine lx_aload_n (pc' := 873) rfl rfl rfl rfl ?_
  refine lx_iload_n (pc' := 874) rfl rfl rfl rfl ?_
  refine lx_iconst (pc' := 875) (v := 1) rfl rfl li_1 ?_
  refine lx_iadd (pc' := 876) rfl rfl ?_
  apply lx_sld (pc' := 877) rfl rfl
  · first | assumption | rfl
  · assumption
  refine lx_callV (pc' := 880) (As := [.int (Q.2.2 (5 * n + 1))]) (rest := []) (b := o) rfl rfl cw_Law_law_100 (o1) rfl rfl (Nat.le_of_ble_eq_true rfl) (Nat.zero_le _) (Nat.zero_le _) (c_N_hops X V) ?_
  rintro v h sz ⟨rfl, rfl, rfl⟩
  show lx_E G M_Law_law 880 _ [.int (q_hops a (Q.2.2 (5 * n + 1)))] h sz _ _ _
  refine lx_aload_n (pc' := 881) rfl rfl rfl rfl ?_
  refine lx_aload_n (pc' := 882) rfl rfl rfl rfl ?_
  refine lx_iload_n (pc' := 883) rfl rfl rfl rfl ?_
  refine lx_iconst (pc' := 884) (v := 1) rfl rfl li_1 ?_
  refine lx_iadd (pc' := 885) rfl rfl ?_
  apply lx_sld (pc' := 886) rfl rfl
  · first | assumption | rfl
  · assumption
  refine lx_callV (pc' := 889) (As := [.int (Q.2.2 (5 * n + 1))]) (rest := [.int (q_hops a (Q.2.2 (5 * n + 1)))]) (b := p) rfl rfl cw_Law_law_103 (p1) rfl rfl (Nat.le_of_ble_eq_true rfl) (Nat.zero_le _) (Nat.zero_le _) (c_M_hops J.2.1 V) ?_
  rintro v h sz ⟨rfl, rfl, rfl⟩
  show lx_E G M_Law_law 889 _ [.int (q_hops a (Q.2.2 (5 * n + 1))), .int (q_hops a (Q.2.2 (5 * n + 1)))] h sz _ _ _
  refine lx_icmp_eq (pc' := 892) (tgt := 1046) rfl rfl rfl (fun cq => ?_) (fun cq => ?_)
  · exact kk a L RA CA h sz _ _ (J.up (by omega)) (by omega) (by omega)
  · exact absurd rfl cq
set_option maxHeartbeats 8000000 in
theorem lw_c20 (J : lw_J o p sz L RA CA (n * 108540) a h) (hn : 5 * n + 5 ≤ Q.2.1) (hL : Q.2.1 ≤ 2560) (hbc : n_pc a + m_pc a ≤ bc) (hbs : n_ps a + m_ps a ≤ bs) (kk : lw_K G o p n Q) : lx_E G M_Law_law 894 (on_l [(0, .ref Q.1), (1, .ref o), (2, .ref p), (3, .int (nI (5 * n)))]) [] h sz bc bs Q := by
  have X := J.1
  have V := J.2.2.1
  have o1 : h o = some (.inr (11, [.ref (o + 1), .ref (o + 2), .ref (o + 3), .ref (o + 4), .ref (o + 5), .ref (o + 34), .ref (o + 42), .ref (o + 43), .int (nI a.nr), .int (nI a.nk), .int (nI a.nc)])) := X.1.1
  have p1 := J.2.1.1.ob.1
  have e1 : nI (5 * n) + 1 = nI (5 * n + 1) := nI_add (5 * n) 1
  have i1 : 5 * n + 1 < Q.2.1 ∧ Q.2.1 < 2 ^ 31 := by omega
  have e2 : nI (5 * n) + 2 = nI (5 * n + 2) := nI_add (5 * n) 2
  have i2 : 5 * n + 2 < Q.2.1 ∧ Q.2.1 < 2 ^ 31 := by omega
  have e3 : nI (5 * n) + 3 = nI (5 * n + 3) := nI_add (5 * n) 3
  have i3 : 5 * n + 3 < Q.2.1 ∧ Q.2.1 < 2 ^ 31 := by omega
  have e4 : nI (5 * n) + 4 = nI (5 * n + 4) := nI_add (5 * n) 4
  have i4 : 5 * n + 4 < Q.2.1 ∧ Q.2.1 < 2 ^ 31 := by omega
  refine lx_aload_n (pc' := 895) rfl rfl rfl rfl ?_
  refine lx_aload_n (pc' := 896) rfl rfl rfl rfl ?_
  refine lx_iload_n (pc' := 897) rfl rfl rfl rfl ?_
  refine lx_iconst (pc' := 898) (v := 1) rfl rfl li_1 ?_
  refine lx_iadd (pc' := 899) rfl rfl ?_
  apply lx_sld (pc' := 900) rfl rfl
  · first | assumption | rfl
  · assumption
  refine lx_aload_n (pc' := 901) rfl rfl rfl rfl ?_
  refine lx_iload_n (pc' := 902) rfl rfl rfl rfl ?_
  refine lx_iconst (pc' := 903) (v := 2) rfl rfl li_2 ?_
  refine lx_iadd (pc' := 904) rfl rfl ?_
  apply lx_sld (pc' := 905) rfl rfl
  · first | assumption | rfl
  · assumption
  refine lx_aload_n (pc' := 906) rfl rfl rfl rfl ?_
  refine lx_iload_n (pc' := 907) rfl rfl rfl rfl ?_
  refine lx_iconst (pc' := 908) (v := 3) rfl rfl li_3 ?_
  refine lx_iadd (pc' := 909) rfl rfl ?_
  apply lx_sld (pc' := 910) rfl rfl
  · first | assumption | rfl
  · assumption
  refine lx_callV (pc' := 913) (As := [.int (Q.2.2 (5 * n + 1)), .int (Q.2.2 (5 * n + 2)), .int (Q.2.2 (5 * n + 3))]) (rest := []) (b := o) rfl rfl cw_Law_law_104 (o1) rfl rfl (Nat.le_of_ble_eq_true rfl) (Nat.zero_le _) (Nat.zero_le _) (c_N_told X V) ?_
  rintro v h sz ⟨rfl, rfl, rfl⟩
  show lx_E G M_Law_law 913 _ [.int (q_told a (Q.2.2 (5 * n + 1)) (Q.2.2 (5 * n + 2)) (Q.2.2 (5 * n + 3)))] h sz _ _ _
  refine lx_aload_n (pc' := 914) rfl rfl rfl rfl ?_
  refine lx_aload_n (pc' := 915) rfl rfl rfl rfl ?_
  refine lx_iload_n (pc' := 916) rfl rfl rfl rfl ?_
  refine lx_iconst (pc' := 917) (v := 1) rfl rfl li_1 ?_
  refine lx_iadd (pc' := 918) rfl rfl ?_
  apply lx_sld (pc' := 919) rfl rfl
  · first | assumption | rfl
  · assumption
  refine lx_aload_n (pc' := 920) rfl rfl rfl rfl ?_
  refine lx_iload_n (pc' := 921) rfl rfl rfl rfl ?_
  refine lx_iconst (pc' := 922) (v := 2) rfl rfl li_2 ?_
  refine lx_iadd (pc' := 923) rfl rfl ?_
  apply lx_sld (pc' := 924) rfl rfl
  · first | assumption | rfl
  · assumption
  refine lx_aload_n (pc' := 925) rfl rfl rfl rfl ?_
  refine lx_iload_n (pc' := 926) rfl rfl rfl rfl ?_
  refine lx_iconst (pc' := 927) (v := 3) rfl rfl li_3 ?_
  refine lx_iadd (pc' := 928) rfl rfl ?_
  apply lx_sld (pc' := 929) rfl rfl
  · first | assumption | rfl
  · assumption
  refine lx_callV (pc' := 932) (As := [.int (Q.2.2 (5 * n + 1)), .int (Q.2.2 (5 * n + 2)), .int (Q.2.2 (5 * n + 3))]) (rest := [.int (q_told a (Q.2.2 (5 * n + 1)) (Q.2.2 (5 * n + 2)) (Q.2.2 (5 * n + 3)))]) (b := p) rfl rfl cw_Law_law_108 (p1) rfl rfl (Nat.le_of_ble_eq_true rfl) (Nat.zero_le _) (Nat.zero_le _) (c_M_told J.2.1 V) ?_
  rintro v h sz ⟨rfl, rfl, rfl⟩
  show lx_E G M_Law_law 932 _ [.int (q_told a (Q.2.2 (5 * n + 1)) (Q.2.2 (5 * n + 2)) (Q.2.2 (5 * n + 3))), .int (q_told a (Q.2.2 (5 * n + 1)) (Q.2.2 (5 * n + 2)) (Q.2.2 (5 * n + 3)))] h sz _ _ _
  refine lx_icmp_eq (pc' := 935) (tgt := 1046) rfl rfl rfl (fun cq => ?_) (fun cq => ?_)
  · exact kk a L RA CA h sz _ _ (J.up (by omega)) (by omega) (by omega)
  · exact absurd rfl cq
set_option maxHeartbeats 8000000 in
theorem lw_c21 (J : lw_J o p sz L RA CA (n * 108540) a h) (hn : 5 * n + 5 ≤ Q.2.1) (hL : Q.2.1 ≤ 2560) (hbc : n_pc a + m_pc a ≤ bc) (hbs : n_ps a + m_ps a ≤ bs) (kk : lw_K G o p n Q) : lx_E G M_Law_law 937 (on_l [(0, .ref Q.1), (1, .ref o), (2, .ref p), (3, .int (nI (5 * n)))]) [] h sz bc bs Q := by
  have X := J.1
  have V := J.2.2.1
  have o1 : h o = some (.inr (11, [.ref (o + 1), .ref (o + 2), .ref (o + 3), .ref (o + 4), .ref (o + 5), .ref (o + 34), .ref (o + 42), .ref (o + 43), .int (nI a.nr), .int (nI a.nk), .int (nI a.nc)])) := X.1.1
  have p1 := J.2.1.1.ob.1
  have e1 : nI (5 * n) + 1 = nI (5 * n + 1) := nI_add (5 * n) 1
  have i1 : 5 * n + 1 < Q.2.1 ∧ Q.2.1 < 2 ^ 31 := by omega
  have e2 : nI (5 * n) + 2 = nI (5 * n + 2) := nI_add (5 * n) 2
  have i2 : 5 * n + 2 < Q.2.1 ∧ Q.2.1 < 2 ^ 31 := by omega
  have e3 : nI (5 * n) + 3 = nI (5 * n + 3) := nI_add (5 * n) 3
  have i3 : 5 * n + 3 < Q.2.1 ∧ Q.2.1 < 2 ^ 31 := by omega
  have e4 : nI (5 * n) + 4 = nI (5 * n + 4) := nI_add (5 * n) 4
  have i4 : 5 * n + 4 < Q.2.1 ∧ Q.2.1 < 2 ^ 31 := by omega
  refine lx_aload_n (pc' := 938) rfl rfl rfl rfl ?_
  refine lx_aload_n (pc' := 939) rfl rfl rfl rfl ?_
  refine lx_iload_n (pc' := 940) rfl rfl rfl rfl ?_
  refine lx_iconst (pc' := 941) (v := 1) rfl rfl li_1 ?_
  refine lx_iadd (pc' := 942) rfl rfl ?_
  apply lx_sld (pc' := 943) rfl rfl
  · first | assumption | rfl
  · assumption
  refine lx_aload_n (pc' := 944) rfl rfl rfl rfl ?_
  refine lx_iload_n (pc' := 945) rfl rfl rfl rfl ?_
  refine lx_iconst (pc' := 946) (v := 2) rfl rfl li_2 ?_
  refine lx_iadd (pc' := 947) rfl rfl ?_
  apply lx_sld (pc' := 948) rfl rfl
  · first | assumption | rfl
  · assumption
  refine lx_aload_n (pc' := 949) rfl rfl rfl rfl ?_
  refine lx_iload_n (pc' := 950) rfl rfl rfl rfl ?_
  refine lx_iconst (pc' := 951) (v := 3) rfl rfl li_3 ?_
  refine lx_iadd (pc' := 952) rfl rfl ?_
  apply lx_sld (pc' := 953) rfl rfl
  · first | assumption | rfl
  · assumption
  refine lx_callV (pc' := 956) (As := [.int (Q.2.2 (5 * n + 1)), .int (Q.2.2 (5 * n + 2)), .int (Q.2.2 (5 * n + 3))]) (rest := []) (b := o) rfl rfl cw_Law_law_109 (o1) rfl rfl (Nat.le_of_ble_eq_true rfl) (Nat.zero_le _) (Nat.zero_le _) (c_N_got X V) ?_
  rintro v h sz ⟨rfl, rfl, rfl⟩
  show lx_E G M_Law_law 956 _ [.int (q_got a (Q.2.2 (5 * n + 1)) (Q.2.2 (5 * n + 2)) (Q.2.2 (5 * n + 3)))] h sz _ _ _
  refine lx_aload_n (pc' := 957) rfl rfl rfl rfl ?_
  refine lx_aload_n (pc' := 958) rfl rfl rfl rfl ?_
  refine lx_iload_n (pc' := 959) rfl rfl rfl rfl ?_
  refine lx_iconst (pc' := 960) (v := 1) rfl rfl li_1 ?_
  refine lx_iadd (pc' := 961) rfl rfl ?_
  apply lx_sld (pc' := 962) rfl rfl
  · first | assumption | rfl
  · assumption
  refine lx_aload_n (pc' := 963) rfl rfl rfl rfl ?_
  refine lx_iload_n (pc' := 964) rfl rfl rfl rfl ?_
  refine lx_iconst (pc' := 965) (v := 2) rfl rfl li_2 ?_
  refine lx_iadd (pc' := 966) rfl rfl ?_
  apply lx_sld (pc' := 967) rfl rfl
  · first | assumption | rfl
  · assumption
  refine lx_aload_n (pc' := 968) rfl rfl rfl rfl ?_
  refine lx_iload_n (pc' := 969) rfl rfl rfl rfl ?_
  refine lx_iconst (pc' := 970) (v := 3) rfl rfl li_3 ?_
  refine lx_iadd (pc' := 971) rfl rfl ?_
  apply lx_sld (pc' := 972) rfl rfl
  · first | assumption | rfl
  · assumption
  refine lx_callV (pc' := 975) (As := [.int (Q.2.2 (5 * n + 1)), .int (Q.2.2 (5 * n + 2)), .int (Q.2.2 (5 * n + 3))]) (rest := [.int (q_got a (Q.2.2 (5 * n + 1)) (Q.2.2 (5 * n + 2)) (Q.2.2 (5 * n + 3)))]) (b := p) rfl rfl cw_Law_law_112 (p1) rfl rfl (Nat.le_of_ble_eq_true rfl) (Nat.zero_le _) (Nat.zero_le _) (c_M_got J.2.1 V) ?_
  rintro v h sz ⟨rfl, rfl, rfl⟩
  show lx_E G M_Law_law 975 _ [.int (q_got a (Q.2.2 (5 * n + 1)) (Q.2.2 (5 * n + 2)) (Q.2.2 (5 * n + 3))), .int (q_got a (Q.2.2 (5 * n + 1)) (Q.2.2 (5 * n + 2)) (Q.2.2 (5 * n + 3)))] h sz _ _ _
  refine lx_icmp_eq (pc' := 978) (tgt := 1046) rfl rfl rfl (fun cq => ?_) (fun cq => ?_)
  · exact kk a L RA CA h sz _ _ (J.up (by omega)) (by omega) (by omega)
  · exact absurd rfl cq
set_option maxHeartbeats 8000000 in
theorem lw_c22 (J : lw_J o p sz L RA CA (n * 108540) a h) (hn : 5 * n + 5 ≤ Q.2.1) (hL : Q.2.1 ≤ 2560) (hbc : n_pc a + m_pc a ≤ bc) (hbs : n_ps a + m_ps a ≤ bs) (kk : lw_K G o p n Q) : lx_E G M_Law_law 980 (on_l [(0, .ref Q.1), (1, .ref o), (2, .ref p), (3, .int (nI (5 * n)))]) [] h sz bc bs Q := by
  have X := J.1
  have V := J.2.2.1
  have o1 : h o = some (.inr (11, [.ref (o + 1), .ref (o + 2), .ref (o + 3), .ref (o + 4), .ref (o + 5), .ref (o + 34), .ref (o + 42), .ref (o + 43), .int (nI a.nr), .int (nI a.nk), .int (nI a.nc)])) := X.1.1
  have p1 := J.2.1.1.ob.1
  have e1 : nI (5 * n) + 1 = nI (5 * n + 1) := nI_add (5 * n) 1
  have i1 : 5 * n + 1 < Q.2.1 ∧ Q.2.1 < 2 ^ 31 := by omega
  have e2 : nI (5 * n) + 2 = nI (5 * n + 2) := nI_add (5 * n) 2
  have i2 : 5 * n + 2 < Q.2.1 ∧ Q.2.1 < 2 ^ 31 := by omega
  have e3 : nI (5 * n) + 3 = nI (5 * n + 3) := nI_add (5 * n) 3
  have i3 : 5 * n + 3 < Q.2.1 ∧ Q.2.1 < 2 ^ 31 := by omega
  have e4 : nI (5 * n) + 4 = nI (5 * n + 4) := nI_add (5 * n) 4
  have i4 : 5 * n + 4 < Q.2.1 ∧ Q.2.1 < 2 ^ 31 := by omega
  refine lx_aload_n (pc' := 981) rfl rfl rfl rfl ?_
  refine lx_aload_n (pc' := 982) rfl rfl rfl rfl ?_
  refine lx_iload_n (pc' := 983) rfl rfl rfl rfl ?_
  refine lx_iconst (pc' := 984) (v := 1) rfl rfl li_1 ?_
  refine lx_iadd (pc' := 985) rfl rfl ?_
  apply lx_sld (pc' := 986) rfl rfl
  · first | assumption | rfl
  · assumption
  refine lx_aload_n (pc' := 987) rfl rfl rfl rfl ?_
  refine lx_iload_n (pc' := 988) rfl rfl rfl rfl ?_
  refine lx_iconst (pc' := 989) (v := 2) rfl rfl li_2 ?_
  refine lx_iadd (pc' := 990) rfl rfl ?_
  apply lx_sld (pc' := 991) rfl rfl
  · first | assumption | rfl
  · assumption
  refine lx_callV (pc' := 994) (As := [.int (Q.2.2 (5 * n + 1)), .int (Q.2.2 (5 * n + 2))]) (rest := []) (b := o) rfl rfl cw_Law_law_113 (o1) rfl rfl (Nat.le_of_ble_eq_true rfl) (Nat.zero_le _) (Nat.zero_le _) (c_N_kept X V) ?_
  rintro v h sz ⟨rfl, rfl, rfl⟩
  show lx_E G M_Law_law 994 _ [.int (q_kept a (Q.2.2 (5 * n + 1)) (Q.2.2 (5 * n + 2)))] h sz _ _ _
  refine lx_aload_n (pc' := 995) rfl rfl rfl rfl ?_
  refine lx_aload_n (pc' := 996) rfl rfl rfl rfl ?_
  refine lx_iload_n (pc' := 997) rfl rfl rfl rfl ?_
  refine lx_iconst (pc' := 998) (v := 1) rfl rfl li_1 ?_
  refine lx_iadd (pc' := 999) rfl rfl ?_
  apply lx_sld (pc' := 1000) rfl rfl
  · first | assumption | rfl
  · assumption
  refine lx_aload_n (pc' := 1001) rfl rfl rfl rfl ?_
  refine lx_iload_n (pc' := 1002) rfl rfl rfl rfl ?_
  refine lx_iconst (pc' := 1003) (v := 2) rfl rfl li_2 ?_
  refine lx_iadd (pc' := 1004) rfl rfl ?_
  apply lx_sld (pc' := 1005) rfl rfl
  · first | assumption | rfl
  · assumption
  refine lx_callV (pc' := 1008) (As := [.int (Q.2.2 (5 * n + 1)), .int (Q.2.2 (5 * n + 2))]) (rest := [.int (q_kept a (Q.2.2 (5 * n + 1)) (Q.2.2 (5 * n + 2)))]) (b := p) rfl rfl cw_Law_law_116 (p1) rfl rfl (Nat.le_of_ble_eq_true rfl) (Nat.zero_le _) (Nat.zero_le _) (c_M_kept J.2.1 V) ?_
  rintro v h sz ⟨rfl, rfl, rfl⟩
  show lx_E G M_Law_law 1008 _ [.int (q_kept a (Q.2.2 (5 * n + 1)) (Q.2.2 (5 * n + 2))), .int (q_kept a (Q.2.2 (5 * n + 1)) (Q.2.2 (5 * n + 2)))] h sz _ _ _
  refine lx_icmp_eq (pc' := 1011) (tgt := 1046) rfl rfl rfl (fun cq => ?_) (fun cq => ?_)
  · exact kk a L RA CA h sz _ _ (J.up (by omega)) (by omega) (by omega)
  · exact absurd rfl cq
set_option maxHeartbeats 8000000 in
theorem lw_c23 (J : lw_J o p sz L RA CA (n * 108540) a h) (hn : 5 * n + 5 ≤ Q.2.1) (hL : Q.2.1 ≤ 2560) (hbc : n_pc a + m_pc a ≤ bc) (hbs : n_ps a + m_ps a ≤ bs) (kk : lw_K G o p n Q) : lx_E G M_Law_law 1013 (on_l [(0, .ref Q.1), (1, .ref o), (2, .ref p), (3, .int (nI (5 * n)))]) [] h sz bc bs Q := by
  have X := J.1
  have V := J.2.2.1
  have o1 : h o = some (.inr (11, [.ref (o + 1), .ref (o + 2), .ref (o + 3), .ref (o + 4), .ref (o + 5), .ref (o + 34), .ref (o + 42), .ref (o + 43), .int (nI a.nr), .int (nI a.nk), .int (nI a.nc)])) := X.1.1
  have p1 := J.2.1.1.ob.1
  have e1 : nI (5 * n) + 1 = nI (5 * n + 1) := nI_add (5 * n) 1
  have i1 : 5 * n + 1 < Q.2.1 ∧ Q.2.1 < 2 ^ 31 := by omega
  have e2 : nI (5 * n) + 2 = nI (5 * n + 2) := nI_add (5 * n) 2
  have i2 : 5 * n + 2 < Q.2.1 ∧ Q.2.1 < 2 ^ 31 := by omega
  have e3 : nI (5 * n) + 3 = nI (5 * n + 3) := nI_add (5 * n) 3
  have i3 : 5 * n + 3 < Q.2.1 ∧ Q.2.1 < 2 ^ 31 := by omega
  have e4 : nI (5 * n) + 4 = nI (5 * n + 4) := nI_add (5 * n) 4
  have i4 : 5 * n + 4 < Q.2.1 ∧ Q.2.1 < 2 ^ 31 := by omega
  refine lx_aload_n (pc' := 1014) rfl rfl rfl rfl ?_
  refine lx_aload_n (pc' := 1015) rfl rfl rfl rfl ?_
  refine lx_iload_n (pc' := 1016) rfl rfl rfl rfl ?_
  refine lx_iconst (pc' := 1017) (v := 1) rfl rfl li_1 ?_
  refine lx_iadd (pc' := 1018) rfl rfl ?_
  apply lx_sld (pc' := 1019) rfl rfl
  · first | assumption | rfl
  · assumption
  refine lx_aload_n (pc' := 1020) rfl rfl rfl rfl ?_
  refine lx_iload_n (pc' := 1021) rfl rfl rfl rfl ?_
  refine lx_iconst (pc' := 1022) (v := 2) rfl rfl li_2 ?_
  refine lx_iadd (pc' := 1023) rfl rfl ?_
  apply lx_sld (pc' := 1024) rfl rfl
  · first | assumption | rfl
  · assumption
  refine lx_callV (pc' := 1027) (As := [.int (Q.2.2 (5 * n + 1)), .int (Q.2.2 (5 * n + 2))]) (rest := []) (b := o) rfl rfl cw_Law_law_117 (o1) rfl rfl (Nat.le_of_ble_eq_true rfl) (Nat.zero_le _) (Nat.zero_le _) (c_N_has X V) ?_
  rintro v h sz ⟨rfl, rfl, rfl⟩
  show lx_E G M_Law_law 1027 _ [.int (q_has a (Q.2.2 (5 * n + 1)) (Q.2.2 (5 * n + 2)))] h sz _ _ _
  refine lx_aload_n (pc' := 1028) rfl rfl rfl rfl ?_
  refine lx_aload_n (pc' := 1029) rfl rfl rfl rfl ?_
  refine lx_iload_n (pc' := 1030) rfl rfl rfl rfl ?_
  refine lx_iconst (pc' := 1031) (v := 1) rfl rfl li_1 ?_
  refine lx_iadd (pc' := 1032) rfl rfl ?_
  apply lx_sld (pc' := 1033) rfl rfl
  · first | assumption | rfl
  · assumption
  refine lx_aload_n (pc' := 1034) rfl rfl rfl rfl ?_
  refine lx_iload_n (pc' := 1035) rfl rfl rfl rfl ?_
  refine lx_iconst (pc' := 1036) (v := 2) rfl rfl li_2 ?_
  refine lx_iadd (pc' := 1037) rfl rfl ?_
  apply lx_sld (pc' := 1038) rfl rfl
  · first | assumption | rfl
  · assumption
  refine lx_callV (pc' := 1041) (As := [.int (Q.2.2 (5 * n + 1)), .int (Q.2.2 (5 * n + 2))]) (rest := [.int (q_has a (Q.2.2 (5 * n + 1)) (Q.2.2 (5 * n + 2)))]) (b := p) rfl rfl cw_Law_law_120 (p1) rfl rfl (Nat.le_of_ble_eq_true rfl) (Nat.zero_le _) (Nat.zero_le _) (c_M_has J.2.1 V) ?_
  rintro v h sz ⟨rfl, rfl, rfl⟩
  show lx_E G M_Law_law 1041 _ [.int (q_has a (Q.2.2 (5 * n + 1)) (Q.2.2 (5 * n + 2))), .int (q_has a (Q.2.2 (5 * n + 1)) (Q.2.2 (5 * n + 2)))] h sz _ _ _
  refine lx_icmp_eq (pc' := 1044) (tgt := 1046) rfl rfl rfl (fun cq => ?_) (fun cq => ?_)
  · exact kk a L RA CA h sz _ _ (J.up (by omega)) (by omega) (by omega)
  · exact absurd rfl cq
end LWC
