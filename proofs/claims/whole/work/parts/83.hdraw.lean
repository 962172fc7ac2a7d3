/-! the class's Handshake between calls; draws -/
/-- a label row: the name, and some tag -/
def hk_L (o : Nat) (h : on_H) : Prop := ∃ T, h (o + 20) = some (on_ai 0 9 T) ∧ on_by T nm_b 8
/-- the text: the name at its end -/
def hk_T (o : Nat) (h : on_H) : Prop := ∃ T, h (o + 21) = some (on_ai 0 172 T) ∧ ∀ j, j < 8 → T (164 + j) = nI (nm_b j)
def hk_W (o : Nat) (h : on_H) : Prop :=
  h o = some (.inr (3, hk_f o)) ∧
  sh_W (o + 1) h ∧
  sh_W (o + 4) h ∧
  cu_K (o + 7) h ∧
  rB h (o + 19) 32 bs_p ∧
  hk_L o h ∧
  hk_T o h ∧
  rW h (o + 22) 64 ∧
  rW h (o + 23) 32 ∧
  rW h (o + 24) 32 ∧
  rW h (o + 25) 32 ∧
  rW h (o + 26) 32 ∧
  rW h (o + 27) 32 ∧
  rW h (o + 28) 4
theorem hk_W.ob {o : Nat} {h : on_H} (k : hk_W o h) : h o = some (.inr (3, hk_f o)) := k.1
theorem hk_W.sh {o : Nat} {h : on_H} (k : hk_W o h) : sh_W (o + 1) h := k.2.1
theorem hk_W.tr {o : Nat} {h : on_H} (k : hk_W o h) : sh_W (o + 4) h := k.2.2.1
theorem hk_W.cu {o : Nat} {h : on_H} (k : hk_W o h) : cu_K (o + 7) h := k.2.2.2.1
theorem hk_W.ba {o : Nat} {h : on_H} (k : hk_W o h) : rB h (o + 19) 32 bs_p := k.2.2.2.2.1
theorem hk_W.la {o : Nat} {h : on_H} (k : hk_W o h) : hk_L o h := k.2.2.2.2.2.1
theorem hk_W.tx {o : Nat} {h : on_H} (k : hk_W o h) : hk_T o h := k.2.2.2.2.2.2.1
theorem hk_W.pa {o : Nat} {h : on_H} (k : hk_W o h) : rW h (o + 22) 64 := k.2.2.2.2.2.2.2.1
theorem hk_W.inn {o : Nat} {h : on_H} (k : hk_W o h) : rW h (o + 23) 32 := k.2.2.2.2.2.2.2.2.1
theorem hk_W.pr {o : Nat} {h : on_H} (k : hk_W o h) : rW h (o + 24) 32 := k.2.2.2.2.2.2.2.2.2.1
theorem hk_W.ma {o : Nat} {h : on_H} (k : hk_W o h) : rW h (o + 25) 32 := k.2.2.2.2.2.2.2.2.2.2.1
theorem hk_W.dk {o : Nat} {h : on_H} (k : hk_W o h) : rW h (o + 26) 32 := k.2.2.2.2.2.2.2.2.2.2.2.1
theorem hk_W.ck {o : Nat} {h : on_H} (k : hk_W o h) : rW h (o + 27) 32 := k.2.2.2.2.2.2.2.2.2.2.2.2.1
theorem hk_W.sm {o : Nat} {h : on_H} (k : hk_W o h) : rW h (o + 28) 4 := k.2.2.2.2.2.2.2.2.2.2.2.2.2
theorem hk_L.keep {o : Nat} {h h2 : on_H} (k : hk_L o h) (e : h2 (o + 20) = h (o + 20)) : hk_L o h2 := by
  obtain ⟨T, e1, e2⟩ := k
  exact ⟨T, e.trans e1, e2⟩
theorem hk_T.keep {o : Nat} {h h2 : on_H} (k : hk_T o h) (e : h2 (o + 21) = h (o + 21)) : hk_T o h2 := by
  obtain ⟨T, e1, e2⟩ := k
  exact ⟨T, e.trans e1, e2⟩
theorem cu_K.keep {o : Nat} {h h2 : on_H} (k : cu_K o h) (e : ∀ a, o ≤ a → a < o + 12 → h2 a = h a) : cu_K o h2 := by
  obtain ⟨c, cl, ⟨s, s0, s1, s2, s3, s4, s5, s6, s7, s8, s9⟩, hi, hc⟩ := k
  exact ⟨c, cl, ⟨(e _ (by omega) (by omega)).trans s, (e _ (by omega) (by omega)).trans s0, (e _ (by omega) (by omega)).trans s1, (e _ (by omega) (by omega)).trans s2, (e _ (by omega) (by omega)).trans s3, (e _ (by omega) (by omega)).trans s4, (e _ (by omega) (by omega)).trans s5, (e _ (by omega) (by omega)).trans s6, (e _ (by omega) (by omega)).trans s7, (e _ (by omega) (by omega)).trans s8, (e _ (by omega) (by omega)).trans s9⟩, hi, (e _ (by omega) (by omega)).trans hc⟩
theorem hk_W.keep {o : Nat} {h h2 : on_H} (k : hk_W o h) (e : ∀ a, o ≤ a → a < o + 29 → h2 a = h a) : hk_W o h2 := by
  refine ⟨?_, ?_, ?_, ?_, ?_, ?_, ?_, ?_, ?_, ?_, ?_, ?_, ?_, ?_⟩
  · exact (e _ (by omega) (by omega)).trans k.ob
  · exact k.sh.keep (fun a h1 h2 => e a (by omega) (by omega))
  · exact k.tr.keep (fun a h1 h2 => e a (by omega) (by omega))
  · exact k.cu.keep (fun a h1 h2 => e a (by omega) (by omega))
  · exact k.ba.keep (e _ (by omega) (by omega))
  · exact k.la.keep (e _ (by omega) (by omega))
  · exact k.tx.keep (e _ (by omega) (by omega))
  · exact k.pa.keep (e _ (by omega) (by omega))
  · exact k.inn.keep (e _ (by omega) (by omega))
  · exact k.pr.keep (e _ (by omega) (by omega))
  · exact k.ma.keep (e _ (by omega) (by omega))
  · exact k.dk.keep (e _ (by omega) (by omega))
  · exact k.ck.keep (e _ (by omega) (by omega))
  · exact k.sm.keep (e _ (by omega) (by omega))
/-- a Node at a -/
def nd_S (a : Nat) (num : Int32) (seed : Int64) (draws next : Int32) (h : on_H) : Prop := h a = some (.inr (4, [.int num, .ref (a + 1), .int draws, .int next])) ∧ rB h (a + 1) 8 (sd_b seed)
theorem nd_S.keep {a : Nat} {num : Int32} {seed : Int64} {draws next : Int32} {h h2 : on_H} (k : nd_S a num seed draws next h) (e : h2 a = h a) (e2 : h2 (a + 1) = h (a + 1)) : nd_S a num seed draws next h2 := ⟨e.trans k.1, k.2.keep e2⟩
theorem nt_sl (tag : Nat) : sp_sl (nt_b tag) 0 9 = sp_sl nm_b 0 8 ++ [tag] := by
  rw [sp_sl_s, show nt_b tag (0 + 8) = tag from rfl]
  refine congrArg (· ++ [tag]) (sp_sl_congr (fun i hi => ?_))
  unfold nt_b
  rw [if_neg (by omega)]
theorem i32_nI (x : Int32) : nI x.toBitVec.toNat = x := by
  apply Int32.toBitVec_inj.mp
  show BitVec.ofNat 32 x.toBitVec.toNat = x.toBitVec
  rw [BitVec.ofNat_toNat, BitVec.setWidth_eq]
theorem db_u (v : Int32) : sh_u v 24 = nI (db_b v 0) ∧ sh_u v 16 &&& 255 = nI (db_b v 1) ∧ sh_u v 8 &&& 255 = nI (db_b v 2) ∧ v &&& 255 = nI (db_b v 3) := by
  have hv := v.toBitVec.isLt
  refine ⟨?_, ?_, ?_, ?_⟩
  · rw [← i32_nI (sh_u v 24)]
    refine congrArg nI ?_
    rw [show (24 : Int32) = nI 24 from rfl, sh_u_nat _ (by omega)]
    unfold db_b
    show _ = v.toBitVec.toNat / 2 ^ 24 % 256
    omega
  · rw [show (16 : Int32) = nI 16 from rfl, pk_and _ 8 rfl, sh_u_nat _ (by omega)]
    rfl
  · rw [show (8 : Int32) = nI 8 from rfl, pk_and _ 8 rfl, sh_u_nat _ (by omega)]
    rfl
  · rw [pk_and _ 8 rfl]
    unfold db_b
    show nI _ = nI (v.toBitVec.toNat / 2 ^ 0 % 256)
    rw [Nat.pow_zero, Nat.div_one]
section HDR
variable {G : on_G} {o q d sz bc bs : Nat} {h : on_H} {Q : Option Value → on_H → Nat → Prop}
set_option maxHeartbeats 4000000 in
/-- startLabelled -/
theorem c_startLabelled {tag : Nat} (ht : tag < 256) (ho : h o = some (.inr (3, hk_f o))) (hS : sh_W (o + 1) h) (hL : hk_L o h) :
    on_Ct G M_Handshake_startLabelled [.ref o, .int (nI tag)] h sz 0 0 (fun r h1 z => r = none ∧ z = sz ∧ sh_X (o + 1) (sp_sl nm_b 0 8 ++ [tag]) h1 ∧ hk_L o h1 ∧ ∀ a, (a < o + 1 ∨ o + 4 ≤ a) → a ≠ o + 20 → h1 a = h a) := by
  obtain ⟨T, hl, hT⟩ := hL
  refine on_Ct.of (by decide) v_Handshake_startLabelled (Nat.le_of_ble_eq_true rfl) ?_
  first | refine on_aload_n (pc' := 1) rfl rfl rfl rfl ?_ | refine on_aload_nQ (pc' := 1) rfl rfl rfl rfl ?_
  first | apply on_get (pc' := 4) rfl rfl fl_Handshake_32 | apply on_getN (pc' := 4) rfl rfl fl_Handshake_32
  · repeat (first | assumption | exact on_up_eq _ _ _ | refine (on_up_ne (by omega)).trans ?_)
  · rfl
  refine on_bipush (pc' := 6) (v := 8) rfl rfl lb_8 ?_
  refine on_iload_n (pc' := 7) rfl rfl rfl rfl ?_
  apply on_iastoreK (pc' := 8) (t := 0) rfl rfl
  · repeat (first | assumption | exact on_up_eq _ _ _ | refine (on_up_ne (by omega)).trans ?_)
  · rfl
  · first | assumption | exact on_lit _ | rfl
  · first | assumption | omega | decide
  have S1 : sh_W (o + 1) (on_up h (o + 20) (on_ai 0 9 (upd T 8 (nI tag)))) := hS.keep (fun a h1 h2 => on_up_ne (by omega))
  have o1 : on_up h (o + 20) (on_ai 0 9 (upd T 8 (nI tag))) o = some (.inr (3, hk_f o)) := (on_up_ne (by omega)).trans ho
  have l1 : on_up h (o + 20) (on_ai 0 9 (upd T 8 (nI tag))) (o + 20) = some (on_ai 0 9 (upd T 8 (nI tag))) := on_up_eq _ _ _
  have t1 : ∀ a, a ≠ o + 20 → on_up h (o + 20) (on_ai 0 9 (upd T 8 (nI tag))) a = h a := fun a ha => on_up_ne ha
  generalize on_up h (o + 20) (on_ai 0 9 (upd T 8 (nI tag))) = h1 at *
  have hT2 : on_by (upd T 8 (nI tag)) (nt_b tag) 9 := fun j hj => by
    unfold nt_b
    by_cases e : j = 8
    · subst e
      rw [pk_us, if_pos rfl]
      exact ⟨rfl, ht⟩
    · rw [pk_un e, if_neg e]
      exact hT j (by omega)
  obtain ⟨f1, g1, w1, S1'⟩ := id S1
  first | refine on_aload_n (pc' := 9) rfl rfl rfl rfl ?_ | refine on_aload_nQ (pc' := 9) rfl rfl rfl rfl ?_
  first | apply on_get (pc' := 12) rfl rfl fl_Handshake_12 | apply on_getN (pc' := 12) rfl rfl fl_Handshake_12
  · repeat (first | assumption | exact on_up_eq _ _ _ | refine (on_up_ne (by omega)).trans ?_)
  · rfl
  refine on_callV (pc' := 15) (As := []) (rest := []) (b := o + 1) rfl rfl cw_Handshake_startLabelled_103 S1'.1 rfl rfl (by decide) (Nat.zero_le _) (Nat.zero_le _) (c_Sha_start S1) ?_
  rintro r h2 sz ⟨rfl, rfl, X2, t2⟩
  have o2 := (t2 o (by omega)).trans o1
  have l2 := (t2 (o + 20) (by omega)).trans l1
  obtain ⟨f2, g2, X2', -⟩ := id X2
  first | refine on_aload_n (pc' := 16) rfl rfl rfl rfl ?_ | refine on_aload_nQ (pc' := 16) rfl rfl rfl rfl ?_
  first | apply on_get (pc' := 19) rfl rfl fl_Handshake_12 | apply on_getN (pc' := 19) rfl rfl fl_Handshake_12
  · repeat (first | assumption | exact on_up_eq _ _ _ | refine (on_up_ne (by omega)).trans ?_)
  · rfl
  first | refine on_aload_n (pc' := 20) rfl rfl rfl rfl ?_ | refine on_aload_nQ (pc' := 20) rfl rfl rfl rfl ?_
  first | apply on_get (pc' := 23) rfl rfl fl_Handshake_32 | apply on_getN (pc' := 23) rfl rfl fl_Handshake_32
  · repeat (first | assumption | exact on_up_eq _ _ _ | refine (on_up_ne (by omega)).trans ?_)
  · rfl
  refine on_iconst (pc' := 24) (v := 0) rfl rfl li_0 ?_
  refine on_bipush (pc' := 26) (v := 9) rfl rfl lb_9 ?_
  refine on_callV (pc' := 29) (As := [.ref (o + 20), .int (nI 0), .int (nI 9)]) (rest := []) (b := o + 1) rfl rfl cw_Handshake_startLabelled_85 X2'.1 rfl rfl (by decide) (Nat.zero_le _) (Nat.zero_le _) (c_Sha_add (b := nt_b tag) X2 (by decide) l2 (by omega) (by decide) (by decide) (fun i hi => by rw [Nat.zero_add]; exact hT2 i hi)) ?_
  rintro r h3 sz ⟨rfl, rfl, X3, t3⟩
  rw [List.nil_append, nt_sl] at X3
  refine on_vreturn rfl rfl ?_
  refine ⟨rfl, rfl, X3, ⟨_, (t3 _ (by omega)).trans l2, fun j hj => ?_⟩, fun a h1 h2 => (t3 a (by omega)).trans ((t2 a (by omega)).trans (t1 a h2))⟩
  have := hT2 j (by omega)
  unfold nt_b at this
  rw [if_neg (by omega)] at this
  exact this
set_option maxHeartbeats 8000000 in
/-- draw -/
theorem c_Handshake_draw {num : Int32} {seed : Int64} {draws next : Int32} (hW : hk_W o h) (hN : nd_S d num seed draws next h) (hd : d + 2 ≤ o ∨ o + 29 ≤ d) (hq : rW h q 32) (hqo : q < o ∨ o + 29 ≤ q) (hqd : q ≠ d ∧ q ≠ d + 1) :
    on_Ct G M_Handshake_draw [.ref o, .ref d, .ref q] h sz 0 0 (fun r h1 z => r = none ∧ z = sz ∧ hk_W o h1 ∧ nd_S d num seed (draws + 1) next h1 ∧ rB h1 q 32 (sp_d (dr_m seed draws)) ∧ ∀ a, a ≠ q → a ≠ d → (a < o ∨ o + 29 ≤ a) → h1 a = h a) := by
  obtain ⟨R, hq⟩ := hq
  obtain ⟨n1, Sd, n2, hSd⟩ := hN
  have ho := hW.ob
  obtain ⟨T, hl, hT⟩ := hW.la
  have h8 : (8 : Nat) < 9 ∧ 9 < 2 ^ 31 := by decide
  refine on_Ct.of (by decide) v_Handshake_draw (Nat.le_of_ble_eq_true rfl) ?_
  first | refine on_aload_n (pc' := 1) rfl rfl rfl rfl ?_ | refine on_aload_nQ (pc' := 1) rfl rfl rfl rfl ?_
  first | apply on_get (pc' := 4) rfl rfl fl_Handshake_32 | apply on_getN (pc' := 4) rfl rfl fl_Handshake_32
  · repeat (first | assumption | exact on_up_eq _ _ _ | refine (on_up_ne (by omega)).trans ?_)
  · rfl
  refine on_bipush (pc' := 6) (v := 8) rfl rfl lb_8 ?_
  refine on_iconst (pc' := 7) (v := 1) rfl rfl li_1 ?_
  apply on_iastoreK (pc' := 8) (t := 0) rfl rfl
  · repeat (first | assumption | exact on_up_eq _ _ _ | refine (on_up_ne (by omega)).trans ?_)
  · rfl
  · first | assumption | exact on_lit _ | rfl
  · first | assumption | omega | decide
  have S1 : sh_W (o + 1) (on_up h (o + 20) (on_ai 0 9 (upd T 8 1))) := hW.sh.keep (fun a h1 h2 => on_up_ne (by omega))
  have o1 : on_up h (o + 20) (on_ai 0 9 (upd T 8 1)) o = some (.inr (3, hk_f o)) := (on_up_ne (by omega)).trans ho
  have l1 : on_up h (o + 20) (on_ai 0 9 (upd T 8 1)) (o + 20) = some (on_ai 0 9 (upd T 8 1)) := on_up_eq _ _ _
  have t1 : ∀ a, a ≠ o + 20 → on_up h (o + 20) (on_ai 0 9 (upd T 8 1)) a = h a := fun a ha => on_up_ne ha
  generalize on_up h (o + 20) (on_ai 0 9 (upd T 8 1)) = h1 at *
  have hT2 : on_by (upd T 8 1) (nt_b 1) 9 := fun j hj => by
    unfold nt_b
    by_cases e : j = 8
    · subst e
      rw [pk_us, if_pos rfl]
      exact ⟨rfl, by decide⟩
    · rw [pk_un e, if_neg e]
      exact hT j (by omega)
  obtain ⟨f1, g1, w1, S1'⟩ := id S1
  first | refine on_aload_n (pc' := 9) rfl rfl rfl rfl ?_ | refine on_aload_nQ (pc' := 9) rfl rfl rfl rfl ?_
  first | apply on_get (pc' := 12) rfl rfl fl_Handshake_12 | apply on_getN (pc' := 12) rfl rfl fl_Handshake_12
  · repeat (first | assumption | exact on_up_eq _ _ _ | refine (on_up_ne (by omega)).trans ?_)
  · rfl
  refine on_callV (pc' := 15) (As := []) (rest := []) (b := o + 1) rfl rfl cw_Handshake_draw_103 S1'.1 rfl rfl (by decide) (Nat.zero_le _) (Nat.zero_le _) (c_Sha_start S1) ?_
  rintro r h2 sz ⟨rfl, rfl, X2, t2⟩
  have o2 := (t2 o (by omega)).trans o1
  have l2 := (t2 (o + 20) (by omega)).trans l1
  obtain ⟨f2, g2, X2', -⟩ := id X2
  first | refine on_aload_n (pc' := 16) rfl rfl rfl rfl ?_ | refine on_aload_nQ (pc' := 16) rfl rfl rfl rfl ?_
  first | apply on_get (pc' := 19) rfl rfl fl_Handshake_12 | apply on_getN (pc' := 19) rfl rfl fl_Handshake_12
  · repeat (first | assumption | exact on_up_eq _ _ _ | refine (on_up_ne (by omega)).trans ?_)
  · rfl
  first | refine on_aload_n (pc' := 20) rfl rfl rfl rfl ?_ | refine on_aload_nQ (pc' := 20) rfl rfl rfl rfl ?_
  first | apply on_get (pc' := 23) rfl rfl fl_Handshake_32 | apply on_getN (pc' := 23) rfl rfl fl_Handshake_32
  · repeat (first | assumption | exact on_up_eq _ _ _ | refine (on_up_ne (by omega)).trans ?_)
  · rfl
  refine on_iconst (pc' := 24) (v := 0) rfl rfl li_0 ?_
  refine on_bipush (pc' := 26) (v := 9) rfl rfl lb_9 ?_
  refine on_callV (pc' := 29) (As := [.ref (o + 20), .int (nI 0), .int (nI 9)]) (rest := []) (b := o + 1) rfl rfl cw_Handshake_draw_85 X2'.1 rfl rfl (by decide) (Nat.zero_le _) (Nat.zero_le _) (c_Sha_add (b := nt_b 1) X2 (by decide) l2 (by omega) (by decide) (by decide) (fun i hi => by rw [Nat.zero_add]; exact hT2 i hi)) ?_
  rintro r h3 sz ⟨rfl, rfl, X3, t3⟩
  rw [List.nil_append, nt_sl] at X3
  have o3 := (t3 o (by omega)).trans o2
  have tt3 : ∀ a, (a < o + 1 ∨ o + 4 ≤ a) → a ≠ o + 20 → h3 a = h a := fun a h1 h2 => (t3 a (by omega)).trans ((t2 a (by omega)).trans (t1 a h2))
  have n3 := (tt3 d (by omega) (by omega)).trans n1
  have s3 := (tt3 (d + 1) (by omega) (by omega)).trans n2
  obtain ⟨f3, g3, X3', -⟩ := id X3
  first | refine on_aload_n (pc' := 30) rfl rfl rfl rfl ?_ | refine on_aload_nQ (pc' := 30) rfl rfl rfl rfl ?_
  first | apply on_get (pc' := 33) rfl rfl fl_Handshake_12 | apply on_getN (pc' := 33) rfl rfl fl_Handshake_12
  · repeat (first | assumption | exact on_up_eq _ _ _ | refine (on_up_ne (by omega)).trans ?_)
  · rfl
  first | refine on_aload_n (pc' := 34) rfl rfl rfl rfl ?_ | refine on_aload_nQ (pc' := 34) rfl rfl rfl rfl ?_
  first | apply on_get (pc' := 37) rfl rfl fl_Handshake_80 | apply on_getN (pc' := 37) rfl rfl fl_Handshake_80
  · repeat (first | assumption | exact on_up_eq _ _ _ | refine (on_up_ne (by omega)).trans ?_)
  · rfl
  refine on_iconst (pc' := 38) (v := 0) rfl rfl li_0 ?_
  refine on_bipush (pc' := 40) (v := 8) rfl rfl lb_8 ?_
  refine on_callV (pc' := 43) (As := [.ref (d + 1), .int (nI 0), .int (nI 8)]) (rest := []) (b := o + 1) rfl rfl cw_Handshake_draw_85 X3'.1 rfl rfl (by decide) (Nat.zero_le _) (Nat.zero_le _) (c_Sha_add (b := sd_b seed) X3 (by rw [List.length_append, sp_sl_len]; decide) s3 (by omega) (by decide) (by decide) (fun i hi => by rw [Nat.zero_add]; exact hSd i hi)) ?_
  rintro r h4 sz ⟨rfl, rfl, X4, t4⟩
  have o4 := (t4 o (by omega)).trans o3
  have tt4 : ∀ a, (a < o + 1 ∨ o + 4 ≤ a) → a ≠ o + 20 → h4 a = h a := fun a h1 h2 => (t4 a (by omega)).trans (tt3 a h1 h2)
  have n4 := (tt4 d (by omega) (by omega)).trans n1
  obtain ⟨M0, m4⟩ := hW.sm
  have m4' := (tt4 (o + 28) (by omega) (by omega)).trans m4
  obtain ⟨u0, u1, u2, u3⟩ := db_u draws
  first | refine on_aload_n (pc' := 44) rfl rfl rfl rfl ?_ | refine on_aload_nQ (pc' := 44) rfl rfl rfl rfl ?_
  first | apply on_get (pc' := 47) rfl rfl fl_Handshake_58 | apply on_getN (pc' := 47) rfl rfl fl_Handshake_58
  · repeat (first | assumption | exact on_up_eq _ _ _ | refine (on_up_ne (by omega)).trans ?_)
  · rfl
  refine on_iconst (pc' := 48) (v := 0) rfl rfl li_0 ?_
  first | refine on_aload_n (pc' := 49) rfl rfl rfl rfl ?_ | refine on_aload_nQ (pc' := 49) rfl rfl rfl rfl ?_
  first | apply on_get (pc' := 52) rfl rfl fl_Handshake_106 | apply on_getN (pc' := 52) rfl rfl fl_Handshake_106
  · repeat (first | assumption | exact on_up_eq _ _ _ | refine (on_up_ne (by omega)).trans ?_)
  · rfl
  refine on_bipush (pc' := 54) (v := 24) rfl rfl lb_24 ?_
  refine on_iushr (pc' := 55) rfl rfl ?_
  rw [u0]
  apply on_iastoreK (pc' := 56) (t := 0) rfl rfl
  · repeat (first | assumption | exact on_up_eq _ _ _ | refine (on_up_ne (by omega)).trans ?_)
  · rfl
  · first | assumption | exact on_lit _ | rfl
  · first | assumption | omega | decide
  first | refine on_aload_n (pc' := 57) rfl rfl rfl rfl ?_ | refine on_aload_nQ (pc' := 57) rfl rfl rfl rfl ?_
  first | apply on_get (pc' := 60) rfl rfl fl_Handshake_58 | apply on_getN (pc' := 60) rfl rfl fl_Handshake_58
  · repeat (first | assumption | exact on_up_eq _ _ _ | refine (on_up_ne (by omega)).trans ?_)
  · rfl
  refine on_iconst (pc' := 61) (v := 1) rfl rfl li_1 ?_
  first | refine on_aload_n (pc' := 62) rfl rfl rfl rfl ?_ | refine on_aload_nQ (pc' := 62) rfl rfl rfl rfl ?_
  first | apply on_get (pc' := 65) rfl rfl fl_Handshake_106 | apply on_getN (pc' := 65) rfl rfl fl_Handshake_106
  · repeat (first | assumption | exact on_up_eq _ _ _ | refine (on_up_ne (by omega)).trans ?_)
  · rfl
  refine on_bipush (pc' := 67) (v := 16) rfl rfl lb_16 ?_
  refine on_iushr (pc' := 68) rfl rfl ?_
  refine on_sipush (pc' := 71) (v := 255) rfl rfl ls_255 ?_
  refine on_iand (pc' := 72) rfl rfl ?_
  rw [u1]
  apply on_iastoreK (pc' := 73) (t := 0) rfl rfl
  · repeat (first | assumption | exact on_up_eq _ _ _ | refine (on_up_ne (by omega)).trans ?_)
  · rfl
  · first | assumption | exact on_lit _ | rfl
  · first | assumption | omega | decide
  first | refine on_aload_n (pc' := 74) rfl rfl rfl rfl ?_ | refine on_aload_nQ (pc' := 74) rfl rfl rfl rfl ?_
  first | apply on_get (pc' := 77) rfl rfl fl_Handshake_58 | apply on_getN (pc' := 77) rfl rfl fl_Handshake_58
  · repeat (first | assumption | exact on_up_eq _ _ _ | refine (on_up_ne (by omega)).trans ?_)
  · rfl
  refine on_iconst (pc' := 78) (v := 2) rfl rfl li_2 ?_
  first | refine on_aload_n (pc' := 79) rfl rfl rfl rfl ?_ | refine on_aload_nQ (pc' := 79) rfl rfl rfl rfl ?_
  first | apply on_get (pc' := 82) rfl rfl fl_Handshake_106 | apply on_getN (pc' := 82) rfl rfl fl_Handshake_106
  · repeat (first | assumption | exact on_up_eq _ _ _ | refine (on_up_ne (by omega)).trans ?_)
  · rfl
  refine on_bipush (pc' := 84) (v := 8) rfl rfl lb_8 ?_
  refine on_iushr (pc' := 85) rfl rfl ?_
  refine on_sipush (pc' := 88) (v := 255) rfl rfl ls_255 ?_
  refine on_iand (pc' := 89) rfl rfl ?_
  rw [u2]
  apply on_iastoreK (pc' := 90) (t := 0) rfl rfl
  · repeat (first | assumption | exact on_up_eq _ _ _ | refine (on_up_ne (by omega)).trans ?_)
  · rfl
  · first | assumption | exact on_lit _ | rfl
  · first | assumption | omega | decide
  first | refine on_aload_n (pc' := 91) rfl rfl rfl rfl ?_ | refine on_aload_nQ (pc' := 91) rfl rfl rfl rfl ?_
  first | apply on_get (pc' := 94) rfl rfl fl_Handshake_58 | apply on_getN (pc' := 94) rfl rfl fl_Handshake_58
  · repeat (first | assumption | exact on_up_eq _ _ _ | refine (on_up_ne (by omega)).trans ?_)
  · rfl
  refine on_iconst (pc' := 95) (v := 3) rfl rfl li_3 ?_
  first | refine on_aload_n (pc' := 96) rfl rfl rfl rfl ?_ | refine on_aload_nQ (pc' := 96) rfl rfl rfl rfl ?_
  first | apply on_get (pc' := 99) rfl rfl fl_Handshake_106 | apply on_getN (pc' := 99) rfl rfl fl_Handshake_106
  · repeat (first | assumption | exact on_up_eq _ _ _ | refine (on_up_ne (by omega)).trans ?_)
  · rfl
  refine on_sipush (pc' := 102) (v := 255) rfl rfl ls_255 ?_
  refine on_iand (pc' := 103) rfl rfl ?_
  rw [u3]
  apply on_iastoreK (pc' := 104) (t := 0) rfl rfl
  · repeat (first | assumption | exact on_up_eq _ _ _ | refine (on_up_ne (by omega)).trans ?_)
  · rfl
  · first | assumption | exact on_lit _ | rfl
  · first | assumption | omega | decide
  simp only [on_up_up]
  have hM5 : on_by (upd (upd (upd (upd M0 0 (nI (db_b draws 0))) 1 (nI (db_b draws 1))) 2 (nI (db_b draws 2))) 3 (nI (db_b draws 3))) (db_b draws) 4 := fun j hj => by
    refine ⟨?_, db_lt _ _⟩
    match j, hj with
    | 0, _ => rw [pk_un (by decide), pk_un (by decide), pk_un (by decide), pk_us]
    | 1, _ => rw [pk_un (by decide), pk_un (by decide), pk_us]
    | 2, _ => rw [pk_un (by decide), pk_us]
    | 3, _ => rw [pk_us]
  generalize (upd (upd (upd (upd M0 0 (nI (db_b draws 0))) 1 (nI (db_b draws 1))) 2 (nI (db_b draws 2))) 3 (nI (db_b draws 3))) = M5 at hM5 ⊢
  have X5 : sh_X (o + 1) (sp_sl nm_b 0 8 ++ [1] ++ sp_sl (sd_b seed) 0 8) (on_up h4 (o + 28) (on_ai 0 4 M5)) := X4.keep (fun a h1 h2 => on_up_ne (by omega))
  have o5 : on_up h4 (o + 28) (on_ai 0 4 M5) o = some (.inr (3, hk_f o)) := (on_up_ne (by omega)).trans o4
  have m5 : on_up h4 (o + 28) (on_ai 0 4 M5) (o + 28) = some (on_ai 0 4 M5) := on_up_eq _ _ _
  have t5 : ∀ a, (a < o + 1 ∨ o + 4 ≤ a) → a ≠ o + 20 → a ≠ o + 28 → on_up h4 (o + 28) (on_ai 0 4 M5) a = h a := fun a h1 h2 h3 => (on_up_ne h3).trans (tt4 a h1 h2)
  have l5 : on_up h4 (o + 28) (on_ai 0 4 M5) (o + 20) = some (on_ai 0 9 (upd T 8 1)) := (on_up_ne (by omega)).trans ((t4 _ (by omega)).trans ((t3 _ (by omega)).trans l2))
  generalize on_up h4 (o + 28) (on_ai 0 4 M5) = h5 at *
  obtain ⟨f5, g5, X5', -⟩ := id X5
  first | refine on_aload_n (pc' := 105) rfl rfl rfl rfl ?_ | refine on_aload_nQ (pc' := 105) rfl rfl rfl rfl ?_
  first | apply on_get (pc' := 108) rfl rfl fl_Handshake_12 | apply on_getN (pc' := 108) rfl rfl fl_Handshake_12
  · repeat (first | assumption | exact on_up_eq _ _ _ | refine (on_up_ne (by omega)).trans ?_)
  · rfl
  first | refine on_aload_n (pc' := 109) rfl rfl rfl rfl ?_ | refine on_aload_nQ (pc' := 109) rfl rfl rfl rfl ?_
  first | apply on_get (pc' := 112) rfl rfl fl_Handshake_58 | apply on_getN (pc' := 112) rfl rfl fl_Handshake_58
  · repeat (first | assumption | exact on_up_eq _ _ _ | refine (on_up_ne (by omega)).trans ?_)
  · rfl
  refine on_iconst (pc' := 113) (v := 0) rfl rfl li_0 ?_
  refine on_iconst (pc' := 114) (v := 4) rfl rfl li_4 ?_
  refine on_callV (pc' := 117) (As := [.ref (o + 28), .int (nI 0), .int (nI 4)]) (rest := []) (b := o + 1) rfl rfl cw_Handshake_draw_85 X5'.1 rfl rfl (by decide) (Nat.zero_le _) (Nat.zero_le _) (c_Sha_add (b := db_b draws) X5 (by rw [List.length_append, List.length_append, sp_sl_len, sp_sl_len]; decide) m5 (by omega) (by decide) (by decide) (fun i hi => by rw [Nat.zero_add]; exact hM5 i hi)) ?_
  rintro r h6 sz ⟨rfl, rfl, X6, t6⟩
  have o6 := (t6 o (by omega)).trans o5
  have q6 := (t6 q (by omega)).trans ((t5 q (by omega) (by omega) (by omega)).trans hq)
  obtain ⟨f6, g6, X6', -⟩ := id X6
  first | refine on_aload_n (pc' := 118) rfl rfl rfl rfl ?_ | refine on_aload_nQ (pc' := 118) rfl rfl rfl rfl ?_
  first | apply on_get (pc' := 121) rfl rfl fl_Handshake_12 | apply on_getN (pc' := 121) rfl rfl fl_Handshake_12
  · repeat (first | assumption | exact on_up_eq _ _ _ | refine (on_up_ne (by omega)).trans ?_)
  · rfl
  first | refine on_aload_n (pc' := 122) rfl rfl rfl rfl ?_ | refine on_aload_nQ (pc' := 122) rfl rfl rfl rfl ?_
  refine on_callV (pc' := 125) (As := [.ref q]) (rest := []) (b := o + 1) rfl rfl cw_Handshake_draw_92 X6'.1 rfl rfl (by decide) (Nat.zero_le _) (Nat.zero_le _) (c_Sha_end X6 (by rw [List.length_append, List.length_append, List.length_append, sp_sl_len, sp_sl_len, sp_sl_len]; decide) q6 (by omega)) ?_
  rintro r h7 sz ⟨rfl, rfl, S7, d7, t7⟩
  have tt7 : ∀ a, a ≠ q → (a < o + 1 ∨ o + 4 ≤ a) → a ≠ o + 20 → a ≠ o + 28 → h7 a = h a := fun a h0 h1 h2 h3 => (t7 a h0 (by omega)).trans ((t6 a (by omega)).trans (t5 a h1 h2 h3))
  have l7 := (t7 (o + 20) (by omega) (by omega)).trans ((t6 _ (by omega)).trans l5)
  have m7 := (t7 (o + 28) (by omega) (by omega)).trans ((t6 _ (by omega)).trans m5)
  have n7 := (tt7 d (by omega) (by omega) (by omega) (by omega)).trans n1
  first | refine on_aload_n (pc' := 126) rfl rfl rfl rfl ?_ | refine on_aload_nQ (pc' := 126) rfl rfl rfl rfl ?_
  refine on_dup (pc' := 127) rfl rfl rfl ?_
  first | apply on_get (pc' := 130) rfl rfl fl_Handshake_106 | apply on_getN (pc' := 130) rfl rfl fl_Handshake_106
  · repeat (first | assumption | exact on_up_eq _ _ _ | refine (on_up_ne (by omega)).trans ?_)
  · rfl
  refine on_iconst (pc' := 131) (v := 1) rfl rfl li_1 ?_
  refine on_iadd (pc' := 132) rfl rfl ?_
  first | apply on_put (pc' := 135) rfl rfl fp_Handshake_106 | apply on_putN (pc' := 135) rfl rfl fp_Handshake_106
  · repeat (first | assumption | exact on_up_eq _ _ _ | refine (on_up_ne (by omega)).trans ?_)
  · first | rfl | assumption
  · first | rfl | assumption
  · exact Nat.le_of_ble_eq_true rfl
  refine on_vreturn rfl rfl ?_
  have tu : ∀ a, a ≠ q → a ≠ d → (a < o + 1 ∨ o + 4 ≤ a) → a ≠ o + 20 → a ≠ o + 28 → on_up h7 d (.inr (4, [.int num, .ref (d + 1), .int (draws + 1), .int next])) a = h a := fun a h0 h1 h2 h3 h4 => (on_up_ne h1).trans (tt7 a h0 h2 h3 h4)
  refine ⟨rfl, rfl, ?_, ⟨on_up_eq _ _ _, Sd, (tu _ (by omega) (by omega) (by omega) (by omega) (by omega)).trans n2, hSd⟩, ⟨_, (on_up_ne (by omega)).trans d7, fun i hi => ⟨on_tk_lt hi, sp_d_lt _ _⟩⟩, fun a h1 h2 h3 => tu a h1 h2 (by omega) (by omega) (by omega)⟩
  refine ⟨?_, ?_, ?_, ?_, ?_, ?_, ?_, ?_, ?_, ?_, ?_, ?_, ?_, ?_⟩
  · exact (tu _ (by omega) (by omega) (by omega) (by omega) (by omega)).trans hW.ob
  · exact S7.keep (fun a h1 h2 => on_up_ne (by omega))
  · exact hW.tr.keep (fun a h1 h2 => tu _ (by omega) (by omega) (by omega) (by omega) (by omega))
  · exact hW.cu.keep (fun a h1 h2 => tu _ (by omega) (by omega) (by omega) (by omega) (by omega))
  · exact hW.ba.keep (tu _ (by omega) (by omega) (by omega) (by omega) (by omega))
  · exact ⟨_, (on_up_ne (by omega)).trans l7, fun j hj => by
      have := hT2 j (by omega)
      unfold nt_b at this
      rw [if_neg (by omega)] at this
      exact this⟩
  · exact hW.tx.keep (tu _ (by omega) (by omega) (by omega) (by omega) (by omega))
  · exact hW.pa.keep (tu _ (by omega) (by omega) (by omega) (by omega) (by omega))
  · exact hW.inn.keep (tu _ (by omega) (by omega) (by omega) (by omega) (by omega))
  · exact hW.pr.keep (tu _ (by omega) (by omega) (by omega) (by omega) (by omega))
  · exact hW.ma.keep (tu _ (by omega) (by omega) (by omega) (by omega) (by omega))
  · exact hW.dk.keep (tu _ (by omega) (by omega) (by omega) (by omega) (by omega))
  · exact hW.ck.keep (tu _ (by omega) (by omega) (by omega) (by omega) (by omega))
  · exact ⟨_, (on_up_ne (by omega)).trans m7⟩
end HDR
