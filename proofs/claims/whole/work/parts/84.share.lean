/-! the class's Handshake: keys are shared out -/
def ks_m (tx : Nat → Nat) : Nat → Nat := hm (nt_b 5) 9 tx 172
def ks_k (tx : Nat → Nat) (i : Nat) : Nat → Nat := hm (ks_m tx) 32 (fun _ => i) 1
/-- the two directions that a handshake's text gives -/
def ks_f (tx : Nat → Nat) : aL := ⟨sp_sl (ks_k tx 1) 0 32, ks_k tx 3, 0⟩
def ks_b (tx : Nat → Nat) : aL := ⟨sp_sl (ks_k tx 2) 0 32, ks_k tx 4, 0⟩
theorem by_1 {F : Nat → Int32} {v : Nat} (h : v < 256) : on_by (upd F 0 (nI v)) (fun _ => v) 1 := fun j hj => by
  obtain rfl : j = 0 := by omega
  exact ⟨pk_us, h⟩
theorem hm_lt (k : Nat → Nat) (kl : Nat) (t : Nat → Nat) (n i : Nat) : hm k kl t n i < 256 := sp_d_lt _ _
section HSH
variable {G : on_G} {o q f b sz bc bs : Nat} {h h1 : on_H} {Q : Option Value → on_H → Nat → Prop} {tx : Nat → Nat}
theorem hk_W.hm (K : hk_W o h) (S : sh_W (o + 1) h1) (P : rW h1 (o + 22) 64) (I : rW h1 (o + 23) 32) (Rq : rW h1 q 32) (hqo : q < o ∨ o + 29 ≤ q ∨ (o + 24 ≤ q ∧ q < o + 28)) (t : ∀ a, a ≠ q → (a < o + 1 ∨ o + 4 ≤ a) → a ≠ o + 22 → a ≠ o + 23 → h1 a = h a) : hk_W o h1 := by
  refine ⟨?_, ?_, ?_, ?_, ?_, ?_, ?_, ?_, ?_, ?_, ?_, ?_, ?_, ?_⟩
  · exact (t _ (by omega) (by omega) (by omega) (by omega)).trans K.ob
  · exact S
  · exact K.tr.keep (fun a h1 h2 => t a (by omega) (by omega) (by omega) (by omega))
  · exact K.cu.keep (fun a h1 h2 => t a (by omega) (by omega) (by omega) (by omega))
  · exact K.ba.keep (t _ (by omega) (by omega) (by omega) (by omega))
  · exact K.la.keep (t _ (by omega) (by omega) (by omega) (by omega))
  · exact K.tx.keep (t _ (by omega) (by omega) (by omega) (by omega))
  · exact P
  · exact I
  · by_cases e : o + 24 = q
    · exact e ▸ Rq
    · exact K.pr.keep (t _ e (by omega) (by omega) (by omega))
  · by_cases e : o + 25 = q
    · exact e ▸ Rq
    · exact K.ma.keep (t _ e (by omega) (by omega) (by omega))
  · by_cases e : o + 26 = q
    · exact e ▸ Rq
    · exact K.dk.keep (t _ e (by omega) (by omega) (by omega))
  · by_cases e : o + 27 = q
    · exact e ▸ Rq
    · exact K.ck.keep (t _ e (by omega) (by omega) (by omega))
  · exact K.sm.keep (t _ (by omega) (by omega) (by omega) (by omega))
theorem hk_W.smu {F : Nat → Int32} (K : hk_W o h) : hk_W o (on_up h (o + 28) (on_ai 0 4 F)) := by
  refine ⟨?_, ?_, ?_, ?_, ?_, ?_, ?_, ?_, ?_, ?_, ?_, ?_, ?_, ?_⟩
  · exact (on_up_ne (by omega)).trans K.ob
  · exact K.sh.keep (fun a h1 h2 => on_up_ne (by omega))
  · exact K.tr.keep (fun a h1 h2 => on_up_ne (by omega))
  · exact K.cu.keep (fun a h1 h2 => on_up_ne (by omega))
  · exact K.ba.keep (on_up_ne (by omega))
  · exact K.la.keep (on_up_ne (by omega))
  · exact K.tx.keep (on_up_ne (by omega))
  · exact K.pa.keep (on_up_ne (by omega))
  · exact K.inn.keep (on_up_ne (by omega))
  · exact K.pr.keep (on_up_ne (by omega))
  · exact K.ma.keep (on_up_ne (by omega))
  · exact K.dk.keep (on_up_ne (by omega))
  · exact K.ck.keep (on_up_ne (by omega))
  · exact ⟨F, on_up_eq _ _ _⟩
theorem hk_W.lau {F : Nat → Int32} (K : hk_W o h) (hF : on_by F nm_b 8) : hk_W o (on_up h (o + 20) (on_ai 0 9 F)) := by
  refine ⟨?_, ?_, ?_, ?_, ?_, ?_, ?_, ?_, ?_, ?_, ?_, ?_, ?_, ?_⟩
  · exact (on_up_ne (by omega)).trans K.ob
  · exact K.sh.keep (fun a h1 h2 => on_up_ne (by omega))
  · exact K.tr.keep (fun a h1 h2 => on_up_ne (by omega))
  · exact K.cu.keep (fun a h1 h2 => on_up_ne (by omega))
  · exact K.ba.keep (on_up_ne (by omega))
  · exact ⟨F, on_up_eq _ _ _, hF⟩
  · exact K.tx.keep (on_up_ne (by omega))
  · exact K.pa.keep (on_up_ne (by omega))
  · exact K.inn.keep (on_up_ne (by omega))
  · exact K.pr.keep (on_up_ne (by omega))
  · exact K.ma.keep (on_up_ne (by omega))
  · exact K.dk.keep (on_up_ne (by omega))
  · exact K.ck.keep (on_up_ne (by omega))
  · exact K.sm.keep (on_up_ne (by omega))
/-- a label with a tag -/
theorem la_tag {T : Nat → Int32} {tag : Nat} (hT : on_by T nm_b 8) (ht : tag < 256) : on_by (upd T 8 (nI tag)) (nt_b tag) 9 ∧ on_by (upd T 8 (nI tag)) nm_b 8 := by
  refine ⟨fun j hj => ?_, fun j hj => ?_⟩
  · unfold nt_b
    by_cases e : j = 8
    · subst e
      rw [pk_us, if_pos rfl]
      exact ⟨rfl, ht⟩
    · rw [pk_un e, if_neg e]
      exact hT j (by omega)
  · rw [pk_un (by omega)]
    exact hT j hj
set_option maxHeartbeats 16000000 in
/-- share: the keys of the text -/
theorem c_share {tr : Nat} (K0 : hk_W o h) (hx : rB h (o + 21) 172 tx) (hf : la_W f tr h) (hb : la_W b tr h) (hfo : f + 8 ≤ o ∨ o + 29 ≤ f) (hbo : b + 8 ≤ o ∨ o + 29 ≤ b) (hfb : f + 8 ≤ b ∨ b + 8 ≤ f) :
    on_Ct G M_Handshake_share [.ref o, .ref f, .ref b] h sz 0 0 (fun r h1 z => r = none ∧ z = sz ∧ hk_W o h1 ∧ la_S f tr (ks_f tx).ms (ks_f tx).K 0 h1 ∧ la_S b tr (ks_b tx).ms (ks_b tx).K 0 h1 ∧ ∀ a, (a < o ∨ o + 29 ≤ a) → (a < f ∨ f + 8 ≤ a) → (a < b ∨ b + 8 ≤ a) → h1 a = h a) := by
  have ho := K0.ob
  obtain ⟨T, hl, hT⟩ := K0.la
  have h8 : (8 : Nat) < 9 ∧ 9 < 2 ^ 31 := by decide
  have h04 : (0 : Nat) < 4 ∧ 4 < 2 ^ 31 := by decide
  obtain ⟨l1, l2⟩ := la_tag (tag := 5) hT (by decide)
  refine on_Ct.of (by decide) v_Handshake_share (Nat.le_of_ble_eq_true rfl) ?_
  first | refine on_aload_n (pc' := 1) rfl rfl rfl rfl ?_ | refine on_aload_nQ (pc' := 1) rfl rfl rfl rfl ?_
  first | apply on_get (pc' := 4) rfl rfl fl_Handshake_32 | apply on_getN (pc' := 4) rfl rfl fl_Handshake_32
  · repeat (first | assumption | exact on_up_eq _ _ _ | refine (on_up_ne (by omega)).trans ?_)
  · rfl
  refine on_bipush (pc' := 6) (v := 8) rfl rfl lb_8 ?_
  refine on_iconst (pc' := 7) (v := 5) rfl rfl li_5 ?_
  apply on_iastoreK (pc' := 8) (t := 0) rfl rfl
  · repeat (first | assumption | exact on_up_eq _ _ _ | refine (on_up_ne (by omega)).trans ?_)
  · rfl
  · first | assumption | exact on_lit _ | rfl
  · first | assumption | omega | decide
  have K1 : hk_W o (on_up h (o + 20) (on_ai 0 9 (upd T 8 5))) := K0.lau l2
  have e1 : on_up h (o + 20) (on_ai 0 9 (upd T 8 5)) (o + 20) = some (on_ai 0 9 (upd T 8 5)) := on_up_eq _ _ _
  have x1 : rB (on_up h (o + 20) (on_ai 0 9 (upd T 8 5))) (o + 21) 172 tx := hx.keep (on_up_ne (by omega))
  have t1 : ∀ a, (a < o ∨ o + 29 ≤ a) → on_up h (o + 20) (on_ai 0 9 (upd T 8 5)) a = h a := fun a ha => on_up_ne (by omega)
  generalize on_up h (o + 20) (on_ai 0 9 (upd T 8 5)) = h1 at *
  obtain ⟨X1, x1, x1'⟩ := x1
  clear ho hl
  have ho := K1.ob
  first | refine on_aload_n (pc' := 9) rfl rfl rfl rfl ?_ | refine on_aload_nQ (pc' := 9) rfl rfl rfl rfl ?_
  first | refine on_aload_n (pc' := 10) rfl rfl rfl rfl ?_ | refine on_aload_nQ (pc' := 10) rfl rfl rfl rfl ?_
  first | apply on_get (pc' := 13) rfl rfl fl_Handshake_32 | apply on_getN (pc' := 13) rfl rfl fl_Handshake_32
  · repeat (first | assumption | exact on_up_eq _ _ _ | refine (on_up_ne (by omega)).trans ?_)
  · rfl
  first | refine on_aload_n (pc' := 14) rfl rfl rfl rfl ?_ | refine on_aload_nQ (pc' := 14) rfl rfl rfl rfl ?_
  first | apply on_get (pc' := 17) rfl rfl fl_Handshake_35 | apply on_getN (pc' := 17) rfl rfl fl_Handshake_35
  · repeat (first | assumption | exact on_up_eq _ _ _ | refine (on_up_ne (by omega)).trans ?_)
  · rfl
  refine on_sipush (pc' := 20) (v := 172) rfl rfl ls_172 ?_
  first | refine on_aload_n (pc' := 21) rfl rfl rfl rfl ?_ | refine on_aload_nQ (pc' := 21) rfl rfl rfl rfl ?_
  first | apply on_get (pc' := 24) rfl rfl fl_Handshake_49 | apply on_getN (pc' := 24) rfl rfl fl_Handshake_49
  · repeat (first | assumption | exact on_up_eq _ _ _ | refine (on_up_ne (by omega)).trans ?_)
  · rfl
  refine on_callV (pc' := 27) (As := [.ref (o + 20), .ref (o + 21), .int (nI 172), .ref (o + 25)]) (rest := []) (b := o) rfl rfl cw_Handshake_share_125 ho rfl rfl (by decide) (Nat.zero_le _) (Nat.zero_le _) (c_hmac (k0 := nt_b 5) (t := tx) ho K1.sh K1.pa K1.inn ⟨_, e1, l1⟩ (by omega) (by decide) x1 (by omega) (by decide) (by decide) x1' K1.ma (by omega)) ?_
  rintro r h2 sz ⟨rfl, rfl, s2, p2, i2, m2, u2⟩
  have K2 := K1.hm s2 p2 i2 m2.w (by omega) u2
  have t2 : ∀ a, (a < o ∨ o + 29 ≤ a) → h2 a = h a := fun a ha => (u2 a (by omega) (by omega) (by omega) (by omega)).trans (t1 a ha)
  have g2 := hf.keep (h2 := h2) (fun a h1 h2 => t2 a (by omega))
  have c2 := hb.keep (h2 := h2) (fun a h1 h2 => t2 a (by omega))
  clear ho s2 p2 i2 u2 t1 e1 x1
  have ho := K2.ob
  obtain ⟨S2, s2⟩ := K2.sm
  first | refine on_aload_n (pc' := 28) rfl rfl rfl rfl ?_ | refine on_aload_nQ (pc' := 28) rfl rfl rfl rfl ?_
  first | apply on_get (pc' := 31) rfl rfl fl_Handshake_58 | apply on_getN (pc' := 31) rfl rfl fl_Handshake_58
  · repeat (first | assumption | exact on_up_eq _ _ _ | refine (on_up_ne (by omega)).trans ?_)
  · rfl
  refine on_iconst (pc' := 32) (v := 0) rfl rfl li_0 ?_
  refine on_iconst (pc' := 33) (v := 1) rfl rfl li_1 ?_
  apply on_iastoreK (pc' := 34) (t := 0) rfl rfl
  · repeat (first | assumption | exact on_up_eq _ _ _ | refine (on_up_ne (by omega)).trans ?_)
  · rfl
  · first | assumption | exact on_lit _ | rfl
  · first | assumption | omega | decide
  have K2a : hk_W o (on_up h2 (o + 28) (on_ai 0 4 (upd S2 0 1))) := K2.smu
  have e2a : on_up h2 (o + 28) (on_ai 0 4 (upd S2 0 1)) (o + 28) = some (on_ai 0 4 (upd S2 0 1)) := on_up_eq _ _ _
  have m2a : rB (on_up h2 (o + 28) (on_ai 0 4 (upd S2 0 1))) (o + 25) 32 (ks_m tx) := m2.keep (on_up_ne (by omega))
  have d2a : ∀ a, a ≠ o + 28 → on_up h2 (o + 28) (on_ai 0 4 (upd S2 0 1)) a = h2 a := fun a ha => on_up_ne ha
  generalize on_up h2 (o + 28) (on_ai 0 4 (upd S2 0 1)) = h2a at *
  clear ho
  have ho := K2a.ob
  first | refine on_aload_n (pc' := 35) rfl rfl rfl rfl ?_ | refine on_aload_nQ (pc' := 35) rfl rfl rfl rfl ?_
  first | refine on_aload_n (pc' := 36) rfl rfl rfl rfl ?_ | refine on_aload_nQ (pc' := 36) rfl rfl rfl rfl ?_
  first | apply on_get (pc' := 39) rfl rfl fl_Handshake_49 | apply on_getN (pc' := 39) rfl rfl fl_Handshake_49
  · repeat (first | assumption | exact on_up_eq _ _ _ | refine (on_up_ne (by omega)).trans ?_)
  · rfl
  first | refine on_aload_n (pc' := 40) rfl rfl rfl rfl ?_ | refine on_aload_nQ (pc' := 40) rfl rfl rfl rfl ?_
  first | apply on_get (pc' := 43) rfl rfl fl_Handshake_58 | apply on_getN (pc' := 43) rfl rfl fl_Handshake_58
  · repeat (first | assumption | exact on_up_eq _ _ _ | refine (on_up_ne (by omega)).trans ?_)
  · rfl
  refine on_iconst (pc' := 44) (v := 1) rfl rfl li_1 ?_
  first | refine on_aload_n (pc' := 45) rfl rfl rfl rfl ?_ | refine on_aload_nQ (pc' := 45) rfl rfl rfl rfl ?_
  first | apply on_get (pc' := 48) rfl rfl fl_Handshake_52 | apply on_getN (pc' := 48) rfl rfl fl_Handshake_52
  · repeat (first | assumption | exact on_up_eq _ _ _ | refine (on_up_ne (by omega)).trans ?_)
  · rfl
  refine on_callV (pc' := 51) (As := [.ref (o + 25), .ref (o + 28), .int (nI 1), .ref (o + 26)]) (rest := []) (b := o) rfl rfl cw_Handshake_share_125 ho rfl rfl (by decide) (Nat.zero_le _) (Nat.zero_le _) (c_hmac (k0 := ks_m tx) (t := fun _ => 1) ho K2a.sh K2a.pa K2a.inn m2a (by omega) (by decide) e2a (by omega) (by decide) (by decide) (by_1 (v := 1) (by decide)) K2a.dk (by omega)) ?_
  rintro r h3 sz ⟨rfl, rfl, s3, p3, i3, y3, u3⟩
  have K3 := K2a.hm s3 p3 i3 y3.w (by omega) u3
  have w3 : ∀ a, (a < o ∨ o + 29 ≤ a) → h3 a = h2 a := fun a ha => (u3 a (by omega) (by omega) (by omega) (by omega)).trans (d2a a (by omega))
  have m3 := m2a.keep (h2 := h3) (u3 _ (by omega) (by omega) (by omega) (by omega))
  have y3' : rB h3 (o + 26) 32 (ks_k tx 1) := y3
  clear ho s3 p3 i3 K2a e2a m2a
  have ho := K3.ob
  obtain ⟨S3, s3⟩ := K3.sm
  first | refine on_aload_n (pc' := 52) rfl rfl rfl rfl ?_ | refine on_aload_nQ (pc' := 52) rfl rfl rfl rfl ?_
  first | apply on_get (pc' := 55) rfl rfl fl_Handshake_58 | apply on_getN (pc' := 55) rfl rfl fl_Handshake_58
  · repeat (first | assumption | exact on_up_eq _ _ _ | refine (on_up_ne (by omega)).trans ?_)
  · rfl
  refine on_iconst (pc' := 56) (v := 0) rfl rfl li_0 ?_
  refine on_iconst (pc' := 57) (v := 3) rfl rfl li_3 ?_
  apply on_iastoreK (pc' := 58) (t := 0) rfl rfl
  · repeat (first | assumption | exact on_up_eq _ _ _ | refine (on_up_ne (by omega)).trans ?_)
  · rfl
  · first | assumption | exact on_lit _ | rfl
  · first | assumption | omega | decide
  have K3a : hk_W o (on_up h3 (o + 28) (on_ai 0 4 (upd S3 0 3))) := K3.smu
  have e3a : on_up h3 (o + 28) (on_ai 0 4 (upd S3 0 3)) (o + 28) = some (on_ai 0 4 (upd S3 0 3)) := on_up_eq _ _ _
  have m3a : rB (on_up h3 (o + 28) (on_ai 0 4 (upd S3 0 3))) (o + 25) 32 (ks_m tx) := m3.keep (on_up_ne (by omega))
  have d3a : ∀ a, a ≠ o + 28 → on_up h3 (o + 28) (on_ai 0 4 (upd S3 0 3)) a = h3 a := fun a ha => on_up_ne ha
  generalize on_up h3 (o + 28) (on_ai 0 4 (upd S3 0 3)) = h3a at *
  clear ho
  have ho := K3a.ob
  first | refine on_aload_n (pc' := 59) rfl rfl rfl rfl ?_ | refine on_aload_nQ (pc' := 59) rfl rfl rfl rfl ?_
  first | refine on_aload_n (pc' := 60) rfl rfl rfl rfl ?_ | refine on_aload_nQ (pc' := 60) rfl rfl rfl rfl ?_
  first | apply on_get (pc' := 63) rfl rfl fl_Handshake_49 | apply on_getN (pc' := 63) rfl rfl fl_Handshake_49
  · repeat (first | assumption | exact on_up_eq _ _ _ | refine (on_up_ne (by omega)).trans ?_)
  · rfl
  first | refine on_aload_n (pc' := 64) rfl rfl rfl rfl ?_ | refine on_aload_nQ (pc' := 64) rfl rfl rfl rfl ?_
  first | apply on_get (pc' := 67) rfl rfl fl_Handshake_58 | apply on_getN (pc' := 67) rfl rfl fl_Handshake_58
  · repeat (first | assumption | exact on_up_eq _ _ _ | refine (on_up_ne (by omega)).trans ?_)
  · rfl
  refine on_iconst (pc' := 68) (v := 1) rfl rfl li_1 ?_
  first | refine on_aload_n (pc' := 69) rfl rfl rfl rfl ?_ | refine on_aload_nQ (pc' := 69) rfl rfl rfl rfl ?_
  first | apply on_get (pc' := 72) rfl rfl fl_Handshake_55 | apply on_getN (pc' := 72) rfl rfl fl_Handshake_55
  · repeat (first | assumption | exact on_up_eq _ _ _ | refine (on_up_ne (by omega)).trans ?_)
  · rfl
  refine on_callV (pc' := 75) (As := [.ref (o + 25), .ref (o + 28), .int (nI 1), .ref (o + 27)]) (rest := []) (b := o) rfl rfl cw_Handshake_share_125 ho rfl rfl (by decide) (Nat.zero_le _) (Nat.zero_le _) (c_hmac (k0 := ks_m tx) (t := fun _ => 3) ho K3a.sh K3a.pa K3a.inn m3a (by omega) (by decide) e3a (by omega) (by decide) (by decide) (by_1 (v := 3) (by decide)) K3a.ck (by omega)) ?_
  rintro r h4 sz ⟨rfl, rfl, s4, p4, i4, y4, u4⟩
  have K4 := K3a.hm s4 p4 i4 y4.w (by omega) u4
  have w4 : ∀ a, (a < o ∨ o + 29 ≤ a) → h4 a = h3 a := fun a ha => (u4 a (by omega) (by omega) (by omega) (by omega)).trans (d3a a (by omega))
  have m4 := m3a.keep (h2 := h4) (u4 _ (by omega) (by omega) (by omega) (by omega))
  have y4' : rB h4 (o + 27) 32 (ks_k tx 3) := y4
  have v4 : rB h4 (o + 26) 32 (ks_k tx 1) := y3'.keep ((u4 _ (by omega) (by omega) (by omega) (by omega)).trans (d3a _ (by omega)))
  have t4 : ∀ a, (a < o ∨ o + 29 ≤ a) → h4 a = h a := fun a ha => (w4 a ha).trans ((w3 a ha).trans (t2 a ha))
  have g4 := hf.keep (h2 := h4) (fun a h1 h2 => t4 a (by omega))
  obtain ⟨D4, v4, v4'⟩ := v4
  obtain ⟨C4, y4', y4''⟩ := y4'
  clear ho s4 p4 i4 K3a e3a m3a
  have ho := K4.ob
  obtain ⟨⟨due4, inp4, mix4, blk4, use4, L4⟩, -⟩ := id g4
  first | refine on_aload_n (pc' := 76) rfl rfl rfl rfl ?_ | refine on_aload_nQ (pc' := 76) rfl rfl rfl rfl ?_
  first | refine on_aload_n (pc' := 77) rfl rfl rfl rfl ?_ | refine on_aload_nQ (pc' := 77) rfl rfl rfl rfl ?_
  first | apply on_get (pc' := 80) rfl rfl fl_Handshake_52 | apply on_getN (pc' := 80) rfl rfl fl_Handshake_52
  · repeat (first | assumption | exact on_up_eq _ _ _ | refine (on_up_ne (by omega)).trans ?_)
  · rfl
  first | refine on_aload_n (pc' := 81) rfl rfl rfl rfl ?_ | refine on_aload_nQ (pc' := 81) rfl rfl rfl rfl ?_
  first | apply on_get (pc' := 84) rfl rfl fl_Handshake_55 | apply on_getN (pc' := 84) rfl rfl fl_Handshake_55
  · repeat (first | assumption | exact on_up_eq _ _ _ | refine (on_up_ne (by omega)).trans ?_)
  · rfl
  refine on_callV (pc' := 87) (As := [.ref (o + 26), .ref (o + 27)]) (rest := []) (b := f) rfl rfl cw_Handshake_share_138 L4.1 rfl rfl (by decide) (Nat.zero_le _) (Nat.zero_le _) (c_Lane_begin (D := ks_k tx 1) (K := ks_k tx 3) g4 v4 (by omega) (by decide) v4' y4' (by omega) (by decide) y4'') ?_
  rintro r h5 sz ⟨rfl, rfl, F5, u5⟩
  have K5 := K4.keep (h2 := h5) (fun a h1 h2 => u5 a (by omega))
  have m5 := m4.keep (h2 := h5) (u5 _ (by omega))
  have t5 : ∀ a, (a < o ∨ o + 29 ≤ a) → (a < f ∨ f + 8 ≤ a) → h5 a = h a := fun a h1 h2 => (u5 a h2).trans (t4 a h1)
  clear ho
  have ho := K5.ob
  obtain ⟨S5, s5⟩ := K5.sm
  first | refine on_aload_n (pc' := 88) rfl rfl rfl rfl ?_ | refine on_aload_nQ (pc' := 88) rfl rfl rfl rfl ?_
  first | apply on_get (pc' := 91) rfl rfl fl_Handshake_58 | apply on_getN (pc' := 91) rfl rfl fl_Handshake_58
  · repeat (first | assumption | exact on_up_eq _ _ _ | refine (on_up_ne (by omega)).trans ?_)
  · rfl
  refine on_iconst (pc' := 92) (v := 0) rfl rfl li_0 ?_
  refine on_iconst (pc' := 93) (v := 2) rfl rfl li_2 ?_
  apply on_iastoreK (pc' := 94) (t := 0) rfl rfl
  · repeat (first | assumption | exact on_up_eq _ _ _ | refine (on_up_ne (by omega)).trans ?_)
  · rfl
  · first | assumption | exact on_lit _ | rfl
  · first | assumption | omega | decide
  have K5a : hk_W o (on_up h5 (o + 28) (on_ai 0 4 (upd S5 0 2))) := K5.smu
  have e5a : on_up h5 (o + 28) (on_ai 0 4 (upd S5 0 2)) (o + 28) = some (on_ai 0 4 (upd S5 0 2)) := on_up_eq _ _ _
  have m5a : rB (on_up h5 (o + 28) (on_ai 0 4 (upd S5 0 2))) (o + 25) 32 (ks_m tx) := m5.keep (on_up_ne (by omega))
  have d5a : ∀ a, a ≠ o + 28 → on_up h5 (o + 28) (on_ai 0 4 (upd S5 0 2)) a = h5 a := fun a ha => on_up_ne ha
  generalize on_up h5 (o + 28) (on_ai 0 4 (upd S5 0 2)) = h5a at *
  clear ho
  have ho := K5a.ob
  first | refine on_aload_n (pc' := 95) rfl rfl rfl rfl ?_ | refine on_aload_nQ (pc' := 95) rfl rfl rfl rfl ?_
  first | refine on_aload_n (pc' := 96) rfl rfl rfl rfl ?_ | refine on_aload_nQ (pc' := 96) rfl rfl rfl rfl ?_
  first | apply on_get (pc' := 99) rfl rfl fl_Handshake_49 | apply on_getN (pc' := 99) rfl rfl fl_Handshake_49
  · repeat (first | assumption | exact on_up_eq _ _ _ | refine (on_up_ne (by omega)).trans ?_)
  · rfl
  first | refine on_aload_n (pc' := 100) rfl rfl rfl rfl ?_ | refine on_aload_nQ (pc' := 100) rfl rfl rfl rfl ?_
  first | apply on_get (pc' := 103) rfl rfl fl_Handshake_58 | apply on_getN (pc' := 103) rfl rfl fl_Handshake_58
  · repeat (first | assumption | exact on_up_eq _ _ _ | refine (on_up_ne (by omega)).trans ?_)
  · rfl
  refine on_iconst (pc' := 104) (v := 1) rfl rfl li_1 ?_
  first | refine on_aload_n (pc' := 105) rfl rfl rfl rfl ?_ | refine on_aload_nQ (pc' := 105) rfl rfl rfl rfl ?_
  first | apply on_get (pc' := 108) rfl rfl fl_Handshake_52 | apply on_getN (pc' := 108) rfl rfl fl_Handshake_52
  · repeat (first | assumption | exact on_up_eq _ _ _ | refine (on_up_ne (by omega)).trans ?_)
  · rfl
  refine on_callV (pc' := 111) (As := [.ref (o + 25), .ref (o + 28), .int (nI 1), .ref (o + 26)]) (rest := []) (b := o) rfl rfl cw_Handshake_share_125 ho rfl rfl (by decide) (Nat.zero_le _) (Nat.zero_le _) (c_hmac (k0 := ks_m tx) (t := fun _ => 2) ho K5a.sh K5a.pa K5a.inn m5a (by omega) (by decide) e5a (by omega) (by decide) (by decide) (by_1 (v := 2) (by decide)) K5a.dk (by omega)) ?_
  rintro r h6 sz ⟨rfl, rfl, s6, p6, i6, y6, u6⟩
  have K6 := K5a.hm s6 p6 i6 y6.w (by omega) u6
  have w6 : ∀ a, (a < o ∨ o + 29 ≤ a) → h6 a = h5 a := fun a ha => (u6 a (by omega) (by omega) (by omega) (by omega)).trans (d5a a (by omega))
  have m6 := m5a.keep (h2 := h6) (u6 _ (by omega) (by omega) (by omega) (by omega))
  have y6' : rB h6 (o + 26) 32 (ks_k tx 2) := y6
  clear ho s6 p6 i6 K5a e5a m5a
  have ho := K6.ob
  obtain ⟨S6, s6⟩ := K6.sm
  first | refine on_aload_n (pc' := 112) rfl rfl rfl rfl ?_ | refine on_aload_nQ (pc' := 112) rfl rfl rfl rfl ?_
  first | apply on_get (pc' := 115) rfl rfl fl_Handshake_58 | apply on_getN (pc' := 115) rfl rfl fl_Handshake_58
  · repeat (first | assumption | exact on_up_eq _ _ _ | refine (on_up_ne (by omega)).trans ?_)
  · rfl
  refine on_iconst (pc' := 116) (v := 0) rfl rfl li_0 ?_
  refine on_iconst (pc' := 117) (v := 4) rfl rfl li_4 ?_
  apply on_iastoreK (pc' := 118) (t := 0) rfl rfl
  · repeat (first | assumption | exact on_up_eq _ _ _ | refine (on_up_ne (by omega)).trans ?_)
  · rfl
  · first | assumption | exact on_lit _ | rfl
  · first | assumption | omega | decide
  have K6a : hk_W o (on_up h6 (o + 28) (on_ai 0 4 (upd S6 0 4))) := K6.smu
  have e6a : on_up h6 (o + 28) (on_ai 0 4 (upd S6 0 4)) (o + 28) = some (on_ai 0 4 (upd S6 0 4)) := on_up_eq _ _ _
  have m6a : rB (on_up h6 (o + 28) (on_ai 0 4 (upd S6 0 4))) (o + 25) 32 (ks_m tx) := m6.keep (on_up_ne (by omega))
  have d6a : ∀ a, a ≠ o + 28 → on_up h6 (o + 28) (on_ai 0 4 (upd S6 0 4)) a = h6 a := fun a ha => on_up_ne ha
  generalize on_up h6 (o + 28) (on_ai 0 4 (upd S6 0 4)) = h6a at *
  clear ho
  have ho := K6a.ob
  first | refine on_aload_n (pc' := 119) rfl rfl rfl rfl ?_ | refine on_aload_nQ (pc' := 119) rfl rfl rfl rfl ?_
  first | refine on_aload_n (pc' := 120) rfl rfl rfl rfl ?_ | refine on_aload_nQ (pc' := 120) rfl rfl rfl rfl ?_
  first | apply on_get (pc' := 123) rfl rfl fl_Handshake_49 | apply on_getN (pc' := 123) rfl rfl fl_Handshake_49
  · repeat (first | assumption | exact on_up_eq _ _ _ | refine (on_up_ne (by omega)).trans ?_)
  · rfl
  first | refine on_aload_n (pc' := 124) rfl rfl rfl rfl ?_ | refine on_aload_nQ (pc' := 124) rfl rfl rfl rfl ?_
  first | apply on_get (pc' := 127) rfl rfl fl_Handshake_58 | apply on_getN (pc' := 127) rfl rfl fl_Handshake_58
  · repeat (first | assumption | exact on_up_eq _ _ _ | refine (on_up_ne (by omega)).trans ?_)
  · rfl
  refine on_iconst (pc' := 128) (v := 1) rfl rfl li_1 ?_
  first | refine on_aload_n (pc' := 129) rfl rfl rfl rfl ?_ | refine on_aload_nQ (pc' := 129) rfl rfl rfl rfl ?_
  first | apply on_get (pc' := 132) rfl rfl fl_Handshake_55 | apply on_getN (pc' := 132) rfl rfl fl_Handshake_55
  · repeat (first | assumption | exact on_up_eq _ _ _ | refine (on_up_ne (by omega)).trans ?_)
  · rfl
  refine on_callV (pc' := 135) (As := [.ref (o + 25), .ref (o + 28), .int (nI 1), .ref (o + 27)]) (rest := []) (b := o) rfl rfl cw_Handshake_share_125 ho rfl rfl (by decide) (Nat.zero_le _) (Nat.zero_le _) (c_hmac (k0 := ks_m tx) (t := fun _ => 4) ho K6a.sh K6a.pa K6a.inn m6a (by omega) (by decide) e6a (by omega) (by decide) (by decide) (by_1 (v := 4) (by decide)) K6a.ck (by omega)) ?_
  rintro r h7 sz ⟨rfl, rfl, s7, p7, i7, y7, u7⟩
  have K7 := K6a.hm s7 p7 i7 y7.w (by omega) u7
  have w7 : ∀ a, (a < o ∨ o + 29 ≤ a) → h7 a = h6 a := fun a ha => (u7 a (by omega) (by omega) (by omega) (by omega)).trans (d6a a (by omega))
  have m7 := m6a.keep (h2 := h7) (u7 _ (by omega) (by omega) (by omega) (by omega))
  have y7' : rB h7 (o + 27) 32 (ks_k tx 4) := y7
  have v7 : rB h7 (o + 26) 32 (ks_k tx 2) := y6'.keep ((u7 _ (by omega) (by omega) (by omega) (by omega)).trans (d6a _ (by omega)))
  have t7 : ∀ a, (a < o ∨ o + 29 ≤ a) → h7 a = h5 a := fun a ha => (w7 a ha).trans (w6 a ha)
  have c7 := hb.keep (h2 := h7) (fun a h1 h2 => (t7 a (by omega)).trans (t5 a (by omega) (by omega)))
  have F7 := F5.keep (h2 := h7) (fun a h1 h2 => t7 a (by omega))
  obtain ⟨D7, v7, v7'⟩ := v7
  obtain ⟨C7, y7', y7''⟩ := y7'
  clear ho
  have ho := K7.ob
  obtain ⟨⟨due7, inp7, mix7, blk7, use7, L7⟩, -⟩ := id c7
  first | refine on_aload_n (pc' := 136) rfl rfl rfl rfl ?_ | refine on_aload_nQ (pc' := 136) rfl rfl rfl rfl ?_
  first | refine on_aload_n (pc' := 137) rfl rfl rfl rfl ?_ | refine on_aload_nQ (pc' := 137) rfl rfl rfl rfl ?_
  first | apply on_get (pc' := 140) rfl rfl fl_Handshake_52 | apply on_getN (pc' := 140) rfl rfl fl_Handshake_52
  · repeat (first | assumption | exact on_up_eq _ _ _ | refine (on_up_ne (by omega)).trans ?_)
  · rfl
  first | refine on_aload_n (pc' := 141) rfl rfl rfl rfl ?_ | refine on_aload_nQ (pc' := 141) rfl rfl rfl rfl ?_
  first | apply on_get (pc' := 144) rfl rfl fl_Handshake_55 | apply on_getN (pc' := 144) rfl rfl fl_Handshake_55
  · repeat (first | assumption | exact on_up_eq _ _ _ | refine (on_up_ne (by omega)).trans ?_)
  · rfl
  refine on_callV (pc' := 147) (As := [.ref (o + 26), .ref (o + 27)]) (rest := []) (b := b) rfl rfl cw_Handshake_share_138 L7.1 rfl rfl (by decide) (Nat.zero_le _) (Nat.zero_le _) (c_Lane_begin (D := ks_k tx 2) (K := ks_k tx 4) c7 v7 (by omega) (by decide) v7' y7' (by omega) (by decide) y7'') ?_
  rintro r h8 sz ⟨rfl, rfl, B8, u8⟩
  refine on_vreturn rfl rfl ?_
  exact ⟨rfl, rfl, K7.keep (fun a h1 h2 => u8 a (by omega)), F7.keep (fun a h1 h2 => u8 a (by omega)), B8, fun a h1 h2 h3 => (u8 a h3).trans ((t7 a h1).trans (t5 a h1 h2))⟩
end HSH
