/-! the reference: a cell along a circuit -/
theorem r_do_en {nr self s : Nat} {r : aR} {e : aE} {y : aB} {v : Option aE} : r_do nr self (r_en r (fu r.en s v)) s e y = r_do nr self r s e y := by
  have f : ∀ w, fu (r_en r (fu r.en s v)).en s w = fu r.en s w := fun w => fu_fu
  unfold r_do r_ca
  dsimp only
  simp only [f]
  rfl
theorem ce_p_pl {x : aB} {p : Nat → Nat} : (fun k => ce_p x p (5 + k)) = p := funext fun k => by
  unfold ce_p
  rw [if_neg (by omega), show 5 + k - 5 = k by omega]
section MRD
variable {G : on_G} {o R self n nr nk B fr sz bc bs : Nat} {num : Int32} {x3 : Int32 × Int32 × Int32} {F : Nat → Option Nat} {lk : Nat → List aB} {r : aR} {ord es : Nat → Nat} {h : on_H} {Q : Option Value → on_H → Nat → Prop} {x : aB}
theorem n_ex_0b {nr nk : Nat} {j : Nat} (h : n_ex nr nk j = true) : n_ex nr nk j = true := h
set_option maxHeartbeats 16000000 in
/-- relayed -/
theorem c_M_relayed (K : mR o R self x3 F lk r n ord es h) (RK : r_ok nr nk self B r) (hB : B + 540 < 2 ^ 28) (hx3 : x3.1 = nI nr) (hnr : nr ≤ 6) (hfr : fr < 10) (hq : rB h (o + 24) 140 x) (hnum : num = ce_n x) (x4 : x 4 = 3) :
    on_Ct G M_M_relayed [.ref o, .int (nI self), .int (nI fr), .int num] h sz 0 0 (fun v h1 z => v = none ∧ z = sz ∧ mY o R self x3 F lk (r_tk nr self r fr x) h h1) := by
  obtain ⟨W, KL, K3, I, k5, k6, k7, k8⟩ := id K
  have o1 := W.ob.1
  have i6 : self < 6 ∧ 6 < 2 ^ 31 := ⟨k8, by decide⟩
  have hen : ∀ s e, r.en s = some e → e.fr < 10 := fun s e he => (RK.2.2.1 s e he).1.1
  have heo : ∀ s e q, r.en s = some e → e.on = some q → q.1 < 10 := fun s e q he hq2 => by
    have := ((RK.2.2.1 s e he).2.1 q hq2).1
    omega
  have rt : r_tk nr self r fr x = match e_fr r.en fr num with
      | some s => (match r.en s with
        | some e => r_fw nr self r s e x
        | none => (r, []))
      | none => (match e_to r.en fr num with
        | some s => (match r.en s with
          | some e => if e.wt then (r, []) else (r_en r (fu r.en s (some (e.fr, e.fn, e.on, e.wt, e.fw, cv_l e.bw, e.st))), [(e.fr, ce_k e.fn 3 (cv_p e.bw.K e.bw.pos (fun k => x (5 + k))) 135)])
          | none => (r, []))
        | none => (r, [])) := by
    unfold r_tk
    dsimp only
    rw [if_neg (by omega), if_neg (by omega), if_pos x4, hnum]
    rfl
  refine on_Ct.of (by decide) v_M_relayed (Nat.le_of_ble_eq_true rfl) ?_
  first | refine on_aload_n (pc' := 1) rfl rfl rfl rfl ?_ | refine on_aload_nQ (pc' := 1) rfl rfl rfl rfl ?_
  first | apply on_get (pc' := 4) rfl rfl fl_M_9 | apply on_getN (pc' := 4) rfl rfl fl_M_9
  · repeat (first | assumption | exact on_up_eq _ _ _ | refine (on_up_ne (by omega)).trans ?_)
  · rfl
  refine on_iload_n (pc' := 5) rfl rfl rfl rfl ?_
  apply on_aaloadK (pc' := 6) rfl rfl
  · repeat (first | assumption | exact on_up_eq _ _ _ | refine (on_up_ne (by omega)).trans ?_)
  · rfl
  · first | assumption | exact on_lit _ | rfl
  · first | assumption | omega | decide
  rw [k6]
  show on_E G M_M_relayed 6 _ [.ref R] h sz _ _ _
  first | refine on_astore (pc' := 8) rfl rfl (by decide) ?_ | refine on_astoreQ (pc' := 8) rfl rfl (by decide) ?_
  first | refine on_aload_n (pc' := 9) rfl rfl rfl rfl ?_ | refine on_aload_nQ (pc' := 9) rfl rfl rfl rfl ?_
  first | refine on_aload (pc' := 11) rfl rfl rfl ?_ | refine on_aloadQ (pc' := 11) rfl rfl rfl ?_
  refine on_iload_n (pc' := 12) rfl rfl rfl rfl ?_
  refine on_iload_n (pc' := 13) rfl rfl rfl rfl ?_
  refine on_callV (pc' := 16) (As := [.ref R, .int (nI fr), .int num]) (rest := []) (b := o) rfl rfl cw_M_relayed_363 (o1) rfl rfl (Nat.le_of_ble_eq_true rfl) (Nat.zero_le _) (Nat.zero_le _) (c_M_cameFrom I K3 hfr hen) ?_
  rintro v h sz ⟨rfl, rfl, rfl⟩
  cases ef : (List.range n).find? (fun k => p_fr r.en fr num (ord k)) with
  | none =>
    have e0 : e_fr r.en fr num = none := ord_none I (fun s hs => by obtain ⟨e, he, -⟩ := p_fr_some hs; exact ⟨e, he⟩) ef
    rw [e0] at rt
    have rt : r_tk nr self r fr x = (match e_to r.en fr num with
        | some s => (match r.en s with
          | some e => if e.wt then (r, []) else (r_en r (fu r.en s (some (e.fr, e.fn, e.on, e.wt, e.fw, cv_l e.bw, e.st))), [(e.fr, ce_k e.fn 3 (cv_p e.bw.K e.bw.pos (fun k => x (5 + k))) 135)])
          | none => (r, []))
        | none => (r, [])) := rt
    show on_E G M_M_relayed 16 _ [va_rf none] h sz _ _ _
    first | refine on_astore (pc' := 18) rfl rfl (by decide) ?_ | refine on_astoreQ (pc' := 18) rfl rfl (by decide) ?_
    first | refine on_aload_n (pc' := 19) rfl rfl rfl rfl ?_ | refine on_aload_nQ (pc' := 19) rfl rfl rfl rfl ?_
    refine on_callV (pc' := 22) (As := []) (rest := []) (b := o) rfl rfl cw_M_relayed_411 (o1) rfl rfl (Nat.le_of_ble_eq_true rfl) (Nat.zero_le _) (Nat.zero_le _) (c_M_toPayload o1 hq W.pl) ?_
    rintro v h1 sz ⟨rfl, rfl, P1, t1⟩
    obtain ⟨K1, f1⟩ := K.wrk (a := o + 25) (h1 := h1) (Or.inl (by omega)) (by rw [show o + 25 - o = 25 by omega]; exact P1.w) t1
    have o2 := K1.1.ob.1
    have same : ∀ lv, r_tk nr self r fr x = (r, []) → on_E G M_M_relayed 167 lv [] h1 sz 0 0 (fun v h1 z => v = none ∧ z = sz ∧ mY o R self x3 F lk (r_tk nr self r fr x) h h1) := fun lv z => by
      refine on_vreturn rfl rfl ?_
      rw [z]
      exact ⟨rfl, rfl, ⟨n, ord, es, K1⟩, f1⟩
    first | refine on_aload (pc' := 24) rfl rfl rfl ?_ | refine on_aloadQ (pc' := 24) rfl rfl rfl ?_
    refine on_ifnullN (tgt := 112) rfl rfl ?_
    first | refine on_aload_n (pc' := 113) rfl rfl rfl rfl ?_ | refine on_aload_nQ (pc' := 113) rfl rfl rfl rfl ?_
    first | refine on_aload (pc' := 115) rfl rfl rfl ?_ | refine on_aloadQ (pc' := 115) rfl rfl rfl ?_
    refine on_iload_n (pc' := 116) rfl rfl rfl rfl ?_
    refine on_iload_n (pc' := 117) rfl rfl rfl rfl ?_
    refine on_callV (pc' := 120) (As := [.ref R, .int (nI fr), .int num]) (rest := []) (b := o) rfl rfl cw_M_relayed_367 (o2) rfl rfl (Nat.le_of_ble_eq_true rfl) (Nat.zero_le _) (Nat.zero_le _) (c_M_goesOn K1.2.2.2.1 K1.2.2.1 hfr heo) ?_
    rintro v h1 sz ⟨rfl, rfl, rfl⟩
    cases eg : (List.range n).find? (fun k => p_to r.en fr num (ord k)) with
    | none =>
      have e1 : e_to r.en fr num = none := ord_none I (fun s hs => by obtain ⟨e, q, he, -⟩ := p_to_some hs; exact ⟨e, he⟩) eg
      rw [e1] at rt
      show on_E G M_M_relayed 120 _ [va_rf none] h1 sz _ _ _
      first | refine on_astore (pc' := 122) rfl rfl (by decide) ?_ | refine on_astoreQ (pc' := 122) rfl rfl (by decide) ?_
      first | refine on_aload (pc' := 124) rfl rfl rfl ?_ | refine on_aloadQ (pc' := 124) rfl rfl rfl ?_
      exact on_ifnullN (tgt := 167) rfl rfl (same _ rt)
    | some k0 =>
      obtain ⟨hk0, e1⟩ := ord_some I (RK.uto (by omega)) eg
      have e1 : e_to r.en fr num = some (ord k0) := e1
      obtain ⟨e, he, E⟩ := K1.2.2.1.2.2.2.2.1.2.1 k0 hk0
      rw [e1] at rt
      have rt : r_tk nr self r fr x = (match r.en (ord k0) with | some e => if e.wt then (r, []) else (r_en r (fu r.en (ord k0) (some (e.fr, e.fn, e.on, e.wt, e.fw, cv_l e.bw, e.st))), [(e.fr, ce_k e.fn 3 (cv_p e.bw.K e.bw.pos (fun k => x (5 + k))) 135)]) | none => (r, [])) := rt
      rw [he] at rt
      have rt : r_tk nr self r fr x = if e.wt then (r, []) else (r_en r (fu r.en (ord k0) (some (e.fr, e.fn, e.on, e.wt, e.fw, cv_l e.bw, e.st))), [(e.fr, ce_k e.fn 3 (cv_p e.bw.K e.bw.pos (fun k => x (5 + k))) 135)]) := rt
      have at0 := I.at (show k0 < 12 by have := I.1; omega)
      obtain ⟨tn, S, V, WW, C, ⟨b0, b1, b2, b3, b4⟩, tq, sr, ⟨mb, m1, m2⟩⟩ := id E
      show on_E G M_M_relayed 120 _ [.ref (es k0)] h1 sz _ _ _
      first | refine on_astore (pc' := 122) rfl rfl (by decide) ?_ | refine on_astoreQ (pc' := 122) rfl rfl (by decide) ?_
      first | refine on_aload (pc' := 124) rfl rfl rfl ?_ | refine on_aloadQ (pc' := 124) rfl rfl rfl ?_
      refine on_ifnullR (pc' := 127) rfl rfl ?_
      first | refine on_aload (pc' := 129) rfl rfl rfl ?_ | refine on_aloadQ (pc' := 129) rfl rfl rfl ?_
      first | apply on_get (pc' := 132) rfl rfl fl_M_370 | apply on_getN (pc' := 132) rfl rfl fl_M_370
      · repeat (first | assumption | exact on_up_eq _ _ _ | refine (on_up_ne (by omega)).trans ?_)
      · rfl
      refine on_if_ne (pc' := 135) (tgt := 167) rfl rfl rfl (fun cq => ?_) (fun cq => ?_)
      · rw [if_pos (bI_ne.mp cq)] at rt
        exact same _ rt
      · rw [if_neg (by rw [bI_eq.mp cq]; decide)] at rt
        clear cq
        have po := lz_po e.bw
        have bnd := (RK.2.2.1 _ e he).2.2.2
        first | refine on_aload_n (pc' := 136) rfl rfl rfl rfl ?_ | refine on_aload_nQ (pc' := 136) rfl rfl rfl rfl ?_
        first | refine on_aload (pc' := 138) rfl rfl rfl ?_ | refine on_aloadQ (pc' := 138) rfl rfl rfl ?_
        first | apply on_get (pc' := 141) rfl rfl fl_M_395 | apply on_getN (pc' := 141) rfl rfl fl_M_395
        · repeat (first | assumption | exact on_up_eq _ _ _ | refine (on_up_ne (by omega)).trans ?_)
        · rfl
        refine on_callV (pc' := 144) (As := [.ref (es k0 + 1)]) (rest := []) (b := o) rfl rfl cw_M_relayed_407 (o2) rfl rfl (Nat.le_of_ble_eq_true rfl) (Nat.zero_le _) (Nat.zero_le _) (c_M_coverBackwards o2 mb (by omega) (by omega) P1 K1.1.bl K1.1.be) ?_
        rintro v h2 sz ⟨rfl, rfl, P2, F2, B2, M2, t2⟩
        have W2 : mw o x3 h2 := K1.1.upd (K1.1.ob.keep (t2 _ (by omega) (by omega) (by omega) (by omega)) (t2 _ (by omega) (by omega) (by omega) (by omega))) (K1.1.si.keep (fun a _ _ => t2 a (by omega) (by omega) (by omega) (by omega))) (K1.1.st.keep (fun a _ _ => t2 a (by omega) (by omega) (by omega) (by omega))) (K1.1.dg.keep (t2 _ (by omega) (by omega) (by omega) (by omega))) P2.w F2 B2 (fun a c1 c2 c3 c4 c5 c6 c7 _ => t2 a c5 c6 c7 (by omega))
        have E2 : me_S (es k0) (e.fr, e.fn, e.on, e.wt, e.fw, cv_l e.bw, e.st) h2 := ⟨tn, S, V, WW, C, ⟨(t2 _ (by omega) (by omega) (by omega) (by omega)).trans b0, (t2 _ (by omega) (by omega) (by omega) (by omega)).trans b1, (t2 _ (by omega) (by omega) (by omega) (by omega)).trans b2, (t2 _ (by omega) (by omega) (by omega) (by omega)).trans b3, (t2 _ (by omega) (by omega) (by omega) (by omega)).trans b4⟩, tq, sr, ⟨M2, m1.keep (fun a _ _ => t2 a (by omega) (by omega) (by omega) (by omega)), m2.keep (fun a _ _ => t2 a (by omega) (by omega) (by omega) (by omega))⟩⟩
        obtain ⟨K2, f2⟩ := K1.ent (lk2 := lk) hk0 W2 (K1.2.1.keep (t2 _ (by omega) (by omega) (by omega) (by omega)) (t2 _ (by omega) (by omega) (by omega) (by omega))) E2 (fun b c1 c2 => t2 b (by omega) (by omega) (by omega) (by omega))
        have o3 := K2.1.ob.1
        have b02 := (t2 (es k0) (by omega) (by omega) (by omega) (by omega)).trans b0
        have hf := hen _ e he
        first | refine on_aload_n (pc' := 145) rfl rfl rfl rfl ?_ | refine on_aload_nQ (pc' := 145) rfl rfl rfl rfl ?_
        refine on_iload_n (pc' := 146) rfl rfl rfl rfl ?_
        first | refine on_aload (pc' := 148) rfl rfl rfl ?_ | refine on_aloadQ (pc' := 148) rfl rfl rfl ?_
        first | apply on_get (pc' := 151) rfl rfl fl_M_336 | apply on_getN (pc' := 151) rfl rfl fl_M_336
        · repeat (first | assumption | exact on_up_eq _ _ _ | refine (on_up_ne (by omega)).trans ?_)
        · rfl
        first | refine on_aload (pc' := 153) rfl rfl rfl ?_ | refine on_aloadQ (pc' := 153) rfl rfl rfl ?_
        first | apply on_get (pc' := 156) rfl rfl fl_M_339 | apply on_getN (pc' := 156) rfl rfl fl_M_339
        · repeat (first | assumption | exact on_up_eq _ _ _ | refine (on_up_ne (by omega)).trans ?_)
        · rfl
        refine on_iconst (pc' := 157) (v := 3) rfl rfl li_3 ?_
        first | refine on_aload_n (pc' := 158) rfl rfl rfl rfl ?_ | refine on_aload_nQ (pc' := 158) rfl rfl rfl rfl ?_
        first | apply on_get (pc' := 161) rfl rfl fl_M_76 | apply on_getN (pc' := 161) rfl rfl fl_M_76
        · repeat (first | assumption | exact on_up_eq _ _ _ | refine (on_up_ne (by omega)).trans ?_)
        · rfl
        refine on_sipush (pc' := 164) (v := 135) rfl rfl ls_135 ?_
        refine on_callV (pc' := 167) (As := [.int (nI self), .int (nI e.fr), .int e.fn, .int (nI 3), .ref (o + 25), .int (nI 135)]) (rest := []) (b := o) rfl rfl cw_M_relayed_348 (o3) rfl rfl (Nat.le_of_ble_eq_true rfl) (Nat.zero_le _) (Nat.zero_le _) (c_M_lay (x := cv_p e.bw.K e.bw.pos (fun k => x (5 + k))) o3 K2.2.1 (by omega) hf (by decide) P2.w (by omega) (by omega) ⟨Nat.le_refl 135, by decide⟩ (Nat.le_refl 135) P2.all) ?_
        rintro v h3 sz ⟨rfl, rfl, L3, t3⟩
        refine on_vreturn rfl rfl ?_
        rw [rt]
        exact ⟨rfl, rfl, ⟨n, ord, es, K2.lnk L3 t3⟩, (f1.trans f2).trans (fun b c1 c2 => t3 b (by omega) (by omega))⟩
  | some k0 =>
    obtain ⟨hk0, e0⟩ := ord_some I RK.ufr ef
    have e0 : e_fr r.en fr num = some (ord k0) := e0
    rw [e0] at rt
    show on_E G M_M_relayed 16 _ [.ref (es k0)] h sz _ _ _
    first | refine on_astore (pc' := 18) rfl rfl (by decide) ?_ | refine on_astoreQ (pc' := 18) rfl rfl (by decide) ?_
    first | refine on_aload_n (pc' := 19) rfl rfl rfl rfl ?_ | refine on_aload_nQ (pc' := 19) rfl rfl rfl rfl ?_
    refine on_callV (pc' := 22) (As := []) (rest := []) (b := o) rfl rfl cw_M_relayed_411 (o1) rfl rfl (Nat.le_of_ble_eq_true rfl) (Nat.zero_le _) (Nat.zero_le _) (c_M_toPayload o1 hq W.pl) ?_
    rintro v h1 sz ⟨rfl, rfl, P1, t1⟩
    obtain ⟨K1, f1⟩ := K.wrk (a := o + 25) (h1 := h1) (Or.inl (by omega)) (by rw [show o + 25 - o = 25 by omega]; exact P1.w) t1
    have o2 := K1.1.ob.1
    obtain ⟨e, he, E⟩ := K1.2.2.1.2.2.2.2.1.2.1 k0 hk0
    have rt : r_tk nr self r fr x = (match r.en (ord k0) with | some e => r_fw nr self r (ord k0) e x | none => (r, [])) := rt
    rw [he] at rt
    have rt : r_tk nr self r fr x = r_fw nr self r (ord k0) e x := rt
    have at0 := I.at (show k0 < 12 by have := I.1; omega)
    obtain ⟨tn, S, V, WW, C, ⟨b0, b1, b2, b3, b4⟩, tq, sr, ⟨mb, m1, m2⟩⟩ := id E
    have po := lz_po e.fw
    have ms := lz_ms e.fw
    have pob := lz_po e.bw
    have msb := lz_ms e.bw
    have bnd := (RK.2.2.1 _ e he).2.2
    have hf := hen _ e he
    first | refine on_aload (pc' := 24) rfl rfl rfl ?_ | refine on_aloadQ (pc' := 24) rfl rfl rfl ?_
    refine on_ifnullR (pc' := 27) rfl rfl ?_
    first | refine on_aload_n (pc' := 28) rfl rfl rfl rfl ?_ | refine on_aload_nQ (pc' := 28) rfl rfl rfl rfl ?_
    first | refine on_aload (pc' := 30) rfl rfl rfl ?_ | refine on_aloadQ (pc' := 30) rfl rfl rfl ?_
    first | apply on_get (pc' := 33) rfl rfl fl_M_395 | apply on_getN (pc' := 33) rfl rfl fl_M_395
    · repeat (first | assumption | exact on_up_eq _ _ _ | refine (on_up_ne (by omega)).trans ?_)
    · rfl
    refine on_callV (pc' := 36) (As := [.ref (es k0 + 1)]) (rest := []) (b := o) rfl rfl cw_M_relayed_414 (o2) rfl rfl (Nat.le_of_ble_eq_true rfl) (Nat.zero_le _) (Nat.zero_le _) (c_M_coverForwards o2 mb (by omega) (by omega) P1 K1.1.bl K1.1.be) ?_
    rintro v h2 sz ⟨rfl, rfl, P2, F2, B2, M2, t2⟩
    have ey : (fun k => ce_p x (cv_p e.fw.K e.fw.pos (fun k => x (5 + k))) (5 + k)) = cv_p e.fw.K e.fw.pos (fun k => x (5 + k)) := ce_p_pl
    have rf : r_fw nr self r (ord k0) e x = if rc_ok e.fw.ms (ce_p x (cv_p e.fw.K e.fw.pos (fun k => x (5 + k)))) = true then r_do nr self r (ord k0) (e.fr, e.fn, e.on, e.wt, rc_l (cv_l e.fw) (ce_p x (cv_p e.fw.K e.fw.pos (fun k => x (5 + k)))), e.bw, e.st) (ce_p x (cv_p e.fw.K e.fw.pos (fun k => x (5 + k)))) else match e.on with
        | some q => if e.wt then (r_en r (fu r.en (ord k0) none), e_ds e) else (r_en r (fu r.en (ord k0) (some (e.fr, e.fn, e.on, e.wt, cv_l e.fw, e.bw, e.st))), [(q.1, ce_k (nI q.2) 3 (fun k => ce_p x (cv_p e.fw.K e.fw.pos (fun k => x (5 + k))) (5 + k)) 135)])
        | none => (r_en r (fu r.en (ord k0) none), e_ds e) := rfl
    rw [ey] at rf
    rw [← ey] at P2
    generalize ce_p x (cv_p e.fw.K e.fw.pos (fun k => x (5 + k))) = y at rf P2 ey
    have W2 : mw o x3 h2 := K1.1.upd (K1.1.ob.keep (t2 _ (by omega) (by omega) (by omega) (by omega)) (t2 _ (by omega) (by omega) (by omega) (by omega))) (K1.1.si.keep (fun a _ _ => t2 a (by omega) (by omega) (by omega) (by omega))) (K1.1.st.keep (fun a _ _ => t2 a (by omega) (by omega) (by omega) (by omega))) (K1.1.dg.keep (t2 _ (by omega) (by omega) (by omega) (by omega))) P2.w F2 B2 (fun a c1 c2 c3 c4 c5 c6 c7 _ => t2 a c5 c6 c7 (by omega))
    have o3 := W2.ob.1
    have g0 := (t2 (es k0) (by omega) (by omega) (by omega) (by omega)).trans b0
    have gl := M2.1
    have mx : ms_X (es k0 + 1 + 1) e.fw.ms h2 := m1.keep (fun a _ _ => t2 a (by omega) (by omega) (by omega) (by omega))
    first | refine on_aload_n (pc' := 37) rfl rfl rfl rfl ?_ | refine on_aload_nQ (pc' := 37) rfl rfl rfl rfl ?_
    first | refine on_aload (pc' := 39) rfl rfl rfl ?_ | refine on_aloadQ (pc' := 39) rfl rfl rfl ?_
    first | apply on_get (pc' := 42) rfl rfl fl_M_395 | apply on_getN (pc' := 42) rfl rfl fl_M_395
    · repeat (first | assumption | exact on_up_eq _ _ _ | refine (on_up_ne (by omega)).trans ?_)
    · rfl
    first | apply on_get (pc' := 45) rfl rfl fl_M_295 | apply on_getN (pc' := 45) rfl rfl fl_M_295
    · repeat (first | assumption | exact on_up_eq _ _ _ | refine (on_up_ne (by omega)).trans ?_)
    · rfl
    refine on_callV (pc' := 48) (As := [.ref (es k0 + 1 + 1)]) (rest := []) (b := o) rfl rfl cw_M_relayed_417 (o3) rfl rfl (Nat.le_of_ble_eq_true rfl) (Nat.zero_le _) (Nat.zero_le _) (c_M_recognizes W2.ob W2.si W2.st mx (by omega) P2 W2.dg (by omega)) ?_
    rintro v h3 sz ⟨rfl, rfl, O3, I3, T3, X3, D3, t3⟩
    have TT : ∀ b, (b < o + 11 ∨ o + 17 ≤ b) → b ≠ o + 18 → b ≠ o + 25 → b ≠ o + 27 → b ≠ o + 28 → (b < es k0 + 1 ∨ es k0 + 5 ≤ b) → h3 b = h1 b := fun b c1 c2 c3 c4 c5 c6 => (t3 b c1 c2 (by omega)).trans (t2 b c3 c4 c5 (by omega))
    have W3 : mw o x3 h3 := W2.upd O3 I3 T3 D3 (P2.w.keep (t3 _ (by omega) (by omega) (by omega))) (F2.keep (t3 _ (by omega) (by omega) (by omega))) (B2.keep (t3 _ (by omega) (by omega) (by omega))) (fun a c1 c2 c3 c4 c5 c6 c7 _ => t3 a c3 c4 (by omega))
    have E3 : me_S (es k0) (e.fr, e.fn, e.on, e.wt, (if rc_ok e.fw.ms y then rc_m e.fw.ms y else e.fw.ms, e.fw.K, e.fw.pos + 135), e.bw, e.st) h3 := ⟨tn, S, V, WW, C, ⟨(TT _ (by omega) (by omega) (by omega) (by omega) (by omega) (by omega)).trans b0, (TT _ (by omega) (by omega) (by omega) (by omega) (by omega) (by omega)).trans b1, (TT _ (by omega) (by omega) (by omega) (by omega) (by omega) (by omega)).trans b2, (TT _ (by omega) (by omega) (by omega) (by omega) (by omega) (by omega)).trans b3, (TT _ (by omega) (by omega) (by omega) (by omega) (by omega) (by omega)).trans b4⟩, tq, sr, ⟨M2.keep (fun a ha => t3 a (by omega) (by omega) (by omega)), X3, m2.keep (fun a c1 c2 => TT a (by omega) (by omega) (by omega) (by omega) (by omega) (by omega))⟩⟩
    obtain ⟨K3', f3⟩ := K1.ent (lk2 := lk) hk0 W3 (K1.2.1.keep (TT _ (by omega) (by omega) (by omega) (by omega) (by omega) (by omega)) (TT _ (by omega) (by omega) (by omega) (by omega) (by omega) (by omega))) E3 (fun b c1 c2 => TT b (by omega) (by omega) (by omega) (by omega) (by omega) (by omega))
    have P3 : rB h3 (o + 25) 135 (fun k => y (5 + k)) := P2.keep (t3 _ (by omega) (by omega) (by omega))
    have o4 := O3.1
    have b03 := (TT (es k0) (by omega) (by omega) (by omega) (by omega) (by omega) (by omega)).trans b0
    rw [rt, rf]
    by_cases ok : rc_ok e.fw.ms y = true
    · rw [if_pos ok] at E3 K3' ⊢
      rw [if_pos ok]
      show on_E G M_M_relayed 48 _ [.int 1] h3 sz _ _ _
      refine on_if_eq (pc' := 51) (tgt := 61) rfl rfl rfl (fun cq => ?_) (fun cq => ?_)
      · exact absurd cq (by decide)
      · clear cq
        first | refine on_aload_n (pc' := 52) rfl rfl rfl rfl ?_ | refine on_aload_nQ (pc' := 52) rfl rfl rfl rfl ?_
        refine on_iload_n (pc' := 53) rfl rfl rfl rfl ?_
        first | refine on_aload (pc' := 55) rfl rfl rfl ?_ | refine on_aloadQ (pc' := 55) rfl rfl rfl ?_
        refine on_callV (pc' := 58) (As := [.int (nI self), .ref (es k0)]) (rest := []) (b := o) rfl rfl cw_M_relayed_421 (o4) rfl rfl (Nat.le_of_ble_eq_true rfl) (Nat.zero_le _) (Nat.zero_le _) (c_M_done (nr := nr) (yv := y) (e := (e.fr, e.fn, e.on, e.wt, rc_l (cv_l e.fw) y, e.bw, e.st)) K3' hk0 fu_s P3 ((rc_ok_iff _ _).mp ok).2.2.1 hx3 hnr hf (fun q hq2 => heo _ e q he hq2) (show e.bw.ms.length + 270 < 2 ^ 28 by omega) (show e.bw.pos + 270 < 2 ^ 36 by omega)) ?_
        rintro v h4 sz ⟨rfl, rfl, Y⟩
        rw [r_do_en] at Y
        refine on_goto (tgt := 111) rfl rfl ?_
        refine on_vreturn rfl rfl ?_
        exact ⟨rfl, rfl, Y.1, (f1.trans f3).trans Y.2⟩
    · rw [if_neg ok] at E3 K3' ⊢
      rw [if_neg ok]
      have K3' : mR o R self x3 F lk (r_en r (fu r.en (ord k0) (some (e.fr, e.fn, e.on, e.wt, cv_l e.fw, e.bw, e.st)))) n ord es h3 := K3'
      have des : ∀ lv, lv 0 = some (.ref o) → lv 1 = some (.int (nI self)) → lv 5 = some (.ref (es k0)) → (match e.on with | some q => if e.wt then (r_en r (fu r.en (ord k0) none), e_ds e) else (r_en r (fu r.en (ord k0) (some (e.fr, e.fn, e.on, e.wt, cv_l e.fw, e.bw, e.st))), [(q.1, ce_k (nI q.2) 3 (cv_p e.fw.K e.fw.pos (fun k => x (5 + k))) 135)]) | none => (r_en r (fu r.en (ord k0) none), e_ds e)) = (r_en r (fu r.en (ord k0) none), e_ds e) → on_E G M_M_relayed 78 lv [] h3 sz 0 0 (fun v h1 z => v = none ∧ z = sz ∧ mY o R self x3 F lk (match e.on with | some q => if e.wt then (r_en r (fu r.en (ord k0) none), e_ds e) else (r_en r (fu r.en (ord k0) (some (e.fr, e.fn, e.on, e.wt, cv_l e.fw, e.bw, e.st))), [(q.1, ce_k (nI q.2) 3 (cv_p e.fw.K e.fw.pos (fun k => x (5 + k))) 135)]) | none => (r_en r (fu r.en (ord k0) none), e_ds e)) h h1) := fun lv l0 l1 l5 z => by
        rw [z]
        refine on_relv (l := [(0, .ref o), (1, .int (nI self)), (5, .ref (es k0))]) ⟨l0, l1, l5, trivial⟩ ?_
        first | refine on_aload_n (pc' := 79) rfl rfl rfl rfl ?_ | refine on_aload_nQ (pc' := 79) rfl rfl rfl rfl ?_
        refine on_iload_n (pc' := 80) rfl rfl rfl rfl ?_
        first | refine on_aload (pc' := 82) rfl rfl rfl ?_ | refine on_aloadQ (pc' := 82) rfl rfl rfl ?_
        refine on_callV (pc' := 85) (As := [.int (nI self), .ref (es k0)]) (rest := []) (b := o) rfl rfl cw_M_relayed_425 (o4) rfl rfl (Nat.le_of_ble_eq_true rfl) (Nat.zero_le _) (Nat.zero_le _) (c_M_destroyEntry K3' hk0 fu_s hf (fun q hq2 => heo _ e q he hq2)) ?_
        rintro v h4 sz ⟨rfl, rfl, Y⟩
        have Y : mY o R self x3 F lk (r_en r (fu (fu r.en (ord k0) (some (e.fr, e.fn, e.on, e.wt, cv_l e.fw, e.bw, e.st))) (ord k0) none), e_ds e) h3 h4 := Y
        rw [fu_fu] at Y
        refine on_goto (tgt := 111) rfl rfl ?_
        refine on_vreturn rfl rfl ?_
        exact ⟨rfl, rfl, Y.1, (f1.trans f3).trans Y.2⟩
      show on_E G M_M_relayed 48 _ [.int 0] h3 sz _ _ _
      refine on_if_eq (pc' := 51) (tgt := 61) rfl rfl rfl (fun cq => ?_) (fun cq => ?_)
      rotate_left
      · exact absurd rfl cq
      · clear cq
        first | refine on_aload (pc' := 63) rfl rfl rfl ?_ | refine on_aloadQ (pc' := 63) rfl rfl rfl ?_
        first | apply on_get (pc' := 66) rfl rfl fl_M_342 | apply on_getN (pc' := 66) rfl rfl fl_M_342
        · repeat (first | assumption | exact on_up_eq _ _ _ | refine (on_up_ne (by omega)).trans ?_)
        · rfl
        refine on_iconst (pc' := 67) (v := (-1)) rfl rfl li_m1 ?_
        refine on_icmp_eq (pc' := 70) (tgt := 78) rfl rfl rfl (fun cq => ?_) (fun cq => ?_)
        · refine des _ rfl rfl rfl ?_
          cases w : e.on with
          | none => rfl
          | some q =>
            rw [w] at cq
            exact absurd cq ((by decide : ∀ f, f < 10 → ¬ nI f = -1) q.1 (heo _ e q he w))
        · cases w : e.on with
          | none =>
            rw [w] at cq
            exact absurd rfl cq
          | some q =>
            clear cq
            rw [w] at des
            have b05 : h3 (es k0) = some (.inr (14, [.int (nI e.fr), .int e.fn, .int (nI q.1), .int tn, .int (bI e.wt), .ref (es k0 + 1), .int (nI e.st.length), .ref (es k0 + 10), .ref (es k0 + 11), .ref (es k0 + 12), .ref (es k0 + 13)])) := by
              rw [w] at b03
              exact b03
            rw [tq q w] at b05
            have q10 := heo _ e q he w
            first | refine on_aload (pc' := 72) rfl rfl rfl ?_ | refine on_aloadQ (pc' := 72) rfl rfl rfl ?_
            first | apply on_get (pc' := 75) rfl rfl fl_M_370 | apply on_getN (pc' := 75) rfl rfl fl_M_370
            · repeat (first | assumption | exact on_up_eq _ _ _ | refine (on_up_ne (by omega)).trans ?_)
            · rfl
            refine on_if_eq (pc' := 78) (tgt := 88) rfl rfl rfl (fun cq => ?_) (fun cq => ?_)
            · have wt0 := bI_eq.mp cq
              clear cq
              first | refine on_aload_n (pc' := 89) rfl rfl rfl rfl ?_ | refine on_aload_nQ (pc' := 89) rfl rfl rfl rfl ?_
              refine on_iload_n (pc' := 90) rfl rfl rfl rfl ?_
              first | refine on_aload (pc' := 92) rfl rfl rfl ?_ | refine on_aloadQ (pc' := 92) rfl rfl rfl ?_
              first | apply on_get (pc' := 95) rfl rfl fl_M_342 | apply on_getN (pc' := 95) rfl rfl fl_M_342
              · repeat (first | assumption | exact on_up_eq _ _ _ | refine (on_up_ne (by omega)).trans ?_)
              · rfl
              first | refine on_aload (pc' := 97) rfl rfl rfl ?_ | refine on_aloadQ (pc' := 97) rfl rfl rfl ?_
              first | apply on_get (pc' := 100) rfl rfl fl_M_345 | apply on_getN (pc' := 100) rfl rfl fl_M_345
              · repeat (first | assumption | exact on_up_eq _ _ _ | refine (on_up_ne (by omega)).trans ?_)
              · rfl
              refine on_iconst (pc' := 101) (v := 3) rfl rfl li_3 ?_
              first | refine on_aload_n (pc' := 102) rfl rfl rfl rfl ?_ | refine on_aload_nQ (pc' := 102) rfl rfl rfl rfl ?_
              first | apply on_get (pc' := 105) rfl rfl fl_M_76 | apply on_getN (pc' := 105) rfl rfl fl_M_76
              · repeat (first | assumption | exact on_up_eq _ _ _ | refine (on_up_ne (by omega)).trans ?_)
              · rfl
              refine on_sipush (pc' := 108) (v := 135) rfl rfl ls_135 ?_
              refine on_callV (pc' := 111) (As := [.int (nI self), .int (nI q.1), .int (nI q.2), .int (nI 3), .ref (o + 25), .int (nI 135)]) (rest := []) (b := o) rfl rfl cw_M_relayed_348 (o4) rfl rfl (Nat.le_of_ble_eq_true rfl) (Nat.zero_le _) (Nat.zero_le _) (c_M_lay (x := fun k => y (5 + k)) o4 K3'.2.1 (by omega) q10 (by decide) P3.w (by omega) (by omega) ⟨Nat.le_refl 135, by decide⟩ (Nat.le_refl 135) P3.all) ?_
              rintro v h4 sz ⟨rfl, rfl, L4, t4⟩
              refine on_vreturn rfl rfl ?_
              show _ ∧ _ ∧ mY o R self x3 F lk (if e.wt = true then _ else _) h h4
              rw [if_neg (by rw [wt0]; decide)]
              rw [w] at K3'
              rw [ey] at L4
              exact ⟨rfl, rfl, ⟨n, ord, es, K3'.lnk L4 t4⟩, (f1.trans f3).trans (fun b c1 c2 => t4 b (by omega) (by omega))⟩
            · have wt1 := bI_ne.mp cq
              exact des _ rfl rfl rfl (if_pos wt1)
end MRD
