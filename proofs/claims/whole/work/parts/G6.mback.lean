/-! the reference: cells back, and both sides of an entry -/
theorem ce_k_0 {num : Int32} {cmd : Nat} {p q : Nat → Nat} : ce_k num cmd p 0 = ce_k num cmd q 0 := funext fun i => by
  unfold ce_k
  split
  · rfl
  · split
    · rfl
    · rw [if_neg (by omega), if_neg (by omega)]
theorem n_sd_app (fr : Nat) : ∀ (L M : aO) (lk : Nat → List aB), n_sd fr lk (L ++ M) = n_sd fr (n_sd fr lk L) M
  | [], _, _ => rfl
  | _ :: L, M, _ => n_sd_app fr L M _
theorem rB.all {h : on_H} {a n : Nat} {x : Nat → Nat} (k : rB h a n x) : ∀ f, h a = some (on_ai 0 n f) → on_by f x n := fun f hf => by
  obtain ⟨g, g1, g2⟩ := k
  have e := hf.symm.trans g1
  cases e
  exact g2
section MBK
variable {G : on_G} {o y q R self n k0 sz bc bs : Nat} {x3 : Int32 × Int32 × Int32} {lk : Nat → List aB} {e : aE} {r : aR} {ord es : Nat → Nat} {h h1 : on_H} {Q : Option Value → on_H → Nat → Prop} {x : aB}
theorem mw.upd (K : mw o x3 h) (a1 : mo_O o x3 h1) (a2 : ms_W (o + 11) h1) (a3 : ms_W (o + 14) h1) (a4 : rW h1 (o + 18) 32) (a5 : rW h1 (o + 25) 135) (a6 : rW h1 (o + 27) 16) (a7 : rW h1 (o + 28) 16) (t : ∀ a, o ≤ a → a < o + 42 → (a < o + 11 ∨ o + 17 ≤ a) → a ≠ o + 18 → a ≠ o + 25 → a ≠ o + 27 → a ≠ o + 28 → (a = o ∨ o + 8 ≤ a) → h1 a = h a) : mw o x3 h1 := by
  refine ⟨a1, ?_, a2, a3, a4, ?_, ?_, ?_, ?_, ?_, ?_, a5, ?_, a6, a7, ?_, ?_⟩
  · exact K.sa.keep (fun a b1 b2 => t a (by omega) (by omega) (by omega) (by omega) (by omega) (by omega) (by omega) (by omega))
  · exact K.ky.keep (t _ (by omega) (by omega) (by omega) (by omega) (by omega) (by omega) (by omega) (by omega))
  · exact K.tx.keep (t _ (by omega) (by omega) (by omega) (by omega) (by omega) (by omega) (by omega) (by omega))
  · exact K.pt.keep (t _ (by omega) (by omega) (by omega) (by omega) (by omega) (by omega) (by omega) (by omega))
  · exact K.r1.keep (t _ (by omega) (by omega) (by omega) (by omega) (by omega) (by omega) (by omega) (by omega))
  · exact K.r2.keep (t _ (by omega) (by omega) (by omega) (by omega) (by omega) (by omega) (by omega) (by omega))
  · exact K.ce.keep (t _ (by omega) (by omega) (by omega) (by omega) (by omega) (by omega) (by omega) (by omega))
  · exact K.sk.keep (t _ (by omega) (by omega) (by omega) (by omega) (by omega) (by omega) (by omega) (by omega))
  · obtain ⟨c, hc⟩ := K.li
    exact ⟨c, hc.keep (t _ (by omega) (by omega) (by omega) (by omega) (by omega) (by omega) (by omega) (by omega)) (fun a b1 b2 => t a (by omega) (by omega) (by omega) (by omega) (by omega) (by omega) (by omega) (by omega))⟩
  · exact K.da.keep (t _ (by omega) (by omega) (by omega) (by omega) (by omega) (by omega) (by omega) (by omega))
set_option maxHeartbeats 8000000 in
/-- back -/
theorem c_M_back {cmd s Lq : Nat} {d : Nat → Nat} (W : mw o x3 h) (K : mk_L o lk h) (E : me_S y e h) (hy : y + 14 ≤ o ∨ o + 42 ≤ y) (hs : self < 10) (hf : e.fr < 10) (hL : e.bw.ms.length + 135 < 2 ^ 28) (hpos : e.bw.pos + 135 < 2 ^ 36) (hc : cmd < 256) (hs6 : s < 65536) (hn : n ≤ 124) (hq : rW h q Lq) (hqo : q = o + 41 ∨ q = o + 26) (hLq : n ≤ Lq ∧ Lq < 2 ^ 31) (hd : ∀ f, h q = some (on_ai 0 Lq f) → on_by f d n) :
    on_Ct G M_M_back [.ref o, .int (nI self), .ref y, .int (nI cmd), .int (nI s), .int (nI n), .ref q] h sz 0 0 (fun v h1 z => v = none ∧ z = sz ∧ mw o x3 h1 ∧ mk_L o (n_sd self lk [(e_bk e cmd s n d).2]) h1 ∧ me_S y (e_bk e cmd s n d).1 h1 ∧ ∀ b, b ≠ o + 6 → b ≠ o + 7 → (b < o + 11 ∨ o + 17 ≤ b) → b ≠ o + 18 → b ≠ o + 25 → b ≠ o + 27 → b ≠ o + 28 → (b < y ∨ y + 14 ≤ b) → h1 b = h b) := by
  have ho := W.ob.1
  obtain ⟨tn, S, V, WW, C, ⟨b0, b1, b2, b3, b4⟩, tq, sr, ⟨⟨l0, l1, l2⟩, l3, l4⟩⟩ := id E
  refine on_Ct.of (by decide) v_M_back (Nat.le_of_ble_eq_true rfl) ?_
  first | refine on_aload_n (pc' := 1) rfl rfl rfl rfl ?_ | refine on_aload_nQ (pc' := 1) rfl rfl rfl rfl ?_
  refine on_iload_n (pc' := 2) rfl rfl rfl rfl ?_
  refine on_iload (pc' := 4) rfl rfl rfl ?_
  refine on_iload (pc' := 6) rfl rfl rfl ?_
  first | refine on_aload (pc' := 8) rfl rfl rfl ?_ | refine on_aloadQ (pc' := 8) rfl rfl rfl ?_
  first | refine on_aload_n (pc' := 9) rfl rfl rfl rfl ?_ | refine on_aload_nQ (pc' := 9) rfl rfl rfl rfl ?_
  first | apply on_get (pc' := 12) rfl rfl fl_M_395 | apply on_getN (pc' := 12) rfl rfl fl_M_395
  · repeat (first | assumption | exact on_up_eq _ _ _ | refine (on_up_ne (by omega)).trans ?_)
  · rfl
  first | apply on_get (pc' := 15) rfl rfl fl_M_301 | apply on_getN (pc' := 15) rfl rfl fl_M_301
  · repeat (first | assumption | exact on_up_eq _ _ _ | refine (on_up_ne (by omega)).trans ?_)
  · rfl
  refine on_callV (pc' := 18) (As := [.int (nI cmd), .int (nI s), .int (nI n), .ref q, .ref (y + 1 + 4)]) (rest := []) (b := o) rfl rfl cw_M_back_403 (ho) rfl rfl (Nat.le_of_ble_eq_true rfl) (Nat.zero_le _) (Nat.zero_le _) (c_M_make (d := d) W.ob W.si W.st l4 (by omega) W.pl W.dg hL hc hs6 hq (by omega) hn hLq hd) ?_
  rintro v h1 z ⟨rfl, rfl, O1, I1, T1, X1, D1, P1, t1⟩
  have bo : ∀ b, y ≤ b → b < y + 14 → (b < y + 5 ∨ y + 8 ≤ b) → h1 b = h b := fun b c1 c2 c3 => t1 b (by omega) (by omega) (by omega) (by omega)
  have e0 := (bo y (by omega) (by omega) (by omega)).trans b0
  have le1 : ml_B (y + 1) e.fw e.bw h1 := ⟨(bo _ (by omega) (by omega) (by omega)).trans l0, l1.keep (bo _ (by omega) (by omega) (by omega)), l2.keep (bo _ (by omega) (by omega) (by omega))⟩
  first | refine on_aload_n (pc' := 19) rfl rfl rfl rfl ?_ | refine on_aload_nQ (pc' := 19) rfl rfl rfl rfl ?_
  first | refine on_aload_n (pc' := 20) rfl rfl rfl rfl ?_ | refine on_aload_nQ (pc' := 20) rfl rfl rfl rfl ?_
  first | apply on_get (pc' := 23) rfl rfl fl_M_395 | apply on_getN (pc' := 23) rfl rfl fl_M_395
  · repeat (first | assumption | exact on_up_eq _ _ _ | refine (on_up_ne (by omega)).trans ?_)
  · rfl
  refine on_callV (pc' := 26) (As := [.ref (y + 1)]) (rest := []) (b := o) rfl rfl cw_M_back_407 (O1.1) rfl rfl (Nat.le_of_ble_eq_true rfl) (Nat.zero_le _) (Nat.zero_le _) (c_M_coverBackwards O1.1 le1 (by omega) hpos P1 (W.bl.keep (t1 _ (by omega) (by omega) (by omega) (by omega))) (W.be.keep (t1 _ (by omega) (by omega) (by omega) (by omega)))) ?_
  rintro v h2 z ⟨rfl, rfl, P2, F2, B2, M2, t2⟩
  have o2 := (t2 o (by omega) (by omega) (by omega) (by omega)).trans O1.1
  have e2 := (t2 y (by omega) (by omega) (by omega) (by omega)).trans e0
  have TT : ∀ b, (b < o + 11 ∨ o + 17 ≤ b) → b ≠ o + 18 → b ≠ o + 25 → b ≠ o + 27 → b ≠ o + 28 → (b < y ∨ y + 14 ≤ b) → h2 b = h b := fun b c1 c2 c3 c4 c5 c6 => (t2 b c3 c4 c5 (by omega)).trans (t1 b c1 c2 c3 (by omega))
  have W2 : mw o x3 h2 := W.upd (O1.keep (t2 _ (by omega) (by omega) (by omega) (by omega)) (t2 _ (by omega) (by omega) (by omega) (by omega))) (I1.keep (fun a _ _ => t2 a (by omega) (by omega) (by omega) (by omega))) (T1.keep (fun a _ _ => t2 a (by omega) (by omega) (by omega) (by omega))) (D1.keep (t2 _ (by omega) (by omega) (by omega) (by omega))) P2.w F2 B2 (fun a c1 c2 c3 c4 c5 c6 c7 _ => TT a c3 c4 c5 c6 c7 (by omega))
  first | refine on_aload_n (pc' := 27) rfl rfl rfl rfl ?_ | refine on_aload_nQ (pc' := 27) rfl rfl rfl rfl ?_
  refine on_iload_n (pc' := 28) rfl rfl rfl rfl ?_
  first | refine on_aload_n (pc' := 29) rfl rfl rfl rfl ?_ | refine on_aload_nQ (pc' := 29) rfl rfl rfl rfl ?_
  first | apply on_get (pc' := 32) rfl rfl fl_M_336 | apply on_getN (pc' := 32) rfl rfl fl_M_336
  · repeat (first | assumption | exact on_up_eq _ _ _ | refine (on_up_ne (by omega)).trans ?_)
  · rfl
  first | refine on_aload_n (pc' := 33) rfl rfl rfl rfl ?_ | refine on_aload_nQ (pc' := 33) rfl rfl rfl rfl ?_
  first | apply on_get (pc' := 36) rfl rfl fl_M_339 | apply on_getN (pc' := 36) rfl rfl fl_M_339
  · repeat (first | assumption | exact on_up_eq _ _ _ | refine (on_up_ne (by omega)).trans ?_)
  · rfl
  refine on_iconst (pc' := 37) (v := 3) rfl rfl li_3 ?_
  first | refine on_aload_n (pc' := 38) rfl rfl rfl rfl ?_ | refine on_aload_nQ (pc' := 38) rfl rfl rfl rfl ?_
  first | apply on_get (pc' := 41) rfl rfl fl_M_76 | apply on_getN (pc' := 41) rfl rfl fl_M_76
  · repeat (first | assumption | exact on_up_eq _ _ _ | refine (on_up_ne (by omega)).trans ?_)
  · rfl
  refine on_sipush (pc' := 44) (v := 135) rfl rfl ls_135 ?_
  refine on_callV (pc' := 47) (As := [.int (nI self), .int (nI e.fr), .int e.fn, .int (nI 3), .ref (o + 25), .int (nI 135)]) (rest := []) (b := o) rfl rfl cw_M_back_348 (o2) rfl rfl (Nat.le_of_ble_eq_true rfl) (Nat.zero_le _) (Nat.zero_le _) (c_M_lay (x := bk_p e.bw cmd s n d) (lk := lk) o2 (K.keep (TT _ (by omega) (by omega) (by omega) (by omega) (by omega) (by omega)) (TT _ (by omega) (by omega) (by omega) (by omega) (by omega) (by omega))) hs hf (by decide) P2.w (by omega) (by omega) ⟨Nat.le_refl 135, by decide⟩ (Nat.le_refl 135) P2.all) ?_
  rintro v h3 z ⟨rfl, rfl, L3, t3⟩
  refine on_vreturn rfl rfl ?_
  refine ⟨rfl, rfl, W2.keep (fun a c1 c2 c3 => t3 a (by omega) (by omega)), L3, ⟨tn, S, V, WW, C, ⟨?_, ?_, ?_, ?_, ?_⟩, tq, sr, ⟨?_, ?_, ?_⟩⟩, fun b c1 c2 c3 c4 c5 c6 c7 c8 => (t3 b c1 c2).trans (TT b c3 c4 c5 c6 c7 c8)⟩
  · exact (t3 _ (by omega) (by omega)).trans e2
  · exact (t3 _ (by omega) (by omega)).trans ((t2 _ (by omega) (by omega) (by omega) (by omega)).trans ((bo _ (by omega) (by omega) (by omega)).trans b1))
  · exact (t3 _ (by omega) (by omega)).trans ((t2 _ (by omega) (by omega) (by omega) (by omega)).trans ((bo _ (by omega) (by omega) (by omega)).trans b2))
  · exact (t3 _ (by omega) (by omega)).trans ((t2 _ (by omega) (by omega) (by omega) (by omega)).trans ((bo _ (by omega) (by omega) (by omega)).trans b3))
  · exact (t3 _ (by omega) (by omega)).trans ((t2 _ (by omega) (by omega) (by omega) (by omega)).trans ((bo _ (by omega) (by omega) (by omega)).trans b4))
  · exact ml_B.keep M2 (fun a ha => t3 a (by omega) (by omega))
  · exact l3.keep (fun a c1 c2 => (t3 a (by omega) (by omega)).trans ((t2 a (by omega) (by omega) (by omega) (by omega)).trans (bo a (by omega) (by omega) (by omega))))
  · exact X1.keep (fun a c1 c2 => (t3 a (by omega) (by omega)).trans (t2 a (by omega) (by omega) (by omega) (by omega)))
/-- the place of a stream of an entry -/
theorem mst_l {id : Nat} (E : me_S y e h) (hid : id < 65536) (kn : s_at e.st id = none → ∀ lv, on_E G M_M_streamAt 28 lv [] h sz bc bs Q) (ks : ∀ k, k < e.st.length → s_at e.st id = some k → on_E G M_M_streamAt 20 (on_l [(3, .int (nI k))]) [] h sz bc bs Q) :
    ∀ (m k : Nat), k + m = e.st.length → (∀ j, j < k → ¬ (e.st.getD j s0).id = id) → on_E G M_M_streamAt 2 (on_l [(1, .ref y), (2, .int (nI id)), (3, .int (nI k))]) [] h sz bc bs Q := by
  obtain ⟨tn, S, V, WW, C, ⟨b0, b1, b2, b3, b4⟩, tq, sr, -⟩ := E
  have l4 := sr.1
  intro m
  induction m with
  | zero =>
    intro k hk hj
    have ek : k = e.st.length := by omega
    refine on_iload_n (pc' := 3) rfl rfl rfl rfl ?_
    first | refine on_aload_n (pc' := 4) rfl rfl rfl rfl ?_ | refine on_aload_nQ (pc' := 4) rfl rfl rfl rfl ?_
    first | apply on_get (pc' := 7) rfl rfl fl_M_381 | apply on_getN (pc' := 7) rfl rfl fl_M_381
    · repeat (first | assumption | exact on_up_eq _ _ _ | refine (on_up_ne (by omega)).trans ?_)
    · rfl
    refine on_icmp_ge (pc' := 10) (tgt := 28) rfl rfl rfl (fun cq => ?_) (fun cq => ?_)
    · refine kn ?_ _
      rw [ek] at hj
      exact s_at_none hj
    · exact absurd (nI_le (a := k) (b := e.st.length) (by omega) (by omega)) (fun z => cq (by rw [ek] at z ⊢; exact z))
  | succ m ih =>
    intro k hk hj
    have i4 : k < 4 ∧ 4 < 2 ^ 31 := by omega
    have sk := sr.2 k (by omega)
    refine on_iload_n (pc' := 3) rfl rfl rfl rfl ?_
    first | refine on_aload_n (pc' := 4) rfl rfl rfl rfl ?_ | refine on_aload_nQ (pc' := 4) rfl rfl rfl rfl ?_
    first | apply on_get (pc' := 7) rfl rfl fl_M_381 | apply on_getN (pc' := 7) rfl rfl fl_M_381
    · repeat (first | assumption | exact on_up_eq _ _ _ | refine (on_up_ne (by omega)).trans ?_)
    · rfl
    refine on_icmp_ge (pc' := 10) (tgt := 28) rfl rfl rfl (fun cq => ?_) (fun cq => ?_)
    · exact absurd cq (nI_ge (b := e.st.length) (by omega) (by omega))
    · clear cq
      first | refine on_aload_n (pc' := 11) rfl rfl rfl rfl ?_ | refine on_aload_nQ (pc' := 11) rfl rfl rfl rfl ?_
      first | apply on_get (pc' := 14) rfl rfl fl_M_428 | apply on_getN (pc' := 14) rfl rfl fl_M_428
      · repeat (first | assumption | exact on_up_eq _ _ _ | refine (on_up_ne (by omega)).trans ?_)
      · rfl
      refine on_iload_n (pc' := 15) rfl rfl rfl rfl ?_
      apply on_ialoadK (pc' := 16) (t := 0) rfl rfl
      · repeat (first | assumption | exact on_up_eq _ _ _ | refine (on_up_ne (by omega)).trans ?_)
      · rfl
      · first | assumption | exact on_lit _ | rfl
      · first | assumption | omega | decide
      rw [sk.1]
      refine on_iload_n (pc' := 17) rfl rfl rfl rfl ?_
      refine on_icmp_ne (pc' := 20) (tgt := 22) rfl rfl rfl (fun cq => ?_) (fun cq => ?_)
      · have ne : ¬ (e.st.getD k s0).id = id := fun z => cq (by rw [z])
        refine on_iinc1 (pc' := 25) rfl rfl rfl ?_
        refine on_goto (tgt := 2) rfl rfl ?_
        refine on_relv (l := [(1, .ref y), (2, .int (nI id)), (3, .int (nI (k + 1)))]) ⟨rfl, rfl, congrArg some (congrArg Value.int (nI_1 k)), trivial⟩ (ih (k + 1) (by omega) (fun j hj2 => ?_))
        by_cases z : j = k
        · rw [z]; exact ne
        · exact hj j (by omega)
      · have eq : (e.st.getD k s0).id = id := (nI_eq (a := (e.st.getD k s0).id) (b := id) (by have := sk.2.2.2.2.1; omega) (by omega)).mp cq
        exact on_relv (l := [(3, .int (nI k))]) ⟨rfl, trivial⟩ (ks k (by omega) (s_at_some (by omega) eq hj))
theorem c_M_streamAt {id : Nat} (E : me_S y e h) (hid : id < 65536) : on_Ct G M_M_streamAt [.ref o, .ref y, .int (nI id)] h sz 0 0 (fun v h1 z => v = some (.int (kI (s_at e.st id))) ∧ z = sz ∧ h1 = h) := by
  refine on_Ct.of (by decide) v_M_streamAt (Nat.le_of_ble_eq_true rfl) ?_
  refine on_iconst (pc' := 1) (v := 0) rfl rfl li_0 ?_
  refine on_istore_n (pc' := 2) rfl rfl rfl (by decide) ?_
  refine on_relv (l := [(1, .ref y), (2, .int (nI id)), (3, .int (nI 0))]) ⟨rfl, rfl, rfl, trivial⟩ (mst_l E hid (fun e1 lv => ?_) (fun k hk e1 => ?_) e.st.length 0 (by omega) (fun j hj => absurd hj (Nat.not_lt_zero j)))
  · refine on_iconst (pc' := 29) (v := (-1)) rfl rfl li_m1 ?_
    refine on_ireturn rfl rfl ?_
    rw [e1]
    exact ⟨rfl, rfl, rfl⟩
  · refine on_iload_n (pc' := 21) rfl rfl rfl rfl ?_
    refine on_ireturn rfl rfl ?_
    rw [e1]
    exact ⟨rfl, rfl, rfl⟩
end MBK
