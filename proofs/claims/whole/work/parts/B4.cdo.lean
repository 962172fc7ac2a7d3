/-! Circuit: data, and what else the last hop says -/
/-- the class's Circuit at c -/
def cr_S (c cl hs : Nat) (ra la sa : Nat → Nat) (rs : Nat → aR) (k : aC) (h : on_H) : Prop := cr_O c cl hs (nI k.nu) (nI k.ph) (nI k.hp) (nI k.st.length) h ∧ pa_S c ra k.pa h ∧ ls_S c (hs + 4) k.pa.length la k.hp k.la h ∧ ss_S c sa k.st h ∧ rW h (c + 3) 32 ∧ rW h (c + 4) 68 ∧ (k.ph = 0 → rB h (c + 3) 32 k.x ∧ rB h (c + 4) 68 (of_b (rs (k.pa.getD k.hp 0)).se k.x))
/-- where its parts lie, and how its numbers stand -/
def cr_I (c : Nat) (la sa : Nat → Nat) (k : aC) : Prop := ls_D c la k.hp ∧ (∀ i, i < k.st.length → c + 7 ≤ sa i ∧ (∀ j, j < i → sa j + 3 ≤ sa i) ∧ ∀ j, j < k.hp → la j + 16 ≤ sa i) ∧ (1 ≤ k.pa.length ∧ k.pa.length ≤ 3) ∧ k.ph ≤ 2 ∧ k.hp ≤ k.pa.length ∧ (k.ph = 0 → k.hp < k.pa.length ∧ k.st = []) ∧ (k.ph = 1 → k.hp = k.pa.length)
/-- sealing: at most one cell -/
def cs_L (k : aC) : aP → aC × aO
  | [] => (k, [])
  | (t, x, b) :: _ => if b = true then (c_la k (cs_q k.la k.hp x).1, [(t, cs_c k.la k.hp x)]) else (k, [(t, x)])
theorem rc_pl {ms : List Nat} {num : Int32} {cmd s n : Nat} {d : Nat → Nat} {i : Nat} (hi : 5 ≤ i) : rc_s ms (pl_c num cmd s n d) i = rc_s ms (mk_c cmd s n d) i := by
  unfold rc_s
  rw [sp_sl_congr (f := pl_c num cmd s n d) (g := mk_c cmd s n d) (at_ := 5) (cnt := 135) (fun i hi => if_neg (by omega)), show pl_c num cmd s n d i = mk_c cmd s n d i from if_neg (by omega)]
theorem cs_pl {k : aC} {cmd s n : Nat} {d : Nat → Nat} {num : Int32} : cs_q k.la k.hp (pl_c num cmd s n d) = c_cv (fu k.la (k.hp - 1) (((k.la (k.hp - 1)).1.ms ++ sp_sl (mk_c cmd s n d) 5 135, (k.la (k.hp - 1)).1.K, (k.la (k.hp - 1)).1.pos), (k.la (k.hp - 1)).2)) k.hp (fun j => rc_s (k.la (k.hp - 1)).1.ms (mk_c cmd s n d) (5 + j)) := by
  unfold cs_q cs_f
  rw [sp_sl_congr (f := pl_c num cmd s n d) (g := mk_c cmd s n d) (at_ := 5) (cnt := 135) (fun i hi => if_neg (by omega)), show (fun j => rc_s (k.la (k.hp - 1)).1.ms (pl_c num cmd s n d) (5 + j)) = fun j => rc_s (k.la (k.hp - 1)).1.ms (mk_c cmd s n d) (5 + j) from funext fun j => rc_pl (by omega)]
theorem cfo_1 {k : aC} {cmd s n : Nat} {d : Nat → Nat} {num : Int32} : (c_fo k cmd s n d).1 = c_la k (cs_q k.la k.hp (pl_c num cmd s n d)).1 := by
  rw [cs_pl]; rfl
theorem cfo_2 {k : aC} {cmd s n : Nat} {d : Nat → Nat} {j : Nat} (hj : j < 140) : cs_c k.la k.hp (pl_c (nI k.nu) cmd s n d) j = (c_fo k cmd s n d).2.2 j := by
  show ce_p (rc_s (k.la (k.hp - 1)).1.ms (pl_c (nI k.nu) cmd s n d)) (cs_q k.la k.hp (pl_c (nI k.nu) cmd s n d)).2 j = ce_k (nI k.nu) 3 (c_cv (fu k.la (k.hp - 1) (((k.la (k.hp - 1)).1.ms ++ sp_sl (mk_c cmd s n d) 5 135, (k.la (k.hp - 1)).1.K, (k.la (k.hp - 1)).1.pos), (k.la (k.hp - 1)).2)) k.hp (fun j => rc_s (k.la (k.hp - 1)).1.ms (mk_c cmd s n d) (5 + j))).2 135 j
  rw [cs_pl]
  generalize (c_cv _ _ _).2 = p
  unfold ce_p
  by_cases h5 : j < 5
  · rw [if_pos h5]
    unfold rc_s
    rw [if_neg (fun z => by omega)]
    unfold pl_c ce_k
    rw [if_pos h5]
    by_cases h4 : j < 4
    · rw [if_pos h4, if_pos h4]
    · rw [if_neg h4, if_neg h4, if_pos (by omega), if_pos (by omega)]
  · rw [if_neg h5, ce_k_in (by omega) (by omega)]
section CDO
variable {G : on_G} {c cl hs u q p sz bc bs : Nat} {num ph jo sc : Int32} {ra la sa : Nat → Nat} {h : on_H} {y : aB} {t : aT} {Q : Option Value → on_H → Nat → Prop} {lv : on_V} {st : List Value}
set_option maxHeartbeats 8000000 in
/-- takeData -/
theorem c_Circuit_takeData {pa : List Nat} {ot hs2 nm s n : Nat} {r : aR} (hd : u + 8 ≤ q ∧ q < c ∧ c + 7 ≤ p) (hs65 : s < 65536) (hn : y 14 * 256 + y 15 = n ∧ n ≤ 124) (hC : cr_O c cl hs num ph jo sc h) (hP : pa_S c ra pa h) (hl : 0 < pa.length ∧ pa.length < 2 ^ 31) (R : rl_S (ra (pa.getD 0 0)) ot hs2 nm r h) (hR : ra (pa.getD 0 0) + 260 ≤ c) (K : sm_S p t h) (hq : rB h q 140 y) (O : ob_E u h) :
    on_Ct G M_Circuit_takeData [.ref (c + 1), .ref p, .int (nI s), .ref q, .ref u] h sz 0 0 (fun v h1 z => v = none ∧ z = sz ∧ sm_S p (t.ph, t.wi, t.ca + 1, t.wa, ke_a t.go (fun j => y (16 + j)) n) h1 ∧ ob_P u (if i_rem (t.ca + 1) 2 = 0 then [(nm, pl_c num 5 s 0 (fun _ => 0), true)] else []) h1 ∧ ∀ b, (b < p ∨ p + 3 ≤ b) → (b < u ∨ u + 8 ≤ b) → h1 b = h b) := by
  obtain ⟨f, W, o0, w0, hf, hwl, hW, kp, hph⟩ := id K
  have c0 : h (c + 1) = some (.inr (9, [.ref cl, .int num, .ref c, .ref hs, .ref (c + 5), .ref (c + 6), .ref (c + 2), .ref (c + 3), .ref (c + 4), .int ph, .int jo, .int sc])) := hC
  refine on_Ct.of (by decide) v_Circuit_takeData (Nat.le_of_ble_eq_true rfl) ?_
  have tl : ∀ (L : aP) (h2 : on_H), L = (if i_rem (t.ca + 1) 2 = 0 then [(nm, pl_c num 5 s 0 (fun _ => 0), true)] else []) → ob_P u L h2 → h2 p = some (.inr (10, [.ref (p + 1), .ref (p + 2), .int (nI f), .int (nI t.wa.length), .int (nI t.go.length), .int (nI t.ph), .int t.wi, .int (t.ca + 1)])) → (∀ b, b ≠ p → (b < u ∨ u + 8 ≤ b) → h2 b = h b) → on_E G M_Circuit_takeData 29 (on_l [(1, .ref p), (3, .ref q)]) [] h2 sz 0 0 (fun v h1 z => v = none ∧ z = sz ∧ sm_S p (t.ph, t.wi, t.ca + 1, t.wa, ke_a t.go (fun j => y (16 + j)) n) h1 ∧ ob_P u (if i_rem (t.ca + 1) 2 = 0 then [(nm, pl_c num 5 s 0 (fun _ => 0), true)] else []) h1 ∧ ∀ b, (b < p ∨ p + 3 ≤ b) → (b < u ∨ u + 8 ≤ b) → h1 b = h b) := fun L h2 eL OL g0 t2 => by
    have Q2 := hq.keep (h2 := h2) (t2 q (by omega) (by omega))
    obtain ⟨X, q1, X'⟩ := id Q2
    have x14 := X' 14 (by decide)
    have x15 := X' 15 (by decide)
    obtain ⟨⟨F, f1, f2⟩, f3⟩ := kp.keep (h2 := h2) (t2 (p + 2) (by omega) (by omega))
    first | refine on_aload_n (pc' := 30) rfl rfl rfl rfl ?_ | refine on_aload_nQ (pc' := 30) rfl rfl rfl rfl ?_
    refine on_bipush (pc' := 32) (v := 14) rfl rfl lb_14 ?_
    refine on_callS (pc' := 35) (As := [.ref q, .int (nI 14)]) (rest := []) rfl rfl cw_Circuit_takeData_158 rfl rfl (Nat.le_of_ble_eq_true rfl) (Nat.zero_le _) (Nat.zero_le _) (c_pairAt (at_ := 14) q1 (by decide) x14.1 x15.1 x14.2 x15.2) ?_
    rintro v h2 sz ⟨rfl, rfl, rfl⟩
    rw [hn.1]
    refine on_istore (pc' := 37) rfl rfl (by decide) ?_
    first | refine on_aload_n (pc' := 38) rfl rfl rfl rfl ?_ | refine on_aload_nQ (pc' := 38) rfl rfl rfl rfl ?_
    first | refine on_aload_n (pc' := 39) rfl rfl rfl rfl ?_ | refine on_aload_nQ (pc' := 39) rfl rfl rfl rfl ?_
    first | apply on_get (pc' := 42) rfl rfl fl_Circuit_176 | apply on_getN (pc' := 42) rfl rfl fl_Circuit_176
    · repeat (first | assumption | exact on_up_eq _ _ _ | refine (on_up_ne (by omega)).trans ?_)
    · rfl
    first | refine on_aload_n (pc' := 43) rfl rfl rfl rfl ?_ | refine on_aload_nQ (pc' := 43) rfl rfl rfl rfl ?_
    first | apply on_get (pc' := 46) rfl rfl fl_Circuit_179 | apply on_getN (pc' := 46) rfl rfl fl_Circuit_179
    · repeat (first | assumption | exact on_up_eq _ _ _ | refine (on_up_ne (by omega)).trans ?_)
    · rfl
    first | refine on_aload_n (pc' := 47) rfl rfl rfl rfl ?_ | refine on_aload_nQ (pc' := 47) rfl rfl rfl rfl ?_
    refine on_iload (pc' := 49) rfl rfl rfl ?_
    refine on_callS (pc' := 52) (As := [.ref (p + 2), .int (nI t.go.length), .ref q, .int (nI n)]) (rest := [.ref p]) rfl rfl cw_Circuit_takeData_182 rfl rfl (Nat.le_of_ble_eq_true rfl) (Nat.zero_le _) (Nat.zero_le _) (c_keep f1 Q2 (by omega) f3 hn.2) ?_
    rintro v h3 sz ⟨rfl, rfl, ⟨F2, p1, p2, p3⟩, t3⟩
    have g3 := (t3 p (by omega)).trans g0
    first | apply on_put (pc' := 55) rfl rfl fp_Circuit_179 | apply on_putN (pc' := 55) rfl rfl fp_Circuit_179
    · repeat (first | assumption | exact on_up_eq _ _ _ | refine (on_up_ne (by omega)).trans ?_)
    · first | rfl | assumption
    · first | rfl | assumption
    · exact Nat.le_of_ble_eq_true rfl
    refine on_vreturn rfl rfl ?_
    refine ⟨rfl, rfl, ⟨f, W, ?_, (on_up_ne (by omega)).trans ((t3 _ (by omega)).trans ((t2 _ (by omega) (by omega)).trans w0)), hf, hwl, hW, ⟨⟨F2, (on_up_ne (by omega)).trans p1, fun i hi => ?_⟩, ?_⟩, hph⟩, eL ▸ OL.keep (fun b _ _ => (on_up_ne (by omega)).trans (t3 b (by omega))), fun b b1 b2 => (on_up_ne (by omega)).trans ((t3 b (by omega)).trans (t2 b (by omega) b2))⟩
    · rw [on_up_eq, show (aT.go (t.ph, t.wi, t.ca + 1, t.wa, ke_a t.go (fun j => y (16 + j)) n)).length = t.go.length + min n (2000 - t.go.length) from ke_len]
      rfl
    · have hi : i < (ke_a t.go (fun j => y (16 + j)) n).length := hi
      show F2 i = nI ((ke_a t.go (fun j => y (16 + j)) n).getD i 0) ∧ (ke_a t.go (fun j => y (16 + j)) n).getD i 0 < 256
      rw [ke_get hi]
      rw [ke_len] at hi
      by_cases z : i < t.go.length
      · rw [if_pos z, p2 i z]
        exact f2 i z
      · have := p3 (i - t.go.length) (by omega)
        rw [show t.go.length + (i - t.go.length) = i by omega] at this
        rw [if_neg z]
        exact this
    · show (ke_a t.go (fun j => y (16 + j)) n).length ≤ 2000
      rw [ke_len]
      omega
  first | refine on_aload_n (pc' := 1) rfl rfl rfl rfl ?_ | refine on_aload_nQ (pc' := 1) rfl rfl rfl rfl ?_
  refine on_dup (pc' := 2) rfl rfl rfl ?_
  first | apply on_get (pc' := 5) rfl rfl fl_Circuit_173 | apply on_getN (pc' := 5) rfl rfl fl_Circuit_173
  · repeat (first | assumption | exact on_up_eq _ _ _ | refine (on_up_ne (by omega)).trans ?_)
  · rfl
  refine on_iconst (pc' := 6) (v := 1) rfl rfl li_1 ?_
  refine on_iadd (pc' := 7) rfl rfl ?_
  first | apply on_put (pc' := 10) rfl rfl fp_Circuit_173 | apply on_putN (pc' := 10) rfl rfl fp_Circuit_173
  · repeat (first | assumption | exact on_up_eq _ _ _ | refine (on_up_ne (by omega)).trans ?_)
  · first | rfl | assumption
  · first | rfl | assumption
  · exact Nat.le_of_ble_eq_true rfl
  first | refine on_aload_n (pc' := 11) rfl rfl rfl rfl ?_ | refine on_aload_nQ (pc' := 11) rfl rfl rfl rfl ?_
  first | apply on_get (pc' := 14) rfl rfl fl_Circuit_173 | apply on_getN (pc' := 14) rfl rfl fl_Circuit_173
  · repeat (first | assumption | exact on_up_eq _ _ _ | refine (on_up_ne (by omega)).trans ?_)
  · rfl
  refine on_iconst (pc' := 15) (v := 2) rfl rfl li_2 ?_
  refine on_irem (pc' := 16) rfl rfl (by first | assumption | decide) ?_
  refine on_if_ne (pc' := 19) (tgt := 29) rfl rfl rfl (fun cq => ?_) (fun cq => ?_)
  · exact on_relv (l := [(1, .ref p), (3, .ref q)]) ⟨rfl, rfl, trivial⟩ (tl [] _ (if_neg cq).symm (ob_P.nil (ob_S.keep O (fun b _ _ => on_up_ne (by omega)))) (on_up_eq _ _ _) (fun b b1 b2 => on_up_ne b1))
  · have hb : ∀ b, b < c + 7 → on_up h p (.inr (10, [.ref (p + 1), .ref (p + 2), .int (nI f), .int (nI t.wa.length), .int (nI t.go.length), .int (nI t.ph), .int t.wi, .int (t.ca + 1)])) b = h b := fun b hb => on_up_ne (by omega)
    first | refine on_aload_n (pc' := 20) rfl rfl rfl rfl ?_ | refine on_aload_nQ (pc' := 20) rfl rfl rfl rfl ?_
    first | refine on_aload (pc' := 22) rfl rfl rfl ?_ | refine on_aloadQ (pc' := 22) rfl rfl rfl ?_
    refine on_iconst (pc' := 23) (v := 5) rfl rfl li_5 ?_
    refine on_iload_n (pc' := 24) rfl rfl rfl rfl ?_
    refine on_iconst (pc' := 25) (v := 0) rfl rfl li_0 ?_
    refine on_callV (pc' := 28) (As := [.ref u, .int (nI 5), .int (nI s), .int (nI 0)]) (rest := []) (b := c + 1) rfl rfl cw_Circuit_takeData_85 ((on_up_ne (by omega)).trans c0) rfl rfl (Nat.le_of_ble_eq_true rfl) (Nat.zero_le _) (Nat.zero_le _) (c_toLast ((on_up_ne (by omega)).trans c0) (hP.keep (on_up_ne (by omega))) hl (R.keep (fun b _ _ => on_up_ne (by omega))) (ob_S.keep O (fun b _ _ => on_up_ne (by omega))) (by decide) (by decide) hs65 (by decide)) ?_
    rintro v h1 sz ⟨rfl, rfl, O1, t1⟩
    refine on_pop (pc' := 29) rfl rfl rfl ?_
    exact on_relv (l := [(1, .ref p), (3, .ref q)]) ⟨rfl, rfl, trivial⟩ (tl [(nm, pl_c num 5 s 0 (fun _ => 0), true)] h1 (if_pos cq).symm ⟨_, _, _, O1, fun i (hi : i < 1) => by obtain rfl : i = 0 := (by omega); rw [fu_s, fu_s, fu_s]; rfl⟩ ((t1 _ (by omega)).trans (on_up_eq _ _ _)) (fun b b1 b2 => (t1 b b2).trans (on_up_ne b1)))
theorem sw_cd {v : Nat} (hv : v < 256) (k2 : v = 2 → on_E G M_Circuit_doPayload 70 lv st h sz bc bs Q) (k3 : v = 3 → on_E G M_Circuit_doPayload 96 lv st h sz bc bs Q) (k4 : v = 4 → on_E G M_Circuit_doPayload 48 lv st h sz bc bs Q) (k5 : v = 5 → on_E G M_Circuit_doPayload 110 lv st h sz bc bs Q) (kd : ¬ v = 2 → ¬ v = 3 → ¬ v = 4 → ¬ v = 5 → on_E G M_Circuit_doPayload 138 lv st h sz bc bs Q) : on_E G M_Circuit_doPayload 17 lv (.int (nI v) :: st) h sz bc bs Q := by
  by_cases c2 : v = 2
  · subst c2
    exact on_tableIn rfl (by decide) (by decide) rfl rfl (k2 rfl)
  by_cases c3 : v = 3
  · subst c3
    exact on_tableIn rfl (by decide) (by decide) rfl rfl (k3 rfl)
  by_cases c4 : v = 4
  · subst c4
    exact on_tableIn rfl (by decide) (by decide) rfl rfl (k4 rfl)
  by_cases c5 : v = 5
  · subst c5
    exact on_tableIn rfl (by decide) (by decide) rfl rfl (k5 rfl)
  exact on_tableOut rfl (by rw [nI_ti v hv]; omega) rfl (kd c2 c3 c4 c5)
end CDO
