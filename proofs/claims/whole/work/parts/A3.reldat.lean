/-! Stream.keep; a Relay takes data -/
theorem i_min_nI {a b : Nat} (ha : a < 2 ^ 31) (hb : b < 2 ^ 31) : i_min (nI a) (nI b) = nI (min a b) := by
  unfold i_min
  by_cases h : b < a
  · rw [if_pos (nI_lt h ha), Nat.min_eq_right (by omega)]
  · rw [if_neg (nI_nlt (by omega) hb), Nat.min_eq_left (by omega)]
/-- bytes kept, n more -/
def ke_a (ke : List Nat) (d : Nat → Nat) (n : Nat) : List Nat := ke ++ (sp_sl d 0 n).take (2000 - ke.length)
theorem ke_len {ke : List Nat} {d : Nat → Nat} {n : Nat} : (ke_a ke d n).length = ke.length + min n (2000 - ke.length) := by
  unfold ke_a
  rw [List.length_append, List.length_take, sp_sl_len, Nat.min_comm]
theorem ke_get {ke : List Nat} {d : Nat → Nat} {n i : Nat} (hi : i < (ke_a ke d n).length) : (ke_a ke d n).getD i 0 = if i < ke.length then ke.getD i 0 else d (i - ke.length) := by
  rw [ke_len] at hi
  unfold ke_a sp_sl
  rw [List.getD_eq_getElem?_getD, List.getD_eq_getElem?_getD]
  by_cases h : i < ke.length
  · rw [if_pos h, List.getElem?_append_left h]
  · rw [if_neg h, List.getElem?_append_right (by omega), List.getElem?_take, if_pos (by omega), List.getElem?_map, List.getElem?_range (by omega)]
    show d (0 + (i - ke.length)) = _
    rw [Nat.zero_add]
/-- a row of 2000 that keeps the bytes ke -/
def kp_S (p : Nat) (ke : List Nat) (h : on_H) : Prop := (∃ F, h p = some (on_ai 0 2000 F) ∧ ∀ i, i < ke.length → F i = nI (ke.getD i 0) ∧ ke.getD i 0 < 256) ∧ ke.length ≤ 2000
theorem kp_S.keep {p : Nat} {ke : List Nat} {h h2 : on_H} (k : kp_S p ke h) (e : h2 p = h p) : kp_S p ke h2 := by
  obtain ⟨⟨F, f1, f2⟩, f3⟩ := k
  exact ⟨⟨F, e.trans f1, f2⟩, f3⟩
theorem getD_set {α : Type} {st : List α} {k i : Nat} {v d : α} (hk : k < st.length) : (st.set k v).getD i d = if i = k then v else st.getD i d := by
  rw [List.getD_eq_getElem?_getD, List.getElem?_set]
  by_cases e : k = i
  · subst e; rw [if_pos rfl, if_pos hk, if_pos rfl]; rfl
  · rw [if_neg e, if_neg (fun z => e z.symm), List.getD_eq_getElem?_getD]
theorem st_r.set {st : List aS} {S V W C W2 C2 : Nat → Int32} {k : Nat} {wi ca : Int32} (hr : st_r st S V W C) (hk : k < st.length) (w1 : W2 k = wi) (w2 : ∀ i, i ≠ k → W2 i = W i) (c1 : C2 k = ca) (c2 : ∀ i, i ≠ k → C2 i = C i) : st_r (st.set k ((st.getD k s0).id, (st.getD k s0).so, wi, ca)) S V W2 C2 := by
  refine ⟨by rw [List.length_set]; exact hr.1, fun i hi => ?_⟩
  rw [List.length_set] at hi
  rw [getD_set hk]
  obtain ⟨r1, r2, r3, r4, r5, r6⟩ := hr.2 i hi
  by_cases z : i = k
  · subst z
    rw [if_pos rfl]
    exact ⟨r1, r2, w1, c1, r5, r6⟩
  · rw [if_neg z]
    exact ⟨r1, r2, (w2 i z).trans r3, (c2 i z).trans r4, r5, r6⟩
/-- what takeData makes of an entry, of the kept bytes, of the Outbox -/
def td_e (e : aE) (k : Nat) : aE := let q := e.st.getD k s0; (e.fr, e.fn, e.on, e.wt, e.fw, e.bw, if ¬ q.so = 2 ∧ 0 < q.wi then e.st.set k (q.id, q.so, q.wi - 1, q.ca + 1) else e.st.set k (q.id, q.so, q.wi, q.ca + 1))
def td_1 (e : aE) (k : Nat) : aP := let q := e.st.getD k s0; if i_rem (q.ca + 1) 2 = 0 then [(e.fr, pl_c e.fn 5 q.id 0 (fun _ => 0), true)] else []
def td_L (e : aE) (k n : Nat) (d : Nat → Nat) : aP := let q := e.st.getD k s0; if ¬ q.so = 2 ∧ 0 < q.wi then td_1 e k ++ [(e.fr, pl_c e.fn 2 q.id n d, true)] else td_1 e k
def td_k (ke : List Nat) (e : aE) (k n : Nat) (d : Nat → Nat) : List Nat := if (e.st.getD k s0).so = 2 then ke_a ke d n else ke
section RDT
variable {G : on_G} {a ot hs nm u q e1 sz bc bs : Nat} {r : aR} {h : on_H} {x y : aB} {e : aE} {Q : Option Value → on_H → Nat → Prop}
theorem c_keep {p cnt len : Nat} {F : Nat → Int32} (hp : h p = some (on_ai 0 2000 F)) (hq : rB h q 140 y) (hpq : q ≠ p) (hc : cnt ≤ 2000) (hl : len ≤ 124) :
    on_Ct G M_Stream_keep [.ref p, .int (nI cnt), .ref q, .int (nI len)] h sz 0 0 (fun v h1 z => v = some (.int (nI (cnt + min len (2000 - cnt)))) ∧ z = sz ∧ (∃ F2, h1 p = some (on_ai 0 2000 F2) ∧ (∀ i, i < cnt → F2 i = F i) ∧ ∀ j, j < min len (2000 - cnt) → F2 (cnt + j) = nI (y (16 + j)) ∧ y (16 + j) < 256) ∧ ∀ b, b ≠ p → h1 b = h b) := by
  obtain ⟨X, q1, X'⟩ := hq
  refine on_Ct.of (by decide) v_Stream_keep (Nat.le_of_ble_eq_true rfl) ?_
  refine on_iload_n (pc' := 1) rfl rfl rfl rfl ?_
  first | refine on_aload_n (pc' := 2) rfl rfl rfl rfl ?_ | refine on_aload_nQ (pc' := 2) rfl rfl rfl rfl ?_
  apply on_alenI (pc' := 3) rfl rfl
  · repeat (first | assumption | exact on_up_eq _ _ _ | refine (on_up_ne (by omega)).trans ?_)
  · rfl
  refine on_iload_n (pc' := 4) rfl rfl rfl rfl ?_
  refine on_isub (pc' := 5) rfl rfl ?_
  rw [show (nI 2000 - nI cnt : Int32) = nI (2000 - cnt) from pk_sub hc]
  refine on_min (pc' := 8) rfl rfl jm_Stream_25 w_min1 w_mth w_min2 (Nat.le_of_ble_eq_true rfl) (Nat.le_of_ble_eq_true rfl) ?_
  rw [i_min_nI (by omega) (by omega)]
  have hm : min len (2000 - cnt) ≤ len ∧ min len (2000 - cnt) ≤ 2000 - cnt := ⟨Nat.min_le_left _ _, Nat.min_le_right _ _⟩
  generalize min len (2000 - cnt) = m at hm ⊢
  have b1 : 16 + m ≤ 140 ∧ 140 < 2 ^ 31 := by omega
  have b2 : cnt + m ≤ 2000 ∧ 2000 < 2 ^ 31 := by omega
  refine on_istore (pc' := 10) rfl rfl (by decide) ?_
  first | refine on_aload_n (pc' := 11) rfl rfl rfl rfl ?_ | refine on_aload_nQ (pc' := 11) rfl rfl rfl rfl ?_
  refine on_bipush (pc' := 13) (v := 16) rfl rfl lb_16 ?_
  first | refine on_aload_n (pc' := 14) rfl rfl rfl rfl ?_ | refine on_aload_nQ (pc' := 14) rfl rfl rfl rfl ?_
  refine on_iload_n (pc' := 15) rfl rfl rfl rfl ?_
  refine on_iload (pc' := 17) rfl rfl rfl ?_
  apply on_acopy (pc' := 20) (i0 := 16) rfl rfl jm_Stream_31 (Nat.le_of_ble_eq_true rfl) (Nat.le_of_ble_eq_true rfl)
  · repeat (first | assumption | exact on_up_eq _ _ _ | refine (on_up_ne (by omega)).trans ?_)
  · repeat (first | assumption | exact on_up_eq _ _ _ | refine (on_up_ne (by omega)).trans ?_)
  · first | assumption | exact on_lit _ | rfl
  · first | assumption | exact on_lit _ | rfl
  · first | assumption | exact on_lit _ | rfl
  · first | assumption | omega | decide
  · first | assumption | omega | decide
  refine on_iload_n (pc' := 21) rfl rfl rfl rfl ?_
  refine on_iload (pc' := 23) rfl rfl rfl ?_
  refine on_iadd (pc' := 24) rfl rfl ?_
  rw [nI_add]
  refine on_ireturn rfl rfl ?_
  refine ⟨rfl, rfl, ⟨_, on_up_eq _ _ _, fun i hi => pk_cpy_out (Or.inl hi), fun j hj => ?_⟩, fun b hb => on_up_ne hb⟩
  rw [pk_cpy_in (show cnt ≤ cnt + j by omega) (show cnt + j < cnt + m by omega), show 16 + (cnt + j - cnt) = 16 + j by omega]
  exact X' (16 + j) (by omega)
set_option maxHeartbeats 16000000 in
theorem td_t {kc w : Int32} {k n : Nat} {ke : List Nat} {onn : Int32} {S V W C : Nat → Int32} (hd : u + 8 ≤ q ∧ q < a ∧ a + 8 ≤ e1) (hn : y 14 * 256 + y 15 = n ∧ n ≤ 124) (hk : k < e.st.length) (hkc : kc = nI ke.length) (KP : kp_S (a + 7) ke h) (ho : rl_O a ot hs kc w h) (hst : st_r e.st S V W C) (hq : rB h q 140 y) (b : en_B e1 (nI e.st.length) (nI e.fr) e.fn (oI e.on) onn 1 (bI e.wt) S V W C h)
    (kk : ∀ (h1 : on_H) (S V W C : Nat → Int32), en_B e1 (nI (td_e e k).st.length) (nI e.fr) e.fn (oI e.on) onn 1 (bI e.wt) S V W C h1 → st_r (td_e e k).st S V W C → ob_P u (td_L e k n (fun j => y (16 + j))) h1 → kp_S (a + 7) (td_k ke e k n (fun j => y (16 + j))) h1 → rl_O a ot hs (nI (td_k ke e k n (fun j => y (16 + j))).length) w h1 → (∀ b, b ≠ a → b ≠ a + 7 → (b < e1 ∨ e1 + 5 ≤ b) → (b < u ∨ u + 8 ≤ b) → h1 b = h b) → on_E G M_Relay_takeData 137 (on_l []) [] h1 sz bc bs Q)
    (h2 : on_H) (O : ob_P u (td_1 e k) h2) (b4 : h2 (e1 + 4) = some (on_ai 0 4 (upd C k ((e.st.getD k s0).ca + 1)))) (T : ∀ b, b ≠ e1 + 4 → (b < u ∨ u + 8 ≤ b) → h2 b = h b) :
    on_E G M_Relay_takeData 55 (on_l [(0, .ref a), (1, .ref e1), (2, .int (nI k)), (3, .ref q), (4, .ref u), (5, .int (nI (e.st.getD k s0).id)), (6, .int (nI n))]) [] h2 sz bc bs Q := by
  obtain ⟨r1, r2, r3, r4, r5, r6⟩ := hst.2 k hk
  have hl := hst.1
  have k4 : k < 4 ∧ 4 < 2 ^ 31 := by omega
  have g0 := (T e1 (by omega) (by omega)).trans b.1
  have g1 := (T (e1 + 1) (by omega) (by omega)).trans b.2.1
  have g2 := (T (e1 + 2) (by omega) (by omega)).trans b.2.2.1
  have g3 := (T (e1 + 3) (by omega) (by omega)).trans b.2.2.2.1
  have L1 : (td_1 e k).length ≤ 1 := by
    unfold td_1
    dsimp only
    split
    · exact Nat.le_refl 1
    · exact Nat.zero_le 1
  have o1 : h2 a = some (.inr (8, [.ref (a + 1), .ref ot, .ref hs, .ref (a + 3), .ref (a + 4), .ref (a + 5), .ref (a + 6), .ref (a + 7), .int kc, .int w])) := (T a (by omega) (by omega)).trans ho
  have stC : ¬ (¬ (e.st.getD k s0).so = 2 ∧ 0 < (e.st.getD k s0).wi) → (td_e e k).st = e.st.set k ((e.st.getD k s0).id, (e.st.getD k s0).so, (e.st.getD k s0).wi, (e.st.getD k s0).ca + 1) ∧ td_L e k n (fun j => y (16 + j)) = td_1 e k := fun z => ⟨if_neg z, if_neg z⟩
  first | refine on_aload_n (pc' := 56) rfl rfl rfl rfl ?_ | refine on_aload_nQ (pc' := 56) rfl rfl rfl rfl ?_
  first | apply on_get (pc' := 59) rfl rfl fl_Relay_213 | apply on_getN (pc' := 59) rfl rfl fl_Relay_213
  · repeat (first | assumption | exact on_up_eq _ _ _ | refine (on_up_ne (by omega)).trans ?_)
  · rfl
  refine on_iload_n (pc' := 60) rfl rfl rfl rfl ?_
  apply on_ialoadK (pc' := 61) (t := 0) rfl rfl
  · repeat (first | assumption | exact on_up_eq _ _ _ | refine (on_up_ne (by omega)).trans ?_)
  · rfl
  · first | assumption | exact on_lit _ | rfl
  · first | assumption | omega | decide
  rw [r2]
  refine on_iconst (pc' := 62) (v := 2) rfl rfl li_2 ?_
  refine on_icmp_ne (pc' := 65) (tgt := 86) rfl rfl rfl (fun cq => ?_) (fun cq => ?_)
  rotate_left
  · have c2 : (e.st.getD k s0).so = 2 := (nI_eq (a := (e.st.getD k s0).so) (b := 2) (by omega) (by decide)).mp cq
    clear cq
    obtain ⟨e2, e3⟩ := stC (fun z => z.1 c2)
    obtain ⟨⟨F, f1, f2⟩, f3⟩ := KP.keep (h2 := h2) (T (a + 7) (by omega) (by omega))
    subst hkc
    first | refine on_aload_n (pc' := 66) rfl rfl rfl rfl ?_ | refine on_aload_nQ (pc' := 66) rfl rfl rfl rfl ?_
    first | refine on_aload_n (pc' := 67) rfl rfl rfl rfl ?_ | refine on_aload_nQ (pc' := 67) rfl rfl rfl rfl ?_
    first | apply on_get (pc' := 70) rfl rfl fl_Relay_27 | apply on_getN (pc' := 70) rfl rfl fl_Relay_27
    · repeat (first | assumption | exact on_up_eq _ _ _ | refine (on_up_ne (by omega)).trans ?_)
    · rfl
    first | refine on_aload_n (pc' := 71) rfl rfl rfl rfl ?_ | refine on_aload_nQ (pc' := 71) rfl rfl rfl rfl ?_
    first | apply on_get (pc' := 74) rfl rfl fl_Relay_216 | apply on_getN (pc' := 74) rfl rfl fl_Relay_216
    · repeat (first | assumption | exact on_up_eq _ _ _ | refine (on_up_ne (by omega)).trans ?_)
    · rfl
    first | refine on_aload_n (pc' := 75) rfl rfl rfl rfl ?_ | refine on_aload_nQ (pc' := 75) rfl rfl rfl rfl ?_
    refine on_iload (pc' := 77) rfl rfl rfl ?_
    refine on_callS (pc' := 80) (As := [.ref (a + 7), .int (nI ke.length), .ref q, .int (nI n)]) (rest := [.ref a]) rfl rfl cw_Relay_takeData_219 rfl rfl (Nat.le_of_ble_eq_true rfl) (Nat.zero_le _) (Nat.zero_le _) (c_keep f1 (hq.keep (T q (by omega) (by omega))) (by omega) f3 hn.2) ?_
    rintro v h3 sz ⟨rfl, rfl, ⟨F2, p1, p2, p3⟩, t3⟩
    have o3 := (t3 a (by omega)).trans o1
    first | apply on_put (pc' := 83) rfl rfl fp_Relay_216 | apply on_putN (pc' := 83) rfl rfl fp_Relay_216
    · repeat (first | assumption | exact on_up_eq _ _ _ | refine (on_up_ne (by omega)).trans ?_)
    · first | rfl | assumption
    · first | rfl | assumption
    · exact Nat.le_of_ble_eq_true rfl
    refine on_goto (tgt := 137) rfl rfl ?_
    have ek : td_k ke e k n (fun j => y (16 + j)) = ke_a ke (fun j => y (16 + j)) n := if_pos c2
    refine on_relv (l := []) trivial (kk _ S V W (upd C k ((e.st.getD k s0).ca + 1)) ?_ ?_ ?_ ?_ ?_ (fun b b1 b2 b3 b4 => (on_up_ne b1).trans ((t3 b b2).trans (T b (by omega) b4))))
    · rw [e2, List.length_set]
      exact ⟨(on_up_ne (by omega)).trans ((t3 _ (by omega)).trans g0), (on_up_ne (by omega)).trans ((t3 _ (by omega)).trans g1), (on_up_ne (by omega)).trans ((t3 _ (by omega)).trans g2), (on_up_ne (by omega)).trans ((t3 _ (by omega)).trans g3), (on_up_ne (by omega)).trans ((t3 _ (by omega)).trans b4)⟩
    · rw [e2]
      exact hst.set hk r3 (fun i _ => rfl) pk_us (fun i hi => pk_un hi)
    · rw [e3]
      exact O.keep (fun b _ _ => (on_up_ne (by omega)).trans (t3 b (by omega)))
    · rw [ek]
      refine ⟨⟨F2, (on_up_ne (by omega)).trans p1, fun i hi => ?_⟩, by rw [ke_len]; omega⟩
      rw [ke_get hi]
      rw [ke_len] at hi
      by_cases z : i < ke.length
      · rw [if_pos z, p2 i z]
        exact f2 i z
      · have := p3 (i - ke.length) (by omega)
        rw [show ke.length + (i - ke.length) = i by omega] at this
        rw [if_neg z]
        exact this
    · rw [ek, ke_len]
      exact on_up_eq _ _ _
  · have c2 : ¬ (e.st.getD k s0).so = 2 := fun z => cq (by rw [z]; rfl)
    clear cq
    have ek : td_k ke e k n (fun j => y (16 + j)) = ke := if_neg c2
    first | refine on_aload_n (pc' := 87) rfl rfl rfl rfl ?_ | refine on_aload_nQ (pc' := 87) rfl rfl rfl rfl ?_
    first | apply on_get (pc' := 90) rfl rfl fl_Relay_192 | apply on_getN (pc' := 90) rfl rfl fl_Relay_192
    · repeat (first | assumption | exact on_up_eq _ _ _ | refine (on_up_ne (by omega)).trans ?_)
    · rfl
    refine on_iload_n (pc' := 91) rfl rfl rfl rfl ?_
    apply on_ialoadK (pc' := 92) (t := 0) rfl rfl
    · repeat (first | assumption | exact on_up_eq _ _ _ | refine (on_up_ne (by omega)).trans ?_)
    · rfl
    · first | assumption | exact on_lit _ | rfl
    · first | assumption | omega | decide
    rw [r3]
    refine on_if_le (pc' := 95) (tgt := 137) rfl rfl rfl (fun cq => ?_) (fun cq => ?_)
    · obtain ⟨e2, e3⟩ := stC (fun z => Int32.not_le.mpr z.2 cq)
      refine on_relv (l := []) trivial (kk _ S V W (upd C k ((e.st.getD k s0).ca + 1)) ?_ ?_ ?_ ?_ ?_ (fun b b1 b2 b3 b4 => T b (by omega) b4))
      · rw [e2, List.length_set]
        exact ⟨g0, g1, g2, g3, b4⟩
      · rw [e2]
        exact hst.set hk r3 (fun i _ => rfl) pk_us (fun i hi => pk_un hi)
      · rw [e3]
        exact O
      · rw [ek]
        exact KP.keep (T _ (by omega) (by omega))
      · rw [ek, ← hkc]
        exact o1
    · have c0 : 0 < (e.st.getD k s0).wi := Int32.not_le.mp cq
      have e2 : (td_e e k).st = e.st.set k ((e.st.getD k s0).id, (e.st.getD k s0).so, (e.st.getD k s0).wi - 1, (e.st.getD k s0).ca + 1) := if_pos ⟨c2, c0⟩
      have e3 : td_L e k n (fun j => y (16 + j)) = td_1 e k ++ [(e.fr, pl_c e.fn 2 (e.st.getD k s0).id n (fun j => y (16 + j)), true)] := if_pos ⟨c2, c0⟩
      clear cq
      obtain ⟨c, to, pl, O1, O1'⟩ := O
      first | refine on_aload (pc' := 97) rfl rfl rfl ?_ | refine on_aloadQ (pc' := 97) rfl rfl rfl ?_
      first | refine on_aload_n (pc' := 98) rfl rfl rfl rfl ?_ | refine on_aload_nQ (pc' := 98) rfl rfl rfl rfl ?_
      first | apply on_get (pc' := 101) rfl rfl fl_Relay_93 | apply on_getN (pc' := 101) rfl rfl fl_Relay_93
      · repeat (first | assumption | exact on_up_eq _ _ _ | refine (on_up_ne (by omega)).trans ?_)
      · rfl
      first | refine on_aload_n (pc' := 102) rfl rfl rfl rfl ?_ | refine on_aload_nQ (pc' := 102) rfl rfl rfl rfl ?_
      first | apply on_get (pc' := 105) rfl rfl fl_Relay_96 | apply on_getN (pc' := 105) rfl rfl fl_Relay_96
      · repeat (first | assumption | exact on_up_eq _ _ _ | refine (on_up_ne (by omega)).trans ?_)
      · rfl
      refine on_iconst (pc' := 106) (v := 2) rfl rfl li_2 ?_
      refine on_iload (pc' := 108) rfl rfl rfl ?_
      refine on_iload (pc' := 110) rfl rfl rfl ?_
      refine on_callV (pc' := 113) (As := [.int (nI e.fr), .int e.fn, .int (nI 2), .int (nI (e.st.getD k s0).id), .int (nI n)]) (rest := []) (b := u) rfl rfl cw_Relay_takeData_145 (O1.1) rfl rfl (Nat.le_of_ble_eq_true rfl) (Nat.zero_le _) (Nat.zero_le _) (c_addPlain O1 (by omega) (by decide) r5 hn.2) ?_
      rintro v h3 sz ⟨rfl, rfl, O2, t3⟩
      have T3 : ∀ b, b ≠ e1 + 4 → (b < u ∨ u + 8 ≤ b) → h3 b = h b := fun b b1 b2 => (t3 b b2).trans (T b b1 b2)
      have g0' := (t3 _ (by omega)).trans g0
      have g3' := (t3 _ (by omega)).trans g3
      obtain ⟨Y, q2, Y'⟩ := hq.keep (h2 := h3) (T3 q (by omega) (by omega))
      obtain ⟨A, f1, A'⟩ := rB.ite (O2.2.2.1 (td_1 e k).length (by omega)) (Nat.lt_succ_self _)
      rw [fu_s] at A'
      have i1 : 16 + n ≤ 140 ∧ 140 < 2 ^ 31 := by omega
      first | refine on_astore (pc' := 115) rfl rfl (by decide) ?_ | refine on_astoreQ (pc' := 115) rfl rfl (by decide) ?_
      first | refine on_aload_n (pc' := 116) rfl rfl rfl rfl ?_ | refine on_aload_nQ (pc' := 116) rfl rfl rfl rfl ?_
      refine on_bipush (pc' := 118) (v := 16) rfl rfl lb_16 ?_
      first | refine on_aload (pc' := 120) rfl rfl rfl ?_ | refine on_aloadQ (pc' := 120) rfl rfl rfl ?_
      refine on_bipush (pc' := 122) (v := 16) rfl rfl lb_16 ?_
      refine on_iload (pc' := 124) rfl rfl rfl ?_
      apply on_acopy (pc' := 127) (i0 := 16) (j0 := 16) rfl rfl jm_Relay_149 (Nat.le_of_ble_eq_true rfl) (Nat.le_of_ble_eq_true rfl)
      · repeat (first | assumption | exact on_up_eq _ _ _ | refine (on_up_ne (by omega)).trans ?_)
      · repeat (first | assumption | exact on_up_eq _ _ _ | refine (on_up_ne (by omega)).trans ?_)
      · first | assumption | exact on_lit _ | rfl
      · first | assumption | exact on_lit _ | rfl
      · first | assumption | exact on_lit _ | rfl
      · first | assumption | omega | decide
      · first | assumption | omega | decide
      first | refine on_aload_n (pc' := 128) rfl rfl rfl rfl ?_ | refine on_aload_nQ (pc' := 128) rfl rfl rfl rfl ?_
      first | apply on_get (pc' := 131) rfl rfl fl_Relay_192 | apply on_getN (pc' := 131) rfl rfl fl_Relay_192
      · repeat (first | assumption | exact on_up_eq _ _ _ | refine (on_up_ne (by omega)).trans ?_)
      · rfl
      refine on_iload_n (pc' := 132) rfl rfl rfl rfl ?_
      first | refine on_dup2_11 (pc' := 133) rfl rfl rfl rfl ?_ | refine on_dup2_2 (pc' := 133) rfl rfl rfl ?_
      apply on_ialoadK (pc' := 134) (t := 0) rfl rfl
      · repeat (first | assumption | exact on_up_eq _ _ _ | refine (on_up_ne (by omega)).trans ?_)
      · rfl
      · first | assumption | exact on_lit _ | rfl
      · first | assumption | omega | decide
      refine on_iconst (pc' := 135) (v := 1) rfl rfl li_1 ?_
      refine on_isub (pc' := 136) rfl rfl ?_
      apply on_iastoreK (pc' := 137) (t := 0) rfl rfl
      · repeat (first | assumption | exact on_up_eq _ _ _ | refine (on_up_ne (by omega)).trans ?_)
      · rfl
      · first | assumption | exact on_lit _ | rfl
      · first | assumption | omega | decide
      have O3 := O2.row (k := (td_1 e k).length) (y := pl_c e.fn 2 (e.st.getD k s0).id n (fun j => y (16 + j))) (h2 := on_up h3 (u + 2 + (td_1 e k).length) (on_ai 0 140 (va_cpy Y A 16 16 n))) (Nat.lt_succ_self _) (by omega) ⟨_, on_up_eq _ _ _, pl_dat A' (fun j hj => Y' (16 + j) (by omega))⟩ (fun a h1 h2 h3 => on_up_ne h3)
      rw [r3]
      refine on_relv (l := []) trivial (kk _ S V (upd W k ((e.st.getD k s0).wi - 1)) (upd C k ((e.st.getD k s0).ca + 1)) ?_ ?_ ?_ ?_ ?_ (fun b b1 b2 b3 b4 => (on_up_ne (by omega)).trans ((on_up_ne (by omega)).trans (T3 b (by omega) b4))))
      · rw [e2, List.length_set]
        exact ⟨(on_up_ne (by omega)).trans ((on_up_ne (by omega)).trans g0'), (on_up_ne (by omega)).trans ((on_up_ne (by omega)).trans ((t3 _ (by omega)).trans g1)), (on_up_ne (by omega)).trans ((on_up_ne (by omega)).trans ((t3 _ (by omega)).trans g2)), on_up_eq _ _ _, (on_up_ne (by omega)).trans ((on_up_ne (by omega)).trans ((t3 _ (by omega)).trans b4))⟩
      · rw [e2]
        exact hst.set hk pk_us (fun i hi => pk_un hi) pk_us (fun i hi => pk_un hi)
      · rw [e3]
        refine (ob_P.snoc (c := c) (to := to) (pl := pl) ?_ O1').keep (fun b _ _ => on_up_ne (by omega))
        rw [show fu (fu c (td_1 e k).length (pl_c e.fn 2 (e.st.getD k s0).id n (fun _ => 0))) (td_1 e k).length (pl_c e.fn 2 (e.st.getD k s0).id n (fun j => y (16 + j))) = fu c (td_1 e k).length (pl_c e.fn 2 (e.st.getD k s0).id n (fun j => y (16 + j))) from funext fun j => by
          by_cases z : j = (td_1 e k).length
          · rw [z, fu_s, fu_s]
          · rw [fu_n z, fu_n z, fu_n z]] at O3
        exact O3
      · rw [ek]
        exact KP.keep ((on_up_ne (by omega)).trans ((on_up_ne (by omega)).trans (T3 _ (by omega) (by omega))))
      · rw [ek, ← hkc]
        exact (on_up_ne (by omega)).trans ((on_up_ne (by omega)).trans ((T3 _ (by omega) (by omega)).trans ho))
set_option maxHeartbeats 16000000 in
/-- takeData -/
theorem c_takeData {w : Int32} {k n : Nat} {ke : List Nat} (hd : u + 8 ≤ q ∧ q < a ∧ a + 8 ≤ e1) (hn : y 14 * 256 + y 15 = n ∧ n ≤ 124) (hk : k < e.st.length) (KP : kp_S (a + 7) ke h) (ho : rl_O a ot hs (nI ke.length) w h) (hq : rB h q 140 y) (E : en_U e1 (hs + 4) e h) (O : ob_E u h) :
    on_Ct G M_Relay_takeData [.ref a, .ref e1, .int (nI k), .ref q, .ref u] h sz 0 0 (fun v h1 z => v = none ∧ z = sz ∧ en_U e1 (hs + 4) (td_e e k) h1 ∧ ob_P u (td_L e k n (fun j => y (16 + j))) h1 ∧ kp_S (a + 7) (td_k ke e k n (fun j => y (16 + j))) h1 ∧ rl_O a ot hs (nI (td_k ke e k n (fun j => y (16 + j))).length) w h1 ∧ ∀ b, b ≠ a → b ≠ a + 7 → (b < e1 ∨ e1 + 5 ≤ b) → (b < u ∨ u + 8 ≤ b) → h1 b = h b) := by
  obtain ⟨onn, S, V, W, C, b, hon, hst, LF, LB⟩ := id E
  obtain ⟨X, q1, X'⟩ := id hq
  have b0 := b.1
  obtain ⟨r1, r2, r3, r4, r5, r6⟩ := hst.2 k hk
  have hl := hst.1
  have k4 : k < 4 ∧ 4 < 2 ^ 31 := by omega
  have x14 := X' 14 (by decide)
  have x15 := X' 15 (by decide)
  obtain ⟨b00, b1, b2, b3, b4⟩ := id b
  refine on_Ct.of (by decide) v_Relay_takeData (Nat.le_of_ble_eq_true rfl) ?_
  first | refine on_aload_n (pc' := 1) rfl rfl rfl rfl ?_ | refine on_aload_nQ (pc' := 1) rfl rfl rfl rfl ?_
  first | apply on_get (pc' := 4) rfl rfl fl_Relay_207 | apply on_getN (pc' := 4) rfl rfl fl_Relay_207
  · repeat (first | assumption | exact on_up_eq _ _ _ | refine (on_up_ne (by omega)).trans ?_)
  · rfl
  refine on_iload_n (pc' := 5) rfl rfl rfl rfl ?_
  apply on_ialoadK (pc' := 6) (t := 0) rfl rfl
  · repeat (first | assumption | exact on_up_eq _ _ _ | refine (on_up_ne (by omega)).trans ?_)
  · rfl
  · first | assumption | exact on_lit _ | rfl
  · first | assumption | omega | decide
  rw [r1]
  refine on_istore (pc' := 8) rfl rfl (by decide) ?_
  first | refine on_aload_n (pc' := 9) rfl rfl rfl rfl ?_ | refine on_aload_nQ (pc' := 9) rfl rfl rfl rfl ?_
  refine on_bipush (pc' := 11) (v := 14) rfl rfl lb_14 ?_
  refine on_callS (pc' := 14) (As := [.ref q, .int (nI 14)]) (rest := []) rfl rfl cw_Relay_takeData_169 rfl rfl (Nat.le_of_ble_eq_true rfl) (Nat.zero_le _) (Nat.zero_le _) (c_pairAt (at_ := 14) q1 (by decide) x14.1 x15.1 x14.2 x15.2) ?_
  rintro v h sz ⟨rfl, rfl, rfl⟩
  rw [hn.1]
  refine on_istore (pc' := 16) rfl rfl (by decide) ?_
  first | refine on_aload_n (pc' := 17) rfl rfl rfl rfl ?_ | refine on_aload_nQ (pc' := 17) rfl rfl rfl rfl ?_
  first | apply on_get (pc' := 20) rfl rfl fl_Relay_210 | apply on_getN (pc' := 20) rfl rfl fl_Relay_210
  · repeat (first | assumption | exact on_up_eq _ _ _ | refine (on_up_ne (by omega)).trans ?_)
  · rfl
  refine on_iload_n (pc' := 21) rfl rfl rfl rfl ?_
  first | refine on_dup2_11 (pc' := 22) rfl rfl rfl rfl ?_ | refine on_dup2_2 (pc' := 22) rfl rfl rfl ?_
  apply on_ialoadK (pc' := 23) (t := 0) rfl rfl
  · repeat (first | assumption | exact on_up_eq _ _ _ | refine (on_up_ne (by omega)).trans ?_)
  · rfl
  · first | assumption | exact on_lit _ | rfl
  · first | assumption | omega | decide
  refine on_iconst (pc' := 24) (v := 1) rfl rfl li_1 ?_
  refine on_iadd (pc' := 25) rfl rfl ?_
  apply on_iastoreK (pc' := 26) (t := 0) rfl rfl
  · repeat (first | assumption | exact on_up_eq _ _ _ | refine (on_up_ne (by omega)).trans ?_)
  · rfl
  · first | assumption | exact on_lit _ | rfl
  · first | assumption | omega | decide
  rw [r4]
  first | refine on_aload_n (pc' := 27) rfl rfl rfl rfl ?_ | refine on_aload_nQ (pc' := 27) rfl rfl rfl rfl ?_
  first | apply on_get (pc' := 30) rfl rfl fl_Relay_210 | apply on_getN (pc' := 30) rfl rfl fl_Relay_210
  · repeat (first | assumption | exact on_up_eq _ _ _ | refine (on_up_ne (by omega)).trans ?_)
  · rfl
  refine on_iload_n (pc' := 31) rfl rfl rfl rfl ?_
  apply on_ialoadK (pc' := 32) (t := 0) rfl rfl
  · repeat (first | assumption | exact on_up_eq _ _ _ | refine (on_up_ne (by omega)).trans ?_)
  · rfl
  · first | assumption | exact on_lit _ | rfl
  · first | assumption | omega | decide
  rw [pk_us]
  have tl := td_t (G := G) (sz := sz) (bc := 0) (bs := 0) (Q := fun v h1 z => v = none ∧ z = sz ∧ en_U e1 (hs + 4) (td_e e k) h1 ∧ ob_P u (td_L e k n (fun j => y (16 + j))) h1 ∧ kp_S (a + 7) (td_k ke e k n (fun j => y (16 + j))) h1 ∧ rl_O a ot hs (nI (td_k ke e k n (fun j => y (16 + j))).length) w h1 ∧ ∀ b, b ≠ a → b ≠ a + 7 → (b < e1 ∨ e1 + 5 ≤ b) → (b < u ∨ u + 8 ≤ b) → h1 b = h b) hd hn hk rfl KP ho hst hq b (fun h1 S V W C z1 z2 z3 z4 z5 z6 => by
    refine on_vreturn rfl rfl ?_
    exact ⟨rfl, rfl, ⟨onn, S, V, W, C, z1, hon, z2, LF.keep (fun b _ _ => z6 b (by omega) (by omega) (by omega) (by omega)), LB.keep (fun b _ _ => z6 b (by omega) (by omega) (by omega) (by omega))⟩, z3, z4, z5, z6⟩)
  refine on_iconst (pc' := 33) (v := 2) rfl rfl li_2 ?_
  refine on_irem (pc' := 34) rfl rfl (by first | assumption | decide) ?_
  refine on_if_ne (pc' := 37) (tgt := 55) rfl rfl rfl (fun cq => ?_) (fun cq => ?_)
  · have e1' : td_1 e k = [] := if_neg cq
    refine on_relv (l := [(0, .ref a), (1, .ref e1), (2, .int (nI k)), (3, .ref q), (4, .ref u), (5, .int (nI (e.st.getD k s0).id)), (6, .int (nI n))]) ⟨rfl, rfl, rfl, rfl, rfl, rfl, rfl, trivial⟩ (tl _ ?_ (on_up_eq _ _ _) (fun b b1 b2 => on_up_ne b1))
    rw [e1']
    exact ob_P.nil (ob_S.keep O (fun b _ _ => on_up_ne (by omega)))
  · have e1' : td_1 e k = [(e.fr, pl_c e.fn 5 (e.st.getD k s0).id 0 (fun _ => 0), true)] := if_pos cq
    first | refine on_aload (pc' := 39) rfl rfl rfl ?_ | refine on_aloadQ (pc' := 39) rfl rfl rfl ?_
    first | refine on_aload_n (pc' := 40) rfl rfl rfl rfl ?_ | refine on_aload_nQ (pc' := 40) rfl rfl rfl rfl ?_
    first | apply on_get (pc' := 43) rfl rfl fl_Relay_93 | apply on_getN (pc' := 43) rfl rfl fl_Relay_93
    · repeat (first | assumption | exact on_up_eq _ _ _ | refine (on_up_ne (by omega)).trans ?_)
    · rfl
    first | refine on_aload_n (pc' := 44) rfl rfl rfl rfl ?_ | refine on_aload_nQ (pc' := 44) rfl rfl rfl rfl ?_
    first | apply on_get (pc' := 47) rfl rfl fl_Relay_96 | apply on_getN (pc' := 47) rfl rfl fl_Relay_96
    · repeat (first | assumption | exact on_up_eq _ _ _ | refine (on_up_ne (by omega)).trans ?_)
    · rfl
    refine on_iconst (pc' := 48) (v := 5) rfl rfl li_5 ?_
    refine on_iload (pc' := 50) rfl rfl rfl ?_
    refine on_iconst (pc' := 51) (v := 0) rfl rfl li_0 ?_
    refine on_callV (pc' := 54) (As := [.int (nI e.fr), .int e.fn, .int (nI 5), .int (nI (e.st.getD k s0).id), .int (nI 0)]) (rest := []) (b := u) rfl rfl cw_Relay_takeData_145 ((on_up_ne (by omega)).trans O.1) rfl rfl (Nat.le_of_ble_eq_true rfl) (Nat.zero_le _) (Nat.zero_le _) (c_addPlain (ob_S.keep O (fun b _ _ => on_up_ne (by omega))) (by decide) (by decide) r5 (by decide)) ?_
    rintro v h1 sz ⟨rfl, rfl, O2, t1⟩
    refine on_pop (pc' := 55) rfl rfl rfl ?_
    refine on_relv (l := [(0, .ref a), (1, .ref e1), (2, .int (nI k)), (3, .ref q), (4, .ref u), (5, .int (nI (e.st.getD k s0).id)), (6, .int (nI n))]) ⟨rfl, rfl, rfl, rfl, rfl, rfl, rfl, trivial⟩ (tl _ ?_ ((t1 _ (by omega)).trans (on_up_eq _ _ _)) (fun b b1 b2 => (t1 b b2).trans (on_up_ne b1)))
    rw [e1']
    exact ⟨_, _, _, O2, fun i (hi : i < 1) => by obtain rfl : i = 0 := (by omega); rw [fu_s, fu_s, fu_s]; rfl⟩
end RDT
