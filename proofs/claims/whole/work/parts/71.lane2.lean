/-! pairs of bytes; a Lane signs and recognizes -/
theorem nI_inj32 {a b : Nat} (ha : a < 2 ^ 32) (hb : b < 2 ^ 32) (h : nI a = nI b) : a = b := by
  have := congrArg (fun z : Int32 => z.toBitVec.toNat) h
  rw [show (nI a).toBitVec.toNat = a % 2 ^ 32 from rfl, show (nI b).toBitVec.toNat = b % 2 ^ 32 from rfl, Nat.mod_eq_of_lt ha, Nat.mod_eq_of_lt hb] at this
  exact this
theorem or_low {a b k : Nat} (hb : b < 2 ^ k) : a * 2 ^ k ||| b = a * 2 ^ k + b := by
  rw [← Nat.shiftLeft_eq, ← Nat.shiftLeft_add_eq_or_of_lt hb]
theorem nI_pair {a b : Nat} (ha : a < 256) (hb : b < 256) : sh_l (nI a) 8 ||| nI b = nI (a * 256 + b) := by
  rw [show (8 : Int32) = nI 8 from rfl, e_shl (by decide) (by omega), nI_or, or_low (k := 8) (by omega)]
theorem nI_quad {a b : Nat} (ha : a < 65536) (hb : b < 65536) : sh_l (nI a) 16 ||| nI b = nI (a * 65536 + b) := by
  rw [show (16 : Int32) = nI 16 from rfl, e_shl (by decide) (by omega), nI_or, or_low (k := 16) (by omega)]
section PAI
variable {G : on_G} {q n sz bc bs : Nat} {f : Nat → Int32} {h : on_H} {Q : Option Value → on_H → Nat → Prop}
theorem c_pairAt {at_ a b : Nat} (hq : h q = some (on_ai 0 n f)) (hn : at_ + 1 < n ∧ n < 2 ^ 31) (e1 : f at_ = nI a) (e2 : f (at_ + 1) = nI b) (ha : a < 256) (hb : b < 256) :
    on_Ct G M_Outbox_pairAt [.ref q, .int (nI at_)] h sz 0 0 (fun r h1 z => r = some (.int (nI (a * 256 + b))) ∧ z = sz ∧ h1 = h) := by
  have h0 : at_ < n ∧ n < 2 ^ 31 := by omega
  have e3 : nI at_ + 1 = nI (at_ + 1) := nI_1 at_
  refine on_Ct.of (by decide) v_Outbox_pairAt (Nat.le_of_ble_eq_true rfl) ?_
  first | refine on_aload_n (pc' := 1) rfl rfl rfl rfl ?_ | refine on_aload_nQ (pc' := 1) rfl rfl rfl rfl ?_
  refine on_iload_n (pc' := 2) rfl rfl rfl rfl ?_
  apply on_ialoadK (pc' := 3) (t := 0) rfl rfl
  · repeat (first | assumption | exact on_up_eq _ _ _ | refine (on_up_ne (by omega)).trans ?_)
  · rfl
  · first | assumption | exact on_lit _ | rfl
  · first | assumption | omega | decide
  rw [e1]
  refine on_bipush (pc' := 5) (v := 8) rfl rfl lb_8 ?_
  refine on_ishl (pc' := 6) rfl rfl ?_
  first | refine on_aload_n (pc' := 7) rfl rfl rfl rfl ?_ | refine on_aload_nQ (pc' := 7) rfl rfl rfl rfl ?_
  refine on_iload_n (pc' := 8) rfl rfl rfl rfl ?_
  refine on_iconst (pc' := 9) (v := 1) rfl rfl li_1 ?_
  refine on_iadd (pc' := 10) rfl rfl ?_
  rw [e3]
  apply on_ialoadK (pc' := 11) (t := 0) rfl rfl
  · repeat (first | assumption | exact on_up_eq _ _ _ | refine (on_up_ne (by omega)).trans ?_)
  · rfl
  · first | assumption | exact on_lit _ | rfl
  · first | assumption | omega | decide
  rw [e2]
  refine on_ior (pc' := 12) rfl rfl ?_
  rw [nI_pair ha hb]
  refine on_ireturn rfl rfl ?_
  exact ⟨rfl, rfl, rfl⟩
theorem c_setPair {at_ : Nat} {w : Int32} (hq : h q = some (on_ai 0 n f)) (hn : at_ + 1 < n ∧ n < 2 ^ 31) :
    on_Ct G M_Outbox_setPair [.ref q, .int (nI at_), .int w] h sz 0 0 (fun r h1 z => r = none ∧ z = sz ∧ h1 = on_up h q (on_ai 0 n (upd (upd f at_ (sh_u w 8 &&& 255)) (at_ + 1) (w &&& 255)))) := by
  have h0 : at_ < n ∧ n < 2 ^ 31 := by omega
  have e3 : nI at_ + 1 = nI (at_ + 1) := nI_1 at_
  refine on_Ct.of (by decide) v_Outbox_setPair (Nat.le_of_ble_eq_true rfl) ?_
  first | refine on_aload_n (pc' := 1) rfl rfl rfl rfl ?_ | refine on_aload_nQ (pc' := 1) rfl rfl rfl rfl ?_
  refine on_iload_n (pc' := 2) rfl rfl rfl rfl ?_
  refine on_iload_n (pc' := 3) rfl rfl rfl rfl ?_
  refine on_bipush (pc' := 5) (v := 8) rfl rfl lb_8 ?_
  refine on_iushr (pc' := 6) rfl rfl ?_
  refine on_sipush (pc' := 9) (v := 255) rfl rfl ls_255 ?_
  refine on_iand (pc' := 10) rfl rfl ?_
  apply on_iastoreK (pc' := 11) (t := 0) rfl rfl
  · repeat (first | assumption | exact on_up_eq _ _ _ | refine (on_up_ne (by omega)).trans ?_)
  · rfl
  · first | assumption | exact on_lit _ | rfl
  · first | assumption | omega | decide
  first | refine on_aload_n (pc' := 12) rfl rfl rfl rfl ?_ | refine on_aload_nQ (pc' := 12) rfl rfl rfl rfl ?_
  refine on_iload_n (pc' := 13) rfl rfl rfl rfl ?_
  refine on_iconst (pc' := 14) (v := 1) rfl rfl li_1 ?_
  refine on_iadd (pc' := 15) rfl rfl ?_
  rw [e3]
  refine on_iload_n (pc' := 16) rfl rfl rfl rfl ?_
  refine on_sipush (pc' := 19) (v := 255) rfl rfl ls_255 ?_
  refine on_iand (pc' := 20) rfl rfl ?_
  apply on_iastoreK (pc' := 21) (t := 0) rfl rfl
  · repeat (first | assumption | exact on_up_eq _ _ _ | refine (on_up_ne (by omega)).trans ?_)
  · rfl
  · first | assumption | exact on_lit _ | rfl
  · first | assumption | omega | decide
  refine on_vreturn rfl rfl ?_
  refine ⟨rfl, rfl, ?_⟩
  rw [on_up_up]
end PAI
/-- a cell with zeros for its digest -/
def rc_z (x : Nat → Nat) : Nat → Nat := fun i => if 10 ≤ i ∧ i < 14 then 0 else x i
/-- the bytes that a digest has seen, one cell more -/
def rc_m (ms : List Nat) (x : Nat → Nat) : List Nat := ms ++ sp_sl (rc_z x) 5 135
/-- whether a cell is recognized -/
def rc_ok (ms : List Nat) (x : Nat → Nat) : Bool := decide (x 6 = 0) && decide (x 7 = 0) && decide (x 14 * 256 + x 15 ≤ 124) && decide (sp_d (rc_m ms x) 0 = x 10) && decide (sp_d (rc_m ms x) 1 = x 11) && decide (sp_d (rc_m ms x) 2 = x 12) && decide (sp_d (rc_m ms x) 3 = x 13)
theorem rc_ok_iff (ms : List Nat) (x : Nat → Nat) : rc_ok ms x = true ↔ x 6 = 0 ∧ x 7 = 0 ∧ x 14 * 256 + x 15 ≤ 124 ∧ sp_d (rc_m ms x) 0 = x 10 ∧ sp_d (rc_m ms x) 1 = x 11 ∧ sp_d (rc_m ms x) 2 = x 12 ∧ sp_d (rc_m ms x) 3 = x 13 := by
  unfold rc_ok
  simp only [Bool.and_eq_true, decide_eq_true_eq]
  constructor
  · rintro ⟨⟨⟨⟨⟨⟨a, b⟩, c⟩, d⟩, e⟩, f⟩, g⟩
    exact ⟨a, b, c, d, e, f, g⟩
  · rintro ⟨a, b, c, d, e, f, g⟩
    exact ⟨⟨⟨⟨⟨⟨a, b⟩, c⟩, d⟩, e⟩, f⟩, g⟩
/-- a signed cell -/
def rc_s (ms : List Nat) (x : Nat → Nat) : Nat → Nat := fun i => if 10 ≤ i ∧ i < 14 then sp_d (ms ++ sp_sl x 5 135) (i - 10) else x i
theorem sp_d_lt (ms : List Nat) (i : Nat) : sp_d ms i < 256 := Nat.mod_lt _ (by decide)
theorem rc_z_lt {x : Nat → Nat} {n : Nat} (h : ∀ i, i < n → x i < 256) : ∀ i, i < n → rc_z x i < 256 := fun i hi => by
  unfold rc_z
  split
  · decide
  · exact h i hi
section LNS
variable {G : on_G} {o tr q sz bc bs pos : Nat} {f : Nat → Int32} {h : on_H} {Q : Option Value → on_H → Nat → Prop} {ms : List Nat} {K x : Nat → Nat}
set_option maxHeartbeats 4000000 in
/-- sign -/
theorem c_Lane_sign (hS : la_S o tr ms K pos h) (hT : sh_W tr h) (hto : tr + 3 ≤ o ∨ o + 8 ≤ tr) (hL : ms.length + 135 < 2 ^ 28) (hq : h q = some (on_ai 0 140 f)) (hqo : q < o ∨ o + 8 ≤ q) (hqt : q < tr ∨ tr + 3 ≤ q) (hx : on_by f x 140) :
    on_Ct G M_Lane_sign [.ref o, .ref q] h sz 0 0 (fun r h1 z => r = none ∧ z = sz ∧ la_S o tr (ms ++ sp_sl x 5 135) K pos h1 ∧ sh_W tr h1 ∧ (∃ f2, h1 q = some (on_ai 0 140 f2) ∧ on_by f2 (rc_s ms x) 140) ∧ ∀ a, a ≠ q → (a < o ∨ o + 8 ≤ a) → (a < tr ∨ tr + 3 ≤ a) → h1 a = h a) := by
  obtain ⟨hX, due, inp, mix, blk, u, c, hB, hr⟩ := hS
  have b1 := hB.1
  obtain ⟨f0, g0, B0, -⟩ := id hX
  refine on_Ct.of (by decide) v_Lane_sign (Nat.le_of_ble_eq_true rfl) ?_
  first | refine on_aload_n (pc' := 1) rfl rfl rfl rfl ?_ | refine on_aload_nQ (pc' := 1) rfl rfl rfl rfl ?_
  first | apply on_get (pc' := 4) rfl rfl fl_Lane_12 | apply on_getN (pc' := 4) rfl rfl fl_Lane_12
  · repeat (first | assumption | exact on_up_eq _ _ _ | refine (on_up_ne (by omega)).trans ?_)
  · rfl
  first | refine on_aload_n (pc' := 5) rfl rfl rfl rfl ?_ | refine on_aload_nQ (pc' := 5) rfl rfl rfl rfl ?_
  refine on_iconst (pc' := 6) (v := 5) rfl rfl li_5 ?_
  refine on_sipush (pc' := 9) (v := 135) rfl rfl ls_135 ?_
  refine on_callV (pc' := 12) (As := [.ref q, .int (nI 5), .int (nI 135)]) (rest := []) (b := o + 1) rfl rfl cw_Lane_sign_37 B0.1 rfl rfl (by decide) (Nat.zero_le _) (Nat.zero_le _) (c_Sha_add (b := x) hX (by omega) hq (by omega) (by omega) (by decide) (fun i hi => hx _ (by omega))) ?_
  rintro r h1 z ⟨rfl, rfl, X1, t1⟩
  have B1 := hB.keep (h2 := h1) (fun a ha => t1 a (by omega))
  have T1 := hT.keep (h2 := h1) (fun a h1 h2 => t1 a (by omega))
  clear b1
  have b1 := B1.1
  obtain ⟨f1, g1, l1, T1'⟩ := id T1
  first | refine on_aload_n (pc' := 13) rfl rfl rfl rfl ?_ | refine on_aload_nQ (pc' := 13) rfl rfl rfl rfl ?_
  first | apply on_get (pc' := 16) rfl rfl fl_Lane_31 | apply on_getN (pc' := 16) rfl rfl fl_Lane_31
  · repeat (first | assumption | exact on_up_eq _ _ _ | refine (on_up_ne (by omega)).trans ?_)
  · rfl
  first | refine on_aload_n (pc' := 17) rfl rfl rfl rfl ?_ | refine on_aload_nQ (pc' := 17) rfl rfl rfl rfl ?_
  first | apply on_get (pc' := 20) rfl rfl fl_Lane_12 | apply on_getN (pc' := 20) rfl rfl fl_Lane_12
  · repeat (first | assumption | exact on_up_eq _ _ _ | refine (on_up_ne (by omega)).trans ?_)
  · rfl
  refine on_callV (pc' := 23) (As := [.ref (o + 1)]) (rest := []) (b := tr) rfl rfl cw_Lane_sign_55 T1'.1 rfl rfl (by decide) (Nat.zero_le _) (Nat.zero_le _) (c_Sha_copy T1 X1 (by omega)) ?_
  rintro r h2 z ⟨rfl, rfl, T2, t2⟩
  have X2 := X1.keep (h2 := h2) (fun a h1 h2 => t2 a (by omega))
  have B2 := B1.keep (h2 := h2) (fun a ha => t2 a (by omega))
  clear b1
  obtain ⟨b1, b2, b3, b4, b5⟩ := id B2
  obtain ⟨f2, g2, T2', -⟩ := id T2
  first | refine on_aload_n (pc' := 24) rfl rfl rfl rfl ?_ | refine on_aload_nQ (pc' := 24) rfl rfl rfl rfl ?_
  first | apply on_get (pc' := 27) rfl rfl fl_Lane_31 | apply on_getN (pc' := 27) rfl rfl fl_Lane_31
  · repeat (first | assumption | exact on_up_eq _ _ _ | refine (on_up_ne (by omega)).trans ?_)
  · rfl
  first | refine on_aload_n (pc' := 28) rfl rfl rfl rfl ?_ | refine on_aload_nQ (pc' := 28) rfl rfl rfl rfl ?_
  first | apply on_get (pc' := 31) rfl rfl fl_Lane_18 | apply on_getN (pc' := 31) rfl rfl fl_Lane_18
  · repeat (first | assumption | exact on_up_eq _ _ _ | refine (on_up_ne (by omega)).trans ?_)
  · rfl
  refine on_callV (pc' := 34) (As := [.ref (o + 4)]) (rest := []) (b := tr) rfl rfl cw_Lane_sign_59 T2'.1 rfl rfl (by decide) (Nat.zero_le _) (Nat.zero_le _) (c_Sha_end T2 (by rw [List.length_append, sp_sl_len]; exact hL) b2 (by omega)) ?_
  rintro r h3 z ⟨rfl, rfl, T3, e3, t3⟩
  have q3 : h3 q = some (on_ai 0 140 f) := (t3 q (by omega) (by omega)).trans ((t2 q (by omega)).trans ((t1 q (by omega)).trans hq))
  have d1 : h3 o = some (.inr (2, [.ref (o + 1), .ref tr, .ref (o + 4), .ref (o + 5), .ref (o + 6), .ref (o + 7), .int (nI u)])) := (t3 _ (by omega) (by omega)).trans b1
  first | refine on_aload_n (pc' := 35) rfl rfl rfl rfl ?_ | refine on_aload_nQ (pc' := 35) rfl rfl rfl rfl ?_
  first | apply on_get (pc' := 38) rfl rfl fl_Lane_18 | apply on_getN (pc' := 38) rfl rfl fl_Lane_18
  · repeat (first | assumption | exact on_up_eq _ _ _ | refine (on_up_ne (by omega)).trans ?_)
  · rfl
  refine on_iconst (pc' := 39) (v := 0) rfl rfl li_0 ?_
  first | refine on_aload_n (pc' := 40) rfl rfl rfl rfl ?_ | refine on_aload_nQ (pc' := 40) rfl rfl rfl rfl ?_
  refine on_bipush (pc' := 42) (v := 10) rfl rfl lb_10 ?_
  refine on_iconst (pc' := 43) (v := 4) rfl rfl li_4 ?_
  apply on_acopy (pc' := 46) rfl rfl jm_Lane_63 (Nat.le_of_ble_eq_true rfl) (Nat.le_of_ble_eq_true rfl)
  · repeat (first | assumption | exact on_up_eq _ _ _ | refine (on_up_ne (by omega)).trans ?_)
  · repeat (first | assumption | exact on_up_eq _ _ _ | refine (on_up_ne (by omega)).trans ?_)
  · first | assumption | exact on_lit _ | rfl
  · first | assumption | exact on_lit _ | rfl
  · first | assumption | exact on_lit _ | rfl
  · first | assumption | omega | decide
  · first | assumption | omega | decide
  refine on_vreturn rfl rfl ?_
  refine ⟨rfl, rfl, ⟨X2.keep (fun a h1 h2 => ?_), on_tk (fun i => nI (sp_d (ms ++ sp_sl x 5 135) i)) due 32, inp, mix, blk, u, c, ⟨?_, ?_, ?_, ?_, ?_⟩, hr⟩, T3.keep (fun a h1 h2 => ?_), ⟨_, on_up_eq _ _ _, fun i hi => ?_⟩, fun a h1 h2 h4 => ?_⟩
  · rw [on_up_ne (by omega), t3 a (by omega) (by omega)]
  · rw [on_up_ne (by omega)]; exact d1
  · rw [on_up_ne (by omega)]; exact e3
  · rw [on_up_ne (by omega), t3 _ (by omega) (by omega)]; exact b3
  · rw [on_up_ne (by omega), t3 _ (by omega) (by omega)]; exact b4
  · rw [on_up_ne (by omega), t3 _ (by omega) (by omega)]; exact b5
  · rw [on_up_ne (by omega)]
  · unfold rc_s
    by_cases e : 10 ≤ i ∧ i < 14
    · rw [if_pos e, pk_cpy_in e.1 (show i < 10 + 4 by omega), on_tk_lt (show 0 + (i - 10) < 32 by omega), Nat.zero_add]
      exact ⟨rfl, sp_d_lt _ _⟩
    · rw [if_neg e, pk_cpy_out (show i < 10 ∨ 10 + 4 ≤ i by omega)]
      exact hx i hi
  · rw [on_up_ne h1, t3 a (by omega) (by omega), t2 a (by omega), t1 a (by omega)]
theorem by_hi {v : Nat} (h : v < 2 ^ 32) : sh_u (sh_u (nI v) 16) 8 &&& 255 = nI (v / 2 ^ 24 % 256) := by
  rw [show (8 : Int32) = nI 8 from rfl, show (16 : Int32) = nI 16 from rfl, pk_and _ 8 rfl, sh_u_nat _ (by omega), sh_u_nat _ (by omega), show (nI v).toBitVec.toNat = v % 2 ^ 32 from rfl, Nat.mod_eq_of_lt h, Nat.div_div_eq_div_mul]
theorem by_mh {v : Nat} (h : v < 2 ^ 32) : sh_u (nI v) 16 &&& 255 = nI (v / 2 ^ 16 % 256) := by
  rw [show (16 : Int32) = nI 16 from rfl, pk_and _ 8 rfl, sh_u_nat _ (by omega), show (nI v).toBitVec.toNat = v % 2 ^ 32 from rfl, Nat.mod_eq_of_lt h]
theorem by_ml {v : Nat} (h : v < 2 ^ 32) : sh_u (nI v) 8 &&& 255 = nI (v / 2 ^ 8 % 256) := by
  rw [show (8 : Int32) = nI 8 from rfl, pk_and _ 8 rfl, sh_u_nat _ (by omega), show (nI v).toBitVec.toNat = v % 2 ^ 32 from rfl, Nat.mod_eq_of_lt h]
theorem by_lo {v : Nat} (h : v < 2 ^ 32) : nI v &&& 255 = nI (v % 256) := by
  rw [pk_and _ 8 rfl, show (nI v).toBitVec.toNat = v % 2 ^ 32 from rfl, Nat.mod_eq_of_lt h]
set_option maxHeartbeats 4000000 in
/-- recognizes -/
theorem c_Lane_recognizes (hS : la_S o tr ms K pos h) (hT : sh_W tr h) (hto : tr + 3 ≤ o ∨ o + 8 ≤ tr) (hL : ms.length + 135 < 2 ^ 28) (hq : h q = some (on_ai 0 140 f)) (hqo : q < o ∨ o + 8 ≤ q) (hqt : q < tr ∨ tr + 3 ≤ q) (hx : on_by f x 140) :
    on_Ct G M_Lane_recognizes [.ref o, .ref q] h sz 0 0 (fun r h1 z => r = some (.int (if rc_ok ms x then 1 else 0)) ∧ z = sz ∧ la_S o tr (if rc_ok ms x then rc_m ms x else ms) K pos h1 ∧ sh_W tr h1 ∧ (∃ f2, h1 q = some (on_ai 0 140 f2) ∧ on_by f2 (if rc_ok ms x then rc_z x else x) 140) ∧ ∀ a, a ≠ q → (a < o ∨ o + 8 ≤ a) → (a < tr ∨ tr + 3 ≤ a) → h1 a = h a) := by
  have hno : ∀ {h1 : on_H}, ¬ (rc_ok ms x = true) → la_S o tr ms K pos h1 → sh_W tr h1 → (∃ f2, h1 q = some (on_ai 0 140 f2) ∧ on_by f2 x 140) → (∀ a, a ≠ q → (a < o ∨ o + 8 ≤ a) → (a < tr ∨ tr + 3 ≤ a) → h1 a = h a) →
      ((some (Value.int 0) = some (.int (if rc_ok ms x then 1 else 0)) ∧ sz = sz ∧ la_S o tr (if rc_ok ms x then rc_m ms x else ms) K pos h1 ∧ sh_W tr h1 ∧ (∃ f2, h1 q = some (on_ai 0 140 f2) ∧ on_by f2 (if rc_ok ms x then rc_z x else x) 140) ∧ ∀ a, a ≠ q → (a < o ∨ o + 8 ≤ a) → (a < tr ∨ tr + 3 ≤ a) → h1 a = h a)) := fun {h1} n s t e k => by
    rw [if_neg n, if_neg n, if_neg n]
    exact ⟨rfl, rfl, s, t, e, k⟩
  have x6 := hx 6 (by omega)
  have x7 := hx 7 (by omega)
  have x10 := hx 10 (by omega)
  have x11 := hx 11 (by omega)
  have x12 := hx 12 (by omega)
  have x13 := hx 13 (by omega)
  have x14 := hx 14 (by omega)
  have x15 := hx 15 (by omega)
  have out : ¬ (rc_ok ms x = true) → on_E G M_Lane_recognizes 25 (on_l [(0, .ref o), (1, .ref q)]) [] h sz 0 0 (fun r h1 z => r = some (.int (if rc_ok ms x then 1 else 0)) ∧ z = sz ∧ la_S o tr (if rc_ok ms x then rc_m ms x else ms) K pos h1 ∧ sh_W tr h1 ∧ (∃ f2, h1 q = some (on_ai 0 140 f2) ∧ on_by f2 (if rc_ok ms x then rc_z x else x) 140) ∧ ∀ a, a ≠ q → (a < o ∨ o + 8 ≤ a) → (a < tr ∨ tr + 3 ≤ a) → h1 a = h a) := fun n => by
    refine on_iconst (pc' := 26) (v := 0) rfl rfl li_0 ?_
    refine on_zreturn rfl rfl ?_ ?_
    · first | rfl | assumption
    exact hno n hS hT ⟨f, hq, hx⟩ (fun _ _ _ _ => rfl)
  refine on_Ct.of (by decide) v_Lane_recognizes (Nat.le_of_ble_eq_true rfl) ?_
  first | refine on_aload_n (pc' := 1) rfl rfl rfl rfl ?_ | refine on_aload_nQ (pc' := 1) rfl rfl rfl rfl ?_
  refine on_bipush (pc' := 3) (v := 6) rfl rfl lb_6 ?_
  apply on_ialoadK (pc' := 4) (t := 0) (k := 6) rfl rfl
  · repeat (first | assumption | exact on_up_eq _ _ _ | refine (on_up_ne (by omega)).trans ?_)
  · rfl
  · first | assumption | exact on_lit _ | rfl
  · first | assumption | omega | decide
  rw [x6.1]
  refine on_if_ne (pc' := 7) (tgt := 25) rfl rfl rfl (fun cq => ?_) (fun cq => ?_)
  · exact on_relv (l := [(0, .ref o), (1, .ref q)]) ⟨rfl, rfl, trivial⟩ (out (fun z => cq (by rw [((rc_ok_iff ms x).mp z).1]; rfl)))
  have z6 : x 6 = 0 := (nI_eq (b := 0) (by omega) (by omega)).mp cq
  clear cq
  first | refine on_aload_n (pc' := 8) rfl rfl rfl rfl ?_ | refine on_aload_nQ (pc' := 8) rfl rfl rfl rfl ?_
  refine on_bipush (pc' := 10) (v := 7) rfl rfl lb_7 ?_
  apply on_ialoadK (pc' := 11) (t := 0) (k := 7) rfl rfl
  · repeat (first | assumption | exact on_up_eq _ _ _ | refine (on_up_ne (by omega)).trans ?_)
  · rfl
  · first | assumption | exact on_lit _ | rfl
  · first | assumption | omega | decide
  rw [x7.1]
  refine on_if_ne (pc' := 14) (tgt := 25) rfl rfl rfl (fun cq => ?_) (fun cq => ?_)
  · exact on_relv (l := [(0, .ref o), (1, .ref q)]) ⟨rfl, rfl, trivial⟩ (out (fun z => cq (by rw [((rc_ok_iff ms x).mp z).2.1]; rfl)))
  have z7 : x 7 = 0 := (nI_eq (b := 0) (by omega) (by omega)).mp cq
  clear cq
  first | refine on_aload_n (pc' := 15) rfl rfl rfl rfl ?_ | refine on_aload_nQ (pc' := 15) rfl rfl rfl rfl ?_
  refine on_bipush (pc' := 17) (v := 14) rfl rfl lb_14 ?_
  refine on_callS (pc' := 20) (As := [.ref q, .int (nI 14)]) (rest := []) rfl rfl cw_Lane_recognizes_69 rfl rfl (by decide) (Nat.zero_le _) (Nat.zero_le _) (c_pairAt hq (by decide) x14.1 x15.1 x14.2 x15.2) ?_
  rintro r h z ⟨rfl, rfl, rfl⟩
  refine on_bipush (pc' := 22) (v := 124) rfl rfl lb_124 ?_
  refine on_icmp_le (pc' := 25) (tgt := 27) rfl rfl rfl (fun cq => ?_) (fun cq => ?_)
  rotate_left
  · exact on_relv (l := [(0, .ref o), (1, .ref q)]) ⟨rfl, rfl, trivial⟩ (out (fun z => cq (nI_le (a := x 14 * 256 + x 15) (b := 124) (((rc_ok_iff ms x).mp z).2.2.1) (by omega))))
  have z14 : x 14 * 256 + x 15 ≤ 124 := by
    rcases Nat.lt_or_ge 124 (x 14 * 256 + x 15) with g | g
    · exact absurd cq (nI_ge (a := 124) (b := x 14 * 256 + x 15) (by omega) (by omega))
    · exact g
  clear cq
  first | refine on_aload_n (pc' := 28) rfl rfl rfl rfl ?_ | refine on_aload_nQ (pc' := 28) rfl rfl rfl rfl ?_
  refine on_bipush (pc' := 30) (v := 10) rfl rfl lb_10 ?_
  refine on_callS (pc' := 33) (As := [.ref q, .int (nI 10)]) (rest := []) rfl rfl cw_Lane_recognizes_69 rfl rfl (by decide) (Nat.zero_le _) (Nat.zero_le _) (c_pairAt hq (by decide) x10.1 x11.1 x10.2 x11.2) ?_
  rintro r h z ⟨rfl, rfl, rfl⟩
  refine on_bipush (pc' := 35) (v := 16) rfl rfl lb_16 ?_
  refine on_ishl (pc' := 36) rfl rfl ?_
  first | refine on_aload_n (pc' := 37) rfl rfl rfl rfl ?_ | refine on_aload_nQ (pc' := 37) rfl rfl rfl rfl ?_
  refine on_bipush (pc' := 39) (v := 12) rfl rfl lb_12 ?_
  refine on_callS (pc' := 42) (As := [.ref q, .int (nI 12)]) (rest := [.int (sh_l (nI (x 10 * 256 + x 11)) 16)]) rfl rfl cw_Lane_recognizes_69 rfl rfl (Nat.le_of_ble_eq_true rfl) (Nat.zero_le _) (Nat.zero_le _) (c_pairAt hq (by decide) x12.1 x13.1 x12.2 x13.2) ?_
  rintro r h z ⟨rfl, rfl, rfl⟩
  refine on_ior (pc' := 43) rfl rfl ?_
  rw [nI_quad (by omega) (by omega)]
  generalize hv : (x 10 * 256 + x 11) * 65536 + (x 12 * 256 + x 13) = v
  have hv2 : v < 2 ^ 32 := by omega
  refine on_istore_n (pc' := 44) rfl rfl rfl (by decide) ?_
  first | refine on_aload_n (pc' := 45) rfl rfl rfl rfl ?_ | refine on_aload_nQ (pc' := 45) rfl rfl rfl rfl ?_
  refine on_bipush (pc' := 47) (v := 10) rfl rfl lb_10 ?_
  refine on_bipush (pc' := 49) (v := 14) rfl rfl lb_14 ?_
  refine on_iconst (pc' := 50) (v := 0) rfl rfl li_0 ?_
  refine on_callS (pc' := 53) (As := [.ref q, .int (nI 10), .int (nI 14), .int 0]) (rest := []) rfl rfl cw_Lane_recognizes_75 rfl rfl (by decide) (Nat.zero_le _) (Nat.zero_le _) (c_fill2 (by decide) (by decide) (by decide) hq) ?_
  rintro r h1 z ⟨rfl, rfl, rfl⟩
  have hz : on_by (on_fl f 10 14 0) (rc_z x) 140 := fun i hi => by
    unfold rc_z
    by_cases e : 10 ≤ i ∧ i < 14
    · rw [if_pos e, show on_fl f 10 14 0 i = 0 from if_pos e]
      exact ⟨rfl, by decide⟩
    · rw [if_neg e, show on_fl f 10 14 0 i = f i from if_neg e]
      exact hx i hi
  obtain ⟨hX, due, inp, mix, blk, u, c, hB, hr⟩ := hS
  have hX1 := hX.keep (h2 := on_up h q (on_ai 0 140 (on_fl f 10 14 0))) (fun a h1 h2 => on_up_ne (by omega))
  have B1 := hB.keep (h2 := on_up h q (on_ai 0 140 (on_fl f 10 14 0))) (fun a h1 => on_up_ne (by omega))
  have T1 := hT.keep (h2 := on_up h q (on_ai 0 140 (on_fl f 10 14 0))) (fun a h1 h2 => on_up_ne (by omega))
  have q1 : on_up h q (on_ai 0 140 (on_fl f 10 14 0)) q = some (on_ai 0 140 (on_fl f 10 14 0)) := on_up_eq _ _ _
  have t0 : ∀ a, a ≠ q → on_up h q (on_ai 0 140 (on_fl f 10 14 0)) a = h a := fun a ha => on_up_ne ha
  generalize on_up h q (on_ai 0 140 (on_fl f 10 14 0)) = h1 at *
  have b1 := B1.1
  obtain ⟨f1, g1, l1, T1'⟩ := id T1
  first | refine on_aload_n (pc' := 54) rfl rfl rfl rfl ?_ | refine on_aload_nQ (pc' := 54) rfl rfl rfl rfl ?_
  first | apply on_get (pc' := 57) rfl rfl fl_Lane_31 | apply on_getN (pc' := 57) rfl rfl fl_Lane_31
  · repeat (first | assumption | exact on_up_eq _ _ _ | refine (on_up_ne (by omega)).trans ?_)
  · rfl
  first | refine on_aload_n (pc' := 58) rfl rfl rfl rfl ?_ | refine on_aload_nQ (pc' := 58) rfl rfl rfl rfl ?_
  first | apply on_get (pc' := 61) rfl rfl fl_Lane_12 | apply on_getN (pc' := 61) rfl rfl fl_Lane_12
  · repeat (first | assumption | exact on_up_eq _ _ _ | refine (on_up_ne (by omega)).trans ?_)
  · rfl
  refine on_callV (pc' := 64) (As := [.ref (o + 1)]) (rest := []) (b := tr) rfl rfl cw_Lane_recognizes_55 T1'.1 rfl rfl (by decide) (Nat.zero_le _) (Nat.zero_le _) (c_Sha_copy T1 hX1 (by omega)) ?_
  rintro r h2 z ⟨rfl, rfl, T2, t2⟩
  have X2 := hX1.keep (h2 := h2) (fun a h1 h2 => t2 a (by omega))
  have B2 := B1.keep (h2 := h2) (fun a ha => t2 a (by omega))
  have q2 := (t2 q (by omega)).trans q1
  clear b1
  have b1 := B2.1
  obtain ⟨f2, g2, T2', -⟩ := id T2
  first | refine on_aload_n (pc' := 65) rfl rfl rfl rfl ?_ | refine on_aload_nQ (pc' := 65) rfl rfl rfl rfl ?_
  first | apply on_get (pc' := 68) rfl rfl fl_Lane_31 | apply on_getN (pc' := 68) rfl rfl fl_Lane_31
  · repeat (first | assumption | exact on_up_eq _ _ _ | refine (on_up_ne (by omega)).trans ?_)
  · rfl
  first | refine on_aload_n (pc' := 69) rfl rfl rfl rfl ?_ | refine on_aload_nQ (pc' := 69) rfl rfl rfl rfl ?_
  refine on_iconst (pc' := 70) (v := 5) rfl rfl li_5 ?_
  refine on_sipush (pc' := 73) (v := 135) rfl rfl ls_135 ?_
  refine on_callV (pc' := 76) (As := [.ref q, .int (nI 5), .int (nI 135)]) (rest := []) (b := tr) rfl rfl cw_Lane_recognizes_37 T2'.1 rfl rfl (by decide) (Nat.zero_le _) (Nat.zero_le _) (c_Sha_add (b := rc_z x) T2 (by omega) q2 (by omega) (by omega) (by decide) (fun i hi => hz _ (by omega))) ?_
  rintro r h3 z ⟨rfl, rfl, T3, t3⟩
  have X3 := X2.keep (h2 := h3) (fun a h1 h2 => t3 a (by omega))
  have B3 := B2.keep (h2 := h3) (fun a ha => t3 a (by omega))
  have q3 := (t3 q (by omega)).trans q2
  clear b1
  obtain ⟨b1, b2, b3, b4, b5⟩ := id B3
  obtain ⟨f3, g3, T3', -⟩ := id T3
  have hL3 : (ms ++ sp_sl (rc_z x) 5 135).length < 2 ^ 28 := by rw [List.length_append, sp_sl_len]; exact hL
  first | refine on_aload_n (pc' := 77) rfl rfl rfl rfl ?_ | refine on_aload_nQ (pc' := 77) rfl rfl rfl rfl ?_
  first | apply on_get (pc' := 80) rfl rfl fl_Lane_31 | apply on_getN (pc' := 80) rfl rfl fl_Lane_31
  · repeat (first | assumption | exact on_up_eq _ _ _ | refine (on_up_ne (by omega)).trans ?_)
  · rfl
  first | refine on_aload_n (pc' := 81) rfl rfl rfl rfl ?_ | refine on_aload_nQ (pc' := 81) rfl rfl rfl rfl ?_
  first | apply on_get (pc' := 84) rfl rfl fl_Lane_18 | apply on_getN (pc' := 84) rfl rfl fl_Lane_18
  · repeat (first | assumption | exact on_up_eq _ _ _ | refine (on_up_ne (by omega)).trans ?_)
  · rfl
  refine on_callV (pc' := 87) (As := [.ref (o + 4)]) (rest := []) (b := tr) rfl rfl cw_Lane_recognizes_59 T3'.1 rfl rfl (by decide) (Nat.zero_le _) (Nat.zero_le _) (c_Sha_end T3 hL3 b2 (by omega)) ?_
  rintro r h4 z ⟨rfl, rfl, T4, e4, t4⟩
  have X4 := X3.keep (h2 := h4) (fun a h1 h2 => t4 a (by omega) (by omega))
  have q4 := (t4 q (by omega) (by omega)).trans q3
  have d1 := (t4 o (by omega) (by omega)).trans b1
  have d3 := (t4 (o + 5) (by omega) (by omega)).trans b3
  have d4 := (t4 (o + 6) (by omega) (by omega)).trans b4
  have d5 := (t4 (o + 7) (by omega) (by omega)).trans b5
  have tt : ∀ a, a ≠ q → (a < o ∨ o + 8 ≤ a) → (a < tr ∨ tr + 3 ≤ a) → h4 a = h a := fun a h1 h2 h3 => by
    rw [t4 a (by omega) (by omega), t3 a (by omega), t2 a (by omega), t0 a h1]
  clear t4 t3 t2 b1 b2 b3 b4 b5
  have p0 := sp_d_lt (rc_m ms x) 0
  have p1 := sp_d_lt (rc_m ms x) 1
  have p2 := sp_d_lt (rc_m ms x) 2
  have p3 := sp_d_lt (rc_m ms x) 3
  first | refine on_aload_n (pc' := 88) rfl rfl rfl rfl ?_ | refine on_aload_nQ (pc' := 88) rfl rfl rfl rfl ?_
  first | apply on_get (pc' := 91) rfl rfl fl_Lane_18 | apply on_getN (pc' := 91) rfl rfl fl_Lane_18
  · repeat (first | assumption | exact on_up_eq _ _ _ | refine (on_up_ne (by omega)).trans ?_)
  · rfl
  refine on_iconst (pc' := 92) (v := 0) rfl rfl li_0 ?_
  refine on_callS (pc' := 95) (As := [.ref (o + 4), .int (nI 0)]) (rest := []) rfl rfl cw_Lane_recognizes_69 rfl rfl (by decide) (Nat.zero_le _) (Nat.zero_le _) (c_pairAt (a := sp_d (rc_m ms x) 0) (b := sp_d (rc_m ms x) 1) e4 (by decide) (on_tk_lt (by decide)) (on_tk_lt (by decide)) p0 p1) ?_
  rintro r h4 z ⟨rfl, rfl, rfl⟩
  refine on_bipush (pc' := 97) (v := 16) rfl rfl lb_16 ?_
  refine on_ishl (pc' := 98) rfl rfl ?_
  first | refine on_aload_n (pc' := 99) rfl rfl rfl rfl ?_ | refine on_aload_nQ (pc' := 99) rfl rfl rfl rfl ?_
  first | apply on_get (pc' := 102) rfl rfl fl_Lane_18 | apply on_getN (pc' := 102) rfl rfl fl_Lane_18
  · repeat (first | assumption | exact on_up_eq _ _ _ | refine (on_up_ne (by omega)).trans ?_)
  · rfl
  refine on_iconst (pc' := 103) (v := 2) rfl rfl li_2 ?_
  refine on_callS (pc' := 106) (As := [.ref (o + 4), .int (nI 2)]) (rest := [.int (sh_l (nI (sp_d (rc_m ms x) 0 * 256 + sp_d (rc_m ms x) 1)) 16)]) rfl rfl cw_Lane_recognizes_69 rfl rfl (Nat.le_of_ble_eq_true rfl) (Nat.zero_le _) (Nat.zero_le _) (c_pairAt (a := sp_d (rc_m ms x) 2) (b := sp_d (rc_m ms x) 3) e4 (by decide) (on_tk_lt (by decide)) (on_tk_lt (by decide)) p2 p3) ?_
  rintro r h4 z ⟨rfl, rfl, rfl⟩
  refine on_ior (pc' := 107) rfl rfl ?_
  rw [nI_quad (by omega) (by omega)]
  refine on_iload_n (pc' := 108) rfl rfl rfl rfl ?_
  refine on_icmp_ne (pc' := 111) (tgt := 125) rfl rfl rfl (fun cq => ?_) (fun cq => ?_)
  · have nok : ¬ (rc_ok ms x = true) := fun z => by
      obtain ⟨-, -, -, w0, w1, w2, w3⟩ := (rc_ok_iff ms x).mp z
      exact cq (by rw [w0, w1, w2, w3, hv])
    first | refine on_aload_n (pc' := 126) rfl rfl rfl rfl ?_ | refine on_aload_nQ (pc' := 126) rfl rfl rfl rfl ?_
    refine on_bipush (pc' := 128) (v := 10) rfl rfl lb_10 ?_
    refine on_iload_n (pc' := 129) rfl rfl rfl rfl ?_
    refine on_bipush (pc' := 131) (v := 16) rfl rfl lb_16 ?_
    refine on_iushr (pc' := 132) rfl rfl ?_
    refine on_callS (pc' := 135) (As := [.ref q, .int (nI 10), .int (sh_u (nI v) 16)]) (rest := []) rfl rfl cw_Lane_recognizes_78 rfl rfl (by decide) (Nat.zero_le _) (Nat.zero_le _) (c_setPair q4 (by decide)) ?_
    rintro r h5 z ⟨rfl, rfl, rfl⟩
    first | refine on_aload_n (pc' := 136) rfl rfl rfl rfl ?_ | refine on_aload_nQ (pc' := 136) rfl rfl rfl rfl ?_
    refine on_bipush (pc' := 138) (v := 12) rfl rfl lb_12 ?_
    refine on_iload_n (pc' := 139) rfl rfl rfl rfl ?_
    refine on_callS (pc' := 142) (As := [.ref q, .int (nI 12), .int (nI v)]) (rest := []) rfl rfl cw_Lane_recognizes_78 rfl rfl (by decide) (Nat.zero_le _) (Nat.zero_le _) (c_setPair (on_up_eq _ _ _) (by decide)) ?_
    rintro r h5 z ⟨rfl, rfl, rfl⟩
    rw [on_up_up]
    refine on_iconst (pc' := 143) (v := 0) rfl rfl li_0 ?_
    refine on_zreturn rfl rfl ?_ ?_
    · first | rfl | assumption
    refine hno nok ⟨X4.keep (fun a h1 h2 => on_up_ne (by omega)), on_tk (fun i => nI (sp_d (ms ++ sp_sl (rc_z x) 5 135) i)) due 32, inp, mix, blk, u, c, ⟨?_, ?_, ?_, ?_, ?_⟩, hr⟩ (T4.keep (fun a h1 h2 => on_up_ne (by omega))) ⟨_, on_up_eq _ _ _, fun i hi => ?_⟩ (fun a h1 h2 h3 => by rw [on_up_ne h1]; exact tt a h1 h2 h3)
    · rw [on_up_ne (by omega)]; exact d1
    · rw [on_up_ne (by omega)]; exact e4
    · rw [on_up_ne (by omega)]; exact d3
    · rw [on_up_ne (by omega)]; exact d4
    · rw [on_up_ne (by omega)]; exact d5
    · refine ⟨?_, (hx i hi).2⟩
      by_cases e13 : i = 12 + 1
      · subst e13
        rw [pk_us, by_lo hv2]
        show nI (v % 256) = nI (x 13)
        exact congrArg nI (by omega)
      rw [pk_un e13]
      by_cases e12 : i = 12
      · subst e12
        rw [pk_us, by_ml hv2]
        exact congrArg nI (by omega)
      rw [pk_un e12]
      by_cases e11 : i = 10 + 1
      · subst e11
        rw [pk_us, by_mh hv2]
        show nI (v / 2 ^ 16 % 256) = nI (x 11)
        exact congrArg nI (by omega)
      rw [pk_un e11]
      by_cases e10 : i = 10
      · subst e10
        rw [pk_us, by_hi hv2]
        exact congrArg nI (by omega)
      rw [pk_un e10, show on_fl f 10 14 0 i = f i from if_neg (by omega)]
      exact (hx i hi).1
  · have ok : rc_ok ms x = true := by
      have := nI_inj32 (by omega) hv2 cq
      exact (rc_ok_iff ms x).mpr ⟨z6, z7, z14, by omega, by omega, by omega, by omega⟩
    obtain ⟨f5, g5, X4', -⟩ := id X4
    first | refine on_aload_n (pc' := 112) rfl rfl rfl rfl ?_ | refine on_aload_nQ (pc' := 112) rfl rfl rfl rfl ?_
    first | apply on_get (pc' := 115) rfl rfl fl_Lane_12 | apply on_getN (pc' := 115) rfl rfl fl_Lane_12
    · repeat (first | assumption | exact on_up_eq _ _ _ | refine (on_up_ne (by omega)).trans ?_)
    · rfl
    first | refine on_aload_n (pc' := 116) rfl rfl rfl rfl ?_ | refine on_aload_nQ (pc' := 116) rfl rfl rfl rfl ?_
    refine on_iconst (pc' := 117) (v := 5) rfl rfl li_5 ?_
    refine on_sipush (pc' := 120) (v := 135) rfl rfl ls_135 ?_
    refine on_callV (pc' := 123) (As := [.ref q, .int (nI 5), .int (nI 135)]) (rest := []) (b := o + 1) rfl rfl cw_Lane_recognizes_37 X4'.1 rfl rfl (by decide) (Nat.zero_le _) (Nat.zero_le _) (c_Sha_add (b := rc_z x) X4 (by omega) q4 (by omega) (by omega) (by decide) (fun i hi => hz _ (by omega))) ?_
    rintro r h5 z ⟨rfl, rfl, X5, t5⟩
    refine on_iconst (pc' := 124) (v := 1) rfl rfl li_1 ?_
    refine on_zreturn rfl rfl ?_ ?_
    · first | rfl | assumption
    rw [if_pos ok, if_pos ok, if_pos ok]
    refine ⟨rfl, rfl, ⟨X5, on_tk (fun i => nI (sp_d (ms ++ sp_sl (rc_z x) 5 135) i)) due 32, inp, mix, blk, u, c, ⟨?_, ?_, ?_, ?_, ?_⟩, hr⟩, T4.keep (fun a h1 h2 => t5 a (by omega)), ⟨_, (t5 q (by omega)).trans q4, hz⟩, fun a h1 h2 h3 => (t5 a (by omega)).trans (tt a h1 h2 h3)⟩
    · rw [t5 _ (by omega)]; exact d1
    · rw [t5 _ (by omega)]; exact e4
    · rw [t5 _ (by omega)]; exact d3
    · rw [t5 _ (by omega)]; exact d4
    · rw [t5 _ (by omega)]; exact d5
end LNS
