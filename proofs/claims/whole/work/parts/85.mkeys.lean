/-! the reference: keys of a text -/
section MKY
variable {G : on_G} {o q y sz bc bs : Nat} {x3 : Int32 × Int32 × Int32} {h : on_H} {Q : Option Value → on_H → Nat → Prop} {m0 tx : Nat → Nat}
set_option maxHeartbeats 4000000 in
theorem mdv_l {A : Value} {O1 : Nat → Int32} (ho : h o = some (.inr (17, mo_f o x3.1 x3.2.1 x3.2.2))) (h1 : h (o + 22) = some (on_ai 0 32 O1)) (hO : on_by O1 m0 32)
    (k : ∀ T : Nat → Int32, on_by T m0 32 → on_E G M_M_derive 26 (on_l [(0, .ref o), (1, A), (2, .ref q)]) [] (on_up h (o + 19) (on_ai 0 64 T)) sz bc bs Q) :
    ∀ (m i : Nat) (T : Nat → Int32), i + m = 32 → on_by T m0 i → on_E G M_M_derive 2 (on_l [(0, .ref o), (1, A), (2, .ref q), (3, .int (nI i))]) [] (on_up h (o + 19) (on_ai 0 64 T)) sz bc bs Q := by
  intro m
  induction m with
  | zero =>
    intro i T hi hT
    obtain rfl : i = 32 := by omega
    refine on_iload_n (pc' := 3) rfl rfl rfl rfl ?_
    refine on_bipush (pc' := 5) (v := 32) rfl rfl lb_32 ?_
    refine on_icmp_ge (pc' := 8) (tgt := 26) rfl rfl rfl (fun cq => ?_) (fun cq => ?_)
    · exact on_relv (l := [(0, .ref o), (1, A), (2, .ref q)]) ⟨rfl, rfl, rfl, trivial⟩ (k T hT)
    · exact absurd (nI_le (a := 32) (by omega) (by omega)) cq
  | succ m ih =>
    intro i T hi hT
    have hi2 : i < 64 ∧ 64 < 2 ^ 31 := by omega
    have hi3 : i < 32 ∧ 32 < 2 ^ 31 := by omega
    have oi := hO i hi3.1
    refine on_iload_n (pc' := 3) rfl rfl rfl rfl ?_
    refine on_bipush (pc' := 5) (v := 32) rfl rfl lb_32 ?_
    refine on_icmp_ge (pc' := 8) (tgt := 26) rfl rfl rfl (fun cq => ?_) (fun cq => ?_)
    · exact absurd cq (nI_ge (b := 32) (by omega) (by omega))
    · first | refine on_aload_n (pc' := 9) rfl rfl rfl rfl ?_ | refine on_aload_nQ (pc' := 9) rfl rfl rfl rfl ?_
      first | apply on_get (pc' := 12) rfl rfl fl_M_58 | apply on_getN (pc' := 12) rfl rfl fl_M_58
      · repeat (first | assumption | exact on_up_eq _ _ _ | refine (on_up_ne (by omega)).trans ?_)
      · rfl
      refine on_iload_n (pc' := 13) rfl rfl rfl rfl ?_
      first | refine on_aload_n (pc' := 14) rfl rfl rfl rfl ?_ | refine on_aload_nQ (pc' := 14) rfl rfl rfl rfl ?_
      first | apply on_get (pc' := 17) rfl rfl fl_M_67 | apply on_getN (pc' := 17) rfl rfl fl_M_67
      · repeat (first | assumption | exact on_up_eq _ _ _ | refine (on_up_ne (by omega)).trans ?_)
      · rfl
      refine on_iload_n (pc' := 18) rfl rfl rfl rfl ?_
      apply on_ialoadK (pc' := 19) (t := 0) rfl rfl
      · repeat (first | assumption | exact on_up_eq _ _ _ | refine (on_up_ne (by omega)).trans ?_)
      · rfl
      · first | assumption | exact on_lit _ | rfl
      · first | assumption | omega | decide
      rw [oi.1]
      apply on_iastoreK (pc' := 20) (t := 0) rfl rfl
      · repeat (first | assumption | exact on_up_eq _ _ _ | refine (on_up_ne (by omega)).trans ?_)
      · rfl
      · first | assumption | exact on_lit _ | rfl
      · first | assumption | omega | decide
      refine on_iinc1 (pc' := 23) rfl rfl rfl ?_
      refine on_goto (tgt := 2) rfl rfl ?_
      rw [on_up_up]
      refine on_relv (l := [(0, .ref o), (1, A), (2, .ref q), (3, .int (nI (i + 1)))]) ⟨rfl, rfl, rfl, congrArg some (congrArg Value.int (nI_1 i)), trivial⟩ (ih (i + 1) _ (by omega) (fun j hj => ?_))
      by_cases e : j = i
      · subst e
        rw [pk_us]
        exact ⟨rfl, oi.2⟩
      · rw [pk_un e]; exact hT j (by omega)
set_option maxHeartbeats 8000000 in
/-- derive -/
theorem c_M_derive {tag : Nat} (W : mw o x3 h) (h1 : rB h (o + 22) 32 m0) (ht : tag < 256) (hq : rW h q 32) (hqo : q < o ∨ o + 42 ≤ q ∨ q = o + 23) :
    on_Ct G M_M_derive [.ref o, .int (nI tag), .ref q] h sz 0 0 (fun r h1 z => r = none ∧ z = sz ∧ mw o x3 h1 ∧ rB h1 q 32 (hm m0 32 (fun _ => tag) 1) ∧ rB h1 (o + 22) 32 m0 ∧ ∀ a, a ≠ q → (a < o + 8 ∨ (o + 14 ≤ a ∧ a ≠ o + 18 ∧ a ≠ o + 19 ∧ a ≠ o + 20)) → h1 a = h a) := by
  have ho := W.ob.1
  obtain ⟨O1, h1, hO⟩ := h1
  obtain ⟨K0, hk⟩ := W.ky
  refine on_Ct.of (by decide) v_M_derive (Nat.le_of_ble_eq_true rfl) ?_
  refine on_iconst (pc' := 1) (v := 0) rfl rfl li_0 ?_
  refine on_istore_n (pc' := 2) rfl rfl rfl (by decide) ?_
  have z := mdv_l (G := G) (q := q) (sz := sz) (bc := 0) (bs := 0) (A := .int (nI tag)) (m0 := m0) (Q := fun r h1 z => r = none ∧ z = sz ∧ mw o x3 h1 ∧ rB h1 q 32 (hm m0 32 (fun _ => tag) 1) ∧ rB h1 (o + 22) 32 m0 ∧ ∀ a, a ≠ q → (a < o + 8 ∨ (o + 14 ≤ a ∧ a ≠ o + 18 ∧ a ≠ o + 19 ∧ a ≠ o + 20)) → h1 a = h a) ho h1 hO ?_ 32 0 K0 rfl (fun j hj => absurd hj (by omega))
  · rw [on_up_self hk] at z
    exact on_relv (l := [(0, .ref o), (1, .int (nI tag)), (2, .ref q), (3, .int (nI 0))]) ⟨rfl, rfl, rfl, rfl, trivial⟩ z
  intro T hT
  have W1 : mw o x3 (on_up h (o + 19) (on_ai 0 64 T)) := W.row (q := o + 19) (fun _ _ => by rw [show o + 19 - o = 19 by omega]; exact ⟨T, on_up_eq _ _ _⟩) (by omega) (fun a ha => on_up_ne ha)
  have k1 : on_up h (o + 19) (on_ai 0 64 T) (o + 19) = some (on_ai 0 64 T) := on_up_eq _ _ _
  have t1 : ∀ a, a ≠ o + 19 → on_up h (o + 19) (on_ai 0 64 T) a = h a := fun a ha => on_up_ne ha
  generalize on_up h (o + 19) (on_ai 0 64 T) = h2 at *
  clear ho
  have ho := W1.ob.1
  obtain ⟨X, hx⟩ := W1.tx
  have h0 : (0 : Nat) < 256 ∧ 256 < 2 ^ 31 := by decide
  first | refine on_aload_n (pc' := 27) rfl rfl rfl rfl ?_ | refine on_aload_nQ (pc' := 27) rfl rfl rfl rfl ?_
  first | apply on_get (pc' := 30) rfl rfl fl_M_61 | apply on_getN (pc' := 30) rfl rfl fl_M_61
  · repeat (first | assumption | exact on_up_eq _ _ _ | refine (on_up_ne (by omega)).trans ?_)
  · rfl
  refine on_iconst (pc' := 31) (v := 0) rfl rfl li_0 ?_
  refine on_iload_n (pc' := 32) rfl rfl rfl rfl ?_
  apply on_iastoreK (pc' := 33) (t := 0) rfl rfl
  · repeat (first | assumption | exact on_up_eq _ _ _ | refine (on_up_ne (by omega)).trans ?_)
  · rfl
  · first | assumption | exact on_lit _ | rfl
  · first | assumption | omega | decide
  have W2 : mw o x3 (on_up h2 (o + 20) (on_ai 0 256 (upd X 0 (nI tag)))) := W1.row (q := o + 20) (fun _ _ => by rw [show o + 20 - o = 20 by omega]; exact ⟨_, on_up_eq _ _ _⟩) (by omega) (fun a ha => on_up_ne ha)
  have k2 : on_up h2 (o + 20) (on_ai 0 256 (upd X 0 (nI tag))) (o + 19) = some (on_ai 0 64 T) := (on_up_ne (by omega)).trans k1
  have x2 : on_up h2 (o + 20) (on_ai 0 256 (upd X 0 (nI tag))) (o + 20) = some (on_ai 0 256 (upd X 0 (nI tag))) := on_up_eq _ _ _
  have t2 : ∀ a, a ≠ o + 19 → a ≠ o + 20 → on_up h2 (o + 20) (on_ai 0 256 (upd X 0 (nI tag))) a = h a := fun a h1 h2 => (on_up_ne h2).trans (t1 a h1)
  generalize on_up h2 (o + 20) (on_ai 0 256 (upd X 0 (nI tag))) = h3 at *
  clear ho
  have ho := W2.ob.1
  obtain ⟨D, hd⟩ := W2.dg
  obtain ⟨R, hr⟩ := hq.keep (h2 := h3) (t2 q (by omega) (by omega))
  first | refine on_aload_n (pc' := 34) rfl rfl rfl rfl ?_ | refine on_aload_nQ (pc' := 34) rfl rfl rfl rfl ?_
  refine on_bipush (pc' := 36) (v := 32) rfl rfl lb_32 ?_
  refine on_iconst (pc' := 37) (v := 1) rfl rfl li_1 ?_
  first | refine on_aload_n (pc' := 38) rfl rfl rfl rfl ?_ | refine on_aload_nQ (pc' := 38) rfl rfl rfl rfl ?_
  refine on_callV (pc' := 41) (As := [.int (nI 32), .int (nI 1), .ref q]) (rest := []) (b := o) rfl rfl cw_M_derive_291 ho rfl rfl (by decide) (Nat.zero_le _) (Nat.zero_le _) (c_M_mac (k0 := m0) (t := fun _ => tag) (R := R) W2.ob W2.sa W2.si k2 (by decide) hT x2 (by decide) (by_1 ht) hd hr (by omega)) ?_
  rintro r h4 sz ⟨rfl, rfl, O4, A4, B4, ⟨K4, k4, -⟩, D4, R4, t4⟩
  refine on_vreturn rfl rfl ?_
  refine ⟨rfl, rfl, W2.mac A4 B4 ⟨K4, k4⟩ D4 (rB.w R4) (by omega) t4, R4, ⟨O1, (t4 _ (by omega) (by omega)).trans ((t2 _ (by omega) (by omega)).trans h1), hO⟩, fun a h1 h2 => (t4 a h1 (by omega)).trans (t2 a (by omega) (by omega))⟩
set_option maxHeartbeats 4000000 in
theorem mbg_l {R : Nat → Int32} {k2 : Nat → Nat} (hr : h (o + 23) = some (on_ai 0 32 R)) (hR : on_by R k2 32) (hy : y + 3 ≤ o ∨ o + 42 ≤ y)
    (k : ∀ h2, mw o x3 h2 → ms_X y (sp_sl k2 0 32) h2 → on_sm y (y + 3) h h2 → on_E G M_M_begin 41 (on_l []) [] h2 sz bc bs Q) :
    ∀ (m i : Nat) (h1 : on_H), i + m = 32 → mw o x3 h1 → ms_X y (sp_sl k2 0 i) h1 → on_sm y (y + 3) h h1 → on_E G M_M_begin 15 (on_l [(0, .ref o), (1, .ref y), (3, .int (nI i))]) [] h1 sz bc bs Q := by
  intro m
  induction m with
  | zero =>
    intro i h1 hi W hX hs
    obtain rfl : i = 32 := by omega
    refine on_iload_n (pc' := 16) rfl rfl rfl rfl ?_
    refine on_bipush (pc' := 18) (v := 32) rfl rfl lb_32 ?_
    refine on_icmp_ge (pc' := 21) (tgt := 41) rfl rfl rfl (fun cq => ?_) (fun cq => ?_)
    · exact on_relv (l := []) trivial (k h1 W hX hs)
    · exact absurd (nI_le (a := 32) (by omega) (by omega)) cq
  | succ m ih =>
    intro i h1 hi W hX hs
    have ho := W.ob.1
    have hi3 : i < 32 ∧ 32 < 2 ^ 31 := by omega
    have ri := hR i hi3.1
    have r1 := (hs (o + 23) (by omega)).trans hr
    obtain ⟨f0, g0, X0, -⟩ := id hX
    refine on_iload_n (pc' := 16) rfl rfl rfl rfl ?_
    refine on_bipush (pc' := 18) (v := 32) rfl rfl lb_32 ?_
    refine on_icmp_ge (pc' := 21) (tgt := 41) rfl rfl rfl (fun cq => ?_) (fun cq => ?_)
    · exact absurd cq (nI_ge (b := 32) (by omega) (by omega))
    · first | refine on_aload_n (pc' := 22) rfl rfl rfl rfl ?_ | refine on_aload_nQ (pc' := 22) rfl rfl rfl rfl ?_
      first | refine on_aload_n (pc' := 23) rfl rfl rfl rfl ?_ | refine on_aload_nQ (pc' := 23) rfl rfl rfl rfl ?_
      first | apply on_get (pc' := 26) rfl rfl fl_M_70 | apply on_getN (pc' := 26) rfl rfl fl_M_70
      · repeat (first | assumption | exact on_up_eq _ _ _ | refine (on_up_ne (by omega)).trans ?_)
      · rfl
      refine on_iload_n (pc' := 27) rfl rfl rfl rfl ?_
      apply on_ialoadK (pc' := 28) (t := 0) rfl rfl
      · repeat (first | assumption | exact on_up_eq _ _ _ | refine (on_up_ne (by omega)).trans ?_)
      · rfl
      · first | assumption | exact on_lit _ | rfl
      · first | assumption | omega | decide
      first | refine on_aload_n (pc' := 29) rfl rfl rfl rfl ?_ | refine on_aload_nQ (pc' := 29) rfl rfl rfl rfl ?_
      first | apply on_get (pc' := 32) rfl rfl fl_M_52 | apply on_getN (pc' := 32) rfl rfl fl_M_52
      · repeat (first | assumption | exact on_up_eq _ _ _ | refine (on_up_ne (by omega)).trans ?_)
      · rfl
      rw [ri.1]
      refine on_callV (pc' := 35) (As := [.int (nI (k2 i)), .ref (o + 17)]) (rest := []) (b := y) rfl rfl cw_M_begin_143 X0.1 rfl rfl (by decide) (Nat.zero_le _) (Nat.zero_le _) (c_MSha_add (b := k2 i) hX (by rw [sp_sl_len]; omega) W.ob.2 (by omega) (nI_255 ri.2) ri.2) ?_
      rintro r h2 sz ⟨rfl, rfl, X2, t2⟩
      refine on_iinc1 (pc' := 38) rfl rfl rfl ?_
      refine on_goto (tgt := 15) rfl rfl ?_
      refine on_relv (l := [(0, .ref o), (1, .ref y), (3, .int (nI (i + 1)))]) ⟨rfl, rfl, congrArg some (congrArg Value.int (nI_1 i)), trivial⟩ (ih (i + 1) h2 (by omega) (W.keep (fun a h1 h2 h3 => t2 a (by omega))) ?_ (hs.trans t2))
      rw [sp_sl_s, Nat.zero_add]
      exact X2
set_option maxHeartbeats 8000000 in
/-- begin: a running digest under its key -/
theorem c_M_begin {tag : Nat} (W : mw o x3 h) (h1 : rB h (o + 22) 32 m0) (ht : tag < 256) (hY : ms_W y h) (hy : y + 3 ≤ o ∨ o + 42 ≤ y) :
    on_Ct G M_M_begin [.ref o, .ref y, .int (nI tag)] h sz 0 0 (fun r h1 z => r = none ∧ z = sz ∧ mw o x3 h1 ∧ ms_X y (sp_sl (hm m0 32 (fun _ => tag) 1) 0 32) h1 ∧ rB h1 (o + 22) 32 m0 ∧ ∀ a, (a < y ∨ y + 3 ≤ a) → (a < o + 8 ∨ (o + 14 ≤ a ∧ a ≠ o + 18 ∧ a ≠ o + 19 ∧ a ≠ o + 20 ∧ a ≠ o + 23)) → h1 a = h a) := by
  have ho := W.ob.1
  refine on_Ct.of (by decide) v_M_begin (Nat.le_of_ble_eq_true rfl) ?_
  first | refine on_aload_n (pc' := 1) rfl rfl rfl rfl ?_ | refine on_aload_nQ (pc' := 1) rfl rfl rfl rfl ?_
  refine on_iload_n (pc' := 2) rfl rfl rfl rfl ?_
  first | refine on_aload_n (pc' := 3) rfl rfl rfl rfl ?_ | refine on_aload_nQ (pc' := 3) rfl rfl rfl rfl ?_
  first | apply on_get (pc' := 6) rfl rfl fl_M_70 | apply on_getN (pc' := 6) rfl rfl fl_M_70
  · repeat (first | assumption | exact on_up_eq _ _ _ | refine (on_up_ne (by omega)).trans ?_)
  · rfl
  refine on_callV (pc' := 9) (As := [.int (nI tag), .ref (o + 23)]) (rest := []) (b := o) rfl rfl cw_M_begin_304 ho rfl rfl (by decide) (Nat.zero_le _) (Nat.zero_le _) (c_M_derive W h1 ht W.r2 (by omega)) ?_
  rintro r h2 sz ⟨rfl, rfl, W2, R2, O2, t2⟩
  have Y2 := hY.keep (h2 := h2) (fun a h1 h2 => t2 a (by omega) (by omega))
  obtain ⟨f2, g2, l2, Y2'⟩ := id Y2
  first | refine on_aload_n (pc' := 10) rfl rfl rfl rfl ?_ | refine on_aload_nQ (pc' := 10) rfl rfl rfl rfl ?_
  refine on_callV (pc' := 13) (As := []) (rest := []) (b := y) rfl rfl cw_M_begin_161 Y2'.1 rfl rfl (by decide) (Nat.zero_le _) (Nat.zero_le _) (c_MSha_begin Y2) ?_
  rintro r h3 sz ⟨rfl, rfl, X3, t3⟩
  obtain ⟨R3, r3, R3'⟩ := R2.keep (h2 := h3) (t3 _ (by omega))
  refine on_iconst (pc' := 14) (v := 0) rfl rfl li_0 ?_
  refine on_istore_n (pc' := 15) rfl rfl rfl (by decide) ?_
  refine on_relv (l := [(0, .ref o), (1, .ref y), (3, .int (nI 0))]) ⟨rfl, rfl, rfl, trivial⟩ (mbg_l (h := h3) r3 R3' hy (fun h4 W4 X4 t4 => ?_) 32 0 h3 rfl (W2.keep (fun a h1 h2 h3 => t3 a (by omega))) X3 on_sm.rf)
  refine on_vreturn rfl rfl ?_
  exact ⟨rfl, rfl, W4, X4, O2.keep ((t4 _ (by omega)).trans (t3 _ (by omega))), fun a h1 h2 => (t4 a h1).trans ((t3 a h1).trans (t2 a (by omega) (by omega)))⟩
/-- a layer, whatever it holds -/
def ml_W (y : Nat) (h : on_H) : Prop := (∃ d1 d2 : Int64, h y = some (.inr (13, [.ref (y + 1), .ref (y + 4), .ref (y + 7), .ref (y + 8), .long d1, .long d2]))) ∧ ms_W (y + 1) h ∧ ms_W (y + 4) h ∧ rW h (y + 7) 32 ∧ rW h (y + 8) 32
theorem ml_S.w {f b : aL} (k : ml_S y f b h) : ml_W y h := ⟨⟨_, _, k.1.1⟩, k.2.1.w, k.2.2.w, k.1.2.1.w, k.1.2.2.w⟩
theorem ml_W.keep {h2 : on_H} (k : ml_W y h) (e : ∀ a, y ≤ a → a < y + 9 → h2 a = h a) : ml_W y h2 := by
  obtain ⟨⟨d1, d2, k0⟩, k1, k2, k3, k4⟩ := k
  exact ⟨⟨d1, d2, (e _ (by omega) (by omega)).trans k0⟩, k1.keep (fun a h1 h2 => e a (by omega) (by omega)), k2.keep (fun a h1 h2 => e a (by omega) (by omega)), k3.keep (e _ (by omega) (by omega)), k4.keep (e _ (by omega) (by omega))⟩
set_option maxHeartbeats 8000000 in
/-- keys: a layer out of the text -/
theorem c_M_keys {T : Nat → Int32} (W : mw o x3 h) (ht : h (o + 20) = some (on_ai 0 256 T)) (hT : on_by T tx 172) (hL : ml_W y h) (hy : y + 9 ≤ o ∨ o + 42 ≤ y) :
    on_Ct G M_M_keys [.ref o, .int (nI 172), .ref y] h sz 0 0 (fun r h1 z => r = none ∧ z = sz ∧ mw o x3 h1 ∧ ml_S y (ks_f tx) (ks_b tx) h1 ∧ ∀ a, (a < y ∨ y + 9 ≤ a) → (a < o + 8 ∨ (o + 14 ≤ a ∧ a ≠ o + 18 ∧ a ≠ o + 19 ∧ a ≠ o + 20 ∧ a ≠ o + 22 ∧ a ≠ o + 23)) → h1 a = h a) := by
  have ho := W.ob.1
  obtain ⟨K0, hk⟩ := W.ky
  refine on_Ct.of (by decide) v_M_keys (Nat.le_of_ble_eq_true rfl) ?_
  first | refine on_aload_n (pc' := 1) rfl rfl rfl rfl ?_ | refine on_aload_nQ (pc' := 1) rfl rfl rfl rfl ?_
  refine on_iconst (pc' := 2) (v := 5) rfl rfl li_5 ?_
  refine on_callV (pc' := 5) (As := [.int (nI 5)]) (rest := []) (b := o) rfl rfl cw_M_keys_288 ho rfl rfl (by decide) (Nat.zero_le _) (Nat.zero_le _) (c_M_keyName ho hk (by decide)) ?_
  rintro r h2 sz ⟨rfl, rfl, K2, rfl, hK2⟩
  have W2 : mw o x3 (on_up h (o + 19) (on_ai 0 64 K2)) := W.row (q := o + 19) (fun _ _ => by rw [show o + 19 - o = 19 by omega]; exact ⟨_, on_up_eq _ _ _⟩) (by omega) (fun a ha => on_up_ne ha)
  have k2 : on_up h (o + 19) (on_ai 0 64 K2) (o + 19) = some (on_ai 0 64 K2) := on_up_eq _ _ _
  have t2 : ∀ a, a ≠ o + 19 → on_up h (o + 19) (on_ai 0 64 K2) a = h a := fun a ha => on_up_ne ha
  generalize on_up h (o + 19) (on_ai 0 64 K2) = h2 at *
  clear ho
  have ho := W2.ob.1
  obtain ⟨D, hd⟩ := W2.dg
  obtain ⟨R, hr⟩ := W2.r1
  first | refine on_aload_n (pc' := 6) rfl rfl rfl rfl ?_ | refine on_aload_nQ (pc' := 6) rfl rfl rfl rfl ?_
  refine on_bipush (pc' := 8) (v := 9) rfl rfl lb_9 ?_
  refine on_iload_n (pc' := 9) rfl rfl rfl rfl ?_
  first | refine on_aload_n (pc' := 10) rfl rfl rfl rfl ?_ | refine on_aload_nQ (pc' := 10) rfl rfl rfl rfl ?_
  first | apply on_get (pc' := 13) rfl rfl fl_M_67 | apply on_getN (pc' := 13) rfl rfl fl_M_67
  · repeat (first | assumption | exact on_up_eq _ _ _ | refine (on_up_ne (by omega)).trans ?_)
  · rfl
  refine on_callV (pc' := 16) (As := [.int (nI 9), .int (nI 172), .ref (o + 22)]) (rest := []) (b := o) rfl rfl cw_M_keys_291 ho rfl rfl (by decide) (Nat.zero_le _) (Nat.zero_le _) (c_M_mac (k0 := nt_b 5) (t := tx) (R := R) W2.ob W2.sa W2.si k2 (by decide) hK2 ((t2 _ (by omega)).trans ht) (by decide) hT hd hr (by omega)) ?_
  rintro r h3 sz ⟨rfl, rfl, O3, A3, B3, ⟨K3, k3, -⟩, D3, R3, t3⟩
  have W3 := W2.mac A3 B3 ⟨K3, k3⟩ D3 (rB.w R3) (by omega) t3
  have R3' : rB h3 (o + 22) 32 (ks_m tx) := R3
  have u3 : ∀ a, (a < o + 8 ∨ (o + 14 ≤ a ∧ a ≠ o + 18 ∧ a ≠ o + 19 ∧ a ≠ o + 20 ∧ a ≠ o + 22 ∧ a ≠ o + 23)) → h3 a = h a := fun a h1 => (t3 a (by omega) (by omega)).trans (t2 a (by omega))
  have L3 := hL.keep (h2 := h3) (fun a h1 h2 => u3 a (by omega))
  clear ho t2 t3 A3 B3 O3 k3 D3 R3
  have ho := W3.ob.1
  obtain ⟨⟨d1, d2, l3⟩, y1, y2, y3, y4⟩ := id L3
  first | refine on_aload_n (pc' := 17) rfl rfl rfl rfl ?_ | refine on_aload_nQ (pc' := 17) rfl rfl rfl rfl ?_
  first | refine on_aload_n (pc' := 18) rfl rfl rfl rfl ?_ | refine on_aload_nQ (pc' := 18) rfl rfl rfl rfl ?_
  first | apply on_get (pc' := 21) rfl rfl fl_M_295 | apply on_getN (pc' := 21) rfl rfl fl_M_295
  · repeat (first | assumption | exact on_up_eq _ _ _ | refine (on_up_ne (by omega)).trans ?_)
  · rfl
  refine on_iconst (pc' := 22) (v := 1) rfl rfl li_1 ?_
  refine on_callV (pc' := 25) (As := [.ref (y + 1), .int (nI 1)]) (rest := []) (b := o) rfl rfl cw_M_keys_298 ho rfl rfl (by decide) (Nat.zero_le _) (Nat.zero_le _) (c_M_begin W3 R3' (by decide) y1 (by omega)) ?_
  rintro r h4 sz ⟨rfl, rfl, W4, X4, R4, t4⟩
  have u4 : ∀ a, (a < y + 1 ∨ y + 4 ≤ a) → (a < o + 8 ∨ (o + 14 ≤ a ∧ a ≠ o + 18 ∧ a ≠ o + 19 ∧ a ≠ o + 20 ∧ a ≠ o + 22 ∧ a ≠ o + 23)) → h4 a = h3 a := fun a h1 h2 => t4 a (by omega) (by omega)
  have l4 := (u4 y (by omega) (by omega)).trans l3
  have y24 := y2.keep (h2 := h4) (fun a h1 h2 => u4 a (by omega) (by omega))
  clear ho l3
  have ho := W4.ob.1
  first | refine on_aload_n (pc' := 26) rfl rfl rfl rfl ?_ | refine on_aload_nQ (pc' := 26) rfl rfl rfl rfl ?_
  first | refine on_aload_n (pc' := 27) rfl rfl rfl rfl ?_ | refine on_aload_nQ (pc' := 27) rfl rfl rfl rfl ?_
  first | apply on_get (pc' := 30) rfl rfl fl_M_301 | apply on_getN (pc' := 30) rfl rfl fl_M_301
  · repeat (first | assumption | exact on_up_eq _ _ _ | refine (on_up_ne (by omega)).trans ?_)
  · rfl
  refine on_iconst (pc' := 31) (v := 2) rfl rfl li_2 ?_
  refine on_callV (pc' := 34) (As := [.ref (y + 4), .int (nI 2)]) (rest := []) (b := o) rfl rfl cw_M_keys_298 ho rfl rfl (by decide) (Nat.zero_le _) (Nat.zero_le _) (c_M_begin W4 R4 (by decide) y24 (by omega)) ?_
  rintro r h5 sz ⟨rfl, rfl, W5, X5, R5, t5⟩
  have l5 := (t5 y (by omega) (by omega)).trans l4
  have X45 := X4.keep (h2 := h5) (fun a h1 h2 => t5 a (by omega) (by omega))
  have y35 := y3.keep (h2 := h5) ((t5 _ (by omega) (by omega)).trans (u4 _ (by omega) (by omega)))
  have y45 := y4.keep (h2 := h5) ((t5 _ (by omega) (by omega)).trans (u4 _ (by omega) (by omega)))
  clear ho l4
  have ho := W5.ob.1
  first | refine on_aload_n (pc' := 35) rfl rfl rfl rfl ?_ | refine on_aload_nQ (pc' := 35) rfl rfl rfl rfl ?_
  refine on_iconst (pc' := 36) (v := 3) rfl rfl li_3 ?_
  first | refine on_aload_n (pc' := 37) rfl rfl rfl rfl ?_ | refine on_aload_nQ (pc' := 37) rfl rfl rfl rfl ?_
  first | apply on_get (pc' := 40) rfl rfl fl_M_239 | apply on_getN (pc' := 40) rfl rfl fl_M_239
  · repeat (first | assumption | exact on_up_eq _ _ _ | refine (on_up_ne (by omega)).trans ?_)
  · rfl
  refine on_callV (pc' := 43) (As := [.int (nI 3), .ref (y + 7)]) (rest := []) (b := o) rfl rfl cw_M_keys_304 ho rfl rfl (by decide) (Nat.zero_le _) (Nat.zero_le _) (c_M_derive W5 R5 (by decide) y35 (by omega)) ?_
  rintro r h6 sz ⟨rfl, rfl, W6, C6, R6, t6⟩
  have l6 := (t6 y (by omega) (by omega)).trans l5
  have X46 := X45.keep (h2 := h6) (fun a h1 h2 => t6 a (by omega) (by omega))
  have X56 := X5.keep (h2 := h6) (fun a h1 h2 => t6 a (by omega) (by omega))
  have y46 := y45.keep (h2 := h6) (t6 _ (by omega) (by omega))
  clear ho l5
  have ho := W6.ob.1
  first | refine on_aload_n (pc' := 44) rfl rfl rfl rfl ?_ | refine on_aload_nQ (pc' := 44) rfl rfl rfl rfl ?_
  refine on_iconst (pc' := 45) (v := 4) rfl rfl li_4 ?_
  first | refine on_aload_n (pc' := 46) rfl rfl rfl rfl ?_ | refine on_aload_nQ (pc' := 46) rfl rfl rfl rfl ?_
  first | apply on_get (pc' := 49) rfl rfl fl_M_254 | apply on_getN (pc' := 49) rfl rfl fl_M_254
  · repeat (first | assumption | exact on_up_eq _ _ _ | refine (on_up_ne (by omega)).trans ?_)
  · rfl
  refine on_callV (pc' := 52) (As := [.int (nI 4), .ref (y + 8)]) (rest := []) (b := o) rfl rfl cw_M_keys_304 ho rfl rfl (by decide) (Nat.zero_le _) (Nat.zero_le _) (c_M_derive W6 R6 (by decide) y46 (by omega)) ?_
  rintro r h7 sz ⟨rfl, rfl, W7, C7, R7, t7⟩
  have l7 := (t7 y (by omega) (by omega)).trans l6
  have X47 := X46.keep (h2 := h7) (fun a h1 h2 => t7 a (by omega) (by omega))
  have X57 := X56.keep (h2 := h7) (fun a h1 h2 => t7 a (by omega) (by omega))
  have C67 := C6.keep (h2 := h7) (t7 _ (by omega) (by omega))
  have u7 : ∀ a, (a < y ∨ y + 9 ≤ a) → (a < o + 8 ∨ (o + 14 ≤ a ∧ a ≠ o + 18 ∧ a ≠ o + 19 ∧ a ≠ o + 20 ∧ a ≠ o + 22 ∧ a ≠ o + 23)) → h7 a = h a := fun a h1 h2 => by rw [t7 a (by omega) (by omega), t6 a (by omega) (by omega), t5 a (by omega) (by omega), u4 a (by omega) (by omega), u3 a h2]
  clear l6 t7 t6 t5 t4 u4 u3
  first | refine on_aload_n (pc' := 53) rfl rfl rfl rfl ?_ | refine on_aload_nQ (pc' := 53) rfl rfl rfl rfl ?_
  refine on_lconst (pc' := 54) (v := 0) rfl rfl ll_0 ?_
  first | apply on_put (pc' := 57) rfl rfl fp_M_244 | apply on_putN (pc' := 57) rfl rfl fp_M_244
  · repeat (first | assumption | exact on_up_eq _ _ _ | refine (on_up_ne (by omega)).trans ?_)
  · first | rfl | assumption
  · first | rfl | assumption
  · exact Nat.le_of_ble_eq_true rfl
  first | refine on_aload_n (pc' := 58) rfl rfl rfl rfl ?_ | refine on_aload_nQ (pc' := 58) rfl rfl rfl rfl ?_
  refine on_lconst (pc' := 59) (v := 0) rfl rfl ll_0 ?_
  first | apply on_put (pc' := 62) rfl rfl fp_M_257 | apply on_putN (pc' := 62) rfl rfl fp_M_257
  · repeat (first | assumption | exact on_up_eq _ _ _ | refine (on_up_ne (by omega)).trans ?_)
  · first | rfl | assumption
  · first | rfl | assumption
  · exact Nat.le_of_ble_eq_true rfl
  refine on_vreturn rfl rfl ?_
  rw [on_up_up]
  refine ⟨rfl, rfl, W7.keep (fun a h1 h2 h3 => on_up_ne (by omega)), ⟨⟨on_up_eq _ _ _, C67.keep (on_up_ne (by omega)), C7.keep (on_up_ne (by omega))⟩, X47.keep (fun a h1 h2 => on_up_ne (by omega)), X57.keep (fun a h1 h2 => on_up_ne (by omega))⟩, fun a h1 h2 => (on_up_ne (by omega)).trans (u7 a h1 h2)⟩
end MKY
