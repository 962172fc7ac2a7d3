/-! the class's Outbox -/
theorem if_iff {α : Type} {p q : Prop} {dp : Decidable p} {dq : Decidable q} {x y : α} (h : p ↔ q) : (if p then x else y) = (if q then x else y) := by
  by_cases hp : p
  · rw [if_pos hp, if_pos (h.mp hp)]
  · rw [if_neg hp, if_neg (fun z => hp (h.mpr z))]
theorem rB.ite {h : on_H} {a n : Nat} {x y : Nat → Nat} {p : Prop} {d : Decidable p} (k : rB h a n (if p then x else y)) (hp : p) : rB h a n x := by
  rw [if_pos hp] at k
  exact k
/-- the rows of an Outbox at u -/
def ob_f (u : Nat) : Nat → Option Nat := fun i => some (u + 2 + i)
/-- n cells c, to whom, and which of them are plain -/
def ob_S (u n : Nat) (c : Nat → aB) (to : Nat → Nat) (pl : Nat → Bool) (h : on_H) : Prop := h u = some (.inr (6, [.ref (u + 1), .ref (u + 6), .ref (u + 7), .int (nI n)])) ∧ h (u + 1) = some (on_aq 3 4 (ob_f u)) ∧ (∀ i, i < 4 → rB h (u + 2 + i) 140 (if i < n then c i else fun _ => 0)) ∧ (∃ T, h (u + 6) = some (on_ai 0 4 T) ∧ ∀ i, i < n → T i = nI (to i)) ∧ (∃ P, h (u + 7) = some (on_ai 2 4 P) ∧ ∀ i, i < 4 → P i = if i < n ∧ pl i = true then 1 else 0)
/-- an empty one -/
def ob_E (u : Nat) (h : on_H) : Prop := ob_S u 0 (fun _ _ => 0) (fun _ => 0) (fun _ => false) h
theorem ob_S.keep {u n : Nat} {c : Nat → aB} {to : Nat → Nat} {pl : Nat → Bool} {h h2 : on_H} (k : ob_S u n c to pl h) (e : ∀ a, u ≤ a → a < u + 8 → h2 a = h a) : ob_S u n c to pl h2 := by
  obtain ⟨k1, k2, k3, ⟨T, k4, k4'⟩, ⟨P, k5, k5'⟩⟩ := k
  exact ⟨(e _ (by omega) (by omega)).trans k1, (e _ (by omega) (by omega)).trans k2, fun i hi => (k3 i hi).keep (e _ (by omega) (by omega)), ⟨T, (e _ (by omega) (by omega)).trans k4, k4'⟩, ⟨P, (e _ (by omega) (by omega)).trans k5, k5'⟩⟩
/-- a cell's row is written -/
theorem ob_S.row {u n k : Nat} {c : Nat → aB} {to : Nat → Nat} {pl : Nat → Bool} {h h2 : on_H} {y : aB} (K : ob_S u n c to pl h) (hk : k < n) (hn : n ≤ 4) (hr : rB h2 (u + 2 + k) 140 y) (e : ∀ a, u ≤ a → a < u + 8 → a ≠ u + 2 + k → h2 a = h a) : ob_S u n (fu c k y) to pl h2 := by
  obtain ⟨k1, k2, k3, ⟨T, k4, k4'⟩, ⟨P, k5, k5'⟩⟩ := K
  refine ⟨(e _ (by omega) (by omega) (by omega)).trans k1, (e _ (by omega) (by omega) (by omega)).trans k2, fun i hi => ?_, ⟨T, (e _ (by omega) (by omega) (by omega)).trans k4, k4'⟩, ⟨P, (e _ (by omega) (by omega) (by omega)).trans k5, k5'⟩⟩
  by_cases ee : i = k
  · subst ee
    rw [if_pos hk, fu_s]
    exact hr
  · have := (k3 i hi).keep (h2 := h2) (e _ (by omega) (by omega) (by omega))
    rw [fu_n ee]
    exact this
/-- the bytes of the head of a cell -/
theorem ce_h {num : Int32} {cmd : Nat} (hc : cmd < 256) (p : Nat → Nat) : ∀ i, i < 140 → ce_k num cmd p 0 i < 256 := fun i hi => by
  unfold ce_k
  split
  · exact db_lt _ _
  · split
    · exact hc
    · rw [if_neg (by omega)]; decide
section OBX
variable {G : on_G} {u n sz bc bs : Nat} {c : Nat → aB} {to : Nat → Nat} {pl : Nat → Bool} {h : on_H} {Q : Option Value → on_H → Nat → Prop}
set_option maxHeartbeats 8000000 in
/-- addCell -/
theorem c_addCell {node cmd : Nat} {num : Int32} (K : ob_S u n c to pl h) (hn : n < 4) (hc : cmd < 256) :
    on_Ct G M_Outbox_addCell [.ref u, .int (nI node), .int num, .int (nI cmd)] h sz 0 0 (fun r h1 z => r = some (.ref (u + 2 + n)) ∧ z = sz ∧ ob_S u (n + 1) (fu c n (ce_k num cmd (fun _ => 0) 0)) (fu to n node) (fu pl n false) h1 ∧ ∀ a, (a < u ∨ u + 8 ≤ a) → h1 a = h a) := by
  obtain ⟨k1, k2, k3, ⟨T, k4, k4'⟩, ⟨P, k5, k5'⟩⟩ := id K
  obtain ⟨F, k6, k6'⟩ := k3 n hn
  rw [if_neg (Nat.lt_irrefl n)] at k6'
  obtain ⟨d0, d1, d2, d3⟩ := db_u num
  have n4 : n < 4 ∧ 4 < 2 ^ 31 := by omega
  have e1 : nI n + 1 = nI (n + 1) := nI_1 n
  refine on_Ct.of (by decide) v_Outbox_addCell (Nat.le_of_ble_eq_true rfl) ?_
  first | refine on_aload_n (pc' := 1) rfl rfl rfl rfl ?_ | refine on_aload_nQ (pc' := 1) rfl rfl rfl rfl ?_
  first | apply on_get (pc' := 4) rfl rfl fl_Outbox_28 | apply on_getN (pc' := 4) rfl rfl fl_Outbox_28
  · repeat (first | assumption | exact on_up_eq _ _ _ | refine (on_up_ne (by omega)).trans ?_)
  · rfl
  refine on_iconst (pc' := 5) (v := 4) rfl rfl li_4 ?_
  refine on_icmp_ge (pc' := 8) (tgt := 15) rfl rfl rfl (fun cq => ?_) (fun cq => ?_)
  · exact absurd cq (nI_ge (b := 4) hn (by decide))
  · first | refine on_aload_n (pc' := 9) rfl rfl rfl rfl ?_ | refine on_aload_nQ (pc' := 9) rfl rfl rfl rfl ?_
    first | apply on_get (pc' := 12) rfl rfl fl_Outbox_28 | apply on_getN (pc' := 12) rfl rfl fl_Outbox_28
    · repeat (first | assumption | exact on_up_eq _ _ _ | refine (on_up_ne (by omega)).trans ?_)
    · rfl
    refine on_goto (tgt := 16) rfl rfl ?_
    refine on_istore (pc' := 18) rfl rfl (by decide) ?_
    first | refine on_aload_n (pc' := 19) rfl rfl rfl rfl ?_ | refine on_aload_nQ (pc' := 19) rfl rfl rfl rfl ?_
    first | apply on_get (pc' := 22) rfl rfl fl_Outbox_13 | apply on_getN (pc' := 22) rfl rfl fl_Outbox_13
    · repeat (first | assumption | exact on_up_eq _ _ _ | refine (on_up_ne (by omega)).trans ?_)
    · rfl
    refine on_iload (pc' := 24) rfl rfl rfl ?_
    apply on_aaloadA (pc' := 25) (k := n) rfl rfl
    · repeat (first | assumption | exact on_up_eq _ _ _ | refine (on_up_ne (by omega)).trans ?_)
    · rfl
    · rfl
    · exact n4
    show on_E G M_Outbox_addCell 25 _ [.ref (u + 2 + n)] _ _ _ _ _
    first | refine on_astore (pc' := 27) rfl rfl (by decide) ?_ | refine on_astoreQ (pc' := 27) rfl rfl (by decide) ?_
    first | refine on_aload (pc' := 29) rfl rfl rfl ?_ | refine on_aloadQ (pc' := 29) rfl rfl rfl ?_
    refine on_iconst (pc' := 30) (v := 0) rfl rfl li_0 ?_
    refine on_iload_n (pc' := 31) rfl rfl rfl rfl ?_
    refine on_bipush (pc' := 33) (v := 24) rfl rfl lb_24 ?_
    refine on_iushr (pc' := 34) rfl rfl ?_
    rw [d0]
    apply on_iastoreK (pc' := 35) (t := 0) rfl rfl
    · repeat (first | assumption | exact on_up_eq _ _ _ | refine (on_up_ne (by omega)).trans ?_)
    · rfl
    · first | assumption | exact on_lit _ | rfl
    · first | assumption | omega | decide
    first | refine on_aload (pc' := 37) rfl rfl rfl ?_ | refine on_aloadQ (pc' := 37) rfl rfl rfl ?_
    refine on_iconst (pc' := 38) (v := 1) rfl rfl li_1 ?_
    refine on_iload_n (pc' := 39) rfl rfl rfl rfl ?_
    refine on_bipush (pc' := 41) (v := 16) rfl rfl lb_16 ?_
    refine on_iushr (pc' := 42) rfl rfl ?_
    refine on_sipush (pc' := 45) (v := 255) rfl rfl ls_255 ?_
    refine on_iand (pc' := 46) rfl rfl ?_
    rw [d1]
    apply on_iastoreK (pc' := 47) (t := 0) rfl rfl
    · repeat (first | assumption | exact on_up_eq _ _ _ | refine (on_up_ne (by omega)).trans ?_)
    · rfl
    · first | assumption | exact on_lit _ | rfl
    · first | assumption | omega | decide
    first | refine on_aload (pc' := 49) rfl rfl rfl ?_ | refine on_aloadQ (pc' := 49) rfl rfl rfl ?_
    refine on_iconst (pc' := 50) (v := 2) rfl rfl li_2 ?_
    refine on_iload_n (pc' := 51) rfl rfl rfl rfl ?_
    refine on_bipush (pc' := 53) (v := 8) rfl rfl lb_8 ?_
    refine on_iushr (pc' := 54) rfl rfl ?_
    refine on_sipush (pc' := 57) (v := 255) rfl rfl ls_255 ?_
    refine on_iand (pc' := 58) rfl rfl ?_
    rw [d2]
    apply on_iastoreK (pc' := 59) (t := 0) rfl rfl
    · repeat (first | assumption | exact on_up_eq _ _ _ | refine (on_up_ne (by omega)).trans ?_)
    · rfl
    · first | assumption | exact on_lit _ | rfl
    · first | assumption | omega | decide
    first | refine on_aload (pc' := 61) rfl rfl rfl ?_ | refine on_aloadQ (pc' := 61) rfl rfl rfl ?_
    refine on_iconst (pc' := 62) (v := 3) rfl rfl li_3 ?_
    refine on_iload_n (pc' := 63) rfl rfl rfl rfl ?_
    refine on_sipush (pc' := 66) (v := 255) rfl rfl ls_255 ?_
    refine on_iand (pc' := 67) rfl rfl ?_
    rw [d3]
    apply on_iastoreK (pc' := 68) (t := 0) rfl rfl
    · repeat (first | assumption | exact on_up_eq _ _ _ | refine (on_up_ne (by omega)).trans ?_)
    · rfl
    · first | assumption | exact on_lit _ | rfl
    · first | assumption | omega | decide
    first | refine on_aload (pc' := 70) rfl rfl rfl ?_ | refine on_aloadQ (pc' := 70) rfl rfl rfl ?_
    refine on_iconst (pc' := 71) (v := 4) rfl rfl li_4 ?_
    refine on_iload_n (pc' := 72) rfl rfl rfl rfl ?_
    apply on_iastoreK (pc' := 73) (t := 0) rfl rfl
    · repeat (first | assumption | exact on_up_eq _ _ _ | refine (on_up_ne (by omega)).trans ?_)
    · rfl
    · first | assumption | exact on_lit _ | rfl
    · first | assumption | omega | decide
    first | refine on_aload_n (pc' := 74) rfl rfl rfl rfl ?_ | refine on_aload_nQ (pc' := 74) rfl rfl rfl rfl ?_
    first | apply on_get (pc' := 77) rfl rfl fl_Outbox_16 | apply on_getN (pc' := 77) rfl rfl fl_Outbox_16
    · repeat (first | assumption | exact on_up_eq _ _ _ | refine (on_up_ne (by omega)).trans ?_)
    · rfl
    refine on_iload (pc' := 79) rfl rfl rfl ?_
    refine on_iload_n (pc' := 80) rfl rfl rfl rfl ?_
    apply on_iastoreK (pc' := 81) (t := 0) rfl rfl
    · repeat (first | assumption | exact on_up_eq _ _ _ | refine (on_up_ne (by omega)).trans ?_)
    · rfl
    · first | assumption | exact on_lit _ | rfl
    · first | assumption | omega | decide
    first | refine on_aload_n (pc' := 82) rfl rfl rfl rfl ?_ | refine on_aload_nQ (pc' := 82) rfl rfl rfl rfl ?_
    refine on_iload (pc' := 84) rfl rfl rfl ?_
    refine on_iconst (pc' := 85) (v := 1) rfl rfl li_1 ?_
    refine on_iadd (pc' := 86) rfl rfl ?_
    rw [e1]
    first | apply on_put (pc' := 89) rfl rfl fp_Outbox_28 | apply on_putN (pc' := 89) rfl rfl fp_Outbox_28
    · repeat (first | assumption | exact on_up_eq _ _ _ | refine (on_up_ne (by omega)).trans ?_)
    · first | rfl | assumption
    · first | rfl | assumption
    · exact Nat.le_of_ble_eq_true rfl
    first | refine on_aload (pc' := 91) rfl rfl rfl ?_ | refine on_aloadQ (pc' := 91) rfl rfl rfl ?_
    first | refine on_areturn (r := some _) (M := M_Outbox_addCell) (pc := 91) (rt := (Jvm.ClassFile.FieldType.array Jvm.ClassFile.FieldType.int)) rfl rfl (Or.inr ⟨_, rfl⟩) ?_ | refine on_areturn (r := none) (M := M_Outbox_addCell) (pc := 91) (rt := (Jvm.ClassFile.FieldType.array Jvm.ClassFile.FieldType.int)) rfl rfl (Or.inr ⟨_, rfl⟩) ?_ | refine on_areturn (M := M_Outbox_addCell) (pc := 91) (rt := (Jvm.ClassFile.FieldType.array Jvm.ClassFile.FieldType.int)) rfl rfl (Or.inr ⟨_, rfl⟩) ?_
    simp only [on_up_up]
    refine ⟨by rfl, by trivial, ⟨on_up_eq _ _ _, ?_, fun i hi => ?_, ⟨upd T n (nI node), ?_, fun i hi => ?_⟩, ⟨P, ?_, fun i hi => ?_⟩⟩, fun a ha => ?_⟩
    · rw [on_up_ne (by omega), on_up_ne (by omega), on_up_ne (by omega)]; exact k2
    · by_cases e : i = n
      · subst e
        rw [if_pos (by omega), fu_s]
        refine ⟨_, (on_up_ne (by omega)).trans ((on_up_ne (by omega)).trans (on_up_eq _ _ _)), fun j hj => ⟨?_, ce_h hc _ j hj⟩⟩
        unfold ce_k
        by_cases j4 : j = 4
        · subst j4; rw [pk_us]; rfl
        rw [pk_un j4]
        by_cases j3 : j = 3
        · subst j3; rw [pk_us]; rfl
        rw [pk_un j3]
        by_cases j2 : j = 2
        · subst j2; rw [pk_us]; rfl
        rw [pk_un j2]
        by_cases j1 : j = 1
        · subst j1; rw [pk_us]; rfl
        rw [pk_un j1]
        by_cases j0 : j = 0
        · subst j0; rw [pk_us]; rfl
        rw [pk_un j0, (k6' j hj).1, if_neg (by omega), if_neg j4, if_neg (by omega)]
      · refine rB.keep (h := h) ?_ ((on_up_ne (by omega)).trans ((on_up_ne (by omega)).trans (on_up_ne (by omega))))
        have := k3 i hi
        rw [fu_n e]
        by_cases e2 : i < n
        · rw [if_pos e2] at this; rw [if_pos (by omega)]; exact this
        · rw [if_neg e2] at this; rw [if_neg (by omega)]; exact this
    · rw [on_up_ne (by omega), on_up_eq]
    · by_cases e : i = n
      · subst e; rw [pk_us, fu_s]
      · rw [pk_un e, fu_n e]; exact k4' i (by omega)
    · rw [on_up_ne (by omega), on_up_ne (by omega), on_up_ne (by omega)]; exact k5
    · rw [k5' i hi]
      by_cases e : i = n
      · subst e
        rw [if_neg (fun z => by omega), if_neg (fun z => by rw [fu_s] at z; exact absurd z.2 (by decide))]
      · rw [fu_n e]
        by_cases e2 : i < n ∧ pl i = true
        · rw [if_pos e2, if_pos ⟨by omega, e2.2⟩]
        · rw [if_neg e2, if_neg (fun z => e2 ⟨by omega, z.2⟩)]
    · rw [on_up_ne (by omega), on_up_ne (by omega), on_up_ne (by omega)]
/-- a plain cell -/
def pl_c (num : Int32) (cmd s n : Nat) (d : Nat → Nat) : aB := fun i => if i < 5 then ce_k num 3 (fun _ => 0) 0 i else mk_c cmd s n d i
theorem pl_lt {num : Int32} {cmd s n : Nat} {d : Nat → Nat} (h1 : cmd < 256) (h2 : s < 65536) (h3 : n ≤ 124) (hd : ∀ i, i < n → d i < 256) : ∀ i, i < 140 → pl_c num cmd s n d i < 256 := fun i hi => by
  unfold pl_c
  split
  · exact ce_h (by decide) _ i hi
  · exact mk_c_lt h1 h2 h3 hd i
/-- a cell passed on -/
theorem ce_pa {num : Int32} {x : aB} : ∀ i, i < 140 → ce_k num 3 (fun j => x (5 + j)) 135 i = if i < 5 then ce_k num 3 (fun _ => 0) 0 i else x i := fun i hi => by
  unfold ce_k
  by_cases e : i < 5
  · rw [if_pos e]
    by_cases e2 : i < 4
    · rw [if_pos e2, if_pos e2]
    · rw [if_neg e2, if_neg e2, if_pos (by omega), if_pos (by omega)]
  · rw [if_neg e, if_neg (by omega), if_neg (by omega), if_pos (by omega)]
    show x (5 + (i - 5)) = x i
    rw [show 5 + (i - 5) = i by omega]
set_option maxHeartbeats 8000000 in
/-- pass -/
theorem c_pass {node q : Nat} {num : Int32} {x : aB} (K : ob_S u n c to pl h) (hn : n < 4) (hq : rB h q 140 x) (hqo : q < u ∨ u + 8 ≤ q) :
    on_Ct G M_Outbox_pass [.ref u, .int (nI node), .int num, .ref q] h sz 0 0 (fun r h1 z => r = none ∧ z = sz ∧ ob_S u (n + 1) (fu c n (ce_k num 3 (fun j => x (5 + j)) 135)) (fu to n node) (fu pl n false) h1 ∧ ∀ a, (a < u ∨ u + 8 ≤ a) → h1 a = h a) := by
  refine on_Ct.of (by decide) v_Outbox_pass (Nat.le_of_ble_eq_true rfl) ?_
  first | refine on_aload_n (pc' := 1) rfl rfl rfl rfl ?_ | refine on_aload_nQ (pc' := 1) rfl rfl rfl rfl ?_
  refine on_iload_n (pc' := 2) rfl rfl rfl rfl ?_
  refine on_iload_n (pc' := 3) rfl rfl rfl rfl ?_
  refine on_iconst (pc' := 4) (v := 3) rfl rfl li_3 ?_
  refine on_callV (pc' := 7) (As := [.int (nI node), .int num, .int (nI 3)]) (rest := []) (b := u) rfl rfl cw_Outbox_pass_38 K.1 rfl rfl (by decide) (Nat.zero_le _) (Nat.zero_le _) (c_addCell K hn (by decide)) ?_
  rintro r h1 sz ⟨rfl, rfl, K1, t1⟩
  obtain ⟨X, q1, X'⟩ := hq.keep (h2 := h1) (t1 q hqo)
  obtain ⟨F, f1, F'⟩ := rB.ite (K1.2.2.1 n hn) (Nat.lt_succ_self n)
  rw [fu_s] at F'
  first | refine on_astore (pc' := 9) rfl rfl (by decide) ?_ | refine on_astoreQ (pc' := 9) rfl rfl (by decide) ?_
  first | refine on_aload_n (pc' := 10) rfl rfl rfl rfl ?_ | refine on_aload_nQ (pc' := 10) rfl rfl rfl rfl ?_
  refine on_iconst (pc' := 11) (v := 5) rfl rfl li_5 ?_
  first | refine on_aload (pc' := 13) rfl rfl rfl ?_ | refine on_aloadQ (pc' := 13) rfl rfl rfl ?_
  refine on_iconst (pc' := 14) (v := 5) rfl rfl li_5 ?_
  refine on_sipush (pc' := 17) (v := 135) rfl rfl ls_135 ?_
  apply on_acopy (pc' := 20) (i0 := 5) (j0 := 5) (k0 := 135) rfl rfl jm_Outbox_42 (Nat.le_of_ble_eq_true rfl) (Nat.le_of_ble_eq_true rfl)
  · repeat (first | assumption | exact on_up_eq _ _ _ | refine (on_up_ne (by omega)).trans ?_)
  · repeat (first | assumption | exact on_up_eq _ _ _ | refine (on_up_ne (by omega)).trans ?_)
  · first | assumption | exact on_lit _ | rfl
  · first | assumption | exact on_lit _ | rfl
  · first | assumption | exact on_lit _ | rfl
  · first | assumption | omega | decide
  · first | assumption | omega | decide
  refine on_vreturn rfl rfl ?_
  refine ⟨rfl, rfl, ?_, fun a ha => (on_up_ne (by omega)).trans (t1 a ha)⟩
  have := K1.row (k := n) (y := ce_k num 3 (fun j => x (5 + j)) 135) (h2 := on_up h1 (u + 2 + n) (on_ai 0 140 (va_cpy X F 5 5 135))) (Nat.lt_succ_self n) (by omega) ⟨_, on_up_eq _ _ _, fun i hi => ?_⟩ (fun a h1 h2 h3 => on_up_ne h3)
  · rw [show fu (fu c n (ce_k num 3 (fun _ => 0) 0)) n (ce_k num 3 (fun j => x (5 + j)) 135) = fu c n (ce_k num 3 (fun j => x (5 + j)) 135) from funext fun j => by
      by_cases e : j = n
      · subst e; rw [fu_s, fu_s]
      · rw [fu_n e, fu_n e, fu_n e]] at this
    exact this
  · rw [ce_pa i hi]
    by_cases e : i < 5
    · rw [if_pos e, pk_cpy_out (show i < 5 ∨ 5 + 135 ≤ i by omega)]
      exact F' i hi
    · rw [if_neg e, pk_cpy_in (show 5 ≤ i by omega) (show i < 5 + 135 by omega), show 5 + (i - 5) = i by omega]
      exact X' i hi
set_option maxHeartbeats 8000000 in
/-- addPlain -/
theorem c_addPlain {node cmd s len : Nat} {num : Int32} (K : ob_S u n c to pl h) (hn : n < 4) (hc : cmd < 256) (hs : s < 65536) (hl : len ≤ 124) :
    on_Ct G M_Outbox_addPlain [.ref u, .int (nI node), .int num, .int (nI cmd), .int (nI s), .int (nI len)] h sz 0 0 (fun r h1 z => r = some (.ref (u + 2 + n)) ∧ z = sz ∧ ob_S u (n + 1) (fu c n (pl_c num cmd s len (fun _ => 0))) (fu to n node) (fu pl n true) h1 ∧ ∀ a, (a < u ∨ u + 8 ≤ a) → h1 a = h a) := by
  refine on_Ct.of (by decide) v_Outbox_addPlain (Nat.le_of_ble_eq_true rfl) ?_
  first | refine on_aload_n (pc' := 1) rfl rfl rfl rfl ?_ | refine on_aload_nQ (pc' := 1) rfl rfl rfl rfl ?_
  refine on_iload_n (pc' := 2) rfl rfl rfl rfl ?_
  refine on_iload_n (pc' := 3) rfl rfl rfl rfl ?_
  refine on_iconst (pc' := 4) (v := 3) rfl rfl li_3 ?_
  refine on_callV (pc' := 7) (As := [.int (nI node), .int num, .int (nI 3)]) (rest := []) (b := u) rfl rfl cw_Outbox_addPlain_38 K.1 rfl rfl (by decide) (Nat.zero_le _) (Nat.zero_le _) (c_addCell K hn (by decide)) ?_
  rintro r h1 sz ⟨rfl, rfl, K1, t1⟩
  obtain ⟨F, f1, F'⟩ := rB.ite (K1.2.2.1 n hn) (Nat.lt_succ_self n)
  rw [fu_s] at F'
  obtain ⟨o1, -, -, -, ⟨P, p1, P'⟩⟩ := id K1
  have e1 : sh_u (nI s) 8 &&& 255 = nI (s / 256) := by
    rw [by_ml (by omega)]
    exact congrArg nI (by omega)
  have e2 : nI s &&& 255 = nI (s % 256) := by_lo (by omega)
  have e3 : sh_u (nI len) 8 &&& 255 = nI (len / 256) := by
    rw [by_ml (by omega)]
    exact congrArg nI (by omega)
  have e4 : nI len &&& 255 = nI (len % 256) := by_lo (by omega)
  have e5 : nI (n + 1) - 1 = nI n := by rw [show (1 : Int32) = nI 1 from rfl, pk_sub (by omega)]; rfl
  have n4 : n < 4 ∧ 4 < 2 ^ 31 := by omega
  first | refine on_astore (pc' := 9) rfl rfl (by decide) ?_ | refine on_astoreQ (pc' := 9) rfl rfl (by decide) ?_
  first | refine on_aload (pc' := 11) rfl rfl rfl ?_ | refine on_aloadQ (pc' := 11) rfl rfl rfl ?_
  refine on_iconst (pc' := 12) (v := 5) rfl rfl li_5 ?_
  refine on_iload_n (pc' := 13) rfl rfl rfl rfl ?_
  apply on_iastoreK (pc' := 14) (t := 0) rfl rfl
  · repeat (first | assumption | exact on_up_eq _ _ _ | refine (on_up_ne (by omega)).trans ?_)
  · rfl
  · first | assumption | exact on_lit _ | rfl
  · first | assumption | omega | decide
  first | refine on_aload (pc' := 16) rfl rfl rfl ?_ | refine on_aloadQ (pc' := 16) rfl rfl rfl ?_
  refine on_bipush (pc' := 18) (v := 8) rfl rfl lb_8 ?_
  refine on_iload (pc' := 20) rfl rfl rfl ?_
  refine on_callS (pc' := 23) (As := [.ref (u + 2 + n), .int (nI 8), .int (nI s)]) (rest := []) rfl rfl cw_Outbox_addPlain_48 rfl rfl (by decide) (Nat.zero_le _) (Nat.zero_le _) (c_setPair (on_up_eq _ _ _) (by decide)) ?_
  rintro r h2 sz ⟨rfl, rfl, rfl⟩
  rw [on_up_up, e1, e2]
  first | refine on_aload (pc' := 25) rfl rfl rfl ?_ | refine on_aloadQ (pc' := 25) rfl rfl rfl ?_
  refine on_bipush (pc' := 27) (v := 14) rfl rfl lb_14 ?_
  refine on_iload (pc' := 29) rfl rfl rfl ?_
  refine on_callS (pc' := 32) (As := [.ref (u + 2 + n), .int (nI 14), .int (nI len)]) (rest := []) rfl rfl cw_Outbox_addPlain_48 rfl rfl (by decide) (Nat.zero_le _) (Nat.zero_le _) (c_setPair (on_up_eq _ _ _) (by decide)) ?_
  rintro r h2 sz ⟨rfl, rfl, rfl⟩
  rw [on_up_up, e3, e4]
  first | refine on_aload_n (pc' := 33) rfl rfl rfl rfl ?_ | refine on_aload_nQ (pc' := 33) rfl rfl rfl rfl ?_
  first | apply on_get (pc' := 36) rfl rfl fl_Outbox_20 | apply on_getN (pc' := 36) rfl rfl fl_Outbox_20
  · repeat (first | assumption | exact on_up_eq _ _ _ | refine (on_up_ne (by omega)).trans ?_)
  · rfl
  first | refine on_aload_n (pc' := 37) rfl rfl rfl rfl ?_ | refine on_aload_nQ (pc' := 37) rfl rfl rfl rfl ?_
  first | apply on_get (pc' := 40) rfl rfl fl_Outbox_28 | apply on_getN (pc' := 40) rfl rfl fl_Outbox_28
  · repeat (first | assumption | exact on_up_eq _ _ _ | refine (on_up_ne (by omega)).trans ?_)
  · rfl
  refine on_iconst (pc' := 41) (v := 1) rfl rfl li_1 ?_
  refine on_isub (pc' := 42) rfl rfl ?_
  rw [e5]
  refine on_iconst (pc' := 43) (v := 1) rfl rfl li_1 ?_
  apply on_zastoreK (pc' := 44) (t := 2) rfl rfl
  · repeat (first | assumption | exact on_up_eq _ _ _ | refine (on_up_ne (by omega)).trans ?_)
  · rfl
  · first | assumption | exact on_lit _ | rfl
  · first | assumption | omega | decide
  · first | rfl | assumption
  first | refine on_aload (pc' := 46) rfl rfl rfl ?_ | refine on_aloadQ (pc' := 46) rfl rfl rfl ?_
  first | refine on_areturn (r := some _) (M := M_Outbox_addPlain) (pc := 46) (rt := (Jvm.ClassFile.FieldType.array Jvm.ClassFile.FieldType.int)) rfl rfl (Or.inr ⟨_, rfl⟩) ?_ | refine on_areturn (r := none) (M := M_Outbox_addPlain) (pc := 46) (rt := (Jvm.ClassFile.FieldType.array Jvm.ClassFile.FieldType.int)) rfl rfl (Or.inr ⟨_, rfl⟩) ?_ | refine on_areturn (M := M_Outbox_addPlain) (pc := 46) (rt := (Jvm.ClassFile.FieldType.array Jvm.ClassFile.FieldType.int)) rfl rfl (Or.inr ⟨_, rfl⟩) ?_
  refine ⟨rfl, rfl, ?_, fun a ha => (on_up_ne (by omega)).trans ((on_up_ne (by omega)).trans (t1 a ha))⟩
  have K2 := K1.row (k := n) (y := pl_c num cmd s len (fun _ => 0)) (h2 := on_up h1 (u + 2 + n) (on_ai 0 140 (upd (upd (upd (upd (upd F 5 (nI cmd)) 8 (nI (s / 256))) (8 + 1) (nI (s % 256))) 14 (nI (len / 256))) (14 + 1) (nI (len % 256))))) (Nat.lt_succ_self n) (by omega) ⟨_, on_up_eq _ _ _, fun i hi => ⟨?_, pl_lt hc hs hl (fun _ _ => by decide) i hi⟩⟩ (fun a h1 h2 h3 => on_up_ne h3)
  · rw [show fu (fu c n (ce_k num 3 (fun _ => 0) 0)) n (pl_c num cmd s len (fun _ => 0)) = fu c n (pl_c num cmd s len (fun _ => 0)) from funext fun j => by
      by_cases e : j = n
      · subst e; rw [fu_s, fu_s]
      · rw [fu_n e, fu_n e, fu_n e]] at K2
    obtain ⟨g1, g2, g3, ⟨T, g4, g4'⟩, -⟩ := K2
    refine ⟨(on_up_ne (by omega)).trans g1, (on_up_ne (by omega)).trans g2, fun i hi => (g3 i hi).keep (on_up_ne (by omega)), ⟨T, (on_up_ne (by omega)).trans g4, g4'⟩, ⟨_, on_up_eq _ _ _, fun i hi => ?_⟩⟩
    by_cases e : i = n
    · subst e
      rw [pk_us, fu_s, if_pos ⟨Nat.lt_succ_self i, rfl⟩]
    · rw [pk_un e, fu_n e, P' i hi, fu_n e]
  · unfold pl_c mk_c
    by_cases i15 : i = 14 + 1
    · subst i15; rw [pk_us]; rfl
    rw [pk_un i15]
    by_cases i14 : i = 14
    · subst i14; rw [pk_us]; rfl
    rw [pk_un i14]
    by_cases i9 : i = 8 + 1
    · subst i9; rw [pk_us]; rfl
    rw [pk_un i9]
    by_cases i8 : i = 8
    · subst i8; rw [pk_us]; rfl
    rw [pk_un i8]
    by_cases i5 : i = 5
    · subst i5; rw [pk_us]; rfl
    rw [pk_un i5, (F' i hi).1]
    by_cases e : i < 5
    · rw [if_pos e]
    · rw [if_neg e, if_neg i5, if_neg i8, if_neg i9, if_neg i14, if_neg i15]
      unfold ce_k
      rw [if_neg (by omega), if_neg (by omega), if_neg (by omega)]
      split <;> rfl
/-- a direction signs and covers a cell -/
def sg_c (l : aL) (x : aB) : aB := fun i => if 5 ≤ i then rc_s l.ms x i ^^^ cc_ks l.K (l.pos + (i - 5)) else rc_s l.ms x i
def sg_l (l : aL) (x : aB) : aL := (l.ms ++ sp_sl x 5 135, l.K, l.pos + 135)
/-- the plain ones among the first i cells are sealed -/
def sq (l : aL) (c : Nat → aB) (pl : Nat → Bool) : Nat → aL × (Nat → aB)
  | 0 => (l, c)
  | i + 1 => if pl i = true then (sg_l (sq l c pl i).1 ((sq l c pl i).2 i), fu (sq l c pl i).2 i (sg_c (sq l c pl i).1 ((sq l c pl i).2 i))) else sq l c pl i
theorem sq_len (l : aL) (c : Nat → aB) (pl : Nat → Bool) : ∀ i, (sq l c pl i).1.ms.length ≤ l.ms.length + 135 * i
  | 0 => Nat.le_refl _
  | i + 1 => by
    have := sq_len l c pl i
    show (if pl i = true then _ else _ : aL × (Nat → aB)).1.ms.length ≤ _
    split
    · show ((sq l c pl i).1.ms ++ sp_sl _ 5 135).length ≤ _
      rw [List.length_append, sp_sl_len]
      omega
    · omega
theorem rc_s_lt {ms : List Nat} {x : aB} (hx : ∀ i, i < 140 → x i < 256) : ∀ i, i < 140 → rc_s ms x i < 256 := fun i hi => by
  unfold rc_s
  split
  · exact sp_d_lt _ _
  · exact hx i hi
theorem ln_by {f : Nat → Int32} {x : aB} {K : Nat → Nat} {pos : Nat} (hx : on_by f x 140) : on_by (ln_x f K pos 135) (fun i => if 5 ≤ i then x i ^^^ cc_ks K (pos + (i - 5)) else x i) 140 := fun i hi => by
  dsimp only
  unfold ln_x
  by_cases e : 5 ≤ i
  · rw [if_pos ⟨e, by omega⟩, if_pos e, (hx i hi).1, nI_xor]
    exact ⟨rfl, xor_lt8 (hx i hi).2 (cc_ks_lt _ _)⟩
  · rw [if_neg (fun z => e z.1), if_neg e]
    exact hx i hi
set_option maxHeartbeats 8000000 in
theorem sea_l {b tr : Nat} {l : aL} (hn : n ≤ 4) (hb : b + 8 ≤ u ∨ u + 8 ≤ b) (ht : tr + 3 ≤ u ∨ u + 8 ≤ tr) (hbt : tr + 3 ≤ b ∨ b + 8 ≤ tr) (hL : l.ms.length + 135 * 4 < 2 ^ 28)
    (k : ∀ h2, ob_S u n (sq l c pl n).2 to pl h2 → la_S b tr (sq l c pl n).1.ms (sq l c pl n).1.K (sq l c pl n).1.pos h2 → sh_W tr h2 → (∀ a, (a < u ∨ u + 8 ≤ a) → (a < b ∨ b + 8 ≤ a) → (a < tr ∨ tr + 3 ≤ a) → h2 a = h a) → on_E G M_Outbox_sealAll 45 (on_l []) [] h2 sz bc bs Q) :
    ∀ (m i : Nat) (h1 : on_H), i + m = n → ob_S u n (sq l c pl i).2 to pl h1 → la_S b tr (sq l c pl i).1.ms (sq l c pl i).1.K (sq l c pl i).1.pos h1 → sh_W tr h1 → (∀ a, (a < u ∨ u + 8 ≤ a) → (a < b ∨ b + 8 ≤ a) → (a < tr ∨ tr + 3 ≤ a) → h1 a = h a) → on_E G M_Outbox_sealAll 2 (on_l [(0, .ref u), (1, .ref b), (2, .int (nI i))]) [] h1 sz bc bs Q := by
  intro m
  induction m with
  | zero =>
    intro i h1 hi hO hS hT hs
    obtain rfl : i = n := by omega
    have o1 := hO.1
    refine on_iload_n (pc' := 3) rfl rfl rfl rfl ?_
    first | refine on_aload_n (pc' := 4) rfl rfl rfl rfl ?_ | refine on_aload_nQ (pc' := 4) rfl rfl rfl rfl ?_
    first | apply on_get (pc' := 7) rfl rfl fl_Outbox_28 | apply on_getN (pc' := 7) rfl rfl fl_Outbox_28
    · repeat (first | assumption | exact on_up_eq _ _ _ | refine (on_up_ne (by omega)).trans ?_)
    · rfl
    refine on_icmp_ge (pc' := 10) (tgt := 45) rfl rfl rfl (fun cq => ?_) (fun cq => ?_)
    · exact on_relv (l := []) trivial (k h1 hO hS hT hs)
    · exact absurd (nI_le (a := i) (by omega) (by omega)) cq
  | succ m ih =>
    intro i h1 hi hO hS hT hs
    obtain ⟨o1, o2, o3, -, ⟨P, p1, P'⟩⟩ := id hO
    have i4 : i < 4 ∧ 4 < 2 ^ 31 := by omega
    have hin : i < n := by omega
    refine on_iload_n (pc' := 3) rfl rfl rfl rfl ?_
    first | refine on_aload_n (pc' := 4) rfl rfl rfl rfl ?_ | refine on_aload_nQ (pc' := 4) rfl rfl rfl rfl ?_
    first | apply on_get (pc' := 7) rfl rfl fl_Outbox_28 | apply on_getN (pc' := 7) rfl rfl fl_Outbox_28
    · repeat (first | assumption | exact on_up_eq _ _ _ | refine (on_up_ne (by omega)).trans ?_)
    · rfl
    refine on_icmp_ge (pc' := 10) (tgt := 45) rfl rfl rfl (fun cq => ?_) (fun cq => ?_)
    · exact absurd cq (nI_ge (b := n) (by omega) (by omega))
    · first | refine on_aload_n (pc' := 11) rfl rfl rfl rfl ?_ | refine on_aload_nQ (pc' := 11) rfl rfl rfl rfl ?_
      first | apply on_get (pc' := 14) rfl rfl fl_Outbox_20 | apply on_getN (pc' := 14) rfl rfl fl_Outbox_20
      · repeat (first | assumption | exact on_up_eq _ _ _ | refine (on_up_ne (by omega)).trans ?_)
      · rfl
      refine on_iload_n (pc' := 15) rfl rfl rfl rfl ?_
      apply on_zaloadK (pc' := 16) (t := 2) rfl rfl
      · repeat (first | assumption | exact on_up_eq _ _ _ | refine (on_up_ne (by omega)).trans ?_)
      · rfl
      · first | assumption | exact on_lit _ | rfl
      · first | assumption | omega | decide
      rw [P' i i4.1]
      refine on_if_eq (pc' := 19) (tgt := 39) rfl rfl rfl (fun cq => ?_) (fun cq => ?_)
      · have hf : ¬ pl i = true := fun e => by rw [if_pos ⟨hin, e⟩] at cq; exact absurd cq (by decide)
        have es : sq l c pl (i + 1) = sq l c pl i := if_neg hf
        refine on_iinc1 (pc' := 42) rfl rfl rfl ?_
        refine on_goto (tgt := 2) rfl rfl ?_
        refine on_relv (l := [(0, .ref u), (1, .ref b), (2, .int (nI (i + 1)))]) ⟨rfl, rfl, congrArg some (congrArg Value.int (nI_1 i)), trivial⟩ (ih (i + 1) h1 (by omega) (by rw [es]; exact hO) (by rw [es]; exact hS) hT hs)
      · have hf : pl i = true := by
          cases e : pl i with
          | true => rfl
          | false => rw [if_neg (fun z => by rw [e] at z; exact absurd z.2 (by decide))] at cq; exact absurd rfl cq
        have es : sq l c pl (i + 1) = (sg_l (sq l c pl i).1 ((sq l c pl i).2 i), fu (sq l c pl i).2 i (sg_c (sq l c pl i).1 ((sq l c pl i).2 i))) := if_pos hf
        have hlen := sq_len l c pl i
        generalize sq l c pl i = L at *
        obtain ⟨F, f1, F'⟩ := rB.ite (o3 i i4.1) hin
        obtain ⟨⟨due, inp, mix, blk, use, LB⟩, -⟩ := hS.w
        first | refine on_aload_n (pc' := 20) rfl rfl rfl rfl ?_ | refine on_aload_nQ (pc' := 20) rfl rfl rfl rfl ?_
        first | refine on_aload_n (pc' := 21) rfl rfl rfl rfl ?_ | refine on_aload_nQ (pc' := 21) rfl rfl rfl rfl ?_
        first | apply on_get (pc' := 24) rfl rfl fl_Outbox_13 | apply on_getN (pc' := 24) rfl rfl fl_Outbox_13
        · repeat (first | assumption | exact on_up_eq _ _ _ | refine (on_up_ne (by omega)).trans ?_)
        · rfl
        refine on_iload_n (pc' := 25) rfl rfl rfl rfl ?_
        apply on_aaloadA (pc' := 26) (k := i) rfl rfl
        · repeat (first | assumption | exact on_up_eq _ _ _ | refine (on_up_ne (by omega)).trans ?_)
        · rfl
        · rfl
        · exact i4
        show on_E G M_Outbox_sealAll 26 _ [.ref (u + 2 + i), .ref b] _ _ _ _ _
        refine on_callV (pc' := 29) (As := [.ref (u + 2 + i)]) (rest := []) (b := b) rfl rfl cw_Outbox_sealAll_52 LB.1 rfl rfl (by decide) (Nat.zero_le _) (Nat.zero_le _) (c_Lane_sign hS hT (by omega) (by omega) f1 (by omega) (by omega) F') ?_
        rintro r h2 sz ⟨rfl, rfl, S2, T2, R2, t2⟩
        have O2 := hO.row (k := i) (h2 := h2) hin hn R2 (fun a h1 h2 h3 => t2 a h3 (by omega) (by omega))
        obtain ⟨F2, f2, F2'⟩ := R2
        obtain ⟨p1', p2', -, -, -⟩ := id O2
        obtain ⟨⟨due2, inp2, mix2, blk2, use2, LB2⟩, -⟩ := S2.w
        first | refine on_aload_n (pc' := 30) rfl rfl rfl rfl ?_ | refine on_aload_nQ (pc' := 30) rfl rfl rfl rfl ?_
        first | refine on_aload_n (pc' := 31) rfl rfl rfl rfl ?_ | refine on_aload_nQ (pc' := 31) rfl rfl rfl rfl ?_
        first | apply on_get (pc' := 34) rfl rfl fl_Outbox_13 | apply on_getN (pc' := 34) rfl rfl fl_Outbox_13
        · repeat (first | assumption | exact on_up_eq _ _ _ | refine (on_up_ne (by omega)).trans ?_)
        · rfl
        refine on_iload_n (pc' := 35) rfl rfl rfl rfl ?_
        apply on_aaloadA (pc' := 36) (k := i) rfl rfl
        · repeat (first | assumption | exact on_up_eq _ _ _ | refine (on_up_ne (by omega)).trans ?_)
        · rfl
        · rfl
        · exact i4
        show on_E G M_Outbox_sealAll 36 _ [.ref (u + 2 + i), .ref b] _ _ _ _ _
        refine on_callV (pc' := 39) (As := [.ref (u + 2 + i)]) (rest := []) (b := b) rfl rfl cw_Outbox_sealAll_58 LB2.1 rfl rfl (by decide) (Nat.zero_le _) (Nat.zero_le _) (c_Lane_lay S2.2 f2 (by omega)) ?_
        rintro r h3 sz ⟨rfl, rfl, S3, f3, t3⟩
        have X3 : sh_X (b + 1) (L.1.ms ++ sp_sl (L.2 i) 5 135) h3 := S2.1.keep (fun a h1 h2 => t3 a (by omega) (by unfold ln_off; omega))
        have T3 := T2.keep (h2 := h3) (fun a h1 h2 => t3 a (by omega) (by unfold ln_off; omega))
        have O3 := O2.row (k := i) (h2 := h3) (y := sg_c L.1 (L.2 i)) hin hn ⟨_, f3, ln_by F2'⟩ (fun a h1 h2 h3 => t3 a h3 (by unfold ln_off; omega))
        refine on_iinc1 (pc' := 42) rfl rfl rfl ?_
        refine on_goto (tgt := 2) rfl rfl ?_
        refine on_relv (l := [(0, .ref u), (1, .ref b), (2, .int (nI (i + 1)))]) ⟨rfl, rfl, congrArg some (congrArg Value.int (nI_1 i)), trivial⟩ (ih (i + 1) h3 (by omega) ?_ ?_ T3 (fun a h1 h2 h4 => (t3 a (by omega) (by unfold ln_off; omega)).trans ((t2 a (by omega) (by omega) h4).trans (hs a h1 h2 h4))))
        · rw [es]
          rw [show fu (fu L.2 i (rc_s L.1.ms (L.2 i))) i (sg_c L.1 (L.2 i)) = fu L.2 i (sg_c L.1 (L.2 i)) from funext fun j => by
            by_cases e : j = i
            · subst e; rw [fu_s, fu_s]
            · rw [fu_n e, fu_n e, fu_n e]] at O3
          exact O3
        · rw [es]
          exact ⟨X3, S3⟩
set_option maxHeartbeats 4000000 in
/-- sealAll by one direction -/
theorem c_sealAll {b tr : Nat} {l : aL} (K : ob_S u n c to pl h) (hn : n ≤ 4) (hS : la_S b tr l.ms l.K l.pos h) (hT : sh_W tr h) (hb : b + 8 ≤ u ∨ u + 8 ≤ b) (ht : tr + 3 ≤ u ∨ u + 8 ≤ tr) (hbt : tr + 3 ≤ b ∨ b + 8 ≤ tr) (hL : l.ms.length + 135 * 4 < 2 ^ 28) :
    on_Ct G M_Outbox_sealAll [.ref u, .ref b] h sz 0 0 (fun r h1 z => r = none ∧ z = sz ∧ ob_S u n (sq l c pl n).2 to pl h1 ∧ la_S b tr (sq l c pl n).1.ms (sq l c pl n).1.K (sq l c pl n).1.pos h1 ∧ sh_W tr h1 ∧ ∀ a, (a < u ∨ u + 8 ≤ a) → (a < b ∨ b + 8 ≤ a) → (a < tr ∨ tr + 3 ≤ a) → h1 a = h a) := by
  refine on_Ct.of (by decide) v_Outbox_sealAll (Nat.le_of_ble_eq_true rfl) ?_
  refine on_iconst (pc' := 1) (v := 0) rfl rfl li_0 ?_
  refine on_istore_n (pc' := 2) rfl rfl rfl (by decide) ?_
  refine on_relv (l := [(0, .ref u), (1, .ref b), (2, .int (nI 0))]) ⟨rfl, rfl, rfl, trivial⟩ (sea_l (h := h) (l := l) hn hb ht hbt hL (fun h2 O2 S2 T2 t2 => ?_) n 0 h (by omega) K hS hT (fun _ _ _ _ => rfl))
  refine on_vreturn rfl rfl ?_
  exact ⟨rfl, rfl, O2, S2, T2, t2⟩
set_option maxHeartbeats 4000000 in
theorem emp_l (hn : n ≤ 4)
    (k : ∀ h2, ob_S u n (fun _ _ => 0) to (fun _ => false) h2 → (∀ a, (a < u ∨ u + 8 ≤ a) → h2 a = h a) → on_E G M_Outbox_empty 33 (on_l [(0, .ref u)]) [] h2 sz bc bs Q) :
    ∀ (m i : Nat) (h1 : on_H), i + m = n → ob_S u n (fun j => if j < i then (fun _ => 0) else c j) to (fun j => if j < i then false else pl j) h1 → (∀ a, (a < u ∨ u + 8 ≤ a) → h1 a = h a) → on_E G M_Outbox_empty 2 (on_l [(0, .ref u), (1, .int (nI i))]) [] h1 sz bc bs Q := by
  intro m
  induction m with
  | zero =>
    intro i h1 hi hO hs
    obtain rfl : i = n := by omega
    obtain ⟨o1, o2, o3, o4, ⟨P, p1, P'⟩⟩ := id hO
    refine on_iload_n (pc' := 3) rfl rfl rfl rfl ?_
    first | refine on_aload_n (pc' := 4) rfl rfl rfl rfl ?_ | refine on_aload_nQ (pc' := 4) rfl rfl rfl rfl ?_
    first | apply on_get (pc' := 7) rfl rfl fl_Outbox_28 | apply on_getN (pc' := 7) rfl rfl fl_Outbox_28
    · repeat (first | assumption | exact on_up_eq _ _ _ | refine (on_up_ne (by omega)).trans ?_)
    · rfl
    refine on_icmp_ge (pc' := 10) (tgt := 33) rfl rfl rfl (fun cq => ?_) (fun cq => ?_)
    · refine on_relv (l := [(0, .ref u)]) ⟨rfl, trivial⟩ (k h1 ⟨o1, o2, fun j hj => ?_, o4, ⟨P, p1, fun j hj => ?_⟩⟩ hs)
      · have := o3 j hj
        dsimp only at this ⊢
        by_cases e : j < i
        · rw [if_pos e, if_pos e] at this; rw [if_pos e]; exact this
        · rw [if_neg e] at this; rw [if_neg e]; exact this
      · rw [P' j hj]
        by_cases e : j < i
        · exact if_iff ⟨fun z => ⟨z.1, (if_pos e : (if j < i then false else pl j) = false).symm.trans z.2⟩, fun z => Bool.noConfusion z.2⟩
        · rw [if_neg (fun z => e z.1), if_neg (fun z => e z.1)]
    · exact absurd (nI_le (a := i) (by omega) (by omega)) cq
  | succ m ih =>
    intro i h1 hi hO hs
    obtain ⟨o1, o2, o3, ⟨T, o4, o4'⟩, ⟨P, p1, P'⟩⟩ := id hO
    have i4 : i < 4 ∧ 4 < 2 ^ 31 := by omega
    obtain ⟨F, f1, F'⟩ := o3 i i4.1
    refine on_iload_n (pc' := 3) rfl rfl rfl rfl ?_
    first | refine on_aload_n (pc' := 4) rfl rfl rfl rfl ?_ | refine on_aload_nQ (pc' := 4) rfl rfl rfl rfl ?_
    first | apply on_get (pc' := 7) rfl rfl fl_Outbox_28 | apply on_getN (pc' := 7) rfl rfl fl_Outbox_28
    · repeat (first | assumption | exact on_up_eq _ _ _ | refine (on_up_ne (by omega)).trans ?_)
    · rfl
    refine on_icmp_ge (pc' := 10) (tgt := 33) rfl rfl rfl (fun cq => ?_) (fun cq => ?_)
    · exact absurd cq (nI_ge (b := n) (by omega) (by omega))
    · first | refine on_aload_n (pc' := 11) rfl rfl rfl rfl ?_ | refine on_aload_nQ (pc' := 11) rfl rfl rfl rfl ?_
      first | apply on_get (pc' := 14) rfl rfl fl_Outbox_13 | apply on_getN (pc' := 14) rfl rfl fl_Outbox_13
      · repeat (first | assumption | exact on_up_eq _ _ _ | refine (on_up_ne (by omega)).trans ?_)
      · rfl
      refine on_iload_n (pc' := 15) rfl rfl rfl rfl ?_
      apply on_aaloadA (pc' := 16) (k := i) rfl rfl
      · repeat (first | assumption | exact on_up_eq _ _ _ | refine (on_up_ne (by omega)).trans ?_)
      · rfl
      · rfl
      · exact i4
      show on_E G M_Outbox_empty 16 _ [.ref (u + 2 + i)] _ _ _ _ _
      refine on_iconst (pc' := 17) (v := 0) rfl rfl li_0 ?_
      refine on_callS (pc' := 20) (As := [.ref (u + 2 + i), .int 0]) (rest := []) rfl rfl cw_Outbox_empty_32 rfl rfl (by decide) (Nat.zero_le _) (Nat.zero_le _) (c_fill (by decide) f1) ?_
      rintro r h2 sz ⟨rfl, rfl, rfl⟩
      first | refine on_aload_n (pc' := 21) rfl rfl rfl rfl ?_ | refine on_aload_nQ (pc' := 21) rfl rfl rfl rfl ?_
      first | apply on_get (pc' := 24) rfl rfl fl_Outbox_20 | apply on_getN (pc' := 24) rfl rfl fl_Outbox_20
      · repeat (first | assumption | exact on_up_eq _ _ _ | refine (on_up_ne (by omega)).trans ?_)
      · rfl
      refine on_iload_n (pc' := 25) rfl rfl rfl rfl ?_
      refine on_iconst (pc' := 26) (v := 0) rfl rfl li_0 ?_
      apply on_zastoreK (pc' := 27) (t := 2) rfl rfl
      · repeat (first | assumption | exact on_up_eq _ _ _ | refine (on_up_ne (by omega)).trans ?_)
      · rfl
      · first | assumption | exact on_lit _ | rfl
      · first | assumption | omega | decide
      · first | rfl | assumption
      refine on_iinc1 (pc' := 30) rfl rfl rfl ?_
      refine on_goto (tgt := 2) rfl rfl ?_
      refine on_relv (l := [(0, .ref u), (1, .int (nI (i + 1)))]) ⟨rfl, congrArg some (congrArg Value.int (nI_1 i)), trivial⟩ (ih (i + 1) _ (by omega) ⟨?_, ?_, fun j hj => ?_, ⟨T, ?_, o4'⟩, ⟨_, on_up_eq _ _ _, fun j hj => ?_⟩⟩ (fun a ha => (on_up_ne (by omega)).trans ((on_up_ne (by omega)).trans (hs a ha))))
      · rw [on_up_ne (by omega), on_up_ne (by omega)]; exact o1
      · rw [on_up_ne (by omega), on_up_ne (by omega)]; exact o2
      · by_cases e : j = i
        · subst e
          dsimp only
          rw [if_pos (by omega), if_pos (by omega)]
          exact ⟨_, (on_up_ne (by omega)).trans (on_up_eq _ _ _), fun t ht => ⟨if_pos ⟨Nat.zero_le _, ht⟩, Nat.zero_lt_succ _⟩⟩
        · have := (o3 j hj).keep (h2 := on_up (on_up h1 (u + 2 + i) (on_ai 0 140 (on_fl F 0 140 0))) (u + 7) (on_ai 2 4 (upd P i 0))) ((on_up_ne (by omega)).trans (on_up_ne (by omega)))
          dsimp only at this ⊢
          by_cases e2 : j < n
          · rw [if_pos e2] at this; rw [if_pos e2]
            by_cases e3 : j < i
            · rw [if_pos e3] at this; rw [if_pos (by omega)]; exact this
            · rw [if_neg e3] at this; rw [if_neg (by omega)]; exact this
          · rw [if_neg e2] at this; rw [if_neg e2]; exact this
      · rw [on_up_ne (by omega), on_up_ne (by omega)]; exact o4
      · by_cases e : j = i
        · subst e
          dsimp only
          rw [pk_us, if_neg (fun z => by have := z.2; rw [if_pos (by omega)] at this; exact absurd this (by decide))]
        · rw [pk_un e, P' j hj]
          have w : (if j < i then false else pl j) = (if j < i + 1 then false else pl j) := by
            by_cases e3 : j < i
            · rw [if_pos e3, if_pos (by omega)]
            · rw [if_neg e3, if_neg (by omega)]
          exact if_iff ⟨fun z => ⟨z.1, w.symm.trans z.2⟩, fun z => ⟨z.1, w.trans z.2⟩⟩
set_option maxHeartbeats 4000000 in
/-- empty -/
theorem c_empty (K : ob_S u n c to pl h) (hn : n ≤ 4) :
    on_Ct G M_Outbox_empty [.ref u] h sz 0 0 (fun r h1 z => r = none ∧ z = sz ∧ ob_E u h1 ∧ ∀ a, (a < u ∨ u + 8 ≤ a) → h1 a = h a) := by
  refine on_Ct.of (by decide) v_Outbox_empty (Nat.le_of_ble_eq_true rfl) ?_
  refine on_iconst (pc' := 1) (v := 0) rfl rfl li_0 ?_
  refine on_istore_n (pc' := 2) rfl rfl rfl (by decide) ?_
  refine on_relv (l := [(0, .ref u), (1, .int (nI 0))]) ⟨rfl, rfl, trivial⟩ (emp_l (h := h) (c := c) (pl := pl) (to := to) hn (fun h2 O2 t2 => ?_) n 0 h (by omega) ?_ (fun _ _ => rfl))
  · obtain ⟨o1, o2, o3, ⟨T, o4, -⟩, ⟨P, p1, P'⟩⟩ := O2
    first | refine on_aload_n (pc' := 34) rfl rfl rfl rfl ?_ | refine on_aload_nQ (pc' := 34) rfl rfl rfl rfl ?_
    refine on_iconst (pc' := 35) (v := 0) rfl rfl li_0 ?_
    first | apply on_put (pc' := 38) rfl rfl fp_Outbox_28 | apply on_putN (pc' := 38) rfl rfl fp_Outbox_28
    · repeat (first | assumption | exact on_up_eq _ _ _ | refine (on_up_ne (by omega)).trans ?_)
    · first | rfl | assumption
    · first | rfl | assumption
    · exact Nat.le_of_ble_eq_true rfl
    refine on_vreturn rfl rfl ?_
    refine ⟨rfl, rfl, ⟨on_up_eq _ _ _, ?_, fun i hi => ?_, ⟨T, ?_, fun i hi => absurd hi (by omega)⟩, ⟨P, ?_, fun i hi => ?_⟩⟩, fun a ha => (on_up_ne (by omega)).trans (t2 a ha)⟩
    · rw [on_up_ne (by omega)]; exact o2
    · have := (o3 i hi).keep (h2 := on_up h2 u (.inr (6, [.ref (u + 1), .ref (u + 6), .ref (u + 7), .int 0]))) (on_up_ne (by omega))
      rw [ite_self] at this
      rw [if_neg (by omega)]
      exact this
    · rw [on_up_ne (by omega)]; exact o4
    · rw [on_up_ne (by omega)]; exact p1
    · rw [P' i hi, if_neg (fun z => Bool.noConfusion z.2), if_neg (fun z => Bool.noConfusion z.2)]
  · exact K
theorem c_numberOf {q : Nat} {x : aB} (hq : rB h q 140 x) : on_Ct G M_Outbox_numberOf [.ref q] h sz 0 0 (fun r h1 z => r = some (.int (ce_n x)) ∧ z = sz ∧ h1 = h) := by
  obtain ⟨F, q1, F'⟩ := hq
  refine on_Ct.of (by decide) v_Outbox_numberOf (Nat.le_of_ble_eq_true rfl) ?_
  have x0 := F' 0 (by decide)
  have x1 := F' 1 (by decide)
  have x2 := F' 2 (by decide)
  have x3 := F' 3 (by decide)
  first | refine on_aload_n (pc' := 1) rfl rfl rfl rfl ?_ | refine on_aload_nQ (pc' := 1) rfl rfl rfl rfl ?_
  refine on_iconst (pc' := 2) (v := 0) rfl rfl li_0 ?_
  refine on_callS (pc' := 5) (As := [.ref q, .int (nI 0)]) (rest := []) rfl rfl cw_Outbox_numberOf_24 rfl rfl (by decide) (Nat.zero_le _) (Nat.zero_le _) (c_pairAt q1 (by decide) x0.1 x1.1 x0.2 x1.2) ?_
  rintro r h sz ⟨rfl, rfl, rfl⟩
  refine on_bipush (pc' := 7) (v := 16) rfl rfl lb_16 ?_
  refine on_ishl (pc' := 8) rfl rfl ?_
  first | refine on_aload_n (pc' := 9) rfl rfl rfl rfl ?_ | refine on_aload_nQ (pc' := 9) rfl rfl rfl rfl ?_
  refine on_iconst (pc' := 10) (v := 2) rfl rfl li_2 ?_
  refine on_callS (pc' := 13) (As := [.ref q, .int (nI 2)]) (rest := [.int (sh_l (nI (x 0 * 256 + x 1)) 16)]) rfl rfl cw_Outbox_numberOf_24 rfl rfl (Nat.le_of_ble_eq_true rfl) (Nat.zero_le _) (Nat.zero_le _) (c_pairAt q1 (by decide) x2.1 x3.1 x2.2 x3.2) ?_
  rintro r h sz ⟨rfl, rfl, rfl⟩
  refine on_ior (pc' := 14) rfl rfl ?_
  rw [nI_quad (by omega) (by omega)]
  refine on_ireturn rfl rfl ?_
  exact ⟨rfl, rfl, rfl⟩
end OBX
