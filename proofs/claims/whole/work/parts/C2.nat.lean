/-! OnionNet: its object, and what it finds by numbers -/
def n_O (o : Nat) (rc cc kc : Int32) (h : on_H) : Prop := h o = some (.inr (11, [.ref (o + 1), .ref (o + 2), .ref (o + 3), .ref (o + 4), .ref (o + 5), .ref (o + 34), .ref (o + 42), .ref (o + 43), .int rc, .int cc, .int kc]))
/-- a place by a number of the caller -/
def n_at (F : Nat → Option Nat) (n : Nat) (x : Int32) : Option Nat := if ¬ x < 0 ∧ x < nI n then F x.toNatClampNeg else none
def n_la (F : Nat → Option Nat) (x y : Int32) : Option Nat := if (¬ x < 0 ∧ x < nI 10) ∧ ¬ y < 0 ∧ y < nI 10 then F (10 * x.toNatClampNeg + y.toNatClampNeg) else none
section NAT
variable {G : on_G} {o sz : Nat} {rc cc kc : Int32} {F : Nat → Option Nat} {h : on_H} {l : List aB}
theorem c_relayAt {x : Int32} (hO : n_O o rc cc kc h) (hR : h (o + 1) = some (on_aq 4 6 F)) : on_Ct G M_N_relayAt [.ref o, .int x] h sz 0 0 (fun v h1 z => v = some (va_rf (n_at F 6 x)) ∧ z = sz ∧ h1 = h) := by
  have o1 : h o = some (.inr (11, [.ref (o + 1), .ref (o + 2), .ref (o + 3), .ref (o + 4), .ref (o + 5), .ref (o + 34), .ref (o + 42), .ref (o + 43), .int rc, .int cc, .int kc])) := hO
  have no : ∀ lv, ¬ (¬ x < 0 ∧ x < nI 6) → on_E G M_N_relayAt 10 lv [] h sz 0 0 (fun v h1 z => v = some (va_rf (n_at F 6 x)) ∧ z = sz ∧ h1 = h) := fun lv z => by
    refine on_null (pc' := 11) rfl rfl ?_
    refine on_goto (tgt := 20) rfl rfl ?_
    first | refine on_areturn (r := some _) (M := M_N_relayAt) (pc := 20) (rt := (Jvm.ClassFile.FieldType.object "OnionNet$Relay")) rfl rfl (Or.inl ⟨_, rfl⟩) ?_ | refine on_areturn (r := none) (M := M_N_relayAt) (pc := 20) (rt := (Jvm.ClassFile.FieldType.object "OnionNet$Relay")) rfl rfl (Or.inl ⟨_, rfl⟩) ?_ | refine on_areturn (M := M_N_relayAt) (pc := 20) (rt := (Jvm.ClassFile.FieldType.object "OnionNet$Relay")) rfl rfl (Or.inl ⟨_, rfl⟩) ?_
    unfold n_at
    rw [if_neg z]
    exact ⟨rfl, rfl, rfl⟩
  refine on_Ct.of (by decide) v_N_relayAt (Nat.le_of_ble_eq_true rfl) ?_
  refine on_iload_n (pc' := 1) rfl rfl rfl rfl ?_
  refine on_if_lt (pc' := 4) (tgt := 10) rfl rfl rfl (fun cq => ?_) (fun cq => ?_)
  · exact no _ (fun z => z.1 cq)
  · have x0 := cq
    clear cq
    refine on_iload_n (pc' := 5) rfl rfl rfl rfl ?_
    refine on_bipush (pc' := 7) (v := 6) rfl rfl lb_6 ?_
    refine on_icmp_lt (pc' := 10) (tgt := 14) rfl rfl rfl (fun cq => ?_) (fun cq => ?_)
    rotate_left
    · exact no _ (fun z => cq z.2)
    · have x6 : x < nI 6 := cq
      obtain ⟨j, hj, ej, -, en, -⟩ := pk_mu (L := 6) x0 (Int32.not_le.mpr x6) (by decide)
      have j6 : j < 6 ∧ 6 < 2 ^ 31 := ⟨hj, by decide⟩
      first | refine on_aload_n (pc' := 15) rfl rfl rfl rfl ?_ | refine on_aload_nQ (pc' := 15) rfl rfl rfl rfl ?_
      first | apply on_get (pc' := 18) rfl rfl fl_N_11 | apply on_getN (pc' := 18) rfl rfl fl_N_11
      · repeat (first | assumption | exact on_up_eq _ _ _ | refine (on_up_ne (by omega)).trans ?_)
      · rfl
      refine on_iload_n (pc' := 19) rfl rfl rfl rfl ?_
      apply on_aaloadK (pc' := 20) rfl rfl
      · repeat (first | assumption | exact on_up_eq _ _ _ | refine (on_up_ne (by omega)).trans ?_)
      · rfl
      · first | assumption | exact on_lit _ | rfl
      · first | assumption | omega | decide
      first | refine on_areturn (r := some _) (M := M_N_relayAt) (pc := 20) (rt := (Jvm.ClassFile.FieldType.object "OnionNet$Relay")) rfl rfl (Or.inl ⟨_, rfl⟩) ?_ | refine on_areturn (r := none) (M := M_N_relayAt) (pc := 20) (rt := (Jvm.ClassFile.FieldType.object "OnionNet$Relay")) rfl rfl (Or.inl ⟨_, rfl⟩) ?_ | refine on_areturn (M := M_N_relayAt) (pc := 20) (rt := (Jvm.ClassFile.FieldType.object "OnionNet$Relay")) rfl rfl (Or.inl ⟨_, rfl⟩) ?_
      unfold n_at
      rw [if_pos ⟨x0, x6⟩, en]
      exact ⟨rfl, rfl, rfl⟩
theorem c_circuitAt {x : Int32} (hO : n_O o rc cc kc h) (hR : h (o + 3) = some (on_aq 9 6 F)) : on_Ct G M_N_circuitAt [.ref o, .int x] h sz 0 0 (fun v h1 z => v = some (va_rf (n_at F 6 x)) ∧ z = sz ∧ h1 = h) := by
  have o1 : h o = some (.inr (11, [.ref (o + 1), .ref (o + 2), .ref (o + 3), .ref (o + 4), .ref (o + 5), .ref (o + 34), .ref (o + 42), .ref (o + 43), .int rc, .int cc, .int kc])) := hO
  have no : ∀ lv, ¬ (¬ x < 0 ∧ x < nI 6) → on_E G M_N_circuitAt 10 lv [] h sz 0 0 (fun v h1 z => v = some (va_rf (n_at F 6 x)) ∧ z = sz ∧ h1 = h) := fun lv z => by
    refine on_null (pc' := 11) rfl rfl ?_
    refine on_goto (tgt := 20) rfl rfl ?_
    first | refine on_areturn (r := some _) (M := M_N_circuitAt) (pc := 20) (rt := (Jvm.ClassFile.FieldType.object "OnionNet$Circuit")) rfl rfl (Or.inl ⟨_, rfl⟩) ?_ | refine on_areturn (r := none) (M := M_N_circuitAt) (pc := 20) (rt := (Jvm.ClassFile.FieldType.object "OnionNet$Circuit")) rfl rfl (Or.inl ⟨_, rfl⟩) ?_ | refine on_areturn (M := M_N_circuitAt) (pc := 20) (rt := (Jvm.ClassFile.FieldType.object "OnionNet$Circuit")) rfl rfl (Or.inl ⟨_, rfl⟩) ?_
    unfold n_at
    rw [if_neg z]
    exact ⟨rfl, rfl, rfl⟩
  refine on_Ct.of (by decide) v_N_circuitAt (Nat.le_of_ble_eq_true rfl) ?_
  refine on_iload_n (pc' := 1) rfl rfl rfl rfl ?_
  refine on_if_lt (pc' := 4) (tgt := 10) rfl rfl rfl (fun cq => ?_) (fun cq => ?_)
  · exact no _ (fun z => z.1 cq)
  · have x0 := cq
    clear cq
    refine on_iload_n (pc' := 5) rfl rfl rfl rfl ?_
    refine on_bipush (pc' := 7) (v := 6) rfl rfl lb_6 ?_
    refine on_icmp_lt (pc' := 10) (tgt := 14) rfl rfl rfl (fun cq => ?_) (fun cq => ?_)
    rotate_left
    · exact no _ (fun z => cq z.2)
    · have x6 : x < nI 6 := cq
      obtain ⟨j, hj, ej, -, en, -⟩ := pk_mu (L := 6) x0 (Int32.not_le.mpr x6) (by decide)
      have j6 : j < 6 ∧ 6 < 2 ^ 31 := ⟨hj, by decide⟩
      first | refine on_aload_n (pc' := 15) rfl rfl rfl rfl ?_ | refine on_aload_nQ (pc' := 15) rfl rfl rfl rfl ?_
      first | apply on_get (pc' := 18) rfl rfl fl_N_23 | apply on_getN (pc' := 18) rfl rfl fl_N_23
      · repeat (first | assumption | exact on_up_eq _ _ _ | refine (on_up_ne (by omega)).trans ?_)
      · rfl
      refine on_iload_n (pc' := 19) rfl rfl rfl rfl ?_
      apply on_aaloadK (pc' := 20) rfl rfl
      · repeat (first | assumption | exact on_up_eq _ _ _ | refine (on_up_ne (by omega)).trans ?_)
      · rfl
      · first | assumption | exact on_lit _ | rfl
      · first | assumption | omega | decide
      first | refine on_areturn (r := some _) (M := M_N_circuitAt) (pc := 20) (rt := (Jvm.ClassFile.FieldType.object "OnionNet$Circuit")) rfl rfl (Or.inl ⟨_, rfl⟩) ?_ | refine on_areturn (r := none) (M := M_N_circuitAt) (pc := 20) (rt := (Jvm.ClassFile.FieldType.object "OnionNet$Circuit")) rfl rfl (Or.inl ⟨_, rfl⟩) ?_ | refine on_areturn (M := M_N_circuitAt) (pc := 20) (rt := (Jvm.ClassFile.FieldType.object "OnionNet$Circuit")) rfl rfl (Or.inl ⟨_, rfl⟩) ?_
      unfold n_at
      rw [if_pos ⟨x0, x6⟩, en]
      exact ⟨rfl, rfl, rfl⟩
theorem c_linkAt {x y : Int32} (hO : n_O o rc cc kc h) (hR : h (o + 4) = some (on_aq 10 100 F)) : on_Ct G M_N_linkAt [.ref o, .int x, .int y] h sz 0 0 (fun v h1 z => v = some (va_rf (n_la F x y)) ∧ z = sz ∧ h1 = h) := by
  have o1 : h o = some (.inr (11, [.ref (o + 1), .ref (o + 2), .ref (o + 3), .ref (o + 4), .ref (o + 5), .ref (o + 34), .ref (o + 42), .ref (o + 43), .int rc, .int cc, .int kc])) := hO
  have no : ∀ lv, ¬ ((¬ x < 0 ∧ x < nI 10) ∧ ¬ y < 0 ∧ y < nI 10) → on_E G M_N_linkAt 20 lv [] h sz 0 0 (fun v h1 z => v = some (va_rf (n_la F x y)) ∧ z = sz ∧ h1 = h) := fun lv z => by
    refine on_null (pc' := 21) rfl rfl ?_
    first | refine on_areturn (r := some _) (M := M_N_linkAt) (pc := 21) (rt := (Jvm.ClassFile.FieldType.object "OnionNet$Link")) rfl rfl (Or.inl ⟨_, rfl⟩) ?_ | refine on_areturn (r := none) (M := M_N_linkAt) (pc := 21) (rt := (Jvm.ClassFile.FieldType.object "OnionNet$Link")) rfl rfl (Or.inl ⟨_, rfl⟩) ?_ | refine on_areturn (M := M_N_linkAt) (pc := 21) (rt := (Jvm.ClassFile.FieldType.object "OnionNet$Link")) rfl rfl (Or.inl ⟨_, rfl⟩) ?_
    unfold n_la
    rw [if_neg z]
    exact ⟨rfl, rfl, rfl⟩
  refine on_Ct.of (by decide) v_N_linkAt (Nat.le_of_ble_eq_true rfl) ?_
  refine on_iload_n (pc' := 1) rfl rfl rfl rfl ?_
  refine on_if_lt (pc' := 4) (tgt := 20) rfl rfl rfl (fun cq => ?_) (fun cq => ?_)
  · exact no _ (fun z => z.1.1 cq)
  · have x0 := cq
    clear cq
    refine on_iload_n (pc' := 5) rfl rfl rfl rfl ?_
    refine on_bipush (pc' := 7) (v := 10) rfl rfl lb_10 ?_
    refine on_icmp_ge (pc' := 10) (tgt := 20) rfl rfl rfl (fun cq => ?_) (fun cq => ?_)
    · exact no _ (fun z => Int32.not_le.mpr z.1.2 cq)
    · have x1 : x < nI 10 := Int32.not_le.mp cq
      clear cq
      refine on_iload_n (pc' := 11) rfl rfl rfl rfl ?_
      refine on_if_lt (pc' := 14) (tgt := 20) rfl rfl rfl (fun cq => ?_) (fun cq => ?_)
      · exact no _ (fun z => z.2.1 cq)
      · have y0 := cq
        clear cq
        refine on_iload_n (pc' := 15) rfl rfl rfl rfl ?_
        refine on_bipush (pc' := 17) (v := 10) rfl rfl lb_10 ?_
        refine on_icmp_lt (pc' := 20) (tgt := 22) rfl rfl rfl (fun cq => ?_) (fun cq => ?_)
        rotate_left
        · exact no _ (fun z => cq z.2.2)
        · have y1 : y < nI 10 := cq
          clear cq
          obtain ⟨i, hi, ei, -, ein, -⟩ := pk_mu (L := 10) x0 (Int32.not_le.mpr x1) (by decide)
          obtain ⟨j, hj, ej, -, ejn, -⟩ := pk_mu (L := 10) y0 (Int32.not_le.mpr y1) (by decide)
          have ix : 10 * i + j < 100 ∧ 100 < 2 ^ 31 := by omega
          have ee : x * 10 + y = nI (10 * i + j) := by
            rw [ei, ej, show (10 : Int32) = nI 10 from rfl, pk_mul, nI_add, Nat.mul_comm]
          first | refine on_aload_n (pc' := 23) rfl rfl rfl rfl ?_ | refine on_aload_nQ (pc' := 23) rfl rfl rfl rfl ?_
          first | apply on_get (pc' := 26) rfl rfl fl_N_29 | apply on_getN (pc' := 26) rfl rfl fl_N_29
          · repeat (first | assumption | exact on_up_eq _ _ _ | refine (on_up_ne (by omega)).trans ?_)
          · rfl
          refine on_iload_n (pc' := 27) rfl rfl rfl rfl ?_
          refine on_bipush (pc' := 29) (v := 10) rfl rfl lb_10 ?_
          refine on_imul (pc' := 30) rfl rfl ?_
          refine on_iload_n (pc' := 31) rfl rfl rfl rfl ?_
          refine on_iadd (pc' := 32) rfl rfl ?_
          rw [ee]
          apply on_aaloadK (pc' := 33) rfl rfl
          · repeat (first | assumption | exact on_up_eq _ _ _ | refine (on_up_ne (by omega)).trans ?_)
          · rfl
          · first | assumption | exact on_lit _ | rfl
          · first | assumption | omega | decide
          first | refine on_areturn (r := some _) (M := M_N_linkAt) (pc := 33) (rt := (Jvm.ClassFile.FieldType.object "OnionNet$Link")) rfl rfl (Or.inl ⟨_, rfl⟩) ?_ | refine on_areturn (r := none) (M := M_N_linkAt) (pc := 33) (rt := (Jvm.ClassFile.FieldType.object "OnionNet$Link")) rfl rfl (Or.inl ⟨_, rfl⟩) ?_ | refine on_areturn (M := M_N_linkAt) (pc := 33) (rt := (Jvm.ClassFile.FieldType.object "OnionNet$Link")) rfl rfl (Or.inl ⟨_, rfl⟩) ?_
          unfold n_la
          rw [if_pos ⟨⟨x0, x1⟩, y0, y1⟩, ein, ejn]
          exact ⟨rfl, rfl, rfl⟩
end NAT
