/-! Link.byteOf; streams by any number -/
def lk_b (l : List aB) (x y : Int32) : Int32 := if (¬ x < 0 ∧ x < nI l.length) ∧ ¬ y < 0 ∧ y < nI 140 then nI ((l.getD x.toNatClampNeg b0) y.toNatClampNeg) else -1
def n_so (sa : Nat → Nat) (n : Nat) (x : Int32) : Option Nat := if ¬ x < 1 ∧ x ≤ nI n then some (sa (x.toNatClampNeg - 1)) else none
section BYT
variable {G : on_G} {o c cl hs sz : Nat} {num ph jo rc cc kc : Int32} {sa : Nat → Nat} {h : on_H} {l : List aB}
set_option maxHeartbeats 4000000 in
theorem c_byteOf {x y : Int32} (K : lk_S o l h) : on_Ct G M_Link_byteOf [.ref o, .int x, .int y] h sz 0 0 (fun v h1 z => v = some (.int (lk_b l x y)) ∧ z = sz ∧ h1 = h) := by
  obtain ⟨f, X, o0, c0, hf, hl, hX⟩ := id K
  have no : ∀ lv, ¬ ((¬ x < 0 ∧ x < nI l.length) ∧ ¬ y < 0 ∧ y < nI 140) → on_E G M_Link_byteOf 23 lv [] h sz 0 0 (fun v h1 z => v = some (.int (lk_b l x y)) ∧ z = sz ∧ h1 = h) := fun lv z => by
    refine on_iconst (pc' := 24) (v := (-1)) rfl rfl li_m1 ?_
    refine on_ireturn rfl rfl ?_
    unfold lk_b
    rw [if_neg z]
    exact ⟨rfl, rfl, rfl⟩
  refine on_Ct.of (by decide) v_Link_byteOf (Nat.le_of_ble_eq_true rfl) ?_
  refine on_iload_n (pc' := 1) rfl rfl rfl rfl ?_
  refine on_if_lt (pc' := 4) (tgt := 23) rfl rfl rfl (fun cq => ?_) (fun cq => ?_)
  · exact no _ (fun z => z.1.1 cq)
  · have x0 := cq
    clear cq
    refine on_iload_n (pc' := 5) rfl rfl rfl rfl ?_
    first | refine on_aload_n (pc' := 6) rfl rfl rfl rfl ?_ | refine on_aload_nQ (pc' := 6) rfl rfl rfl rfl ?_
    first | apply on_get (pc' := 9) rfl rfl fl_Link_15 | apply on_getN (pc' := 9) rfl rfl fl_Link_15
    · repeat (first | assumption | exact on_up_eq _ _ _ | refine (on_up_ne (by omega)).trans ?_)
    · rfl
    refine on_icmp_ge (pc' := 12) (tgt := 23) rfl rfl rfl (fun cq => ?_) (fun cq => ?_)
    · exact no _ (fun z => Int32.not_le.mpr z.1.2 cq)
    · have x1 : x < nI l.length := Int32.not_le.mp cq
      clear cq
      refine on_iload_n (pc' := 13) rfl rfl rfl rfl ?_
      refine on_if_lt (pc' := 16) (tgt := 23) rfl rfl rfl (fun cq => ?_) (fun cq => ?_)
      · exact no _ (fun z => z.2.1 cq)
      · have y0 := cq
        clear cq
        refine on_iload_n (pc' := 17) rfl rfl rfl rfl ?_
        refine on_sipush (pc' := 20) (v := 140) rfl rfl ls_140 ?_
        refine on_icmp_lt (pc' := 23) (tgt := 25) rfl rfl rfl (fun cq => ?_) (fun cq => ?_)
        rotate_left
        · exact no _ (fun z => cq z.2.2)
        · have y1 : y < nI 140 := cq
          clear cq
          obtain ⟨i, hi, ei, -, ein, -⟩ := pk_mu (L := l.length) x0 (Int32.not_le.mpr x1) (by omega)
          obtain ⟨j, hj, ej, -, ejn, -⟩ := pk_mu (L := 140) y0 (Int32.not_le.mpr y1) (by decide)
          have ix : (f + i) % 8 * 140 + j < 1120 ∧ 1120 < 2 ^ 31 := by omega
          first | refine on_aload_n (pc' := 26) rfl rfl rfl rfl ?_ | refine on_aload_nQ (pc' := 26) rfl rfl rfl rfl ?_
          first | apply on_get (pc' := 29) rfl rfl fl_Link_11 | apply on_getN (pc' := 29) rfl rfl fl_Link_11
          · repeat (first | assumption | exact on_up_eq _ _ _ | refine (on_up_ne (by omega)).trans ?_)
          · rfl
          first | refine on_aload_n (pc' := 30) rfl rfl rfl rfl ?_ | refine on_aload_nQ (pc' := 30) rfl rfl rfl rfl ?_
          first | apply on_get (pc' := 33) rfl rfl fl_Link_19 | apply on_getN (pc' := 33) rfl rfl fl_Link_19
          · repeat (first | assumption | exact on_up_eq _ _ _ | refine (on_up_ne (by omega)).trans ?_)
          · rfl
          refine on_iload_n (pc' := 34) rfl rfl rfl rfl ?_
          refine on_iadd (pc' := 35) rfl rfl ?_
          rw [show nI f + x = nI (f + i) by rw [ei, nI_add]]
          refine on_bipush (pc' := 37) (v := 8) rfl rfl lb_8 ?_
          refine on_irem (pc' := 38) rfl rfl (by first | assumption | decide) ?_
          rw [show i_rem (nI (f + i)) 8 = nI ((f + i) % 8) from pk_rem (d := 8) (by omega) (by decide) (by decide)]
          refine on_sipush (pc' := 41) (v := 140) rfl rfl ls_140 ?_
          refine on_imul (pc' := 42) rfl rfl ?_
          rw [show nI ((f + i) % 8) * 140 = nI ((f + i) % 8 * 140) from pk_mul _ _]
          refine on_iload_n (pc' := 43) rfl rfl rfl rfl ?_
          refine on_iadd (pc' := 44) rfl rfl ?_
          rw [show nI ((f + i) % 8 * 140) + y = nI ((f + i) % 8 * 140 + j) by rw [ej, nI_add]]
          apply on_ialoadK (pc' := 45) (t := 0) rfl rfl
          · repeat (first | assumption | exact on_up_eq _ _ _ | refine (on_up_ne (by omega)).trans ?_)
          · rfl
          · first | assumption | exact on_lit _ | rfl
          · first | assumption | omega | decide
          rw [(hX i hi j hj).1]
          refine on_ireturn rfl rfl ?_
          unfold lk_b
          rw [if_pos ⟨⟨x0, x1⟩, y0, y1⟩, ein, ejn]
          exact ⟨rfl, rfl, rfl⟩
set_option maxHeartbeats 4000000 in
theorem c_streamOfI {st : List aT} {x : Int32} (hC : cr_O c cl hs num ph jo (nI st.length) h) (hS : ss_S c sa st h) :
    on_Ct G M_Circuit_streamOf [.ref (c + 1), .int x] h sz 0 0 (fun v h1 z => v = some (va_rf (n_so sa st.length x)) ∧ z = sz ∧ h1 = h) := by
  have c0 : h (c + 1) = some (.inr (9, [.ref cl, .int num, .ref c, .ref hs, .ref (c + 5), .ref (c + 6), .ref (c + 2), .ref (c + 3), .ref (c + 4), .int ph, .int jo, .int (nI st.length)])) := hC
  obtain ⟨S, s1, s2, s3⟩ := hS
  have no : ∀ lv, ¬ (¬ x < 1 ∧ x ≤ nI st.length) → on_E G M_Circuit_streamOf 13 lv [] h sz 0 0 (fun v h1 z => v = some (va_rf (n_so sa st.length x)) ∧ z = sz ∧ h1 = h) := fun lv z => by
    refine on_null (pc' := 14) rfl rfl ?_
    refine on_goto (tgt := 25) rfl rfl ?_
    first | refine on_areturn (r := some _) (M := M_Circuit_streamOf) (pc := 25) (rt := (Jvm.ClassFile.FieldType.object "OnionNet$Stream")) rfl rfl (Or.inl ⟨_, rfl⟩) ?_ | refine on_areturn (r := none) (M := M_Circuit_streamOf) (pc := 25) (rt := (Jvm.ClassFile.FieldType.object "OnionNet$Stream")) rfl rfl (Or.inl ⟨_, rfl⟩) ?_ | refine on_areturn (M := M_Circuit_streamOf) (pc := 25) (rt := (Jvm.ClassFile.FieldType.object "OnionNet$Stream")) rfl rfl (Or.inl ⟨_, rfl⟩) ?_
    unfold n_so
    rw [if_neg z]
    exact ⟨rfl, rfl, rfl⟩
  refine on_Ct.of (by decide) v_Circuit_streamOf (Nat.le_of_ble_eq_true rfl) ?_
  refine on_iload_n (pc' := 1) rfl rfl rfl rfl ?_
  refine on_iconst (pc' := 2) (v := 1) rfl rfl li_1 ?_
  refine on_icmp_lt (pc' := 5) (tgt := 13) rfl rfl rfl (fun cq => ?_) (fun cq => ?_)
  · exact no _ (fun z => z.1 cq)
  · have x1 := cq
    clear cq
    refine on_iload_n (pc' := 6) rfl rfl rfl rfl ?_
    first | refine on_aload_n (pc' := 7) rfl rfl rfl rfl ?_ | refine on_aload_nQ (pc' := 7) rfl rfl rfl rfl ?_
    first | apply on_get (pc' := 10) rfl rfl fl_Circuit_60 | apply on_getN (pc' := 10) rfl rfl fl_Circuit_60
    · repeat (first | assumption | exact on_up_eq _ _ _ | refine (on_up_ne (by omega)).trans ?_)
    · rfl
    refine on_icmp_le (pc' := 13) (tgt := 17) rfl rfl rfl (fun cq => ?_) (fun cq => ?_)
    rotate_left
    · exact no _ (fun z => cq z.2)
    · have x2 : x ≤ nI st.length := cq
      clear cq
      obtain ⟨s, hs5, es, -, esn, -⟩ := pk_mu (x := x) (L := st.length + 1) (fun z => x1 (Int32.lt_trans z (by decide))) (fun z => Int32.not_le.mpr (nI_lt (a := st.length) (b := st.length + 1) (by omega) (by omega)) (Int32.le_trans z x2)) (by omega)
      have h1 : 1 ≤ s := by
        rcases Nat.lt_or_ge s 1 with z | z
        · exact absurd (by rw [es]; exact nI_lt (b := 1) z (by decide)) x1
        · exact z
      have i4 : s - 1 < 4 ∧ 4 < 2 ^ 31 := by omega
      first | refine on_aload_n (pc' := 18) rfl rfl rfl rfl ?_ | refine on_aload_nQ (pc' := 18) rfl rfl rfl rfl ?_
      first | apply on_get (pc' := 21) rfl rfl fl_Circuit_11 | apply on_getN (pc' := 21) rfl rfl fl_Circuit_11
      · repeat (first | assumption | exact on_up_eq _ _ _ | refine (on_up_ne (by omega)).trans ?_)
      · rfl
      refine on_iload_n (pc' := 22) rfl rfl rfl rfl ?_
      refine on_iconst (pc' := 23) (v := 1) rfl rfl li_1 ?_
      refine on_isub (pc' := 24) rfl rfl ?_
      rw [show x - 1 = nI (s - 1) by rw [es]; exact pk_sub (a := s) (b := 1) h1]
      apply on_aaloadK (pc' := 25) rfl rfl
      · repeat (first | assumption | exact on_up_eq _ _ _ | refine (on_up_ne (by omega)).trans ?_)
      · rfl
      · first | assumption | exact on_lit _ | rfl
      · first | assumption | omega | decide
      rw [(s3 (s - 1) (by omega)).1]
      first | refine on_areturn (r := some _) (M := M_Circuit_streamOf) (pc := 25) (rt := (Jvm.ClassFile.FieldType.object "OnionNet$Stream")) rfl rfl (Or.inl ⟨_, rfl⟩) ?_ | refine on_areturn (r := none) (M := M_Circuit_streamOf) (pc := 25) (rt := (Jvm.ClassFile.FieldType.object "OnionNet$Stream")) rfl rfl (Or.inl ⟨_, rfl⟩) ?_ | refine on_areturn (M := M_Circuit_streamOf) (pc := 25) (rt := (Jvm.ClassFile.FieldType.object "OnionNet$Stream")) rfl rfl (Or.inl ⟨_, rfl⟩) ?_
      unfold n_so
      rw [if_pos ⟨x1, x2⟩, esn]
      exact ⟨rfl, rfl, rfl⟩
end BYT
