/-! Circuit: small methods -/
abbrev t0 : aT := (0, 0, 0, [], [])
section CRC
variable {G : on_G} {c cl hs sz bc bs u n : Nat} {num ph jo sc : Int32} {ra sa : Nat → Nat} {h h2 : on_H} {Q : Option Value → on_H → Nat → Prop} {cc : Nat → aB} {to : Nat → Nat} {pl : Nat → Bool}
/-- the row of the path -/
def pa_S (c : Nat) (ra : Nat → Nat) (pa : List Nat) (h : on_H) : Prop := ∃ P, h c = some (on_aq 4 pa.length P) ∧ ∀ i, i < pa.length → P i = some (ra (pa.getD i 0))
theorem pa_S.keep {pa : List Nat} (k : pa_S c ra pa h) (e : h2 c = h c) : pa_S c ra pa h2 := by
  obtain ⟨P, k1, k2⟩ := k
  exact ⟨P, e.trans k1, k2⟩
/-- the row of the streams -/
def ss_S (c : Nat) (sa : Nat → Nat) (st : List aT) (h : on_H) : Prop := ∃ S, h (c + 2) = some (on_aq 7 4 S) ∧ st.length ≤ 4 ∧ ∀ i, i < st.length → S i = some (sa i) ∧ sm_S (sa i) (st.getD i t0) h
theorem ss_S.keep {st : List aT} (k : ss_S c sa st h) (e : h2 (c + 2) = h (c + 2)) (e2 : ∀ i, i < st.length → ∀ a, sa i ≤ a → a < sa i + 3 → h2 a = h a) : ss_S c sa st h2 := by
  obtain ⟨S, k1, k2, k3⟩ := k
  exact ⟨S, e.trans k1, k2, fun i hi => ⟨(k3 i hi).1, (k3 i hi).2.keep (e2 i hi)⟩⟩
theorem c_firstRelay {pa : List Nat} {ot hs2 nm : Nat} {r : aR} (hC : cr_O c cl hs num ph jo sc h) (hP : pa_S c ra pa h) (hl : 0 < pa.length ∧ pa.length < 2 ^ 31) (R : rl_S (ra (pa.getD 0 0)) ot hs2 nm r h) :
    on_Ct G M_Circuit_firstRelay [.ref (c + 1)] h sz 0 0 (fun v h1 z => v = some (.int (nI nm)) ∧ z = sz ∧ h1 = h) := by
  have c0 : h (c + 1) = some (.inr (9, [.ref cl, .int num, .ref c, .ref hs, .ref (c + 5), .ref (c + 6), .ref (c + 2), .ref (c + 3), .ref (c + 4), .int ph, .int jo, .int sc])) := hC
  obtain ⟨P, p1, p2⟩ := hP
  have r0 : h (ra (pa.getD 0 0)) = some (.inr (8, [.ref (ra (pa.getD 0 0) + 1), .ref ot, .ref hs2, .ref (ra (pa.getD 0 0) + 3), .ref (ra (pa.getD 0 0) + 4), .ref (ra (pa.getD 0 0) + 5), .ref (ra (pa.getD 0 0) + 6), .ref (ra (pa.getD 0 0) + 7), .int (nI r.ke.length), .int (nI r.we)])) := R.1
  have n0 := R.2.1.1
  refine on_Ct.of (by decide) v_Circuit_firstRelay (Nat.le_of_ble_eq_true rfl) ?_
  first | refine on_aload_n (pc' := 1) rfl rfl rfl rfl ?_ | refine on_aload_nQ (pc' := 1) rfl rfl rfl rfl ?_
  first | apply on_get (pc' := 4) rfl rfl fl_Circuit_35 | apply on_getN (pc' := 4) rfl rfl fl_Circuit_35
  · repeat (first | assumption | exact on_up_eq _ _ _ | refine (on_up_ne (by omega)).trans ?_)
  · rfl
  refine on_iconst (pc' := 5) (v := 0) rfl rfl li_0 ?_
  apply on_aaloadK (pc' := 6) (k := 0) rfl rfl
  · repeat (first | assumption | exact on_up_eq _ _ _ | refine (on_up_ne (by omega)).trans ?_)
  · rfl
  · first | assumption | exact on_lit _ | rfl
  · first | assumption | omega | decide
  rw [p2 0 hl.1]
  show on_E G M_Circuit_firstRelay 6 _ [.ref (ra (pa.getD 0 0))] h sz _ _ _
  first | apply on_get (pc' := 9) rfl rfl fl_Circuit_52 | apply on_getN (pc' := 9) rfl rfl fl_Circuit_52
  · repeat (first | assumption | exact on_up_eq _ _ _ | refine (on_up_ne (by omega)).trans ?_)
  · rfl
  first | apply on_get (pc' := 12) rfl rfl fl_Circuit_57 | apply on_getN (pc' := 12) rfl rfl fl_Circuit_57
  · repeat (first | assumption | exact on_up_eq _ _ _ | refine (on_up_ne (by omega)).trans ?_)
  · rfl
  refine on_ireturn rfl rfl ?_
  exact ⟨rfl, rfl, rfl⟩
/-- the stream of a number -/
def s_of (sa : Nat → Nat) (n s : Nat) : Option Nat := if 1 ≤ s ∧ s ≤ n then some (sa (s - 1)) else none
set_option maxHeartbeats 4000000 in
theorem c_streamOf {st : List aT} {s : Nat} (hs65 : s < 65536) (hC : cr_O c cl hs num ph jo (nI st.length) h) (hS : ss_S c sa st h) :
    on_Ct G M_Circuit_streamOf [.ref (c + 1), .int (nI s)] h sz 0 0 (fun v h1 z => v = some (va_rf (s_of sa st.length s)) ∧ z = sz ∧ h1 = h) := by
  have c0 : h (c + 1) = some (.inr (9, [.ref cl, .int num, .ref c, .ref hs, .ref (c + 5), .ref (c + 6), .ref (c + 2), .ref (c + 3), .ref (c + 4), .int ph, .int jo, .int (nI st.length)])) := hC
  obtain ⟨S, s1, s2, s3⟩ := hS
  have no : ¬ (1 ≤ s ∧ s ≤ st.length) → on_E G M_Circuit_streamOf 13 (on_l []) [] h sz 0 0 (fun v h1 z => v = some (va_rf (s_of sa st.length s)) ∧ z = sz ∧ h1 = h) := fun z => by
    refine on_null (pc' := 14) rfl rfl ?_
    refine on_goto (tgt := 25) rfl rfl ?_
    first | refine on_areturn (r := some _) (M := M_Circuit_streamOf) (pc := 25) (rt := (Jvm.ClassFile.FieldType.object "OnionNet$Stream")) rfl rfl (Or.inl ⟨_, rfl⟩) ?_ | refine on_areturn (r := none) (M := M_Circuit_streamOf) (pc := 25) (rt := (Jvm.ClassFile.FieldType.object "OnionNet$Stream")) rfl rfl (Or.inl ⟨_, rfl⟩) ?_ | refine on_areturn (M := M_Circuit_streamOf) (pc := 25) (rt := (Jvm.ClassFile.FieldType.object "OnionNet$Stream")) rfl rfl (Or.inl ⟨_, rfl⟩) ?_
    unfold s_of
    rw [if_neg z]
    exact ⟨rfl, rfl, rfl⟩
  refine on_Ct.of (by decide) v_Circuit_streamOf (Nat.le_of_ble_eq_true rfl) ?_
  refine on_iload_n (pc' := 1) rfl rfl rfl rfl ?_
  refine on_iconst (pc' := 2) (v := 1) rfl rfl li_1 ?_
  refine on_icmp_lt (pc' := 5) (tgt := 13) rfl rfl rfl (fun cq => ?_) (fun cq => ?_)
  · refine on_relv (l := []) trivial (no (fun z => ?_))
    exact absurd cq (nI_nlt (a := s) (b := 1) z.1 (by omega))
  · have h1 : 1 ≤ s := by
      rcases Nat.lt_or_ge s 1 with z | z
      · exact absurd (nI_lt (b := 1) z (by decide)) cq
      · exact z
    clear cq
    refine on_iload_n (pc' := 6) rfl rfl rfl rfl ?_
    first | refine on_aload_n (pc' := 7) rfl rfl rfl rfl ?_ | refine on_aload_nQ (pc' := 7) rfl rfl rfl rfl ?_
    first | apply on_get (pc' := 10) rfl rfl fl_Circuit_60 | apply on_getN (pc' := 10) rfl rfl fl_Circuit_60
    · repeat (first | assumption | exact on_up_eq _ _ _ | refine (on_up_ne (by omega)).trans ?_)
    · rfl
    refine on_icmp_le (pc' := 13) (tgt := 17) rfl rfl rfl (fun cq => ?_) (fun cq => ?_)
    rotate_left
    · refine on_relv (l := []) trivial (no (fun z => ?_))
      exact absurd (nI_le (a := s) z.2 (by omega)) cq
    · have h2 : s ≤ st.length := by
        rcases Nat.lt_or_ge st.length s with z | z
        · exact absurd cq (Int32.not_le.mpr (nI_lt z (by omega)))
        · exact z
      clear cq
      have i4 : s - 1 < 4 ∧ 4 < 2 ^ 31 := by omega
      first | refine on_aload_n (pc' := 18) rfl rfl rfl rfl ?_ | refine on_aload_nQ (pc' := 18) rfl rfl rfl rfl ?_
      first | apply on_get (pc' := 21) rfl rfl fl_Circuit_11 | apply on_getN (pc' := 21) rfl rfl fl_Circuit_11
      · repeat (first | assumption | exact on_up_eq _ _ _ | refine (on_up_ne (by omega)).trans ?_)
      · rfl
      refine on_iload_n (pc' := 22) rfl rfl rfl rfl ?_
      refine on_iconst (pc' := 23) (v := 1) rfl rfl li_1 ?_
      refine on_isub (pc' := 24) rfl rfl ?_
      rw [show nI s - 1 = nI (s - 1) from pk_sub (a := s) (b := 1) h1]
      apply on_aaloadK (pc' := 25) rfl rfl
      · repeat (first | assumption | exact on_up_eq _ _ _ | refine (on_up_ne (by omega)).trans ?_)
      · rfl
      · first | assumption | exact on_lit _ | rfl
      · first | assumption | omega | decide
      rw [(s3 (s - 1) (by omega)).1]
      first | refine on_areturn (r := some _) (M := M_Circuit_streamOf) (pc := 25) (rt := (Jvm.ClassFile.FieldType.object "OnionNet$Stream")) rfl rfl (Or.inl ⟨_, rfl⟩) ?_ | refine on_areturn (r := none) (M := M_Circuit_streamOf) (pc := 25) (rt := (Jvm.ClassFile.FieldType.object "OnionNet$Stream")) rfl rfl (Or.inl ⟨_, rfl⟩) ?_ | refine on_areturn (M := M_Circuit_streamOf) (pc := 25) (rt := (Jvm.ClassFile.FieldType.object "OnionNet$Stream")) rfl rfl (Or.inl ⟨_, rfl⟩) ?_
      unfold s_of
      rw [if_pos ⟨h1, h2⟩]
      exact ⟨rfl, rfl, rfl⟩
set_option maxHeartbeats 4000000 in
theorem enA_l {st : List aT} (hd : ∀ i, i < st.length → c + 7 ≤ sa i ∧ ∀ j, j < i → sa j + 3 ≤ sa i)
    (k : ∀ h2, cr_O c cl hs num 2 jo (nI st.length) h2 → ss_S c sa (st.map (fun t => (2, t.wi, t.ca, t.wa, t.go))) h2 → (∀ b, b ≠ c + 1 → (∀ i, i < st.length → b ≠ sa i) → h2 b = h b) → on_E G M_Circuit_endAll 31 (on_l []) [] h2 sz bc bs Q) :
    ∀ (m i : Nat) (h1 : on_H), i + m = st.length → cr_O c cl hs num 2 jo (nI st.length) h1 → (∃ S, h1 (c + 2) = some (on_aq 7 4 S) ∧ st.length ≤ 4 ∧ ∀ j, j < st.length → S j = some (sa j) ∧ sm_S (sa j) (if j < i then (2, (st.getD j t0).wi, (st.getD j t0).ca, (st.getD j t0).wa, (st.getD j t0).go) else st.getD j t0) h1) → (∀ b, b ≠ c + 1 → (∀ i, i < st.length → b ≠ sa i) → h1 b = h b) → on_E G M_Circuit_endAll 7 (on_l [(0, .ref (c + 1)), (1, .int (nI i))]) [] h1 sz bc bs Q := by
  intro m
  induction m with
  | zero =>
    intro i h1 hi hC hS t
    obtain rfl : i = st.length := by omega
    have c0 : h1 (c + 1) = some (.inr (9, [.ref cl, .int num, .ref c, .ref hs, .ref (c + 5), .ref (c + 6), .ref (c + 2), .ref (c + 3), .ref (c + 4), .int 2, .int jo, .int (nI st.length)])) := hC
    obtain ⟨S, s1, s2, s3⟩ := hS
    refine on_iload_n (pc' := 8) rfl rfl rfl rfl ?_
    first | refine on_aload_n (pc' := 9) rfl rfl rfl rfl ?_ | refine on_aload_nQ (pc' := 9) rfl rfl rfl rfl ?_
    first | apply on_get (pc' := 12) rfl rfl fl_Circuit_60 | apply on_getN (pc' := 12) rfl rfl fl_Circuit_60
    · repeat (first | assumption | exact on_up_eq _ _ _ | refine (on_up_ne (by omega)).trans ?_)
    · rfl
    refine on_icmp_ge (pc' := 15) (tgt := 31) rfl rfl rfl (fun cq => ?_) (fun cq => ?_)
    · refine on_relv (l := []) trivial (k h1 hC ⟨S, s1, by rw [List.length_map]; exact s2, fun j hj => ?_⟩ t)
      rw [List.length_map] at hj
      have := s3 j hj
      rw [if_pos hj] at this
      rw [List.getD_eq_getElem?_getD, List.getElem?_map, List.getElem?_eq_getElem hj]
      rw [List.getD_eq_getElem?_getD, List.getElem?_eq_getElem hj] at this
      exact this
    · exact absurd (nI_le (a := st.length) (Nat.le_refl _) (by omega)) cq
  | succ m ih =>
    intro i h1 hi hC hS t
    have c0 : h1 (c + 1) = some (.inr (9, [.ref cl, .int num, .ref c, .ref hs, .ref (c + 5), .ref (c + 6), .ref (c + 2), .ref (c + 3), .ref (c + 4), .int 2, .int jo, .int (nI st.length)])) := hC
    obtain ⟨S, s1, s2, s3⟩ := hS
    have i4 : i < 4 ∧ 4 < 2 ^ 31 := by omega
    obtain ⟨e1, e2⟩ := s3 i (by omega)
    rw [if_neg (Nat.lt_irrefl i)] at e2
    obtain ⟨f, W, k1, k2, k3, k4, k5, k6, k7⟩ := e2
    obtain ⟨d1, d2⟩ := hd i (by omega)
    refine on_iload_n (pc' := 8) rfl rfl rfl rfl ?_
    first | refine on_aload_n (pc' := 9) rfl rfl rfl rfl ?_ | refine on_aload_nQ (pc' := 9) rfl rfl rfl rfl ?_
    first | apply on_get (pc' := 12) rfl rfl fl_Circuit_60 | apply on_getN (pc' := 12) rfl rfl fl_Circuit_60
    · repeat (first | assumption | exact on_up_eq _ _ _ | refine (on_up_ne (by omega)).trans ?_)
    · rfl
    refine on_icmp_ge (pc' := 15) (tgt := 31) rfl rfl rfl (fun cq => ?_) (fun cq => ?_)
    · exact absurd cq (nI_ge (b := st.length) (by omega) (by omega))
    · clear cq
      first | refine on_aload_n (pc' := 16) rfl rfl rfl rfl ?_ | refine on_aload_nQ (pc' := 16) rfl rfl rfl rfl ?_
      first | apply on_get (pc' := 19) rfl rfl fl_Circuit_11 | apply on_getN (pc' := 19) rfl rfl fl_Circuit_11
      · repeat (first | assumption | exact on_up_eq _ _ _ | refine (on_up_ne (by omega)).trans ?_)
      · rfl
      refine on_iload_n (pc' := 20) rfl rfl rfl rfl ?_
      apply on_aaloadK (pc' := 21) rfl rfl
      · repeat (first | assumption | exact on_up_eq _ _ _ | refine (on_up_ne (by omega)).trans ?_)
      · rfl
      · first | assumption | exact on_lit _ | rfl
      · first | assumption | omega | decide
      rw [e1]
      show on_E G M_Circuit_endAll 21 _ [.ref (sa i)] h1 sz _ _ _
      refine on_iconst (pc' := 22) (v := 2) rfl rfl li_2 ?_
      first | apply on_put (pc' := 25) rfl rfl fp_Circuit_139 | apply on_putN (pc' := 25) rfl rfl fp_Circuit_139
      · repeat (first | assumption | exact on_up_eq _ _ _ | refine (on_up_ne (by omega)).trans ?_)
      · first | rfl | assumption
      · first | rfl | assumption
      · exact Nat.le_of_ble_eq_true rfl
      refine on_iinc1 (pc' := 28) rfl rfl rfl ?_
      refine on_goto (tgt := 7) rfl rfl ?_
      refine on_relv (l := [(0, .ref (c + 1)), (1, .int (nI (i + 1)))]) ⟨rfl, congrArg some (congrArg Value.int (nI_1 i)), trivial⟩ (ih (i + 1) _ (by omega) ((on_up_ne (by omega)).trans hC) ⟨S, (on_up_ne (by omega)).trans s1, s2, fun j hj => ⟨(s3 j hj).1, ?_⟩⟩ (fun b b1 b2 => (on_up_ne (b2 i (by omega))).trans (t b b1 b2)))
      by_cases z : j = i
      · subst z
        rw [if_pos (Nat.lt_succ_self j)]
        exact ⟨f, W, on_up_eq _ _ _, (on_up_ne (by omega)).trans k2, k3, k4, k5, k6.keep (on_up_ne (by omega)), Nat.le_refl 2⟩
      · have := (s3 j hj).2
        have dj : sa j + 3 ≤ sa i ∨ sa i + 3 ≤ sa j := by
          rcases Nat.lt_or_ge j i with w | w
          · exact Or.inl (d2 j w)
          · exact Or.inr ((hd j hj).2 i (by omega))
        rw [show (if j < i + 1 then ((2, (st.getD j t0).wi, (st.getD j t0).ca, (st.getD j t0).wa, (st.getD j t0).go) : aT) else st.getD j t0) = if j < i then (2, (st.getD j t0).wi, (st.getD j t0).ca, (st.getD j t0).wa, (st.getD j t0).go) else st.getD j t0 from if_iff ⟨fun w => by omega, fun w => by omega⟩]
        exact this.keep (fun a a1 a2 => on_up_ne (by omega))
/-- endAll -/
theorem c_endAll {st : List aT} (hd : ∀ i, i < st.length → c + 7 ≤ sa i ∧ ∀ j, j < i → sa j + 3 ≤ sa i) (hC : cr_O c cl hs num ph jo (nI st.length) h) (hS : ss_S c sa st h) :
    on_Ct G M_Circuit_endAll [.ref (c + 1)] h sz 0 0 (fun v h1 z => v = none ∧ z = sz ∧ cr_O c cl hs num 2 jo (nI st.length) h1 ∧ ss_S c sa (st.map (fun t => (2, t.wi, t.ca, t.wa, t.go))) h1 ∧ ∀ b, b ≠ c + 1 → (∀ i, i < st.length → b ≠ sa i) → h1 b = h b) := by
  have c0 : h (c + 1) = some (.inr (9, [.ref cl, .int num, .ref c, .ref hs, .ref (c + 5), .ref (c + 6), .ref (c + 2), .ref (c + 3), .ref (c + 4), .int ph, .int jo, .int (nI st.length)])) := hC
  obtain ⟨S, s1, s2, s3⟩ := hS
  refine on_Ct.of (by decide) v_Circuit_endAll (Nat.le_of_ble_eq_true rfl) ?_
  first | refine on_aload_n (pc' := 1) rfl rfl rfl rfl ?_ | refine on_aload_nQ (pc' := 1) rfl rfl rfl rfl ?_
  refine on_iconst (pc' := 2) (v := 2) rfl rfl li_2 ?_
  first | apply on_put (pc' := 5) rfl rfl fp_Circuit_24 | apply on_putN (pc' := 5) rfl rfl fp_Circuit_24
  · repeat (first | assumption | exact on_up_eq _ _ _ | refine (on_up_ne (by omega)).trans ?_)
  · first | rfl | assumption
  · first | rfl | assumption
  · exact Nat.le_of_ble_eq_true rfl
  refine on_iconst (pc' := 6) (v := 0) rfl rfl li_0 ?_
  refine on_istore_n (pc' := 7) rfl rfl rfl (by decide) ?_
  refine on_relv (l := [(0, .ref (c + 1)), (1, .int (nI 0))]) ⟨rfl, rfl, trivial⟩ (enA_l (h := h) (st := st) (sa := sa) hd (fun h2 C2 S2 t2 => ?_) st.length 0 _ (by omega) (on_up_eq _ _ _) ⟨S, (on_up_ne (by omega)).trans s1, s2, fun j hj => ⟨(s3 j hj).1, ?_⟩⟩ (fun b b1 b2 => on_up_ne b1))
  · refine on_vreturn rfl rfl ?_
    exact ⟨rfl, rfl, C2, S2, t2⟩
  · rw [if_neg (Nat.not_lt_zero j)]
    exact (s3 j hj).2.keep (fun a a1 a2 => on_up_ne (by have := (hd j hj).1; omega))
set_option maxHeartbeats 4000000 in
/-- fall: the first relay is told -/
theorem c_fall {st : List aT} {pa : List Nat} {ot hs2 nm : Nat} {r : aR} (hd : ∀ i, i < st.length → c + 7 ≤ sa i ∧ ∀ j, j < i → sa j + 3 ≤ sa i) (huc : u + 8 ≤ c) (hC : cr_O c cl hs num ph jo (nI st.length) h) (hS : ss_S c sa st h) (hP : pa_S c ra pa h) (hl : 0 < pa.length ∧ pa.length < 2 ^ 31) (R : rl_S (ra (pa.getD 0 0)) ot hs2 nm r h) (O : ob_S u n cc to pl h) (hn : n < 4) :
    on_Ct G M_Circuit_fall [.ref (c + 1), .ref u] h sz 0 0 (fun v h1 z => v = none ∧ z = sz ∧ cr_O c cl hs num 2 jo (nI st.length) h1 ∧ ss_S c sa (st.map (fun t => (2, t.wi, t.ca, t.wa, t.go))) h1 ∧ ob_S u (n + 1) (fu cc n (ce_k num 4 (fun _ => 0) 0)) (fu to n nm) (fu pl n false) h1 ∧ ∀ b, b ≠ c + 1 → (b < u ∨ u + 8 ≤ b) → (∀ i, i < st.length → b ≠ sa i) → h1 b = h b) := by
  have c0 : h (c + 1) = some (.inr (9, [.ref cl, .int num, .ref c, .ref hs, .ref (c + 5), .ref (c + 6), .ref (c + 2), .ref (c + 3), .ref (c + 4), .int ph, .int jo, .int (nI st.length)])) := hC
  refine on_Ct.of (by decide) v_Circuit_fall (Nat.le_of_ble_eq_true rfl) ?_
  first | refine on_aload_n (pc' := 1) rfl rfl rfl rfl ?_ | refine on_aload_nQ (pc' := 1) rfl rfl rfl rfl ?_
  first | refine on_aload_n (pc' := 2) rfl rfl rfl rfl ?_ | refine on_aload_nQ (pc' := 2) rfl rfl rfl rfl ?_
  refine on_callV (pc' := 5) (As := []) (rest := [.ref u]) (b := c + 1) rfl rfl cw_Circuit_fall_68 (c0) rfl rfl (Nat.le_of_ble_eq_true rfl) (Nat.zero_le _) (Nat.zero_le _) (c_firstRelay hC hP hl R) ?_
  rintro v h sz ⟨rfl, rfl, rfl⟩
  first | refine on_aload_n (pc' := 6) rfl rfl rfl rfl ?_ | refine on_aload_nQ (pc' := 6) rfl rfl rfl rfl ?_
  first | apply on_get (pc' := 9) rfl rfl fl_Circuit_32 | apply on_getN (pc' := 9) rfl rfl fl_Circuit_32
  · repeat (first | assumption | exact on_up_eq _ _ _ | refine (on_up_ne (by omega)).trans ?_)
  · rfl
  refine on_iconst (pc' := 10) (v := 4) rfl rfl li_4 ?_
  refine on_callV (pc' := 13) (As := [.int (nI nm), .int num, .int (nI 4)]) (rest := []) (b := u) rfl rfl cw_Circuit_fall_72 (O.1) rfl rfl (Nat.le_of_ble_eq_true rfl) (Nat.zero_le _) (Nat.zero_le _) (c_addCell O hn (by decide)) ?_
  rintro v h1 sz ⟨rfl, rfl, O1, t1⟩
  have c1 := (t1 (c + 1) (by omega)).trans c0
  refine on_pop (pc' := 14) rfl rfl rfl ?_
  first | refine on_aload_n (pc' := 15) rfl rfl rfl rfl ?_ | refine on_aload_nQ (pc' := 15) rfl rfl rfl rfl ?_
  refine on_callV (pc' := 18) (As := []) (rest := []) (b := c + 1) rfl rfl cw_Circuit_fall_118 (c1) rfl rfl (Nat.le_of_ble_eq_true rfl) (Nat.zero_le _) (Nat.zero_le _) (c_endAll (sa := sa) hd c1 (hS.keep (t1 _ (by omega)) (fun i hi a a1 a2 => t1 a (by have := (hd i hi).1; omega)))) ?_
  rintro v h2 sz ⟨rfl, rfl, C2, S2, t2⟩
  refine on_vreturn rfl rfl ?_
  exact ⟨rfl, rfl, C2, S2, O1.keep (fun a a1 a2 => t2 a (by omega) (fun i hi => by have := (hd i hi).1; omega)), fun b b1 b2 b3 => (t2 b b1 b3).trans (t1 b b2)⟩
/-- toLast -/
theorem c_toLast {pa : List Nat} {ot hs2 nm cmd s len : Nat} {r : aR} (hC : cr_O c cl hs num ph jo sc h) (hP : pa_S c ra pa h) (hl : 0 < pa.length ∧ pa.length < 2 ^ 31) (R : rl_S (ra (pa.getD 0 0)) ot hs2 nm r h) (O : ob_S u n cc to pl h) (hn : n < 4) (hc : cmd < 256) (hs65 : s < 65536) (hlen : len ≤ 124) :
    on_Ct G M_Circuit_toLast [.ref (c + 1), .ref u, .int (nI cmd), .int (nI s), .int (nI len)] h sz 0 0 (fun v h1 z => v = some (.ref (u + 2 + n)) ∧ z = sz ∧ ob_S u (n + 1) (fu cc n (pl_c num cmd s len (fun _ => 0))) (fu to n nm) (fu pl n true) h1 ∧ ∀ a, (a < u ∨ u + 8 ≤ a) → h1 a = h a) := by
  have c0 : h (c + 1) = some (.inr (9, [.ref cl, .int num, .ref c, .ref hs, .ref (c + 5), .ref (c + 6), .ref (c + 2), .ref (c + 3), .ref (c + 4), .int ph, .int jo, .int sc])) := hC
  refine on_Ct.of (by decide) v_Circuit_toLast (Nat.le_of_ble_eq_true rfl) ?_
  first | refine on_aload_n (pc' := 1) rfl rfl rfl rfl ?_ | refine on_aload_nQ (pc' := 1) rfl rfl rfl rfl ?_
  first | refine on_aload_n (pc' := 2) rfl rfl rfl rfl ?_ | refine on_aload_nQ (pc' := 2) rfl rfl rfl rfl ?_
  refine on_callV (pc' := 5) (As := []) (rest := [.ref u]) (b := c + 1) rfl rfl cw_Circuit_toLast_68 (c0) rfl rfl (Nat.le_of_ble_eq_true rfl) (Nat.zero_le _) (Nat.zero_le _) (c_firstRelay hC hP hl R) ?_
  rintro v h sz ⟨rfl, rfl, rfl⟩
  first | refine on_aload_n (pc' := 6) rfl rfl rfl rfl ?_ | refine on_aload_nQ (pc' := 6) rfl rfl rfl rfl ?_
  first | apply on_get (pc' := 9) rfl rfl fl_Circuit_32 | apply on_getN (pc' := 9) rfl rfl fl_Circuit_32
  · repeat (first | assumption | exact on_up_eq _ _ _ | refine (on_up_ne (by omega)).trans ?_)
  · rfl
  refine on_iload_n (pc' := 10) rfl rfl rfl rfl ?_
  refine on_iload_n (pc' := 11) rfl rfl rfl rfl ?_
  refine on_iload (pc' := 13) rfl rfl rfl ?_
  refine on_callV (pc' := 16) (As := [.int (nI nm), .int num, .int (nI cmd), .int (nI s), .int (nI len)]) (rest := []) (b := u) rfl rfl cw_Circuit_toLast_93 (O.1) rfl rfl (Nat.le_of_ble_eq_true rfl) (Nat.zero_le _) (Nat.zero_le _) (c_addPlain O hn hc hs65 hlen) ?_
  rintro v h1 sz ⟨rfl, rfl, O1, t1⟩
  first | refine on_areturn (r := some _) (M := M_Circuit_toLast) (pc := 16) (rt := (Jvm.ClassFile.FieldType.array Jvm.ClassFile.FieldType.int)) rfl rfl (Or.inr ⟨_, rfl⟩) ?_ | refine on_areturn (r := none) (M := M_Circuit_toLast) (pc := 16) (rt := (Jvm.ClassFile.FieldType.array Jvm.ClassFile.FieldType.int)) rfl rfl (Or.inr ⟨_, rfl⟩) ?_ | refine on_areturn (M := M_Circuit_toLast) (pc := 16) (rt := (Jvm.ClassFile.FieldType.array Jvm.ClassFile.FieldType.int)) rfl rfl (Or.inr ⟨_, rfl⟩) ?_
  exact ⟨rfl, rfl, O1, t1⟩
/-- isExtended -/
theorem c_isExtended {q p : Nat} {y : aB} (hp : p ≤ 2) (hC : cr_O c cl hs num (nI p) jo sc h) (hq : rB h q 140 y) :
    on_Ct G M_Circuit_isExtended [.ref (c + 1), .ref q] h sz 0 0 (fun v h1 z => z = sz ∧ h1 = h ∧ ((p = 0 ∧ y 5 = 15 ∧ y 14 * 256 + y 15 = 64) ∧ v = some (.int 1) ∨ ¬ (p = 0 ∧ y 5 = 15 ∧ y 14 * 256 + y 15 = 64) ∧ v = some (.int 0))) := by
  have c0 : h (c + 1) = some (.inr (9, [.ref cl, .int num, .ref c, .ref hs, .ref (c + 5), .ref (c + 6), .ref (c + 2), .ref (c + 3), .ref (c + 4), .int (nI p), .int jo, .int sc])) := hC
  obtain ⟨X, q1, X'⟩ := hq
  have x5 := X' 5 (by decide)
  have x14 := X' 14 (by decide)
  have x15 := X' 15 (by decide)
  have no : ¬ (p = 0 ∧ y 5 = 15 ∧ y 14 * 256 + y 15 = 64) → on_E G M_Circuit_isExtended 30 (on_l []) [] h sz 0 0 (fun v h1 z => z = sz ∧ h1 = h ∧ ((p = 0 ∧ y 5 = 15 ∧ y 14 * 256 + y 15 = 64) ∧ v = some (.int 1) ∨ ¬ (p = 0 ∧ y 5 = 15 ∧ y 14 * 256 + y 15 = 64) ∧ v = some (.int 0))) := fun z => by
    refine on_iconst (pc' := 31) (v := 0) rfl rfl li_0 ?_
    refine on_zreturn rfl rfl ?_ ?_
    · first | rfl | assumption
    exact ⟨rfl, rfl, Or.inr ⟨z, rfl⟩⟩
  refine on_Ct.of (by decide) v_Circuit_isExtended (Nat.le_of_ble_eq_true rfl) ?_
  first | refine on_aload_n (pc' := 1) rfl rfl rfl rfl ?_ | refine on_aload_nQ (pc' := 1) rfl rfl rfl rfl ?_
  first | apply on_get (pc' := 4) rfl rfl fl_Circuit_24 | apply on_getN (pc' := 4) rfl rfl fl_Circuit_24
  · repeat (first | assumption | exact on_up_eq _ _ _ | refine (on_up_ne (by omega)).trans ?_)
  · rfl
  refine on_if_ne (pc' := 7) (tgt := 30) rfl rfl rfl (fun cq => ?_) (fun cq => ?_)
  · exact on_relv (l := []) trivial (no (fun z => cq (by rw [z.1]; rfl)))
  · have p0 : p = 0 := (nI_eq (a := p) (b := 0) (by omega) (by decide)).mp cq
    clear cq
    first | refine on_aload_n (pc' := 8) rfl rfl rfl rfl ?_ | refine on_aload_nQ (pc' := 8) rfl rfl rfl rfl ?_
    refine on_iconst (pc' := 9) (v := 5) rfl rfl li_5 ?_
    apply on_ialoadK (pc' := 10) (t := 0) (k := 5) rfl rfl
    · repeat (first | assumption | exact on_up_eq _ _ _ | refine (on_up_ne (by omega)).trans ?_)
    · rfl
    · first | assumption | exact on_lit _ | rfl
    · first | assumption | omega | decide
    rw [x5.1]
    refine on_bipush (pc' := 12) (v := 15) rfl rfl lb_15 ?_
    refine on_icmp_ne (pc' := 15) (tgt := 30) rfl rfl rfl (fun cq => ?_) (fun cq => ?_)
    · exact on_relv (l := []) trivial (no (fun z => cq (by rw [z.2.1]; rfl)))
    · have p5 : y 5 = 15 := (nI_eq (a := y 5) (b := 15) (by omega) (by decide)).mp cq
      clear cq
      first | refine on_aload_n (pc' := 16) rfl rfl rfl rfl ?_ | refine on_aload_nQ (pc' := 16) rfl rfl rfl rfl ?_
      refine on_bipush (pc' := 18) (v := 14) rfl rfl lb_14 ?_
      refine on_callS (pc' := 21) (As := [.ref q, .int (nI 14)]) (rest := []) rfl rfl cw_Circuit_isExtended_158 rfl rfl (Nat.le_of_ble_eq_true rfl) (Nat.zero_le _) (Nat.zero_le _) (c_pairAt (at_ := 14) q1 (by decide) x14.1 x15.1 x14.2 x15.2) ?_
      rintro v h sz ⟨rfl, rfl, rfl⟩
      refine on_bipush (pc' := 23) (v := 64) rfl rfl lb_64 ?_
      refine on_icmp_ne (pc' := 26) (tgt := 30) rfl rfl rfl (fun cq => ?_) (fun cq => ?_)
      · exact on_relv (l := []) trivial (no (fun z => cq (by rw [z.2.2]; rfl)))
      · have p64 : y 14 * 256 + y 15 = 64 := (nI_eq (a := y 14 * 256 + y 15) (b := 64) (by omega) (by decide)).mp cq
        clear cq
        refine on_iconst (pc' := 27) (v := 1) rfl rfl li_1 ?_
        refine on_goto (tgt := 31) rfl rfl ?_
        refine on_zreturn rfl rfl ?_ ?_
        · first | rfl | assumption
        exact ⟨rfl, rfl, Or.inl ⟨⟨p0, p5, p64⟩, rfl⟩⟩
end CRC
