/-! Relay: how many entries and streams; Stream: bytes leave the ring; Link: one byte -/
def e_ct (en : Nat → Option aE) : Nat → Nat
  | 0 => 0
  | n + 1 => e_ct en n + (if (en n).isSome = true then 1 else 0)
def e_sc (en : Nat → Option aE) : Nat → Nat
  | 0 => 0
  | n + 1 => e_sc en n + (match en n with | some e => e.st.length | none => 0)
section CNT
variable {G : on_G} {a ot hs tr o q sz bc bs : Nat} {kc w : Int32} {en : Nat → Option aE} {h : on_H} {Q : Option Value → on_H → Nat → Prop} {t : aT} {l : List aB}
set_option maxHeartbeats 4000000 in
theorem ect_l (K : rl_E a tr en h) (kk : on_E G M_Relay_entryCount 47 (on_l [(1, .int (nI (e_ct en 12)))]) [] h sz bc bs Q) :
    ∀ (m i : Nat), i + m = 12 → on_E G M_Relay_entryCount 13 (on_l [(0, .ref a), (1, .int (nI (e_ct en i))), (2, .ref (a + 6)), (3, .int (nI 12)), (4, .int (nI i))]) [] h sz bc bs Q := by
  obtain ⟨k6, kE⟩ := K
  intro m
  induction m with
  | zero =>
    intro i hi
    obtain rfl : i = 12 := by omega
    refine on_iload (pc' := 15) rfl rfl rfl ?_
    refine on_iload_n (pc' := 16) rfl rfl rfl rfl ?_
    refine on_icmp_ge (pc' := 19) (tgt := 47) rfl rfl rfl (fun cq => ?_) (fun cq => ?_)
    · exact on_relv (l := [(1, .int (nI (e_ct en 12)))]) ⟨rfl, trivial⟩ kk
    · exact absurd (nI_le (a := 12) (by omega) (by omega)) cq
  | succ m ih =>
    intro i hi
    have i12 : i < 12 ∧ 12 < 2 ^ 31 := by omega
    obtain ⟨sc, f1, fn, on_, onn, us, wt, S, V, W, C, ⟨b0, -⟩, hx⟩ := en_hd (kE i i12.1)
    refine on_iload (pc' := 15) rfl rfl rfl ?_
    refine on_iload_n (pc' := 16) rfl rfl rfl rfl ?_
    refine on_icmp_ge (pc' := 19) (tgt := 47) rfl rfl rfl (fun cq => ?_) (fun cq => ?_)
    · exact absurd cq (nI_ge (b := 12) (by omega) (by omega))
    · clear cq
      first | refine on_aload_n (pc' := 20) rfl rfl rfl rfl ?_ | refine on_aload_nQ (pc' := 20) rfl rfl rfl rfl ?_
      refine on_iload (pc' := 22) rfl rfl rfl ?_
      apply on_aaloadK (pc' := 23) rfl rfl
      · repeat (first | assumption | exact on_up_eq _ _ _ | refine (on_up_ne (by omega)).trans ?_)
      · rfl
      · first | assumption | exact on_lit _ | rfl
      · first | assumption | omega | decide
      rw [show va_rf (re_f a 12 i) = .ref (a + 8 + 21 * i) by unfold re_f; rw [if_pos i12.1]; rfl]
      rcases hx with ⟨he, rfl⟩ | ⟨x, he, rfl, -⟩
      · first | refine on_astore (pc' := 25) rfl rfl (by decide) ?_ | refine on_astoreQ (pc' := 25) rfl rfl (by decide) ?_
        refine on_iload_n (pc' := 26) rfl rfl rfl rfl ?_
        first | refine on_aload (pc' := 28) rfl rfl rfl ?_ | refine on_aloadQ (pc' := 28) rfl rfl rfl ?_
        first | apply on_get (pc' := 31) rfl rfl fl_Relay_55 | apply on_getN (pc' := 31) rfl rfl fl_Relay_55
        · repeat (first | assumption | exact on_up_eq _ _ _ | refine (on_up_ne (by omega)).trans ?_)
        · rfl
        refine on_if_eq (pc' := 34) (tgt := 38) rfl rfl rfl (fun cq => ?_) (fun cq => ?_)
        · refine on_iconst (pc' := 39) (v := 0) rfl rfl li_0 ?_
          refine on_iadd (pc' := 40) rfl rfl ?_
          refine on_istore_n (pc' := 41) rfl rfl rfl (by decide) ?_
          refine on_iinc1 (pc' := 44) rfl rfl rfl ?_
          refine on_goto (tgt := 13) rfl rfl ?_
          refine on_relv (l := [(0, .ref a), (1, .int (nI (e_ct en (i + 1)))), (2, .ref (a + 6)), (3, .int (nI 12)), (4, .int (nI (i + 1)))]) ⟨rfl, congrArg some (congrArg Value.int ?_), rfl, rfl, congrArg some (congrArg Value.int (nI_1 i)), trivial⟩ (ih (i + 1) (by omega))
          show nI (e_ct en i) + nI 0 = nI (e_ct en i + _)
          rw [nI_add, he]
          rfl
        · exact absurd rfl cq
      · first | refine on_astore (pc' := 25) rfl rfl (by decide) ?_ | refine on_astoreQ (pc' := 25) rfl rfl (by decide) ?_
        refine on_iload_n (pc' := 26) rfl rfl rfl rfl ?_
        first | refine on_aload (pc' := 28) rfl rfl rfl ?_ | refine on_aloadQ (pc' := 28) rfl rfl rfl ?_
        first | apply on_get (pc' := 31) rfl rfl fl_Relay_55 | apply on_getN (pc' := 31) rfl rfl fl_Relay_55
        · repeat (first | assumption | exact on_up_eq _ _ _ | refine (on_up_ne (by omega)).trans ?_)
        · rfl
        refine on_if_eq (pc' := 34) (tgt := 38) rfl rfl rfl (fun cq => ?_) (fun cq => ?_)
        · exact absurd cq (by decide)
        · clear cq
          refine on_iconst (pc' := 35) (v := 1) rfl rfl li_1 ?_
          refine on_goto (tgt := 39) rfl rfl ?_
          refine on_iadd (pc' := 40) rfl rfl ?_
          refine on_istore_n (pc' := 41) rfl rfl rfl (by decide) ?_
          refine on_iinc1 (pc' := 44) rfl rfl rfl ?_
          refine on_goto (tgt := 13) rfl rfl ?_
          refine on_relv (l := [(0, .ref a), (1, .int (nI (e_ct en (i + 1)))), (2, .ref (a + 6)), (3, .int (nI 12)), (4, .int (nI (i + 1)))]) ⟨rfl, congrArg some (congrArg Value.int ?_), rfl, rfl, congrArg some (congrArg Value.int (nI_1 i)), trivial⟩ (ih (i + 1) (by omega))
          show nI (e_ct en i) + nI 1 = nI (e_ct en i + _)
          rw [nI_add, he]
          rfl
theorem c_entryCount (ho : rl_O a ot hs kc w h) (K : rl_E a tr en h) : on_Ct G M_Relay_entryCount [.ref a] h sz 0 0 (fun v h1 z => v = some (.int (nI (e_ct en 12))) ∧ z = sz ∧ h1 = h) := by
  have o1 : h a = some (.inr (8, [.ref (a + 1), .ref ot, .ref hs, .ref (a + 3), .ref (a + 4), .ref (a + 5), .ref (a + 6), .ref (a + 7), .int kc, .int w])) := ho
  have k6 := K.1
  refine on_Ct.of (by decide) v_Relay_entryCount (Nat.le_of_ble_eq_true rfl) ?_
  refine on_iconst (pc' := 1) (v := 0) rfl rfl li_0 ?_
  refine on_istore_n (pc' := 2) rfl rfl rfl (by decide) ?_
  first | refine on_aload_n (pc' := 3) rfl rfl rfl rfl ?_ | refine on_aload_nQ (pc' := 3) rfl rfl rfl rfl ?_
  first | apply on_get (pc' := 6) rfl rfl fl_Relay_23 | apply on_getN (pc' := 6) rfl rfl fl_Relay_23
  · repeat (first | assumption | exact on_up_eq _ _ _ | refine (on_up_ne (by omega)).trans ?_)
  · rfl
  first | refine on_astore_n (pc' := 7) rfl rfl rfl (by decide) ?_ | refine on_astore_nQ (pc' := 7) rfl rfl rfl (by decide) ?_
  first | refine on_aload_n (pc' := 8) rfl rfl rfl rfl ?_ | refine on_aload_nQ (pc' := 8) rfl rfl rfl rfl ?_
  apply on_alenQ (pc' := 9) rfl rfl
  · repeat (first | assumption | exact on_up_eq _ _ _ | refine (on_up_ne (by omega)).trans ?_)
  · rfl
  refine on_istore_n (pc' := 10) rfl rfl rfl (by decide) ?_
  refine on_iconst (pc' := 11) (v := 0) rfl rfl li_0 ?_
  refine on_istore (pc' := 13) rfl rfl (by decide) ?_
  refine on_relv (l := [(0, .ref a), (1, .int (nI (e_ct en 0))), (2, .ref (a + 6)), (3, .int (nI 12)), (4, .int (nI 0))]) ⟨rfl, rfl, rfl, rfl, rfl, trivial⟩ (ect_l K ?_ 12 0 rfl)
  refine on_iload_n (pc' := 48) rfl rfl rfl rfl ?_
  refine on_ireturn rfl rfl ?_
  exact ⟨rfl, rfl, rfl⟩
set_option maxHeartbeats 4000000 in
theorem esc_l (K : rl_E a tr en h) (kk : on_E G M_Relay_streamCount 51 (on_l [(1, .int (nI (e_sc en 12)))]) [] h sz bc bs Q) :
    ∀ (m i : Nat), i + m = 12 → on_E G M_Relay_streamCount 13 (on_l [(0, .ref a), (1, .int (nI (e_sc en i))), (2, .ref (a + 6)), (3, .int (nI 12)), (4, .int (nI i))]) [] h sz bc bs Q := by
  obtain ⟨k6, kE⟩ := K
  intro m
  induction m with
  | zero =>
    intro i hi
    obtain rfl : i = 12 := by omega
    refine on_iload (pc' := 15) rfl rfl rfl ?_
    refine on_iload_n (pc' := 16) rfl rfl rfl rfl ?_
    refine on_icmp_ge (pc' := 19) (tgt := 51) rfl rfl rfl (fun cq => ?_) (fun cq => ?_)
    · exact on_relv (l := [(1, .int (nI (e_sc en 12)))]) ⟨rfl, trivial⟩ kk
    · exact absurd (nI_le (a := 12) (by omega) (by omega)) cq
  | succ m ih =>
    intro i hi
    have i12 : i < 12 ∧ 12 < 2 ^ 31 := by omega
    obtain ⟨sc, f1, fn, on_, onn, us, wt, S, V, W, C, ⟨b0, -⟩, hx⟩ := en_hd (kE i i12.1)
    refine on_iload (pc' := 15) rfl rfl rfl ?_
    refine on_iload_n (pc' := 16) rfl rfl rfl rfl ?_
    refine on_icmp_ge (pc' := 19) (tgt := 51) rfl rfl rfl (fun cq => ?_) (fun cq => ?_)
    · exact absurd cq (nI_ge (b := 12) (by omega) (by omega))
    · clear cq
      first | refine on_aload_n (pc' := 20) rfl rfl rfl rfl ?_ | refine on_aload_nQ (pc' := 20) rfl rfl rfl rfl ?_
      refine on_iload (pc' := 22) rfl rfl rfl ?_
      apply on_aaloadK (pc' := 23) rfl rfl
      · repeat (first | assumption | exact on_up_eq _ _ _ | refine (on_up_ne (by omega)).trans ?_)
      · rfl
      · first | assumption | exact on_lit _ | rfl
      · first | assumption | omega | decide
      rw [show va_rf (re_f a 12 i) = .ref (a + 8 + 21 * i) by unfold re_f; rw [if_pos i12.1]; rfl]
      rcases hx with ⟨he, rfl⟩ | ⟨x, he, rfl, rfl, rfl, rfl, -, rfl, rfl⟩
      · first | refine on_astore (pc' := 25) rfl rfl (by decide) ?_ | refine on_astoreQ (pc' := 25) rfl rfl (by decide) ?_
        refine on_iload_n (pc' := 26) rfl rfl rfl rfl ?_
        first | refine on_aload (pc' := 28) rfl rfl rfl ?_ | refine on_aloadQ (pc' := 28) rfl rfl rfl ?_
        first | apply on_get (pc' := 31) rfl rfl fl_Relay_55 | apply on_getN (pc' := 31) rfl rfl fl_Relay_55
        · repeat (first | assumption | exact on_up_eq _ _ _ | refine (on_up_ne (by omega)).trans ?_)
        · rfl
        refine on_if_eq (pc' := 34) (tgt := 42) rfl rfl rfl (fun cq => ?_) (fun cq => ?_)
        · refine on_iconst (pc' := 43) (v := 0) rfl rfl li_0 ?_
          refine on_iadd (pc' := 44) rfl rfl ?_
          refine on_istore_n (pc' := 45) rfl rfl rfl (by decide) ?_
          refine on_iinc1 (pc' := 48) rfl rfl rfl ?_
          refine on_goto (tgt := 13) rfl rfl ?_
          refine on_relv (l := [(0, .ref a), (1, .int (nI (e_sc en (i + 1)))), (2, .ref (a + 6)), (3, .int (nI 12)), (4, .int (nI (i + 1)))]) ⟨rfl, congrArg some (congrArg Value.int ?_), rfl, rfl, congrArg some (congrArg Value.int (nI_1 i)), trivial⟩ (ih (i + 1) (by omega))
          show nI (e_sc en i) + nI 0 = nI (e_sc en i + _)
          rw [nI_add, he]
        · exact absurd rfl cq
      · first | refine on_astore (pc' := 25) rfl rfl (by decide) ?_ | refine on_astoreQ (pc' := 25) rfl rfl (by decide) ?_
        refine on_iload_n (pc' := 26) rfl rfl rfl rfl ?_
        first | refine on_aload (pc' := 28) rfl rfl rfl ?_ | refine on_aloadQ (pc' := 28) rfl rfl rfl ?_
        first | apply on_get (pc' := 31) rfl rfl fl_Relay_55 | apply on_getN (pc' := 31) rfl rfl fl_Relay_55
        · repeat (first | assumption | exact on_up_eq _ _ _ | refine (on_up_ne (by omega)).trans ?_)
        · rfl
        refine on_if_eq (pc' := 34) (tgt := 42) rfl rfl rfl (fun cq => ?_) (fun cq => ?_)
        · exact absurd cq (by decide)
        · clear cq
          first | refine on_aload (pc' := 36) rfl rfl rfl ?_ | refine on_aloadQ (pc' := 36) rfl rfl rfl ?_
          first | apply on_get (pc' := 39) rfl rfl fl_Relay_59 | apply on_getN (pc' := 39) rfl rfl fl_Relay_59
          · repeat (first | assumption | exact on_up_eq _ _ _ | refine (on_up_ne (by omega)).trans ?_)
          · rfl
          refine on_goto (tgt := 43) rfl rfl ?_
          refine on_iadd (pc' := 44) rfl rfl ?_
          refine on_istore_n (pc' := 45) rfl rfl rfl (by decide) ?_
          refine on_iinc1 (pc' := 48) rfl rfl rfl ?_
          refine on_goto (tgt := 13) rfl rfl ?_
          refine on_relv (l := [(0, .ref a), (1, .int (nI (e_sc en (i + 1)))), (2, .ref (a + 6)), (3, .int (nI 12)), (4, .int (nI (i + 1)))]) ⟨rfl, congrArg some (congrArg Value.int ?_), rfl, rfl, congrArg some (congrArg Value.int (nI_1 i)), trivial⟩ (ih (i + 1) (by omega))
          show nI (e_sc en i) + nI x.st.length = nI (e_sc en i + _)
          rw [nI_add, he]
theorem c_streamCount (ho : rl_O a ot hs kc w h) (K : rl_E a tr en h) : on_Ct G M_Relay_streamCount [.ref a] h sz 0 0 (fun v h1 z => v = some (.int (nI (e_sc en 12))) ∧ z = sz ∧ h1 = h) := by
  have o1 : h a = some (.inr (8, [.ref (a + 1), .ref ot, .ref hs, .ref (a + 3), .ref (a + 4), .ref (a + 5), .ref (a + 6), .ref (a + 7), .int kc, .int w])) := ho
  have k6 := K.1
  refine on_Ct.of (by decide) v_Relay_streamCount (Nat.le_of_ble_eq_true rfl) ?_
  refine on_iconst (pc' := 1) (v := 0) rfl rfl li_0 ?_
  refine on_istore_n (pc' := 2) rfl rfl rfl (by decide) ?_
  first | refine on_aload_n (pc' := 3) rfl rfl rfl rfl ?_ | refine on_aload_nQ (pc' := 3) rfl rfl rfl rfl ?_
  first | apply on_get (pc' := 6) rfl rfl fl_Relay_23 | apply on_getN (pc' := 6) rfl rfl fl_Relay_23
  · repeat (first | assumption | exact on_up_eq _ _ _ | refine (on_up_ne (by omega)).trans ?_)
  · rfl
  first | refine on_astore_n (pc' := 7) rfl rfl rfl (by decide) ?_ | refine on_astore_nQ (pc' := 7) rfl rfl rfl (by decide) ?_
  first | refine on_aload_n (pc' := 8) rfl rfl rfl rfl ?_ | refine on_aload_nQ (pc' := 8) rfl rfl rfl rfl ?_
  apply on_alenQ (pc' := 9) rfl rfl
  · repeat (first | assumption | exact on_up_eq _ _ _ | refine (on_up_ne (by omega)).trans ?_)
  · rfl
  refine on_istore_n (pc' := 10) rfl rfl rfl (by decide) ?_
  refine on_iconst (pc' := 11) (v := 0) rfl rfl li_0 ?_
  refine on_istore (pc' := 13) rfl rfl (by decide) ?_
  refine on_relv (l := [(0, .ref a), (1, .int (nI (e_sc en 0))), (2, .ref (a + 6)), (3, .int (nI 12)), (4, .int (nI 0))]) ⟨rfl, rfl, rfl, rfl, rfl, trivial⟩ (esc_l K ?_ 12 0 rfl)
  refine on_iload_n (pc' := 52) rfl rfl rfl rfl ?_
  refine on_ireturn rfl rfl ?_
  exact ⟨rfl, rfl, rfl⟩
set_option maxHeartbeats 4000000 in
theorem unq_l {f n : Nat} {W A : Nat → Int32} {wa : List Nat} {fs : List Value} (hq1 : q ≠ o ∧ q ≠ o + 1) (hn : n ≤ 124 ∧ n ≤ wa.length ∧ wa.length ≤ 400) (hf : f < 400) (hW : ∀ k, k < wa.length → W ((f + k) % 400) = nI (wa.getD k 0) ∧ wa.getD k 0 < 256) (o0 : h o = some (.inr (10, .ref (o + 1) :: .ref (o + 2) :: .int (nI f) :: fs))) (w0 : h (o + 1) = some (on_ai 0 400 W))
    (kk : ∀ B : Nat → Int32, (∀ i, B i = if 16 ≤ i ∧ i < 16 + n then nI (wa.getD (i - 16) 0) else A i) → on_E G M_Stream_unqueue 40 (on_l [(0, .ref o), (2, .int (nI n))]) [] (on_up h q (on_ai 0 140 B)) sz bc bs Q) :
    ∀ (m i : Nat) (B : Nat → Int32), i + m = n → (∀ j, B j = if 16 ≤ j ∧ j < 16 + i then nI (wa.getD (j - 16) 0) else A j) → on_E G M_Stream_unqueue 2 (on_l [(0, .ref o), (1, .ref q), (2, .int (nI n)), (3, .int (nI i))]) [] (on_up h q (on_ai 0 140 B)) sz bc bs Q := by
  intro m
  induction m with
  | zero =>
    intro i B hi hB
    obtain rfl : i = n := by omega
    refine on_iload_n (pc' := 3) rfl rfl rfl rfl ?_
    refine on_iload_n (pc' := 4) rfl rfl rfl rfl ?_
    refine on_icmp_ge (pc' := 7) (tgt := 40) rfl rfl rfl (fun cq => ?_) (fun cq => ?_)
    · exact on_relv (l := [(0, .ref o), (2, .int (nI i))]) ⟨rfl, rfl, trivial⟩ (kk B hB)
    · exact absurd (nI_le (a := i) (Nat.le_refl _) (by omega)) cq
  | succ m ih =>
    intro i B hi hB
    have j0 : 16 + i < 140 ∧ 140 < 2 ^ 31 := by omega
    have j1 : (f + i) % 400 < 400 ∧ 400 < 2 ^ 31 := by omega
    refine on_iload_n (pc' := 3) rfl rfl rfl rfl ?_
    refine on_iload_n (pc' := 4) rfl rfl rfl rfl ?_
    refine on_icmp_ge (pc' := 7) (tgt := 40) rfl rfl rfl (fun cq => ?_) (fun cq => ?_)
    · exact absurd cq (nI_ge (b := n) (by omega) (by omega))
    · clear cq
      refine on_iload_n (pc' := 8) rfl rfl rfl rfl ?_
      refine on_bipush (pc' := 10) (v := 124) rfl rfl lb_124 ?_
      refine on_icmp_ge (pc' := 13) (tgt := 40) rfl rfl rfl (fun cq => ?_) (fun cq => ?_)
      · exact absurd cq (nI_ge (b := 124) (by omega) (by omega))
      · clear cq
        first | refine on_aload_n (pc' := 14) rfl rfl rfl rfl ?_ | refine on_aload_nQ (pc' := 14) rfl rfl rfl rfl ?_
        refine on_bipush (pc' := 16) (v := 16) rfl rfl lb_16 ?_
        refine on_iload_n (pc' := 17) rfl rfl rfl rfl ?_
        refine on_iadd (pc' := 18) rfl rfl ?_
        rw [show (16 : Int32) + nI i = nI (16 + i) from nI_add 16 i]
        first | refine on_aload_n (pc' := 19) rfl rfl rfl rfl ?_ | refine on_aload_nQ (pc' := 19) rfl rfl rfl rfl ?_
        first | apply on_get (pc' := 22) rfl rfl fl_Stream_9 | apply on_getN (pc' := 22) rfl rfl fl_Stream_9
        · repeat (first | assumption | exact on_up_eq _ _ _ | refine (on_up_ne (by omega)).trans ?_)
        · rfl
        first | refine on_aload_n (pc' := 23) rfl rfl rfl rfl ?_ | refine on_aload_nQ (pc' := 23) rfl rfl rfl rfl ?_
        first | apply on_get (pc' := 26) rfl rfl fl_Stream_40 | apply on_getN (pc' := 26) rfl rfl fl_Stream_40
        · repeat (first | assumption | exact on_up_eq _ _ _ | refine (on_up_ne (by omega)).trans ?_)
        · rfl
        refine on_iload_n (pc' := 27) rfl rfl rfl rfl ?_
        refine on_iadd (pc' := 28) rfl rfl ?_
        rw [nI_add]
        refine on_sipush (pc' := 31) (v := 400) rfl rfl ls_400 ?_
        refine on_irem (pc' := 32) rfl rfl (by first | assumption | decide) ?_
        rw [show i_rem (nI (f + i)) 400 = nI ((f + i) % 400) from pk_rem (d := 400) (by omega) (by decide) (by decide)]
        apply on_ialoadK (pc' := 33) (t := 0) rfl rfl
        · repeat (first | assumption | exact on_up_eq _ _ _ | refine (on_up_ne (by omega)).trans ?_)
        · rfl
        · first | assumption | exact on_lit _ | rfl
        · first | assumption | omega | decide
        rw [(hW i (by omega)).1]
        apply on_iastoreK (pc' := 34) (t := 0) rfl rfl
        · repeat (first | assumption | exact on_up_eq _ _ _ | refine (on_up_ne (by omega)).trans ?_)
        · rfl
        · first | assumption | exact on_lit _ | rfl
        · first | assumption | omega | decide
        refine on_iinc1 (pc' := 37) rfl rfl rfl ?_
        refine on_goto (tgt := 2) rfl rfl ?_
        rw [on_up_up]
        refine on_relv (l := [(0, .ref o), (1, .ref q), (2, .int (nI n)), (3, .int (nI (i + 1)))]) ⟨rfl, rfl, rfl, congrArg some (congrArg Value.int (nI_1 i)), trivial⟩ (ih (i + 1) _ (by omega) (fun j => ?_))
        by_cases z : j = 16 + i
        · subst z
          rw [pk_us, if_pos (by omega), show 16 + i - 16 = i by omega]
        · rw [pk_un z, hB j]
          by_cases z2 : 16 ≤ j ∧ j < 16 + i
          · rw [if_pos z2, if_pos (by omega)]
          · rw [if_neg z2, if_neg (by omega)]
/-- unqueue: n bytes go into a cell -/
theorem c_unqueue {n : Nat} {A : Nat → Int32} (K : sm_S o t h) (hn : n ≤ 124 ∧ n ≤ t.wa.length) (hq : h q = some (on_ai 0 140 A)) (hqo : q < o ∨ o + 3 ≤ q) :
    on_Ct G M_Stream_unqueue [.ref o, .ref q, .int (nI n)] h sz 0 0 (fun v h1 z => v = none ∧ z = sz ∧ sm_S o (t.ph, t.wi, t.ca, t.wa.drop n, t.go) h1 ∧ (∃ B, h1 q = some (on_ai 0 140 B) ∧ ∀ i, B i = if 16 ≤ i ∧ i < 16 + n then nI (t.wa.getD (i - 16) 0) else A i) ∧ ∀ b, b ≠ o → b ≠ q → h1 b = h b) := by
  obtain ⟨f, W, o0, w0, hf, hwl, hW, kp, hph⟩ := id K
  refine on_Ct.of (by decide) v_Stream_unqueue (Nat.le_of_ble_eq_true rfl) ?_
  refine on_iconst (pc' := 1) (v := 0) rfl rfl li_0 ?_
  refine on_istore_n (pc' := 2) rfl rfl rfl (by decide) ?_
  have z := unq_l (G := G) (sz := sz) (bc := 0) (bs := 0) (h := h) (q := q) (o := o) (n := n) (A := A) (W := W) (f := f) (wa := t.wa) (Q := fun v h1 z => v = none ∧ z = sz ∧ sm_S o (t.ph, t.wi, t.ca, t.wa.drop n, t.go) h1 ∧ (∃ B, h1 q = some (on_ai 0 140 B) ∧ ∀ i, B i = if 16 ≤ i ∧ i < 16 + n then nI (t.wa.getD (i - 16) 0) else A i) ∧ ∀ b, b ≠ o → b ≠ q → h1 b = h b) ⟨by omega, by omega⟩ ⟨hn.1, hn.2, hwl⟩ hf hW o0 w0 (fun B hB => ?_) n 0 A (by omega) (fun j => by rw [if_neg (by omega)])
  · rw [show on_up h q (on_ai 0 140 A) = h from funext fun b => by
      by_cases e : b = q
      · rw [e, on_up_eq, hq]
      · rw [on_up_ne e]] at z
    exact on_relv (l := [(0, .ref o), (1, .ref q), (2, .int (nI n)), (3, .int (nI 0))]) ⟨rfl, rfl, rfl, rfl, trivial⟩ z
  · have o1 : on_up h q (on_ai 0 140 B) o = _ := (on_up_ne (by omega)).trans o0
    first | refine on_aload_n (pc' := 41) rfl rfl rfl rfl ?_ | refine on_aload_nQ (pc' := 41) rfl rfl rfl rfl ?_
    first | refine on_aload_n (pc' := 42) rfl rfl rfl rfl ?_ | refine on_aload_nQ (pc' := 42) rfl rfl rfl rfl ?_
    first | apply on_get (pc' := 45) rfl rfl fl_Stream_40 | apply on_getN (pc' := 45) rfl rfl fl_Stream_40
    · repeat (first | assumption | exact on_up_eq _ _ _ | refine (on_up_ne (by omega)).trans ?_)
    · rfl
    refine on_iload_n (pc' := 46) rfl rfl rfl rfl ?_
    refine on_iadd (pc' := 47) rfl rfl ?_
    rw [nI_add]
    refine on_sipush (pc' := 50) (v := 400) rfl rfl ls_400 ?_
    refine on_irem (pc' := 51) rfl rfl (by first | assumption | decide) ?_
    rw [show i_rem (nI (f + n)) 400 = nI ((f + n) % 400) from pk_rem (d := 400) (by omega) (by decide) (by decide)]
    first | apply on_put (pc' := 54) rfl rfl fp_Stream_40 | apply on_putN (pc' := 54) rfl rfl fp_Stream_40
    · repeat (first | assumption | exact on_up_eq _ _ _ | refine (on_up_ne (by omega)).trans ?_)
    · first | rfl | assumption
    · first | rfl | assumption
    · exact Nat.le_of_ble_eq_true rfl
    first | refine on_aload_n (pc' := 55) rfl rfl rfl rfl ?_ | refine on_aload_nQ (pc' := 55) rfl rfl rfl rfl ?_
    refine on_dup (pc' := 56) rfl rfl rfl ?_
    first | apply on_get (pc' := 59) rfl rfl fl_Stream_37 | apply on_getN (pc' := 59) rfl rfl fl_Stream_37
    · repeat (first | assumption | exact on_up_eq _ _ _ | refine (on_up_ne (by omega)).trans ?_)
    · rfl
    refine on_iload_n (pc' := 60) rfl rfl rfl rfl ?_
    refine on_isub (pc' := 61) rfl rfl ?_
    rw [show nI t.wa.length - nI n = nI (t.wa.length - n) from pk_sub hn.2]
    first | apply on_put (pc' := 64) rfl rfl fp_Stream_37 | apply on_putN (pc' := 64) rfl rfl fp_Stream_37
    · repeat (first | assumption | exact on_up_eq _ _ _ | refine (on_up_ne (by omega)).trans ?_)
    · first | rfl | assumption
    · first | rfl | assumption
    · exact Nat.le_of_ble_eq_true rfl
    refine on_vreturn rfl rfl ?_
    refine ⟨rfl, rfl, ⟨(f + n) % 400, W, ?_, (on_up_ne (by omega)).trans ((on_up_ne (by omega)).trans ((on_up_ne (by omega)).trans w0)), by omega, ?_, fun k hk => ?_, kp.keep ((on_up_ne (by omega)).trans ((on_up_ne (by omega)).trans (on_up_ne (by omega)))), hph⟩, ⟨B, (on_up_ne (by omega)).trans ((on_up_ne (by omega)).trans (on_up_eq _ _ _)), hB⟩, fun b b1 b2 => (on_up_ne b1).trans ((on_up_ne b1).trans (on_up_ne b2))⟩
    · rw [on_up_eq, show (aT.wa (t.ph, t.wi, t.ca, t.wa.drop n, t.go)).length = t.wa.length - n from List.length_drop]
      rfl
    · show (t.wa.drop n).length ≤ 400
      rw [List.length_drop]
      omega
    · have hk : k < (t.wa.drop n).length := hk
      rw [List.length_drop] at hk
      show W (((f + n) % 400 + k) % 400) = nI ((t.wa.drop n).getD k 0) ∧ (t.wa.drop n).getD k 0 < 256
      have := hW (n + k) (by omega)
      rw [show (f + (n + k)) % 400 = ((f + n) % 400 + k) % 400 by omega] at this
      rw [show (t.wa.drop n).getD k 0 = t.wa.getD (n + k) 0 by rw [List.getD_eq_getElem?_getD, List.getElem?_drop, List.getD_eq_getElem?_getD]]
      exact this
end CNT
