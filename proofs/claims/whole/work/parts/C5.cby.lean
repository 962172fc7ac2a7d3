/-! OnionNet: the circuit that a cell belongs to -/
/-- what is read of a circuit -/
def cb_S (cA : Nat → Nat) (kA ra : Nat → Nat) (ot hs : Nat) (rs : Nat → aR) (k : aC) (i : Nat) (h : on_H) : Prop := (∃ jo sc, cr_O (cA i) (kA k.cl) hs (nI k.nu) (nI k.ph) jo sc h) ∧ (∃ v w z, h (kA k.cl) = some (.inr (4, [.int (nI (k.cl + 8)), v, w, z]))) ∧ pa_S (cA i) ra k.pa h ∧ (0 < k.pa.length ∧ k.pa.length < 2 ^ 31) ∧ rl_S (ra (k.pa.getD 0 0)) ot hs (k.pa.getD 0 0) (rs (k.pa.getD 0 0)) h ∧ k.cl < 2 ∧ k.pa.getD 0 0 < 8 ∧ k.ph ≤ 2
def p_ci (C : Nat → aC) (cl fr : Nat) (num : Int32) : Nat → Bool := fun i => decide ((C i).cl + 8 = cl) && decide (nI (C i).nu = num) && decide ((C i).pa.getD 0 0 = fr) && decide ((C i).ph ≠ 2)
section CBY
variable {G : on_G} {o ot hs nc cl fr sz bc bs : Nat} {rc cc num : Int32} {F : Nat → Option Nat} {cA kA ra : Nat → Nat} {rs : Nat → aR} {C : Nat → aC} {h : on_H} {Q : Option Value → on_H → Nat → Prop}
set_option maxHeartbeats 8000000 in
theorem cby_l (hO : n_O o rc cc (nI nc) h) (hnc : nc ≤ 6) (hcl : cl < 10) (hfr : fr < 10) (hR : h (o + 3) = some (on_aq 9 6 F)) (hC : ∀ i, i < nc → F i = some (cA i + 1) ∧ cb_S cA kA ra ot hs rs (C i) i h)
    (kn : (List.range nc).find? (p_ci C cl fr num) = none → ∀ lv, on_E G M_N_circuitBy 69 lv [] h sz bc bs Q) (ks : ∀ i, i < nc → (List.range nc).find? (p_ci C cl fr num) = some i → on_E G M_N_circuitBy 60 (on_l [(5, .ref (cA i + 1))]) [] h sz bc bs Q) :
    ∀ (m i : Nat), i + m = nc → (∀ j, j < i → p_ci C cl fr num j = false) → on_E G M_N_circuitBy 3 (on_l [(0, .ref o), (1, .int (nI cl)), (2, .int (nI fr)), (3, .int num), (4, .int (nI i))]) [] h sz bc bs Q := by
  have o1 : h o = some (.inr (11, [.ref (o + 1), .ref (o + 2), .ref (o + 3), .ref (o + 4), .ref (o + 5), .ref (o + 34), .ref (o + 42), .ref (o + 43), .int rc, .int cc, .int (nI nc)])) := hO
  intro m
  induction m with
  | zero =>
    intro i hi hj
    obtain rfl : i = nc := by omega
    refine on_iload (pc' := 5) rfl rfl rfl ?_
    first | refine on_aload_n (pc' := 6) rfl rfl rfl rfl ?_ | refine on_aload_nQ (pc' := 6) rfl rfl rfl rfl ?_
    first | apply on_get (pc' := 9) rfl rfl fl_N_98 | apply on_getN (pc' := 9) rfl rfl fl_N_98
    · repeat (first | assumption | exact on_up_eq _ _ _ | refine (on_up_ne (by omega)).trans ?_)
    · rfl
    refine on_icmp_ge (pc' := 12) (tgt := 69) rfl rfl rfl (fun cq => ?_) (fun cq => ?_)
    · exact kn (rf_none hj) _
    · exact absurd (nI_le (a := i) (Nat.le_refl _) (by omega)) cq
  | succ m ih =>
    intro i hi hj
    have i6 : i < 6 ∧ 6 < 2 ^ 31 := by omega
    obtain ⟨eF, ⟨jo, sc, c0⟩, ⟨v, w, z, n0⟩, P, hl, R, hk, hp, hph⟩ := hC i (by omega)
    have c1 : h (cA i + 1) = some (.inr (9, [.ref (kA (C i).cl), .int (nI (C i).nu), .ref (cA i), .ref hs, .ref (cA i + 5), .ref (cA i + 6), .ref (cA i + 2), .ref (cA i + 3), .ref (cA i + 4), .int (nI (C i).ph), .int jo, .int sc])) := c0
    have next : p_ci C cl fr num i = false → on_E G M_N_circuitBy 63 (on_l [(0, .ref o), (1, .int (nI cl)), (2, .int (nI fr)), (3, .int num), (4, .int (nI i))]) [] h sz bc bs Q := fun hn => by
      refine on_iinc1 (pc' := 66) rfl rfl rfl ?_
      refine on_goto (tgt := 3) rfl rfl ?_
      refine on_relv (l := [(0, .ref o), (1, .int (nI cl)), (2, .int (nI fr)), (3, .int num), (4, .int (nI (i + 1)))]) ⟨rfl, rfl, rfl, rfl, congrArg some (congrArg Value.int (nI_1 i)), trivial⟩ (ih (i + 1) (by omega) (fun j hj2 => ?_))
      by_cases z : j = i
      · rw [z]; exact hn
      · exact hj j (by omega)
    have nx := fun lv => on_relv (lv := lv) (G := G) (M := M_N_circuitBy) (pc := 63) (st := []) (h := h) (sz := sz) (bc := bc) (bs := bs) (Q := Q) (l := [(0, .ref o), (1, .int (nI cl)), (2, .int (nI fr)), (3, .int num), (4, .int (nI i))])
    refine on_iload (pc' := 5) rfl rfl rfl ?_
    first | refine on_aload_n (pc' := 6) rfl rfl rfl rfl ?_ | refine on_aload_nQ (pc' := 6) rfl rfl rfl rfl ?_
    first | apply on_get (pc' := 9) rfl rfl fl_N_98 | apply on_getN (pc' := 9) rfl rfl fl_N_98
    · repeat (first | assumption | exact on_up_eq _ _ _ | refine (on_up_ne (by omega)).trans ?_)
    · rfl
    refine on_icmp_ge (pc' := 12) (tgt := 69) rfl rfl rfl (fun cq => ?_) (fun cq => ?_)
    · exact absurd cq (nI_ge (b := nc) (by omega) (by omega))
    · clear cq
      first | refine on_aload_n (pc' := 13) rfl rfl rfl rfl ?_ | refine on_aload_nQ (pc' := 13) rfl rfl rfl rfl ?_
      first | apply on_get (pc' := 16) rfl rfl fl_N_23 | apply on_getN (pc' := 16) rfl rfl fl_N_23
      · repeat (first | assumption | exact on_up_eq _ _ _ | refine (on_up_ne (by omega)).trans ?_)
      · rfl
      refine on_iload (pc' := 18) rfl rfl rfl ?_
      apply on_aaloadK (pc' := 19) rfl rfl
      · repeat (first | assumption | exact on_up_eq _ _ _ | refine (on_up_ne (by omega)).trans ?_)
      · rfl
      · first | assumption | exact on_lit _ | rfl
      · first | assumption | omega | decide
      rw [eF]
      show on_E G M_N_circuitBy 19 _ [.ref (cA i + 1)] h sz _ _ _
      first | refine on_astore (pc' := 21) rfl rfl (by decide) ?_ | refine on_astoreQ (pc' := 21) rfl rfl (by decide) ?_
      first | refine on_aload (pc' := 23) rfl rfl rfl ?_ | refine on_aloadQ (pc' := 23) rfl rfl rfl ?_
      first | apply on_get (pc' := 26) rfl rfl fl_N_126 | apply on_getN (pc' := 26) rfl rfl fl_N_126
      · repeat (first | assumption | exact on_up_eq _ _ _ | refine (on_up_ne (by omega)).trans ?_)
      · rfl
      first | apply on_get (pc' := 29) rfl rfl fl_N_130 | apply on_getN (pc' := 29) rfl rfl fl_N_130
      · repeat (first | assumption | exact on_up_eq _ _ _ | refine (on_up_ne (by omega)).trans ?_)
      · rfl
      refine on_iload_n (pc' := 30) rfl rfl rfl rfl ?_
      refine on_icmp_ne (pc' := 33) (tgt := 63) rfl rfl rfl (fun cq => ?_) (fun cq => ?_)
      · have ne : ¬ (C i).cl + 8 = cl := fun z => cq (by rw [z])
        exact nx _ ⟨rfl, rfl, rfl, rfl, rfl, trivial⟩ (next (by unfold p_ci; rw [decide_eq_false ne]; rfl))
      · have q1 : (C i).cl + 8 = cl := (nI_eq (a := (C i).cl + 8) (b := cl) (by omega) (by omega)).mp cq
        clear cq
        first | refine on_aload (pc' := 35) rfl rfl rfl ?_ | refine on_aloadQ (pc' := 35) rfl rfl rfl ?_
        first | apply on_get (pc' := 38) rfl rfl fl_N_232 | apply on_getN (pc' := 38) rfl rfl fl_N_232
        · repeat (first | assumption | exact on_up_eq _ _ _ | refine (on_up_ne (by omega)).trans ?_)
        · rfl
        refine on_iload_n (pc' := 39) rfl rfl rfl rfl ?_
        refine on_icmp_ne (pc' := 42) (tgt := 63) rfl rfl rfl (fun cq => ?_) (fun cq => ?_)
        · exact nx _ ⟨rfl, rfl, rfl, rfl, rfl, trivial⟩ (next (by unfold p_ci; rw [decide_eq_false cq, Bool.and_false]; rfl))
        · have q2 := cq
          clear cq
          first | refine on_aload (pc' := 44) rfl rfl rfl ?_ | refine on_aloadQ (pc' := 44) rfl rfl rfl ?_
          refine on_callV (pc' := 47) (As := []) (rest := []) (b := cA i + 1) rfl rfl cw_N_circuitBy_233 (c1) rfl rfl (Nat.le_of_ble_eq_true rfl) (Nat.zero_le _) (Nat.zero_le _) (c_firstRelay c0 P hl R) ?_
          rintro v h sz ⟨rfl, rfl, rfl⟩
          refine on_iload_n (pc' := 48) rfl rfl rfl rfl ?_
          refine on_icmp_ne (pc' := 51) (tgt := 63) rfl rfl rfl (fun cq => ?_) (fun cq => ?_)
          · have ne : ¬ (C i).pa.getD 0 0 = fr := fun z => cq (by rw [z])
            exact nx _ ⟨rfl, rfl, rfl, rfl, rfl, trivial⟩ (next (by unfold p_ci; rw [decide_eq_false ne, Bool.and_false]; rfl))
          · have q3 : (C i).pa.getD 0 0 = fr := (nI_eq (a := (C i).pa.getD 0 0) (b := fr) (by omega) (by omega)).mp cq
            clear cq
            first | refine on_aload (pc' := 53) rfl rfl rfl ?_ | refine on_aloadQ (pc' := 53) rfl rfl rfl ?_
            first | apply on_get (pc' := 56) rfl rfl fl_N_168 | apply on_getN (pc' := 56) rfl rfl fl_N_168
            · repeat (first | assumption | exact on_up_eq _ _ _ | refine (on_up_ne (by omega)).trans ?_)
            · rfl
            refine on_iconst (pc' := 57) (v := 2) rfl rfl li_2 ?_
            refine on_icmp_eq (pc' := 60) (tgt := 63) rfl rfl rfl (fun cq => ?_) (fun cq => ?_)
            · have e2 : (C i).ph = 2 := (nI_eq (a := (C i).ph) (b := 2) (by omega) (by decide)).mp cq
              exact nx _ ⟨rfl, rfl, rfl, rfl, rfl, trivial⟩ (next (by unfold p_ci; rw [decide_eq_false (show ¬ ((C i).ph ≠ 2) from fun z => z e2), Bool.and_false]))
            · have q4 : (C i).ph ≠ 2 := fun z => cq (by rw [z]; rfl)
              exact on_relv (l := [(5, .ref (cA i + 1))]) ⟨rfl, trivial⟩ (ks i (by omega) (rf_some (by omega) (by unfold p_ci; rw [decide_eq_true q1, decide_eq_true q2, decide_eq_true q3, decide_eq_true q4]; rfl) hj))
/-- circuitBy -/
theorem c_circuitBy (hO : n_O o rc cc (nI nc) h) (hnc : nc ≤ 6) (hcl : cl < 10) (hfr : fr < 10) (hR : h (o + 3) = some (on_aq 9 6 F)) (hC : ∀ i, i < nc → F i = some (cA i + 1) ∧ cb_S cA kA ra ot hs rs (C i) i h) :
    on_Ct G M_N_circuitBy [.ref o, .int (nI cl), .int (nI fr), .int num] h sz 0 0 (fun v h1 z => v = some (va_rf (((List.range nc).find? (p_ci C cl fr num)).map (fun i => cA i + 1))) ∧ z = sz ∧ h1 = h) := by
  refine on_Ct.of (by decide) v_N_circuitBy (Nat.le_of_ble_eq_true rfl) ?_
  refine on_iconst (pc' := 1) (v := 0) rfl rfl li_0 ?_
  refine on_istore (pc' := 3) rfl rfl (by decide) ?_
  refine on_relv (l := [(0, .ref o), (1, .int (nI cl)), (2, .int (nI fr)), (3, .int num), (4, .int (nI 0))]) ⟨rfl, rfl, rfl, rfl, rfl, trivial⟩ (cby_l hO hnc hcl hfr hR hC (fun hn lv => ?_) (fun k hk he => ?_) nc 0 (by omega) (fun j hj => absurd hj (by omega)))
  · refine on_null (pc' := 70) rfl rfl ?_
    first | refine on_areturn (r := some _) (M := M_N_circuitBy) (pc := 70) (rt := (Jvm.ClassFile.FieldType.object "OnionNet$Circuit")) rfl rfl (Or.inl ⟨_, rfl⟩) ?_ | refine on_areturn (r := none) (M := M_N_circuitBy) (pc := 70) (rt := (Jvm.ClassFile.FieldType.object "OnionNet$Circuit")) rfl rfl (Or.inl ⟨_, rfl⟩) ?_ | refine on_areturn (M := M_N_circuitBy) (pc := 70) (rt := (Jvm.ClassFile.FieldType.object "OnionNet$Circuit")) rfl rfl (Or.inl ⟨_, rfl⟩) ?_
    exact ⟨by rw [hn]; rfl, rfl, rfl⟩
  · first | refine on_aload (pc' := 62) rfl rfl rfl ?_ | refine on_aloadQ (pc' := 62) rfl rfl rfl ?_
    first | refine on_areturn (r := some _) (M := M_N_circuitBy) (pc := 62) (rt := (Jvm.ClassFile.FieldType.object "OnionNet$Circuit")) rfl rfl (Or.inl ⟨_, rfl⟩) ?_ | refine on_areturn (r := none) (M := M_N_circuitBy) (pc := 62) (rt := (Jvm.ClassFile.FieldType.object "OnionNet$Circuit")) rfl rfl (Or.inl ⟨_, rfl⟩) ?_ | refine on_areturn (M := M_N_circuitBy) (pc := 62) (rt := (Jvm.ClassFile.FieldType.object "OnionNet$Circuit")) rfl rfl (Or.inl ⟨_, rfl⟩) ?_
    exact ⟨by rw [he]; rfl, rfl, rfl⟩
end CBY
