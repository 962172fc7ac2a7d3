/-! OnionNet: numbers of the caller, and what is found by them -/
/-- a number below n -/
def p_i (n : Nat) (x : Int32) : Option Nat := if ¬ x < 0 ∧ x < nI n then some x.toNatClampNeg else none
/-- a row whose first n places are filled -/
def rf (n : Nat) (A : Nat → Nat) : Nat → Option Nat := fun j => if j < n then some (A j) else none
theorem p_i_some {n i : Nat} {x : Int32} (hn : n < 2 ^ 31) (e : p_i n x = some i) : i < n ∧ x = nI i := by
  unfold p_i at e
  split at e
  next z =>
    obtain ⟨j, hj, ej, -, en, -⟩ := pk_mu (L := n) z.1 (Int32.not_le.mpr z.2) hn
    rw [en] at e
    cases e
    exact ⟨hj, ej⟩
  next z => exact nomatch e
theorem p_i_nI {n i : Nat} (hn : n < 2 ^ 31) (hi : i < n) : p_i n (nI i) = some i := by
  unfold p_i
  rw [if_pos ⟨nI_pos (by omega), nI_lt hi hn⟩, nI_clamp (by omega)]
theorem n_at_p {n m : Nat} {A : Nat → Nat} {x : Int32} (hn : n ≤ m) (hm : m < 2 ^ 31) : n_at (rf n A) m x = (p_i n x).map A := by
  unfold n_at p_i
  by_cases x0 : x < 0
  · rw [if_neg (fun z => z.1 x0), if_neg (fun z => z.1 x0)]
    rfl
  by_cases xm : x < nI m
  · obtain ⟨j, hj, ej, -, en, -⟩ := pk_mu (L := m) x0 (Int32.not_le.mpr xm) hm
    rw [if_pos ⟨x0, xm⟩, en]
    by_cases z : j < n
    · rw [if_pos ⟨x0, by rw [ej]; exact nI_lt z (by omega)⟩]
      exact if_pos z
    · rw [if_neg (fun w => z ((nI_ltI (by omega) (by omega)).mp (ej ▸ w.2)))]
      exact if_neg z
  · rw [if_neg (fun z => xm z.2), if_neg (fun z => xm (Int32.lt_of_lt_of_le z.2 (nI_le hn hm)))]
    rfl
theorem x8_lo {x : Int32} (h : ¬ x < 8) : ¬ x - 8 < 0 := by
  intro z
  apply h
  rw [Int32.lt_iff_toInt_lt] at z ⊢
  rw [Int32.toInt_sub, show (8 : Int32).toInt = 8 from by decide, show (0 : Int32).toInt = 0 from by decide] at z
  rw [show (8 : Int32).toInt = 8 from by decide]
  have a1 := Int32.toInt_lt x
  have a2 := Int32.le_toInt x
  by_cases c : x.toInt < 8
  · exact c
  · rw [Int.bmod_eq_of_le (by omega) (by omega)] at z
    omega
theorem x8_hi {x : Int32} (h : x < 8) : p_i 2 (x - 8) = none := by
  cases e : p_i 2 (x - 8) with
  | none => rfl
  | some j =>
    obtain ⟨hj, ej⟩ := p_i_some (by decide) e
    have ex : x = nI (j + 8) := by
      have := congrArg (· + 8) ej
      rw [Int32.sub_add_cancel] at this
      rw [this]
      exact nI_add j 8
    rw [ex] at h
    exact absurd ((nI_ltI (a := j + 8) (b := 8) (by omega) (by decide)).mp h) (by omega)
section SML
variable {G : on_G} {o sz nr nk nc bc bs : Nat} {rc cc kc : Int32} {ra kA cA : Nat → Nat} {h : on_H} {Q : Option Value → on_H → Nat → Prop}
theorem c_relayAtP {x : Int32} (hn : nr ≤ 6) (hO : n_O o rc cc kc h) (hR : h (o + 1) = some (on_aq 4 6 (rf nr ra))) : on_Ct G M_N_relayAt [.ref o, .int x] h sz 0 0 (fun v h1 z => v = some (va_rf ((p_i nr x).map ra)) ∧ z = sz ∧ h1 = h) := by
  rw [← n_at_p (m := 6) hn (by decide)]
  exact c_relayAt hO hR
theorem c_circuitAtP {x : Int32} (hn : nc ≤ 6) (hO : n_O o rc cc kc h) (hR : h (o + 3) = some (on_aq 9 6 (rf nc cA))) : on_Ct G M_N_circuitAt [.ref o, .int x] h sz 0 0 (fun v h1 z => v = some (va_rf ((p_i nc x).map cA)) ∧ z = sz ∧ h1 = h) := by
  rw [← n_at_p (m := 6) hn (by decide)]
  exact c_circuitAt hO hR
theorem c_clientAtP {x : Int32} (hn : nk ≤ 2) (hO : n_O o rc cc kc h) (hR : h (o + 2) = some (on_aq 8 2 (rf nk kA))) : on_Ct G M_N_clientAt [.ref o, .int x] h sz 0 0 (fun v h1 z => v = some (va_rf ((p_i nk (x - 8)).map kA)) ∧ z = sz ∧ h1 = h) := by
  have o1 : h o = some (.inr (11, [.ref (o + 1), .ref (o + 2), .ref (o + 3), .ref (o + 4), .ref (o + 5), .ref (o + 34), .ref (o + 42), .ref (o + 43), .int rc, .int cc, .int kc])) := hO
  have no : ∀ lv, n_at (rf nk kA) 2 (x - 8) = none → on_E G M_N_clientAt 16 lv [] h sz 0 0 (fun v h1 z => v = some (va_rf (n_at (rf nk kA) 2 (x - 8))) ∧ z = sz ∧ h1 = h) := fun lv z => by
    refine on_null (pc' := 17) rfl rfl ?_
    refine on_goto (tgt := 26) rfl rfl ?_
    first | refine on_areturn (r := some _) (M := M_N_clientAt) (pc := 26) (rt := (Jvm.ClassFile.FieldType.object "OnionNet$Node")) rfl rfl (Or.inl ⟨_, rfl⟩) ?_ | refine on_areturn (r := none) (M := M_N_clientAt) (pc := 26) (rt := (Jvm.ClassFile.FieldType.object "OnionNet$Node")) rfl rfl (Or.inl ⟨_, rfl⟩) ?_ | refine on_areturn (M := M_N_clientAt) (pc := 26) (rt := (Jvm.ClassFile.FieldType.object "OnionNet$Node")) rfl rfl (Or.inl ⟨_, rfl⟩) ?_
    rw [z]
    exact ⟨rfl, rfl, rfl⟩
  rw [← n_at_p (m := 2) hn (by decide)]
  refine on_Ct.of (by decide) v_N_clientAt (Nat.le_of_ble_eq_true rfl) ?_
  refine on_iload_n (pc' := 1) rfl rfl rfl rfl ?_
  refine on_bipush (pc' := 3) (v := 8) rfl rfl lb_8 ?_
  refine on_isub (pc' := 4) rfl rfl ?_
  refine on_istore_n (pc' := 5) rfl rfl rfl (by decide) ?_
  refine on_iload_n (pc' := 6) rfl rfl rfl rfl ?_
  refine on_bipush (pc' := 8) (v := 8) rfl rfl lb_8 ?_
  refine on_icmp_lt (pc' := 11) (tgt := 16) rfl rfl rfl (fun cq => ?_) (fun cq => ?_)
  · refine no _ ?_
    have := x8_hi cq
    unfold p_i at this
    unfold n_at
    split at this
    · exact nomatch this
    next z => exact if_neg z
  · have x0 := x8_lo cq
    clear cq
    refine on_iload_n (pc' := 12) rfl rfl rfl rfl ?_
    refine on_iconst (pc' := 13) (v := 2) rfl rfl li_2 ?_
    refine on_icmp_lt (pc' := 16) (tgt := 20) rfl rfl rfl (fun cq => ?_) (fun cq => ?_)
    rotate_left
    · exact no _ (if_neg (fun z => cq z.2))
    · have x2 : x - 8 < nI 2 := cq
      obtain ⟨j, hj, ej, -, en, -⟩ := pk_mu (L := 2) x0 (Int32.not_le.mpr x2) (by decide)
      have j2 : j < 2 ∧ 2 < 2 ^ 31 := ⟨hj, by decide⟩
      first | refine on_aload_n (pc' := 21) rfl rfl rfl rfl ?_ | refine on_aload_nQ (pc' := 21) rfl rfl rfl rfl ?_
      first | apply on_get (pc' := 24) rfl rfl fl_N_17 | apply on_getN (pc' := 24) rfl rfl fl_N_17
      · repeat (first | assumption | exact on_up_eq _ _ _ | refine (on_up_ne (by omega)).trans ?_)
      · rfl
      refine on_iload_n (pc' := 25) rfl rfl rfl rfl ?_
      apply on_aaloadK (pc' := 26) rfl rfl
      · repeat (first | assumption | exact on_up_eq _ _ _ | refine (on_up_ne (by omega)).trans ?_)
      · rfl
      · first | assumption | exact on_lit _ | rfl
      · first | assumption | omega | decide
      first | refine on_areturn (r := some _) (M := M_N_clientAt) (pc := 26) (rt := (Jvm.ClassFile.FieldType.object "OnionNet$Node")) rfl rfl (Or.inl ⟨_, rfl⟩) ?_ | refine on_areturn (r := none) (M := M_N_clientAt) (pc := 26) (rt := (Jvm.ClassFile.FieldType.object "OnionNet$Node")) rfl rfl (Or.inl ⟨_, rfl⟩) ?_ | refine on_areturn (M := M_N_clientAt) (pc := 26) (rt := (Jvm.ClassFile.FieldType.object "OnionNet$Node")) rfl rfl (Or.inl ⟨_, rfl⟩) ?_
      unfold n_at
      rw [if_pos ⟨x0, x2⟩, en]
      exact ⟨rfl, rfl, rfl⟩
set_option maxHeartbeats 4000000 in
/-- streamAt -/
theorem c_streamAt {x y : Int32} {st : Nat → List aT} {sa : Nat → Nat → Nat} (hn : nc ≤ 6) (hO : n_O o rc cc kc h) (hR : h (o + 3) = some (on_aq 9 6 (rf nc (fun i => cA i + 1)))) (hC : ∀ i, i < nc → (∃ cl hs num ph jo, cr_O (cA i) cl hs num ph jo (nI (st i).length) h) ∧ ss_S (cA i) (sa i) (st i) h) :
    on_Ct G M_N_streamAt [.ref o, .int x, .int y] h sz 0 0 (fun v h1 z => v = some (va_rf ((p_i nc x).bind (fun i => n_so (sa i) (st i).length y))) ∧ z = sz ∧ h1 = h) := by
  have o1 : h o = some (.inr (11, [.ref (o + 1), .ref (o + 2), .ref (o + 3), .ref (o + 4), .ref (o + 5), .ref (o + 34), .ref (o + 42), .ref (o + 43), .int rc, .int cc, .int kc])) := hO
  refine on_Ct.of (by decide) v_N_streamAt (Nat.le_of_ble_eq_true rfl) ?_
  first | refine on_aload_n (pc' := 1) rfl rfl rfl rfl ?_ | refine on_aload_nQ (pc' := 1) rfl rfl rfl rfl ?_
  refine on_iload_n (pc' := 2) rfl rfl rfl rfl ?_
  refine on_callV (pc' := 5) (As := [.int x]) (rest := []) (b := o) rfl rfl cw_N_streamAt_118 (o1) rfl rfl (Nat.le_of_ble_eq_true rfl) (Nat.zero_le _) (Nat.zero_le _) (c_circuitAtP hn hO hR) ?_
  rintro v h sz ⟨rfl, rfl, rfl⟩
  cases e : p_i nc x with
  | none =>
    show on_E G M_N_streamAt 5 _ [va_rf none] h sz _ _ _
    first | refine on_astore_n (pc' := 6) rfl rfl rfl (by decide) ?_ | refine on_astore_nQ (pc' := 6) rfl rfl rfl (by decide) ?_
    first | refine on_aload_n (pc' := 7) rfl rfl rfl rfl ?_ | refine on_aload_nQ (pc' := 7) rfl rfl rfl rfl ?_
    refine on_ifnonnullN (pc' := 10) rfl rfl ?_
    refine on_null (pc' := 11) rfl rfl ?_
    refine on_goto (tgt := 19) rfl rfl ?_
    first | refine on_areturn (r := some _) (M := M_N_streamAt) (pc := 19) (rt := (Jvm.ClassFile.FieldType.object "OnionNet$Stream")) rfl rfl (Or.inl ⟨_, rfl⟩) ?_ | refine on_areturn (r := none) (M := M_N_streamAt) (pc := 19) (rt := (Jvm.ClassFile.FieldType.object "OnionNet$Stream")) rfl rfl (Or.inl ⟨_, rfl⟩) ?_ | refine on_areturn (M := M_N_streamAt) (pc := 19) (rt := (Jvm.ClassFile.FieldType.object "OnionNet$Stream")) rfl rfl (Or.inl ⟨_, rfl⟩) ?_
    exact ⟨rfl, rfl, rfl⟩
  | some i =>
    obtain ⟨⟨cl, hs, num, ph, jo, c0⟩, S⟩ := hC i (p_i_some (by omega) e).1
    show on_E G M_N_streamAt 5 _ [.ref (cA i + 1)] h sz _ _ _
    first | refine on_astore_n (pc' := 6) rfl rfl rfl (by decide) ?_ | refine on_astore_nQ (pc' := 6) rfl rfl rfl (by decide) ?_
    first | refine on_aload_n (pc' := 7) rfl rfl rfl rfl ?_ | refine on_aload_nQ (pc' := 7) rfl rfl rfl rfl ?_
    refine on_ifnonnullR (tgt := 14) rfl rfl ?_
    first | refine on_aload_n (pc' := 15) rfl rfl rfl rfl ?_ | refine on_aload_nQ (pc' := 15) rfl rfl rfl rfl ?_
    refine on_iload_n (pc' := 16) rfl rfl rfl rfl ?_
    refine on_callV (pc' := 19) (As := [.int y]) (rest := []) (b := cA i + 1) rfl rfl cw_N_streamAt_212 (c0) rfl rfl (Nat.le_of_ble_eq_true rfl) (Nat.zero_le _) (Nat.zero_le _) (c_streamOfI c0 S) ?_
    rintro v h sz ⟨rfl, rfl, rfl⟩
    first | refine on_areturn (r := some _) (M := M_N_streamAt) (pc := 19) (rt := (Jvm.ClassFile.FieldType.object "OnionNet$Stream")) rfl rfl (Or.inl ⟨_, rfl⟩) ?_ | refine on_areturn (r := none) (M := M_N_streamAt) (pc := 19) (rt := (Jvm.ClassFile.FieldType.object "OnionNet$Stream")) rfl rfl (Or.inl ⟨_, rfl⟩) ?_ | refine on_areturn (M := M_N_streamAt) (pc := 19) (rt := (Jvm.ClassFile.FieldType.object "OnionNet$Stream")) rfl rfl (Or.inl ⟨_, rfl⟩) ?_
    exact ⟨rfl, rfl, rfl⟩
/-- is it a path -/
def i_pb (nr : Nat) (x y : Int32) : Bool := decide (y = -1) || ((p_i nr y).isSome && decide (y ≠ x))
def i_pc (nr : Nat) (x y z : Int32) : Bool := decide (z = -1) || ((p_i nr z).isSome && (decide (z ≠ x) && decide (z ≠ y)))
def i_pa (nr : Nat) (x y z : Int32) : Bool := (p_i nr x).isSome && !(decide (y = -1) && decide (z ≠ -1)) && (i_pb nr x y && i_pc nr x y z)
set_option maxHeartbeats 16000000 in
theorem c_isPath {x y z : Int32} (hn : nr ≤ 6) (hO : n_O o rc cc kc h) (hR : h (o + 1) = some (on_aq 4 6 (rf nr ra))) :
    on_Ct G M_N_isPath [.ref o, .int x, .int y, .int z] h sz 0 0 (fun v h1 s => v = some (.int (bI (i_pa nr x y z))) ∧ s = sz ∧ h1 = h) := by
  have o1 : h o = some (.inr (11, [.ref (o + 1), .ref (o + 2), .ref (o + 3), .ref (o + 4), .ref (o + 5), .ref (o + 34), .ref (o + 42), .ref (o + 43), .int rc, .int cc, .int kc])) := hO
  have fin : ∀ (s t : Bool), on_E G M_N_isPath 75 (on_l [(4, .int (bI s)), (5, .int (bI t))]) [] h sz 0 0 (fun v h1 w => v = some (.int (bI (s && t))) ∧ w = sz ∧ h1 = h) := fun s t => by
    have no : ∀ lv, (s && t) = false → on_E G M_N_isPath 89 lv [] h sz 0 0 (fun v h1 w => v = some (.int (bI (s && t))) ∧ w = sz ∧ h1 = h) := fun lv q => by
      refine on_iconst (pc' := 90) (v := 0) rfl rfl li_0 ?_
      refine on_zreturn rfl rfl ?_ ?_
      · first | rfl | assumption
      rw [q]
      exact ⟨rfl, rfl, rfl⟩
    refine on_iload (pc' := 77) rfl rfl rfl ?_
    refine on_if_eq (pc' := 80) (tgt := 89) rfl rfl rfl (fun cq => ?_) (fun cq => ?_)
    · exact no _ (by cases s with | false => rfl | true => exact absurd cq (by decide))
    · have s1 : s = true := by cases s with | false => exact absurd rfl cq | true => rfl
      clear cq
      refine on_iload (pc' := 82) rfl rfl rfl ?_
      refine on_if_eq (pc' := 85) (tgt := 89) rfl rfl rfl (fun cq => ?_) (fun cq => ?_)
      · exact no _ (by cases t with | false => exact Bool.and_false _ | true => exact absurd cq (by decide))
      · have t1 : t = true := by cases t with | false => exact absurd rfl cq | true => rfl
        refine on_iconst (pc' := 86) (v := 1) rfl rfl li_1 ?_
        refine on_goto (tgt := 90) rfl rfl ?_
        refine on_zreturn rfl rfl ?_ ?_
        · first | rfl | assumption
        rw [s1, t1]
        exact ⟨rfl, rfl, rfl⟩
  have thr : ∀ (s : Bool), on_E G M_N_isPath 45 (on_l [(0, .ref o), (1, .int x), (2, .int y), (3, .int z), (4, .int (bI s))]) [] h sz 0 0 (fun v h1 w => v = some (.int (bI (s && i_pc nr x y z))) ∧ w = sz ∧ h1 = h) := fun s => by
    have e1 : ∀ lv, lv 4 = some (.int (bI s)) → i_pc nr x y z = true → on_E G M_N_isPath 68 lv [] h sz 0 0 (fun v h1 w => v = some (.int (bI (s && i_pc nr x y z))) ∧ w = sz ∧ h1 = h) := fun lv l4 q => by
      refine on_relv (l := [(4, .int (bI s))]) ⟨l4, trivial⟩ ?_
      refine on_iconst (pc' := 69) (v := 1) rfl rfl li_1 ?_
      refine on_goto (tgt := 73) rfl rfl ?_
      refine on_istore (pc' := 75) rfl rfl (by decide) ?_
      rw [q]
      exact on_relv (l := [(4, .int (bI s)), (5, .int (bI true))]) ⟨rfl, rfl, trivial⟩ (fin s true)
    have e0 : ∀ lv, lv 4 = some (.int (bI s)) → i_pc nr x y z = false → on_E G M_N_isPath 72 lv [] h sz 0 0 (fun v h1 w => v = some (.int (bI (s && i_pc nr x y z))) ∧ w = sz ∧ h1 = h) := fun lv l4 q => by
      refine on_relv (l := [(4, .int (bI s))]) ⟨l4, trivial⟩ ?_
      refine on_iconst (pc' := 73) (v := 0) rfl rfl li_0 ?_
      refine on_istore (pc' := 75) rfl rfl (by decide) ?_
      rw [q]
      exact on_relv (l := [(4, .int (bI s)), (5, .int (bI false))]) ⟨rfl, rfl, trivial⟩ (fin s false)
    refine on_iload_n (pc' := 46) rfl rfl rfl rfl ?_
    refine on_iconst (pc' := 47) (v := (-1)) rfl rfl li_m1 ?_
    refine on_icmp_eq (pc' := 50) (tgt := 68) rfl rfl rfl (fun cq => ?_) (fun cq => ?_)
    · exact e1 _ rfl (by unfold i_pc; rw [decide_eq_true cq]; rfl)
    · have q1 := cq
      clear cq
      first | refine on_aload_n (pc' := 51) rfl rfl rfl rfl ?_ | refine on_aload_nQ (pc' := 51) rfl rfl rfl rfl ?_
      refine on_iload_n (pc' := 52) rfl rfl rfl rfl ?_
      refine on_callV (pc' := 55) (As := [.int z]) (rest := []) (b := o) rfl rfl cw_N_isPath_75 (o1) rfl rfl (Nat.le_of_ble_eq_true rfl) (Nat.zero_le _) (Nat.zero_le _) (c_relayAtP hn hO hR) ?_
      rintro v h sz ⟨rfl, rfl, rfl⟩
      cases e : p_i nr z with
      | none =>
        refine on_ifnullN (tgt := 72) rfl rfl (e0 _ rfl ?_)
        unfold i_pc
        rw [decide_eq_false q1, e]
        rfl
      | some j =>
        refine on_ifnullR (pc' := 58) rfl rfl ?_
        refine on_iload_n (pc' := 59) rfl rfl rfl rfl ?_
        refine on_iload_n (pc' := 60) rfl rfl rfl rfl ?_
        refine on_icmp_eq (pc' := 63) (tgt := 72) rfl rfl rfl (fun cq => ?_) (fun cq => ?_)
        · refine e0 _ rfl ?_
          unfold i_pc
          rw [decide_eq_false q1, decide_eq_false (show ¬ z ≠ x from fun w => w cq), Bool.false_and, Bool.and_false]
          rfl
        · have q2 : z ≠ x := cq
          clear cq
          refine on_iload_n (pc' := 64) rfl rfl rfl rfl ?_
          refine on_iload_n (pc' := 65) rfl rfl rfl rfl ?_
          refine on_icmp_eq (pc' := 68) (tgt := 72) rfl rfl rfl (fun cq => ?_) (fun cq => ?_)
          · refine e0 _ rfl ?_
            unfold i_pc
            rw [decide_eq_false q1, decide_eq_false (show ¬ z ≠ y from fun w => w cq), Bool.and_false, Bool.and_false]
            rfl
          · have q3 : z ≠ y := cq
            refine e1 _ rfl ?_
            unfold i_pc
            rw [decide_eq_true q2, decide_eq_true q3, e]
            exact Bool.or_true _
  have sec : (p_i nr x).isSome = true → ¬ (y = -1 ∧ z ≠ -1) → on_E G M_N_isPath 20 (on_l [(0, .ref o), (1, .int x), (2, .int y), (3, .int z)]) [] h sz 0 0 (fun v h1 w => v = some (.int (bI (i_pa nr x y z))) ∧ w = sz ∧ h1 = h) := fun g1 g2 => by
    have eq : i_pa nr x y z = (i_pb nr x y && i_pc nr x y z) := by
      unfold i_pa
      rw [g1, ← Bool.decide_and, decide_eq_false g2]
      rfl
    rw [eq]
    have e1 : ∀ lv, lv 0 = some (.ref o) → lv 1 = some (.int x) → lv 2 = some (.int y) → lv 3 = some (.int z) → i_pb nr x y = true → on_E G M_N_isPath 38 lv [] h sz 0 0 (fun v h1 w => v = some (.int (bI (i_pb nr x y && i_pc nr x y z))) ∧ w = sz ∧ h1 = h) := fun lv l0 l1 l2 l3 q => by
      refine on_relv (l := [(0, .ref o), (1, .int x), (2, .int y), (3, .int z)]) ⟨l0, l1, l2, l3, trivial⟩ ?_
      refine on_iconst (pc' := 39) (v := 1) rfl rfl li_1 ?_
      refine on_goto (tgt := 43) rfl rfl ?_
      refine on_istore (pc' := 45) rfl rfl (by decide) ?_
      rw [q]
      exact on_relv (l := [(0, .ref o), (1, .int x), (2, .int y), (3, .int z), (4, .int (bI true))]) ⟨rfl, rfl, rfl, rfl, rfl, trivial⟩ (thr true)
    have e0 : ∀ lv, lv 0 = some (.ref o) → lv 1 = some (.int x) → lv 2 = some (.int y) → lv 3 = some (.int z) → i_pb nr x y = false → on_E G M_N_isPath 42 lv [] h sz 0 0 (fun v h1 w => v = some (.int (bI (i_pb nr x y && i_pc nr x y z))) ∧ w = sz ∧ h1 = h) := fun lv l0 l1 l2 l3 q => by
      refine on_relv (l := [(0, .ref o), (1, .int x), (2, .int y), (3, .int z)]) ⟨l0, l1, l2, l3, trivial⟩ ?_
      refine on_iconst (pc' := 43) (v := 0) rfl rfl li_0 ?_
      refine on_istore (pc' := 45) rfl rfl (by decide) ?_
      rw [q]
      exact on_relv (l := [(0, .ref o), (1, .int x), (2, .int y), (3, .int z), (4, .int (bI false))]) ⟨rfl, rfl, rfl, rfl, rfl, trivial⟩ (thr false)
    refine on_iload_n (pc' := 21) rfl rfl rfl rfl ?_
    refine on_iconst (pc' := 22) (v := (-1)) rfl rfl li_m1 ?_
    refine on_icmp_eq (pc' := 25) (tgt := 38) rfl rfl rfl (fun cq => ?_) (fun cq => ?_)
    · exact e1 _ rfl rfl rfl rfl (by unfold i_pb; rw [decide_eq_true cq]; rfl)
    · have q1 := cq
      clear cq
      first | refine on_aload_n (pc' := 26) rfl rfl rfl rfl ?_ | refine on_aload_nQ (pc' := 26) rfl rfl rfl rfl ?_
      refine on_iload_n (pc' := 27) rfl rfl rfl rfl ?_
      refine on_callV (pc' := 30) (As := [.int y]) (rest := []) (b := o) rfl rfl cw_N_isPath_75 (o1) rfl rfl (Nat.le_of_ble_eq_true rfl) (Nat.zero_le _) (Nat.zero_le _) (c_relayAtP hn hO hR) ?_
      rintro v h sz ⟨rfl, rfl, rfl⟩
      cases e : p_i nr y with
      | none =>
        refine on_ifnullN (tgt := 42) rfl rfl (e0 _ rfl rfl rfl rfl ?_)
        unfold i_pb
        rw [decide_eq_false q1, e]
        rfl
      | some j =>
        refine on_ifnullR (pc' := 33) rfl rfl ?_
        refine on_iload_n (pc' := 34) rfl rfl rfl rfl ?_
        refine on_iload_n (pc' := 35) rfl rfl rfl rfl ?_
        refine on_icmp_eq (pc' := 38) (tgt := 42) rfl rfl rfl (fun cq => ?_) (fun cq => ?_)
        · refine e0 _ rfl rfl rfl rfl ?_
          unfold i_pb
          rw [decide_eq_false q1, decide_eq_false (show ¬ y ≠ x from fun w => w cq), Bool.and_false]
          rfl
        · have q2 : y ≠ x := cq
          refine e1 _ rfl rfl rfl rfl ?_
          unfold i_pb
          rw [decide_eq_true q2, e]
          exact Bool.or_true _
  have no : ∀ lv, i_pa nr x y z = false → on_E G M_N_isPath 18 lv [] h sz 0 0 (fun v h1 w => v = some (.int (bI (i_pa nr x y z))) ∧ w = sz ∧ h1 = h) := fun lv q => by
    refine on_iconst (pc' := 19) (v := 0) rfl rfl li_0 ?_
    refine on_zreturn rfl rfl ?_ ?_
    · first | rfl | assumption
    rw [q]
    exact ⟨rfl, rfl, rfl⟩
  refine on_Ct.of (by decide) v_N_isPath (Nat.le_of_ble_eq_true rfl) ?_
  first | refine on_aload_n (pc' := 1) rfl rfl rfl rfl ?_ | refine on_aload_nQ (pc' := 1) rfl rfl rfl rfl ?_
  refine on_iload_n (pc' := 2) rfl rfl rfl rfl ?_
  refine on_callV (pc' := 5) (As := [.int x]) (rest := []) (b := o) rfl rfl cw_N_isPath_75 (o1) rfl rfl (Nat.le_of_ble_eq_true rfl) (Nat.zero_le _) (Nat.zero_le _) (c_relayAtP hn hO hR) ?_
  rintro v h sz ⟨rfl, rfl, rfl⟩
  cases e : p_i nr x with
  | none =>
    refine on_ifnullN (tgt := 18) rfl rfl (no _ ?_)
    unfold i_pa
    rw [e]
    rfl
  | some j =>
    have g1 : (p_i nr x).isSome = true := by rw [e]; rfl
    refine on_ifnullR (pc' := 8) rfl rfl ?_
    refine on_iload_n (pc' := 9) rfl rfl rfl rfl ?_
    refine on_iconst (pc' := 10) (v := (-1)) rfl rfl li_m1 ?_
    refine on_icmp_ne (pc' := 13) (tgt := 20) rfl rfl rfl (fun cq => ?_) (fun cq => ?_)
    · exact on_relv (l := [(0, .ref o), (1, .int x), (2, .int y), (3, .int z)]) ⟨rfl, rfl, rfl, rfl, trivial⟩ (sec g1 (fun w => cq w.1))
    · have q1 : y = -1 := cq
      clear cq
      refine on_iload_n (pc' := 14) rfl rfl rfl rfl ?_
      refine on_iconst (pc' := 15) (v := (-1)) rfl rfl li_m1 ?_
      refine on_icmp_eq (pc' := 18) (tgt := 20) rfl rfl rfl (fun cq => ?_) (fun cq => ?_)
      · exact on_relv (l := [(0, .ref o), (1, .int x), (2, .int y), (3, .int z)]) ⟨rfl, rfl, rfl, rfl, trivial⟩ (sec g1 (fun w => w.2 cq))
      · refine no _ ?_
        unfold i_pa
        rw [← Bool.decide_and, decide_eq_true (show y = -1 ∧ z ≠ -1 from ⟨q1, cq⟩), g1]
        rfl
end SML
