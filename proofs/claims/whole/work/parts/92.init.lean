/-! objects of the class are made: Node, Link, Stream, Handshake, Entry -/
theorem su_by (v : Int64) {k : Nat} (hk : k < 64) : (sl_u v (nI k)).toInt32 &&& 255 = nI (v.toBitVec.toNat / 2 ^ k % 256) := by
  have e : v = lN v.toBitVec.toNat := by
    apply Int64.toBitVec_inj.mp
    show v.toBitVec = BitVec.ofNat 64 v.toBitVec.toNat
    rw [BitVec.ofNat_toNat, BitVec.setWidth_eq]
  have h1 : sl_u v (nI k) = lN (v.toBitVec.toNat / 2 ^ k) := by
    have := wb_shr (n := v.toBitVec.toNat) v.toBitVec.isLt hk
    rw [← e] at this
    exact this
  rw [h1, lN_i, pk_and _ 8 rfl, show (nI (v.toBitVec.toNat / 2 ^ k)).toBitVec.toNat = v.toBitVec.toNat / 2 ^ k % 2 ^ 32 from rfl]
  refine congrArg nI ?_
  omega
section INI
variable {G : on_G} {o sz bc bs : Nat} {h : on_H} {Q : Option Value → on_H → Nat → Prop}
set_option maxHeartbeats 4000000 in
/-- new Link: no cell -/
theorem c_Link_init (h0 : h o = some (.inr (5, [.null, .int 0, .int 0]))) (hsz : sz = o + 1) : on_Ct G M_Link_init [.ref o] h sz 1 1120 (fun r h1 z => r = none ∧ z = o + 2 ∧ h1 o = some (.inr (5, [.ref (o + 1), .int 0, .int 0])) ∧ h1 (o + 1) = some (on_ai 0 1120 (fun _ => 0)) ∧ on_sm o (o + 2) h h1) := by
  subst hsz
  refine on_Ct.of (by decide) v_Link_init (Nat.le_of_ble_eq_true rfl) ?_
  first | refine on_aload_n (pc' := 1) rfl rfl rfl rfl ?_ | refine on_aload_nQ (pc' := 1) rfl rfl rfl rfl ?_
  refine on_objInit (pc' := 4) rfl rfl oi_Link_3 w_ob1 w_ob2 (Nat.le_of_ble_eq_true rfl) (Nat.le_of_ble_eq_true rfl) ?_
  first | refine on_aload_n (pc' := 5) rfl rfl rfl rfl ?_ | refine on_aload_nQ (pc' := 5) rfl rfl rfl rfl ?_
  refine on_sipush (pc' := 8) (v := 1120) rfl rfl ls_1120 ?_
  refine on_newarray (pc' := 10) (t := 0) (N := 1120) (ty := .int) (a0 := (1120, .inl (fun _ => 0))) rfl rfl rfl rfl (fun _ _ _ h1 h2 => Option.some.inj (h1.symm.trans h2)) w_arint (fun _ => rfl) (by decide) (by decide) (by decide) (by omega) (by omega) ?_
  apply on_putF (pc' := 13) rfl rfl fp_Link_11 rfl
  · repeat (first | assumption | exact on_up_eq _ _ _ | refine (on_up_ne (by omega)).trans ?_)
  · first | rfl | assumption
  · first | rfl | assumption
  · exact Nat.le_of_ble_eq_true rfl
  refine on_vreturn rfl rfl ?_
  refine ⟨rfl, rfl, on_up_eq _ _ _, ?_, fun a ha => ?_⟩
  · repeat (first | assumption | exact on_up_eq _ _ _ | refine (on_up_ne (by omega)).trans ?_)
  · rw [on_up_ne (by omega), on_up_ne (by omega)]
set_option maxHeartbeats 4000000 in
/-- new Stream -/
theorem c_Stream_init (h0 : h o = some (.inr (10, [.null, .null, .int 0, .int 0, .int 0, .int 0, .int 0, .int 0]))) (hsz : sz = o + 1) : on_Ct G M_Stream_init [.ref o] h sz 2 2400 (fun r h1 z => r = none ∧ z = o + 3 ∧ h1 o = some (.inr (10, [.ref (o + 1), .ref (o + 2), .int 0, .int 0, .int 0, .int 0, .int 4, .int 0])) ∧ h1 (o + 1) = some (on_ai 0 400 (fun _ => 0)) ∧ h1 (o + 2) = some (on_ai 0 2000 (fun _ => 0)) ∧ on_sm o (o + 3) h h1) := by
  subst hsz
  refine on_Ct.of (by decide) v_Stream_init (Nat.le_of_ble_eq_true rfl) ?_
  first | refine on_aload_n (pc' := 1) rfl rfl rfl rfl ?_ | refine on_aload_nQ (pc' := 1) rfl rfl rfl rfl ?_
  refine on_objInit (pc' := 4) rfl rfl oi_Stream_3 w_ob1 w_ob2 (Nat.le_of_ble_eq_true rfl) (Nat.le_of_ble_eq_true rfl) ?_
  first | refine on_aload_n (pc' := 5) rfl rfl rfl rfl ?_ | refine on_aload_nQ (pc' := 5) rfl rfl rfl rfl ?_
  refine on_sipush (pc' := 8) (v := 400) rfl rfl ls_400 ?_
  refine on_newarray (pc' := 10) (t := 0) (N := 400) (ty := .int) (a0 := (400, .inl (fun _ => 0))) rfl rfl rfl rfl (fun _ _ _ h1 h2 => Option.some.inj (h1.symm.trans h2)) w_arint (fun _ => rfl) (by decide) (by decide) (by decide) (by omega) (by omega) ?_
  apply on_putF (pc' := 13) rfl rfl fp_Stream_9 rfl
  · repeat (first | assumption | exact on_up_eq _ _ _ | refine (on_up_ne (by omega)).trans ?_)
  · first | rfl | assumption
  · first | rfl | assumption
  · exact Nat.le_of_ble_eq_true rfl
  first | refine on_aload_n (pc' := 14) rfl rfl rfl rfl ?_ | refine on_aload_nQ (pc' := 14) rfl rfl rfl rfl ?_
  refine on_sipush (pc' := 17) (v := 2000) rfl rfl ls_2000 ?_
  refine on_newarray (pc' := 19) (t := 0) (N := 2000) (ty := .int) (a0 := (2000, .inl (fun _ => 0))) rfl rfl rfl rfl (fun _ _ _ h1 h2 => Option.some.inj (h1.symm.trans h2)) w_arint (fun _ => rfl) (by decide) (by decide) (by decide) (by omega) (by omega) ?_
  apply on_putF (pc' := 22) rfl rfl fp_Stream_15 rfl
  · repeat (first | assumption | exact on_up_eq _ _ _ | refine (on_up_ne (by omega)).trans ?_)
  · first | rfl | assumption
  · first | rfl | assumption
  · exact Nat.le_of_ble_eq_true rfl
  first | refine on_aload_n (pc' := 23) rfl rfl rfl rfl ?_ | refine on_aload_nQ (pc' := 23) rfl rfl rfl rfl ?_
  refine on_iconst (pc' := 24) (v := 0) rfl rfl li_0 ?_
  first | apply on_put (pc' := 27) rfl rfl fp_Stream_18 | apply on_putN (pc' := 27) rfl rfl fp_Stream_18
  · repeat (first | assumption | exact on_up_eq _ _ _ | refine (on_up_ne (by omega)).trans ?_)
  · first | rfl | assumption
  · first | rfl | assumption
  · exact Nat.le_of_ble_eq_true rfl
  first | refine on_aload_n (pc' := 28) rfl rfl rfl rfl ?_ | refine on_aload_nQ (pc' := 28) rfl rfl rfl rfl ?_
  refine on_iconst (pc' := 29) (v := 4) rfl rfl li_4 ?_
  first | apply on_put (pc' := 32) rfl rfl fp_Stream_22 | apply on_putN (pc' := 32) rfl rfl fp_Stream_22
  · repeat (first | assumption | exact on_up_eq _ _ _ | refine (on_up_ne (by omega)).trans ?_)
  · first | rfl | assumption
  · first | rfl | assumption
  · exact Nat.le_of_ble_eq_true rfl
  refine on_vreturn rfl rfl ?_
  refine ⟨rfl, rfl, on_up_eq _ _ _, ?_, ?_, fun a ha => ?_⟩
  · repeat (first | assumption | exact on_up_eq _ _ _ | refine (on_up_ne (by omega)).trans ?_)
  · repeat (first | assumption | exact on_up_eq _ _ _ | refine (on_up_ne (by omega)).trans ?_)
  · repeat (first | assumption | exact on_up_eq _ _ _ | refine (on_up_ne (by omega)).trans ?_)
    all_goals rfl
set_option maxHeartbeats 4000000 in
theorem ndi_l {seed : Int64} {num nx : Int32} (ho : h o = some (.inr (4, [.int num, .ref (o + 1), .int 0, .int nx])))
    (k : ∀ T : Nat → Int32, on_by T (sd_b seed) 8 → on_E G M_Node_init 61 (on_l []) [] (on_up h (o + 1) (on_ai 0 8 T)) sz bc bs Q) :
    ∀ (m i : Nat) (T : Nat → Int32), i + m = 8 → on_by T (sd_b seed) i → on_E G M_Node_init 26 (on_l [(0, .ref o), (2, .long seed), (5, .int (nI i))]) [] (on_up h (o + 1) (on_ai 0 8 T)) sz bc bs Q := by
  intro m
  induction m with
  | zero =>
    intro i T hi hT
    obtain rfl : i = 8 := by omega
    refine on_iload (pc' := 28) rfl rfl rfl ?_
    refine on_bipush (pc' := 30) (v := 8) rfl rfl lb_8 ?_
    refine on_icmp_ge (pc' := 33) (tgt := 61) rfl rfl rfl (fun cq => ?_) (fun cq => ?_)
    · exact on_relv (l := []) trivial (k T hT)
    · exact absurd (nI_le (a := 8) (by omega) (by omega)) cq
  | succ m ih =>
    intro i T hi hT
    have hi2 : i < 8 ∧ 8 < 2 ^ 31 := by omega
    have e1 : (8 : Int32) * nI i = nI (8 * i) := pk_mul 8 i
    have e2 : (56 : Int32) - nI (8 * i) = nI (56 - 8 * i) := pk_sub (a := 56) (by omega)
    refine on_iload (pc' := 28) rfl rfl rfl ?_
    refine on_bipush (pc' := 30) (v := 8) rfl rfl lb_8 ?_
    refine on_icmp_ge (pc' := 33) (tgt := 61) rfl rfl rfl (fun cq => ?_) (fun cq => ?_)
    · exact absurd cq (nI_ge (b := 8) (by omega) (by omega))
    · first | refine on_aload_n (pc' := 34) rfl rfl rfl rfl ?_ | refine on_aload_nQ (pc' := 34) rfl rfl rfl rfl ?_
      first | apply on_get (pc' := 37) rfl rfl fl_Node_7 | apply on_getN (pc' := 37) rfl rfl fl_Node_7
      · repeat (first | assumption | exact on_up_eq _ _ _ | refine (on_up_ne (by omega)).trans ?_)
      · rfl
      refine on_iload (pc' := 39) rfl rfl rfl ?_
      refine on_lload_n (pc' := 40) rfl rfl rfl rfl ?_
      refine on_bipush (pc' := 42) (v := 56) rfl rfl lb_56 ?_
      refine on_bipush (pc' := 44) (v := 8) rfl rfl lb_8 ?_
      refine on_iload (pc' := 46) rfl rfl rfl ?_
      refine on_imul (pc' := 47) rfl rfl ?_
      rw [e1]
      refine on_isub (pc' := 48) rfl rfl ?_
      rw [e2]
      refine on_lushr (pc' := 49) rfl rfl ?_
      refine on_l2i (pc' := 50) rfl rfl ?_
      refine on_sipush (pc' := 53) (v := 255) rfl rfl ls_255 ?_
      refine on_iand (pc' := 54) rfl rfl ?_
      rw [su_by seed (by omega)]
      apply on_iastoreK (pc' := 55) (t := 0) rfl rfl
      · repeat (first | assumption | exact on_up_eq _ _ _ | refine (on_up_ne (by omega)).trans ?_)
      · rfl
      · first | assumption | exact on_lit _ | rfl
      · first | assumption | omega | decide
      refine on_iinc1 (pc' := 58) rfl rfl rfl ?_
      refine on_goto (tgt := 26) rfl rfl ?_
      rw [on_up_up]
      refine on_relv (l := [(0, .ref o), (2, .long seed), (5, .int (nI (i + 1)))]) ⟨rfl, rfl, congrArg some (congrArg Value.int (nI_1 i)), trivial⟩ (ih (i + 1) _ (by omega) (fun j hj => ?_))
      by_cases e : j = i
      · subst e
        rw [pk_us]
        exact ⟨rfl, sd_lt _ _⟩
      · rw [pk_un e]; exact hT j (by omega)
set_option maxHeartbeats 4000000 in
/-- new Node -/
theorem c_Node_init {seed : Int64} {num nx : Int32} (h0 : h o = some (.inr (4, [.int 0, .null, .int 0, .int 0]))) (hsz : sz = o + 1) : on_Ct G M_Node_init [.ref o, .int num, .long seed, .int nx] h sz 1 8 (fun r h1 z => r = none ∧ z = o + 2 ∧ nd_S o num seed 0 nx h1 ∧ on_sm o (o + 2) h h1) := by
  subst hsz
  refine on_Ct.of (by decide) v_Node_init (Nat.le_of_ble_eq_true rfl) ?_
  first | refine on_aload_n (pc' := 1) rfl rfl rfl rfl ?_ | refine on_aload_nQ (pc' := 1) rfl rfl rfl rfl ?_
  refine on_objInit (pc' := 4) rfl rfl oi_Node_1 w_ob1 w_ob2 (Nat.le_of_ble_eq_true rfl) (Nat.le_of_ble_eq_true rfl) ?_
  first | refine on_aload_n (pc' := 5) rfl rfl rfl rfl ?_ | refine on_aload_nQ (pc' := 5) rfl rfl rfl rfl ?_
  refine on_bipush (pc' := 7) (v := 8) rfl rfl lb_8 ?_
  refine on_newarray (pc' := 9) (t := 0) (N := 8) (ty := .int) (a0 := (8, .inl (fun _ => 0))) rfl rfl rfl rfl (fun _ _ _ h1 h2 => Option.some.inj (h1.symm.trans h2)) w_arint (fun _ => rfl) (by decide) (by decide) (by decide) (by omega) (by omega) ?_
  apply on_putF (pc' := 12) rfl rfl fp_Node_7 rfl
  · repeat (first | assumption | exact on_up_eq _ _ _ | refine (on_up_ne (by omega)).trans ?_)
  · first | rfl | assumption
  · first | rfl | assumption
  · exact Nat.le_of_ble_eq_true rfl
  first | refine on_aload_n (pc' := 13) rfl rfl rfl rfl ?_ | refine on_aload_nQ (pc' := 13) rfl rfl rfl rfl ?_
  refine on_iload_n (pc' := 14) rfl rfl rfl rfl ?_
  apply on_putF (pc' := 17) rfl rfl fp_Node_13 rfl
  · repeat (first | assumption | exact on_up_eq _ _ _ | refine (on_up_ne (by omega)).trans ?_)
  · first | rfl | assumption
  · first | rfl | assumption
  · exact Nat.le_of_ble_eq_true rfl
  first | refine on_aload_n (pc' := 18) rfl rfl rfl rfl ?_ | refine on_aload_nQ (pc' := 18) rfl rfl rfl rfl ?_
  refine on_iload (pc' := 20) rfl rfl rfl ?_
  first | apply on_put (pc' := 23) rfl rfl fp_Node_17 | apply on_putN (pc' := 23) rfl rfl fp_Node_17
  · repeat (first | assumption | exact on_up_eq _ _ _ | refine (on_up_ne (by omega)).trans ?_)
  · first | rfl | assumption
  · first | rfl | assumption
  · exact Nat.le_of_ble_eq_true rfl
  refine on_iconst (pc' := 24) (v := 0) rfl rfl li_0 ?_
  refine on_istore (pc' := 26) rfl rfl (by decide) ?_
  have o1 : on_up (on_up (on_up (on_up h (o + 1) (on_ai 0 8 (fun _ => 0))) o (.inr (4, [.int 0, .ref (o + 1), .int 0, .int 0]))) o (.inr (4, [.int num, .ref (o + 1), .int 0, .int 0]))) o (.inr (4, [.int num, .ref (o + 1), .int 0, .int nx])) o = some (.inr (4, [.int num, .ref (o + 1), .int 0, .int nx])) := on_up_eq _ _ _
  have r1 : on_up (on_up (on_up (on_up h (o + 1) (on_ai 0 8 (fun _ => 0))) o (.inr (4, [.int 0, .ref (o + 1), .int 0, .int 0]))) o (.inr (4, [.int num, .ref (o + 1), .int 0, .int 0]))) o (.inr (4, [.int num, .ref (o + 1), .int 0, .int nx])) (o + 1) = some (on_ai 0 8 (fun _ => 0)) := by
    rw [on_up_ne (by omega), on_up_ne (by omega), on_up_ne (by omega), on_up_eq]
  have t1 : ∀ a, a < o ∨ o + 2 ≤ a → on_up (on_up (on_up (on_up h (o + 1) (on_ai 0 8 (fun _ => 0))) o (.inr (4, [.int 0, .ref (o + 1), .int 0, .int 0]))) o (.inr (4, [.int num, .ref (o + 1), .int 0, .int 0]))) o (.inr (4, [.int num, .ref (o + 1), .int 0, .int nx])) a = h a := fun a ha => by
    rw [on_up_ne (by omega), on_up_ne (by omega), on_up_ne (by omega), on_up_ne (by omega)]
  have z := fun h2 hh => ndi_l (G := G) (o := o) (h := h2) (sz := o + 1 + 1) (bc := 1 - 1) (bs := 8 - 8) (seed := seed) (num := num) (nx := nx) (Q := fun r h1 z => r = none ∧ z = o + 2 ∧ nd_S o num seed 0 nx h1 ∧ on_sm o (o + 2) h h1) hh
  have z1 := z _ o1 (fun T hT => by
    refine on_vreturn rfl rfl ?_
    refine ⟨rfl, rfl, ⟨?_, T, on_up_eq _ _ _, hT⟩, fun a ha => ?_⟩
    · rw [on_up_ne (by omega)]; exact o1
    · rw [on_up_ne (by omega)]; exact t1 a ha) 8 0 (fun _ => 0) rfl (fun j hj => absurd hj (by omega))
  rw [on_up_self r1] at z1
  exact on_relv (l := [(0, .ref o), (2, .long seed), (5, .int (nI 0))]) ⟨rfl, rfl, rfl, trivial⟩ z1
set_option maxHeartbeats 16000000 in
/-- new Handshake -/
theorem c_Handshake_init (h0 : h o = some (.inr (3, [.null, .null, .null, .null, .null, .null, .null, .null, .null, .null, .null, .null, .null]))) (hsz : sz = o + 1) : on_Ct G M_Handshake_init [.ref o] h sz 28 734 (fun r h1 z => r = none ∧ z = o + 29 ∧ hk_W o h1 ∧ on_sm o (o + 29) h h1) := by
  subst hsz
  refine on_Ct.of (by decide) v_Handshake_init (Nat.le_of_ble_eq_true rfl) ?_
  first | refine on_aload_n (pc' := 1) rfl rfl rfl rfl ?_ | refine on_aload_nQ (pc' := 1) rfl rfl rfl rfl ?_
  refine on_objInit (pc' := 4) rfl rfl oi_Handshake_3 w_ob1 w_ob2 (Nat.le_of_ble_eq_true rfl) (Nat.le_of_ble_eq_true rfl) ?_
  first | refine on_aload_n (pc' := 5) rfl rfl rfl rfl ?_ | refine on_aload_nQ (pc' := 5) rfl rfl rfl rfl ?_
  refine on_new (pc' := 8) (fs := [.null, .null, .int 0]) rfl rfl nw_Handshake_9 (by intro j hj; match j, hj with | 0, _ => rfl | 1, _ => rfl | 2, _ => rfl | j + 3, hj => exact absurd hj (by omega)) (by omega) (by omega) ?_
  refine on_dup (pc' := 9) rfl rfl rfl ?_
  refine on_callIN (pc' := 12) (As := []) (rest := [.ref (o + 1), .ref o]) (b := o + 1) rfl rfl cw_Handshake_init_11 rfl rfl (Nat.le_of_ble_eq_true rfl) (by omega) (by omega) (c_Sha_init (on_up_eq _ _ _) rfl) ?_
  rintro r h1 z ⟨rfl, rfl, S1, t1⟩
  have o1 : h1 o = some (.inr (3, [.null, .null, .null, .null, .null, .null, .null, .null, .null, .null, .null, .null, .null])) := (t1 _ (by omega)).trans ((on_up_ne (by omega)).trans h0)
  have u1 : ∀ a, (a < o ∨ o + 29 ≤ a) → h1 a = h a := fun a ha => (t1 a (by omega)).trans (on_up_ne (by omega))
  show on_E G M_Handshake_init 12 _ [.ref (o + 1), .ref o] h1 (o + 4) 25 659 _
  apply on_putF (pc' := 15) rfl rfl fp_Handshake_12 rfl
  · repeat (first | assumption | exact on_up_eq _ _ _ | refine (on_up_ne (by omega)).trans ?_)
  · first | rfl | assumption
  · first | rfl | assumption
  · exact Nat.le_of_ble_eq_true rfl
  first | refine on_aload_n (pc' := 16) rfl rfl rfl rfl ?_ | refine on_aload_nQ (pc' := 16) rfl rfl rfl rfl ?_
  refine on_new (pc' := 19) (fs := [.null, .null, .int 0]) rfl rfl nw_Handshake_9 (by intro j hj; match j, hj with | 0, _ => rfl | 1, _ => rfl | 2, _ => rfl | j + 3, hj => exact absurd hj (by omega)) (by omega) (by omega) ?_
  refine on_dup (pc' := 20) rfl rfl rfl ?_
  refine on_callIN (pc' := 23) (As := []) (rest := [.ref (o + 4), .ref o]) (b := o + 4) rfl rfl cw_Handshake_init_11 rfl rfl (Nat.le_of_ble_eq_true rfl) (by omega) (by omega) (c_Sha_init (on_up_eq _ _ _) rfl) ?_
  rintro r h2 z ⟨rfl, rfl, S2, t2⟩
  have o2 : h2 o = some (.inr (3, [.ref (o + 1), .null, .null, .null, .null, .null, .null, .null, .null, .null, .null, .null, .null])) := (t2 _ (by omega)).trans ((on_up_ne (by omega)).trans (on_up_eq _ _ _))
  have u2 : ∀ a, (a < o ∨ o + 29 ≤ a) → h2 a = h a := fun a ha => (t2 a (by omega)).trans ((on_up_ne (by omega)).trans ((on_up_ne (by omega)).trans (u1 a ha)))
  have S12 : sh_W (o + 1) h2 := sh_W.keep ⟨_, _, _, S1⟩ (fun a h1 h2 => (t2 a (by omega)).trans ((on_up_ne (by omega)).trans (on_up_ne (by omega))))
  show on_E G M_Handshake_init 23 _ [.ref (o + 4), .ref o] h2 (o + 7) 22 584 _
  apply on_putF (pc' := 26) rfl rfl fp_Handshake_18 rfl
  · repeat (first | assumption | exact on_up_eq _ _ _ | refine (on_up_ne (by omega)).trans ?_)
  · first | rfl | assumption
  · first | rfl | assumption
  · exact Nat.le_of_ble_eq_true rfl
  first | refine on_aload_n (pc' := 27) rfl rfl rfl rfl ?_ | refine on_aload_nQ (pc' := 27) rfl rfl rfl rfl ?_
  refine on_new (pc' := 30) (fs := [.null, .null, .null, .null, .null, .null, .null, .null, .null, .null, .null]) rfl rfl nw_Handshake_21 (by intro j hj; match j, hj with | 0, _ => rfl | 1, _ => rfl | 2, _ => rfl | 3, _ => rfl | 4, _ => rfl | 5, _ => rfl | 6, _ => rfl | 7, _ => rfl | 8, _ => rfl | 9, _ => rfl | 10, _ => rfl | j + 11, hj => exact absurd hj (by omega)) (by omega) (by omega) ?_
  refine on_dup (pc' := 31) rfl rfl rfl ?_
  refine on_callI (pc' := 34) (As := []) (rest := [.ref (o + 7), .ref o]) (b := o + 7) rfl rfl cw_Handshake_init_23 rfl rfl (Nat.le_of_ble_eq_true rfl) (by omega) (by omega) (c_Curve_init (on_up_eq _ _ _) rfl) ?_
  rintro r h3 z ⟨rfl, rfl, C3, t3⟩
  have o3 : h3 o = some (.inr (3, [.ref (o + 1), .ref (o + 4), .null, .null, .null, .null, .null, .null, .null, .null, .null, .null, .null])) := (t3 _ (by omega)).trans ((on_up_ne (by omega)).trans (on_up_eq _ _ _))
  have u3 : ∀ a, (a < o ∨ o + 29 ≤ a) → h3 a = h a := fun a ha => (t3 a (by omega)).trans ((on_up_ne (by omega)).trans ((on_up_ne (by omega)).trans (u2 a ha)))
  have S13 := S12.keep (h2 := h3) (fun a h1 h2 => (t3 a (by omega)).trans ((on_up_ne (by omega)).trans (on_up_ne (by omega))))
  have S23 : sh_W (o + 4) h3 := sh_W.keep ⟨_, _, _, S2⟩ (fun a h1 h2 => (t3 a (by omega)).trans ((on_up_ne (by omega)).trans (on_up_ne (by omega))))
  clear o1 o2 u1 u2 S1 S2 t1 t2 t3 S12
  show on_E G M_Handshake_init 34 _ [.ref (o + 7), .ref o] h3 (o + 19) 10 441 _
  apply on_putF (pc' := 37) rfl rfl fp_Handshake_24 rfl
  · repeat (first | assumption | exact on_up_eq _ _ _ | refine (on_up_ne (by omega)).trans ?_)
  · first | rfl | assumption
  · first | rfl | assumption
  · exact Nat.le_of_ble_eq_true rfl
  first | refine on_aload_n (pc' := 38) rfl rfl rfl rfl ?_ | refine on_aload_nQ (pc' := 38) rfl rfl rfl rfl ?_
  refine on_bipush (pc' := 40) (v := 32) rfl rfl lb_32 ?_
  refine on_newarray (pc' := 42) (t := 0) (N := 32) (ty := .int) (a0 := (32, .inl (fun _ => 0))) rfl rfl rfl rfl (fun _ _ _ h1 h2 => Option.some.inj (h1.symm.trans h2)) w_arint (fun _ => rfl) (by decide) (by decide) (by decide) (by omega) (by omega) ?_
  apply on_putF (pc' := 45) rfl rfl fp_Handshake_28 rfl
  · repeat (first | assumption | exact on_up_eq _ _ _ | refine (on_up_ne (by omega)).trans ?_)
  · first | rfl | assumption
  · first | rfl | assumption
  · exact Nat.le_of_ble_eq_true rfl
  first | refine on_aload_n (pc' := 46) rfl rfl rfl rfl ?_ | refine on_aload_nQ (pc' := 46) rfl rfl rfl rfl ?_
  refine on_bipush (pc' := 48) (v := 9) rfl rfl lb_9 ?_
  refine on_newarray (pc' := 50) (t := 0) (N := 9) (ty := .int) (a0 := (9, .inl (fun _ => 0))) rfl rfl rfl rfl (fun _ _ _ h1 h2 => Option.some.inj (h1.symm.trans h2)) w_arint (fun _ => rfl) (by decide) (by decide) (by decide) (by omega) (by omega) ?_
  apply on_putF (pc' := 53) rfl rfl fp_Handshake_32 rfl
  · repeat (first | assumption | exact on_up_eq _ _ _ | refine (on_up_ne (by omega)).trans ?_)
  · first | rfl | assumption
  · first | rfl | assumption
  · exact Nat.le_of_ble_eq_true rfl
  first | refine on_aload_n (pc' := 54) rfl rfl rfl rfl ?_ | refine on_aload_nQ (pc' := 54) rfl rfl rfl rfl ?_
  refine on_sipush (pc' := 57) (v := 172) rfl rfl ls_172 ?_
  refine on_newarray (pc' := 59) (t := 0) (N := 172) (ty := .int) (a0 := (172, .inl (fun _ => 0))) rfl rfl rfl rfl (fun _ _ _ h1 h2 => Option.some.inj (h1.symm.trans h2)) w_arint (fun _ => rfl) (by decide) (by decide) (by decide) (by omega) (by omega) ?_
  apply on_putF (pc' := 62) rfl rfl fp_Handshake_35 rfl
  · repeat (first | assumption | exact on_up_eq _ _ _ | refine (on_up_ne (by omega)).trans ?_)
  · first | rfl | assumption
  · first | rfl | assumption
  · exact Nat.le_of_ble_eq_true rfl
  first | refine on_aload_n (pc' := 63) rfl rfl rfl rfl ?_ | refine on_aload_nQ (pc' := 63) rfl rfl rfl rfl ?_
  refine on_bipush (pc' := 65) (v := 64) rfl rfl lb_64 ?_
  refine on_newarray (pc' := 67) (t := 0) (N := 64) (ty := .int) (a0 := (64, .inl (fun _ => 0))) rfl rfl rfl rfl (fun _ _ _ h1 h2 => Option.some.inj (h1.symm.trans h2)) w_arint (fun _ => rfl) (by decide) (by decide) (by decide) (by omega) (by omega) ?_
  apply on_putF (pc' := 70) rfl rfl fp_Handshake_40 rfl
  · repeat (first | assumption | exact on_up_eq _ _ _ | refine (on_up_ne (by omega)).trans ?_)
  · first | rfl | assumption
  · first | rfl | assumption
  · exact Nat.le_of_ble_eq_true rfl
  first | refine on_aload_n (pc' := 71) rfl rfl rfl rfl ?_ | refine on_aload_nQ (pc' := 71) rfl rfl rfl rfl ?_
  refine on_bipush (pc' := 73) (v := 32) rfl rfl lb_32 ?_
  refine on_newarray (pc' := 75) (t := 0) (N := 32) (ty := .int) (a0 := (32, .inl (fun _ => 0))) rfl rfl rfl rfl (fun _ _ _ h1 h2 => Option.some.inj (h1.symm.trans h2)) w_arint (fun _ => rfl) (by decide) (by decide) (by decide) (by omega) (by omega) ?_
  apply on_putF (pc' := 78) rfl rfl fp_Handshake_43 rfl
  · repeat (first | assumption | exact on_up_eq _ _ _ | refine (on_up_ne (by omega)).trans ?_)
  · first | rfl | assumption
  · first | rfl | assumption
  · exact Nat.le_of_ble_eq_true rfl
  first | refine on_aload_n (pc' := 79) rfl rfl rfl rfl ?_ | refine on_aload_nQ (pc' := 79) rfl rfl rfl rfl ?_
  refine on_bipush (pc' := 81) (v := 32) rfl rfl lb_32 ?_
  refine on_newarray (pc' := 83) (t := 0) (N := 32) (ty := .int) (a0 := (32, .inl (fun _ => 0))) rfl rfl rfl rfl (fun _ _ _ h1 h2 => Option.some.inj (h1.symm.trans h2)) w_arint (fun _ => rfl) (by decide) (by decide) (by decide) (by omega) (by omega) ?_
  apply on_putF (pc' := 86) rfl rfl fp_Handshake_46 rfl
  · repeat (first | assumption | exact on_up_eq _ _ _ | refine (on_up_ne (by omega)).trans ?_)
  · first | rfl | assumption
  · first | rfl | assumption
  · exact Nat.le_of_ble_eq_true rfl
  first | refine on_aload_n (pc' := 87) rfl rfl rfl rfl ?_ | refine on_aload_nQ (pc' := 87) rfl rfl rfl rfl ?_
  refine on_bipush (pc' := 89) (v := 32) rfl rfl lb_32 ?_
  refine on_newarray (pc' := 91) (t := 0) (N := 32) (ty := .int) (a0 := (32, .inl (fun _ => 0))) rfl rfl rfl rfl (fun _ _ _ h1 h2 => Option.some.inj (h1.symm.trans h2)) w_arint (fun _ => rfl) (by decide) (by decide) (by decide) (by omega) (by omega) ?_
  apply on_putF (pc' := 94) rfl rfl fp_Handshake_49 rfl
  · repeat (first | assumption | exact on_up_eq _ _ _ | refine (on_up_ne (by omega)).trans ?_)
  · first | rfl | assumption
  · first | rfl | assumption
  · exact Nat.le_of_ble_eq_true rfl
  first | refine on_aload_n (pc' := 95) rfl rfl rfl rfl ?_ | refine on_aload_nQ (pc' := 95) rfl rfl rfl rfl ?_
  refine on_bipush (pc' := 97) (v := 32) rfl rfl lb_32 ?_
  refine on_newarray (pc' := 99) (t := 0) (N := 32) (ty := .int) (a0 := (32, .inl (fun _ => 0))) rfl rfl rfl rfl (fun _ _ _ h1 h2 => Option.some.inj (h1.symm.trans h2)) w_arint (fun _ => rfl) (by decide) (by decide) (by decide) (by omega) (by omega) ?_
  apply on_putF (pc' := 102) rfl rfl fp_Handshake_52 rfl
  · repeat (first | assumption | exact on_up_eq _ _ _ | refine (on_up_ne (by omega)).trans ?_)
  · first | rfl | assumption
  · first | rfl | assumption
  · exact Nat.le_of_ble_eq_true rfl
  first | refine on_aload_n (pc' := 103) rfl rfl rfl rfl ?_ | refine on_aload_nQ (pc' := 103) rfl rfl rfl rfl ?_
  refine on_bipush (pc' := 105) (v := 32) rfl rfl lb_32 ?_
  refine on_newarray (pc' := 107) (t := 0) (N := 32) (ty := .int) (a0 := (32, .inl (fun _ => 0))) rfl rfl rfl rfl (fun _ _ _ h1 h2 => Option.some.inj (h1.symm.trans h2)) w_arint (fun _ => rfl) (by decide) (by decide) (by decide) (by omega) (by omega) ?_
  apply on_putF (pc' := 110) rfl rfl fp_Handshake_55 rfl
  · repeat (first | assumption | exact on_up_eq _ _ _ | refine (on_up_ne (by omega)).trans ?_)
  · first | rfl | assumption
  · first | rfl | assumption
  · exact Nat.le_of_ble_eq_true rfl
  first | refine on_aload_n (pc' := 111) rfl rfl rfl rfl ?_ | refine on_aload_nQ (pc' := 111) rfl rfl rfl rfl ?_
  refine on_iconst (pc' := 112) (v := 4) rfl rfl li_4 ?_
  refine on_newarray (pc' := 114) (t := 0) (N := 4) (ty := .int) (a0 := (4, .inl (fun _ => 0))) rfl rfl rfl rfl (fun _ _ _ h1 h2 => Option.some.inj (h1.symm.trans h2)) w_arint (fun _ => rfl) (by decide) (by decide) (by decide) (by omega) (by omega) ?_
  apply on_putF (pc' := 117) rfl rfl fp_Handshake_58 rfl
  · repeat (first | assumption | exact on_up_eq _ _ _ | refine (on_up_ne (by omega)).trans ?_)
  · first | rfl | assumption
  · first | rfl | assumption
  · exact Nat.le_of_ble_eq_true rfl
  first | refine on_aload_n (pc' := 118) rfl rfl rfl rfl ?_ | refine on_aload_nQ (pc' := 118) rfl rfl rfl rfl ?_
  first | apply on_get (pc' := 121) rfl rfl fl_Handshake_28 | apply on_getN (pc' := 121) rfl rfl fl_Handshake_28
  · repeat (first | assumption | exact on_up_eq _ _ _ | refine (on_up_ne (by omega)).trans ?_)
  · rfl
  refine on_iconst (pc' := 122) (v := 0) rfl rfl li_0 ?_
  refine on_bipush (pc' := 124) (v := 9) rfl rfl lb_9 ?_
  apply on_iastoreK (pc' := 125) (t := 0) rfl rfl
  · repeat (first | assumption | exact on_up_eq _ _ _ | refine (on_up_ne (by omega)).trans ?_)
  · rfl
  · first | assumption | exact on_lit _ | rfl
  · first | assumption | omega | decide
  refine on_getstatic (pc' := 128) (k := 2) rfl rfl rfl gs_Handshake_61 ?_
  refine on_iconst (pc' := 129) (v := 0) rfl rfl li_0 ?_
  first | refine on_aload_n (pc' := 130) rfl rfl rfl rfl ?_ | refine on_aload_nQ (pc' := 130) rfl rfl rfl rfl ?_
  first | apply on_get (pc' := 133) rfl rfl fl_Handshake_32 | apply on_getN (pc' := 133) rfl rfl fl_Handshake_32
  · repeat (first | assumption | exact on_up_eq _ _ _ | refine (on_up_ne (by omega)).trans ?_)
  · rfl
  refine on_iconst (pc' := 134) (v := 0) rfl rfl li_0 ?_
  refine on_bipush (pc' := 136) (v := 8) rfl rfl lb_8 ?_
  apply on_acopyS (pc' := 139) (k := 2) (q0 := ("OnionNet$Handshake", "NAME", on_st2)) (i0 := 0) (j0 := 0) (k0 := 8) rfl rfl jm_Handshake_64 (Nat.le_of_ble_eq_true rfl) (Nat.le_of_ble_eq_true rfl) rfl
  · repeat (first | assumption | exact on_up_eq _ _ _ | refine (on_up_ne (by omega)).trans ?_)
  · rfl
  · rfl
  · rfl
  · decide
  · decide
  refine on_getstatic (pc' := 142) (k := 2) rfl rfl rfl gs_Handshake_61 ?_
  refine on_iconst (pc' := 143) (v := 0) rfl rfl li_0 ?_
  first | refine on_aload_n (pc' := 144) rfl rfl rfl rfl ?_ | refine on_aload_nQ (pc' := 144) rfl rfl rfl rfl ?_
  first | apply on_get (pc' := 147) rfl rfl fl_Handshake_35 | apply on_getN (pc' := 147) rfl rfl fl_Handshake_35
  · repeat (first | assumption | exact on_up_eq _ _ _ | refine (on_up_ne (by omega)).trans ?_)
  · rfl
  refine on_sipush (pc' := 150) (v := 164) rfl rfl ls_164 ?_
  refine on_bipush (pc' := 152) (v := 8) rfl rfl lb_8 ?_
  apply on_acopyS (pc' := 155) (k := 2) (q0 := ("OnionNet$Handshake", "NAME", on_st2)) (i0 := 0) (j0 := 164) (k0 := 8) rfl rfl jm_Handshake_64 (Nat.le_of_ble_eq_true rfl) (Nat.le_of_ble_eq_true rfl) rfl
  · repeat (first | assumption | exact on_up_eq _ _ _ | refine (on_up_ne (by omega)).trans ?_)
  · rfl
  · rfl
  · rfl
  · decide
  · decide
  refine on_vreturn rfl rfl ?_
  refine ⟨rfl, rfl, ⟨?_, ?_, ?_, ?_, ?_, ?_, ?_, ?_, ?_, ?_, ?_, ?_, ?_, ?_⟩, fun a ha => ?_⟩
  · repeat (first | assumption | exact on_up_eq _ _ _ | refine (on_up_ne (by omega)).trans ?_)
  · refine S13.keep (fun a h1 h2 => ?_)
    repeat (first | assumption | exact on_up_eq _ _ _ | refine (on_up_ne (by omega)).trans ?_)
    all_goals rfl
  · refine S23.keep (fun a h1 h2 => ?_)
    repeat (first | assumption | exact on_up_eq _ _ _ | refine (on_up_ne (by omega)).trans ?_)
    all_goals rfl
  · refine C3.keep (fun a h1 h2 => ?_)
    repeat (first | assumption | exact on_up_eq _ _ _ | refine (on_up_ne (by omega)).trans ?_)
    all_goals rfl
  · refine ⟨upd (fun _ => 0) 0 9, ?_, fun i hi => ⟨?_, bs_lt i⟩⟩
    · repeat (first | assumption | exact on_up_eq _ _ _ | refine (on_up_ne (by omega)).trans ?_)
    · unfold bs_p
      by_cases e : i = 0
      · subst e; rw [pk_us]; rfl
      · rw [pk_un e, if_neg e]; rfl
  · refine ⟨va_cpy (fun j => on_st2.getD j 0) (fun _ => 0) 0 0 8, ?_, fun i hi => ?_⟩
    · repeat (first | assumption | exact on_up_eq _ _ _ | refine (on_up_ne (by omega)).trans ?_)
    · rw [pk_cpy_in (Nat.zero_le _) (by omega)]
      have : ∀ i, i < 8 → on_st2.getD (0 + (i - 0)) 0 = nI (nm_b i) ∧ nm_b i < 256 := by decide +kernel
      exact this i hi
  · refine ⟨va_cpy (fun j => on_st2.getD j 0) (fun _ => 0) 0 164 8, ?_, fun i hi => ?_⟩
    · repeat (first | assumption | exact on_up_eq _ _ _ | refine (on_up_ne (by omega)).trans ?_)
    · rw [pk_cpy_in (by omega) (by omega)]
      have : ∀ i, i < 8 → on_st2.getD (0 + (164 + i - 164)) 0 = nI (nm_b i) := by decide +kernel
      exact this i hi
  · refine ⟨fun _ => 0, ?_⟩
    repeat (first | assumption | exact on_up_eq _ _ _ | refine (on_up_ne (by omega)).trans ?_)
  · refine ⟨fun _ => 0, ?_⟩
    repeat (first | assumption | exact on_up_eq _ _ _ | refine (on_up_ne (by omega)).trans ?_)
  · refine ⟨fun _ => 0, ?_⟩
    repeat (first | assumption | exact on_up_eq _ _ _ | refine (on_up_ne (by omega)).trans ?_)
  · refine ⟨fun _ => 0, ?_⟩
    repeat (first | assumption | exact on_up_eq _ _ _ | refine (on_up_ne (by omega)).trans ?_)
  · refine ⟨fun _ => 0, ?_⟩
    repeat (first | assumption | exact on_up_eq _ _ _ | refine (on_up_ne (by omega)).trans ?_)
  · refine ⟨fun _ => 0, ?_⟩
    repeat (first | assumption | exact on_up_eq _ _ _ | refine (on_up_ne (by omega)).trans ?_)
  · refine ⟨fun _ => 0, ?_⟩
    repeat (first | assumption | exact on_up_eq _ _ _ | refine (on_up_ne (by omega)).trans ?_)
  · refine Eq.trans ?_ (u3 a ha)
    repeat (first | assumption | exact on_up_eq _ _ _ | refine (on_up_ne (by omega)).trans ?_)
    all_goals rfl
end INI
