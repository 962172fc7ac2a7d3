/-! Lane: made, begun -/
/-- a row's first n places are the bytes x -/
def on_by (f : Nat → Int32) (x : Nat → Nat) (n : Nat) : Prop := ∀ i, i < n → f i = nI (x i) ∧ x i < 256
theorem sh_W.keep {o : Nat} {h h2 : on_H} (k : sh_W o h) (hk : ∀ a, o ≤ a → a < o + 3 → h2 a = h a) : sh_W o h2 := by
  obtain ⟨f, g, len, b1, b2, b3⟩ := k
  exact ⟨f, g, len, (hk _ (by omega) (by omega)).trans b1, (hk _ (by omega) (by omega)).trans b2, (hk _ (by omega) (by omega)).trans b3⟩
theorem ln_B.keep {o tr : Nat} {due inp mix blk : Nat → Int32} {used : Int32} {h h2 : on_H} (k : ln_B o tr due inp mix blk used h) (hk : ∀ a, a = o ∨ (o + 4 ≤ a ∧ a < o + 8) → h2 a = h a) : ln_B o tr due inp mix blk used h2 := by
  obtain ⟨b1, b2, b3, b4, b5⟩ := k
  exact ⟨(hk _ (by omega)).trans b1, (hk _ (by omega)).trans b2, (hk _ (by omega)).trans b3, (hk _ (by omega)).trans b4, (hk _ (by omega)).trans b5⟩
theorem ln_S.keep {o tr : Nat} {K : Nat → Nat} {pos : Nat} {h h2 : on_H} (k : ln_S o tr K pos h) (hk : ∀ a, a = o ∨ (o + 4 ≤ a ∧ a < o + 8) → h2 a = h a) : ln_S o tr K pos h2 := by
  obtain ⟨due, inp, mix, blk, u, c, hB, r⟩ := k
  exact ⟨due, inp, mix, blk, u, c, hB.keep hk, r⟩
/-- a Lane, whatever it holds -/
def la_W (o tr : Nat) (h : on_H) : Prop := (∃ (due inp mix blk : Nat → Int32) (used : Int32), ln_B o tr due inp mix blk used h) ∧ sh_W (o + 1) h
/-- a Lane that has hashed ms and has used pos bytes of the key K's stream -/
def la_S (o tr : Nat) (ms : List Nat) (K : Nat → Nat) (pos : Nat) (h : on_H) : Prop := sh_X (o + 1) ms h ∧ ln_S o tr K pos h
theorem la_S.w {o tr : Nat} {ms : List Nat} {K : Nat → Nat} {pos : Nat} {h : on_H} (k : la_S o tr ms K pos h) : la_W o tr h := by
  obtain ⟨x, due, inp, mix, blk, u, c, hB, r⟩ := k
  exact ⟨⟨due, inp, mix, blk, nI u, hB⟩, x.w⟩
theorem la_S.keep {o tr : Nat} {ms : List Nat} {K : Nat → Nat} {pos : Nat} {h h2 : on_H} (k : la_S o tr ms K pos h) (hk : ∀ a, o ≤ a → a < o + 8 → h2 a = h a) : la_S o tr ms K pos h2 :=
  ⟨k.1.keep (fun a h1 h2 => hk a (by omega) (by omega)), k.2.keep (fun a h1 => hk a (by omega) (by omega))⟩
theorem la_W.keep {o tr : Nat} {h h2 : on_H} (k : la_W o tr h) (hk : ∀ a, o ≤ a → a < o + 8 → h2 a = h a) : la_W o tr h2 := by
  obtain ⟨⟨due, inp, mix, blk, u, hB⟩, x⟩ := k
  exact ⟨⟨due, inp, mix, blk, u, hB.keep (fun a h1 => hk a (by omega) (by omega))⟩, x.keep (fun a h1 h2 => hk a (by omega) (by omega))⟩
/-- a word of the key, the bytes before i laid -/
def lb_w (K : Nat → Nat) (i p : Nat) : Nat := (if p < i then K p else 0) + (if p + 1 < i then K (p + 1) else 0) * 256 + (if p + 2 < i then K (p + 2) else 0) * 65536 + (if p + 3 < i then K (p + 3) else 0) * 16777216
theorem lb_w_ne {K : Nat → Nat} {i p : Nat} (h : p % 4 = 0) (n : p ≠ 4 * (i / 4)) : lb_w K (i + 1) p = lb_w K i p := by
  unfold lb_w
  have e0 : (p < i + 1) ↔ (p < i) := by omega
  have e1 : (p + 1 < i + 1) ↔ (p + 1 < i) := by omega
  have e2 : (p + 2 < i + 1) ↔ (p + 2 < i) := by omega
  have e3 : (p + 3 < i + 1) ↔ (p + 3 < i) := by omega
  simp only [e0, e1, e2, e3]
theorem lb_w_at {K : Nat → Nat} (hK : ∀ i, i < 32 → K i < 256) {i : Nat} (hi : i < 32) : nI (lb_w K i (4 * (i / 4))) ||| sh_l (nI (K i)) (8 * (nI i &&& 3)) = nI (lb_w K (i + 1) (4 * (i / 4))) := by
  have hb := hK i hi
  rw [e_and3 (by omega), show (8 : Int32) = nI 8 from rfl, pk_mul, e_shl (by omega) (by
    have : 2 ^ (8 * (i % 4)) ≤ 2 ^ 24 := Nat.pow_le_pow_right (by decide) (by omega)
    calc K i * 2 ^ (8 * (i % 4)) ≤ 255 * 2 ^ 24 := Nat.mul_le_mul (by omega) this
      _ < 2 ^ 32 := by decide), nI_or]
  refine congrArg nI ?_
  have h0 := hK (4 * (i / 4)) (by omega)
  have h1 := hK (4 * (i / 4) + 1) (by omega)
  have h2 := hK (4 * (i / 4) + 2) (by omega)
  have hlt : lb_w K i (4 * (i / 4)) < 2 ^ (8 * (i % 4)) := by
    unfold lb_w
    rcases (show i % 4 = 0 ∨ i % 4 = 1 ∨ i % 4 = 2 ∨ i % 4 = 3 by omega) with e | e | e | e
    · rw [if_neg (by omega), if_neg (by omega), if_neg (by omega), if_neg (by omega), e]; decide
    · rw [if_pos (by omega), if_neg (by omega), if_neg (by omega), if_neg (by omega), e]
      show _ < 256; omega
    · rw [if_pos (by omega), if_pos (by omega), if_neg (by omega), if_neg (by omega), e]
      show _ < 65536; omega
    · rw [if_pos (by omega), if_pos (by omega), if_pos (by omega), if_neg (by omega), e]
      show _ < 16777216; omega
  rw [Nat.or_comm, ← Nat.shiftLeft_eq, ← Nat.shiftLeft_add_eq_or_of_lt hlt, Nat.shiftLeft_eq]
  unfold lb_w
  rcases (show i % 4 = 0 ∨ i % 4 = 1 ∨ i % 4 = 2 ∨ i % 4 = 3 by omega) with e | e | e | e
  · rw [if_neg (by omega), if_neg (by omega), if_neg (by omega), if_neg (by omega), if_pos (by omega), if_neg (by omega), if_neg (by omega), if_neg (by omega), e, show 4 * (i / 4) = i by omega]
    simp
  · rw [if_pos (by omega), if_neg (by omega), if_neg (by omega), if_neg (by omega), if_pos (by omega), if_pos (by omega), if_neg (by omega), if_neg (by omega), e, show 4 * (i / 4) + 1 = i by omega]
    show K i * 256 + _ = _
    omega
  · rw [if_pos (by omega), if_pos (by omega), if_neg (by omega), if_neg (by omega), if_pos (by omega), if_pos (by omega), if_pos (by omega), if_neg (by omega), e, show 4 * (i / 4) + 2 = i by omega]
    show K i * 65536 + _ = _
    omega
  · rw [if_pos (by omega), if_pos (by omega), if_pos (by omega), if_neg (by omega), if_pos (by omega), if_pos (by omega), if_pos (by omega), if_pos (by omega), e, show 4 * (i / 4) + 3 = i by omega]
    show K i * 16777216 + _ = _
    omega
theorem lb_w_32 {K : Nat → Nat} {p : Nat} (h : p + 4 ≤ 32) : lb_w K 32 p = cc_le K p := by
  unfold lb_w cc_le
  rw [if_pos (by omega), if_pos (by omega), if_pos (by omega), if_pos (by omega)]
/-- the input's words while the key is laid -/
def lb_i (K : Nat → Nat) (i : Nat) : Nat → Int32 := fun j => if j = 0 then 1634760805 else if j = 1 then 857760878 else if j = 2 then 2036477234 else if j = 3 then 1797285236 else if j < 12 then nI (lb_w K i (4 * (j - 4))) else 0
theorem lb_i_32 (K : Nat → Nat) : ∀ j, j < 16 → lb_i K 32 j = cc_in K 0 j := fun j hj => by
  unfold lb_i cc_in
  split
  · rfl
  · split
    · rfl
    · split
      · rfl
      · split
        · rfl
        · split
          · rw [lb_w_32 (by omega)]
          · split <;> rfl
section LNB
variable {G : on_G} {o tr q q2 n2 sz bc bs : Nat} {h : on_H} {Q : Option Value → on_H → Nat → Prop} {K : Nat → Nat} {R2 : Nat → Int32}
set_option maxHeartbeats 4000000 in
/-- new Lane -/
theorem c_Lane_init (h0 : h o = some (.inr (2, [.null, .null, .null, .null, .null, .null, .int 0]))) (hsz : sz = o + 1) : on_Ct G M_Lane_init [.ref o, .ref tr] h sz 7 203 (fun r h1 z => r = none ∧ z = o + 8 ∧ la_W o tr h1 ∧ on_sm o (o + 8) h h1) := by
  subst hsz
  refine on_Ct.of (by decide) v_Lane_init (Nat.le_of_ble_eq_true rfl) ?_
  first | refine on_aload_n (pc' := 1) rfl rfl rfl rfl ?_ | refine on_aload_nQ (pc' := 1) rfl rfl rfl rfl ?_
  refine on_objInit (pc' := 4) rfl rfl oi_Lane_3 w_ob1 w_ob2 (Nat.le_of_ble_eq_true rfl) (Nat.le_of_ble_eq_true rfl) ?_
  first | refine on_aload_n (pc' := 5) rfl rfl rfl rfl ?_ | refine on_aload_nQ (pc' := 5) rfl rfl rfl rfl ?_
  refine on_new (pc' := 8) (fs := [.null, .null, .int 0]) rfl rfl nw_Lane_9 (by intro j hj; match j, hj with | 0, _ => rfl | 1, _ => rfl | 2, _ => rfl | j + 3, hj => exact absurd hj (by omega)) (by omega) (by omega) ?_
  refine on_dup (pc' := 9) rfl rfl rfl ?_
  refine on_callIN (pc' := 12) (As := []) (rest := [.ref (o + 1), .ref o]) (b := o + 1) rfl rfl cw_Lane_init_11 rfl rfl (Nat.le_of_ble_eq_true rfl) (by omega) (by omega) (c_Sha_init (on_up_eq _ _ _) rfl) ?_
  rintro r h1 z ⟨rfl, rfl, hB, t1⟩
  have g0 : h1 o = some (.inr (2, [.null, .null, .null, .null, .null, .null, .int 0])) := (t1 _ (by omega)).trans ((on_up_ne (by omega)).trans h0)
  apply on_putF (pc' := 15) rfl rfl fp_Lane_12 rfl
  · repeat (first | assumption | exact on_up_eq _ _ _ | refine (on_up_ne (by omega)).trans ?_)
  · first | rfl | assumption
  · first | rfl | assumption
  · exact Nat.le_of_ble_eq_true rfl
  first | refine on_aload_n (pc' := 16) rfl rfl rfl rfl ?_ | refine on_aload_nQ (pc' := 16) rfl rfl rfl rfl ?_
  refine on_bipush (pc' := 18) (v := 32) rfl rfl lb_32 ?_
  refine on_newarray (pc' := 20) (t := 0) (N := 32) (ty := .int) (a0 := (32, .inl (fun _ => 0))) rfl rfl rfl rfl (fun _ _ _ h1 h2 => Option.some.inj (h1.symm.trans h2)) w_arint (fun _ => rfl) (by decide) (by decide) (by decide) (by omega) (by omega) ?_
  apply on_putF (pc' := 23) rfl rfl fp_Lane_18 rfl
  · repeat (first | assumption | exact on_up_eq _ _ _ | refine (on_up_ne (by omega)).trans ?_)
  · first | rfl | assumption
  · first | rfl | assumption
  · exact Nat.le_of_ble_eq_true rfl
  first | refine on_aload_n (pc' := 24) rfl rfl rfl rfl ?_ | refine on_aload_nQ (pc' := 24) rfl rfl rfl rfl ?_
  refine on_bipush (pc' := 26) (v := 16) rfl rfl lb_16 ?_
  refine on_newarray (pc' := 28) (t := 0) (N := 16) (ty := .int) (a0 := (16, .inl (fun _ => 0))) rfl rfl rfl rfl (fun _ _ _ h1 h2 => Option.some.inj (h1.symm.trans h2)) w_arint (fun _ => rfl) (by decide) (by decide) (by decide) (by omega) (by omega) ?_
  apply on_putF (pc' := 31) rfl rfl fp_Lane_22 rfl
  · repeat (first | assumption | exact on_up_eq _ _ _ | refine (on_up_ne (by omega)).trans ?_)
  · first | rfl | assumption
  · first | rfl | assumption
  · exact Nat.le_of_ble_eq_true rfl
  first | refine on_aload_n (pc' := 32) rfl rfl rfl rfl ?_ | refine on_aload_nQ (pc' := 32) rfl rfl rfl rfl ?_
  refine on_bipush (pc' := 34) (v := 16) rfl rfl lb_16 ?_
  refine on_newarray (pc' := 36) (t := 0) (N := 16) (ty := .int) (a0 := (16, .inl (fun _ => 0))) rfl rfl rfl rfl (fun _ _ _ h1 h2 => Option.some.inj (h1.symm.trans h2)) w_arint (fun _ => rfl) (by decide) (by decide) (by decide) (by omega) (by omega) ?_
  apply on_putF (pc' := 39) rfl rfl fp_Lane_25 rfl
  · repeat (first | assumption | exact on_up_eq _ _ _ | refine (on_up_ne (by omega)).trans ?_)
  · first | rfl | assumption
  · first | rfl | assumption
  · exact Nat.le_of_ble_eq_true rfl
  first | refine on_aload_n (pc' := 40) rfl rfl rfl rfl ?_ | refine on_aload_nQ (pc' := 40) rfl rfl rfl rfl ?_
  refine on_bipush (pc' := 42) (v := 64) rfl rfl lb_64 ?_
  refine on_newarray (pc' := 44) (t := 0) (N := 64) (ty := .int) (a0 := (64, .inl (fun _ => 0))) rfl rfl rfl rfl (fun _ _ _ h1 h2 => Option.some.inj (h1.symm.trans h2)) w_arint (fun _ => rfl) (by decide) (by decide) (by decide) (by omega) (by omega) ?_
  apply on_putF (pc' := 47) rfl rfl fp_Lane_28 rfl
  · repeat (first | assumption | exact on_up_eq _ _ _ | refine (on_up_ne (by omega)).trans ?_)
  · first | rfl | assumption
  · first | rfl | assumption
  · exact Nat.le_of_ble_eq_true rfl
  first | refine on_aload_n (pc' := 48) rfl rfl rfl rfl ?_ | refine on_aload_nQ (pc' := 48) rfl rfl rfl rfl ?_
  first | refine on_aload_n (pc' := 49) rfl rfl rfl rfl ?_ | refine on_aload_nQ (pc' := 49) rfl rfl rfl rfl ?_
  apply on_putF (pc' := 52) rfl rfl fp_Lane_31 rfl
  · repeat (first | assumption | exact on_up_eq _ _ _ | refine (on_up_ne (by omega)).trans ?_)
  · first | rfl | assumption
  · first | rfl | assumption
  · exact Nat.le_of_ble_eq_true rfl
  refine on_vreturn rfl rfl ?_
  refine ⟨rfl, rfl, ⟨⟨fun _ => 0, fun _ => 0, fun _ => 0, fun _ => 0, 0, ?_, ?_, ?_, ?_, ?_⟩, ?_⟩, fun a ha => ?_⟩
  · repeat (first | assumption | exact on_up_eq _ _ _ | refine (on_up_ne (by omega)).trans ?_)
  · repeat (first | assumption | exact on_up_eq _ _ _ | refine (on_up_ne (by omega)).trans ?_)
  · repeat (first | assumption | exact on_up_eq _ _ _ | refine (on_up_ne (by omega)).trans ?_)
  · repeat (first | assumption | exact on_up_eq _ _ _ | refine (on_up_ne (by omega)).trans ?_)
  · repeat (first | assumption | exact on_up_eq _ _ _ | refine (on_up_ne (by omega)).trans ?_)
  · exact sh_W.keep ⟨_, _, _, hB⟩ (fun a h1 h2 => by repeat (first | assumption | exact on_up_eq _ _ _ | refine (on_up_ne (by omega)).trans ?_)
                                                     all_goals rfl)
  · rw [on_up_ne (by omega), on_up_ne (by omega), on_up_ne (by omega), on_up_ne (by omega), on_up_ne (by omega), on_up_ne (by omega), on_up_ne (by omega), on_up_ne (by omega), on_up_ne (by omega), on_up_ne (by omega), t1 a (by omega), on_up_ne (by omega)]
set_option maxHeartbeats 4000000 in
theorem lb_l {due mix blk : Nat → Int32} {used : Int32} (hB : ∀ F : Nat → Int32, ln_B o tr due F mix blk used (on_up h (o + 5) (on_ai 0 16 F))) (hq : h q2 = some (on_ai 0 n2 R2)) (hqo : q2 ≠ o + 5) (hn : 32 ≤ n2 ∧ n2 < 2 ^ 31) (hK : on_by R2 K 32)
    (k : ∀ F : Nat → Int32, (∀ j, j < 16 → F j = cc_in K 0 j) → on_E G M_Lane_begin 95 (on_l [(0, .ref o)]) [] (on_up h (o + 5) (on_ai 0 16 F)) sz bc bs Q) :
    ∀ (m i : Nat) (F : Nat → Int32), i + m = 32 → (∀ j, j < 16 → F j = lb_i K i j) → on_E G M_Lane_begin 60 (on_l [(0, .ref o), (2, .ref q2), (3, .int (nI i))]) [] (on_up h (o + 5) (on_ai 0 16 F)) sz bc bs Q := by
  intro m
  induction m with
  | zero =>
    intro i F hi hF
    obtain rfl : i = 32 := by omega
    refine on_iload_n (pc' := 61) rfl rfl rfl rfl ?_
    refine on_bipush (pc' := 63) (v := 32) rfl rfl lb_32 ?_
    refine on_icmp_ge (pc' := 66) (tgt := 95) rfl rfl rfl (fun cq => ?_) (fun cq => ?_)
    · exact on_relv (l := [(0, .ref o)]) ⟨rfl, trivial⟩ (k F (fun j hj => (hF j hj).trans (lb_i_32 K j hj)))
    · exact absurd (nI_le (a := 32) (by omega) (by omega)) cq
  | succ m ih =>
    intro i F hi hF
    obtain ⟨b1, b2, b3, b4, b5⟩ := hB F
    have hi2 : i < n2 ∧ n2 < 2 ^ 31 := by omega
    have e1 : sh_u (nI i) 2 = nI (i / 4) := e_ush (k := 2) (by omega) (by decide)
    have e2 : (4 : Int32) + nI (i / 4) = nI (4 + i / 4) := nI_add 4 _
    have h16 : 4 + i / 4 < 16 ∧ 16 < 2 ^ 31 := by omega
    have hr : R2 i = nI (K i) := (hK i (by omega)).1
    refine on_iload_n (pc' := 61) rfl rfl rfl rfl ?_
    refine on_bipush (pc' := 63) (v := 32) rfl rfl lb_32 ?_
    refine on_icmp_ge (pc' := 66) (tgt := 95) rfl rfl rfl (fun cq => ?_) (fun cq => ?_)
    · exact absurd cq (nI_ge (b := 32) (by omega) (by omega))
    · first | refine on_aload_n (pc' := 67) rfl rfl rfl rfl ?_ | refine on_aload_nQ (pc' := 67) rfl rfl rfl rfl ?_
      first | apply on_get (pc' := 70) rfl rfl fl_Lane_22 | apply on_getN (pc' := 70) rfl rfl fl_Lane_22
      · repeat (first | assumption | exact on_up_eq _ _ _ | refine (on_up_ne (by omega)).trans ?_)
      · rfl
      refine on_iconst (pc' := 71) (v := 4) rfl rfl li_4 ?_
      refine on_iload_n (pc' := 72) rfl rfl rfl rfl ?_
      refine on_iconst (pc' := 73) (v := 2) rfl rfl li_2 ?_
      refine on_iushr (pc' := 74) rfl rfl ?_
      rw [e1]
      refine on_iadd (pc' := 75) rfl rfl ?_
      rw [e2]
      first | refine on_dup2_11 (pc' := 76) rfl rfl rfl rfl ?_ | refine on_dup2_2 (pc' := 76) rfl rfl rfl ?_
      apply on_ialoadK (pc' := 77) (t := 0) rfl rfl
      · repeat (first | assumption | exact on_up_eq _ _ _ | refine (on_up_ne (by omega)).trans ?_)
      · rfl
      · first | assumption | exact on_lit _ | rfl
      · first | assumption | omega | decide
      first | refine on_aload_n (pc' := 78) rfl rfl rfl rfl ?_ | refine on_aload_nQ (pc' := 78) rfl rfl rfl rfl ?_
      refine on_iload_n (pc' := 79) rfl rfl rfl rfl ?_
      apply on_ialoadK (pc' := 80) (t := 0) rfl rfl
      · repeat (first | assumption | exact on_up_eq _ _ _ | refine (on_up_ne (by omega)).trans ?_)
      · rfl
      · first | assumption | exact on_lit _ | rfl
      · first | assumption | omega | decide
      rw [hr, hF _ h16.1]
      refine on_bipush (pc' := 82) (v := 8) rfl rfl lb_8 ?_
      refine on_iload_n (pc' := 83) rfl rfl rfl rfl ?_
      refine on_iconst (pc' := 84) (v := 3) rfl rfl li_3 ?_
      refine on_iand (pc' := 85) rfl rfl ?_
      refine on_imul (pc' := 86) rfl rfl ?_
      refine on_ishl (pc' := 87) rfl rfl ?_
      refine on_ior (pc' := 88) rfl rfl ?_
      rw [show lb_i K i (4 + i / 4) = nI (lb_w K i (4 * (i / 4))) by
        unfold lb_i
        rw [if_neg (by omega), if_neg (by omega), if_neg (by omega), if_neg (by omega), if_pos (by omega), show 4 + i / 4 - 4 = i / 4 by omega], lb_w_at (fun i hi => (hK i hi).2) (by omega)]
      apply on_iastoreK (pc' := 89) (t := 0) rfl rfl
      · repeat (first | assumption | exact on_up_eq _ _ _ | refine (on_up_ne (by omega)).trans ?_)
      · rfl
      · first | assumption | exact on_lit _ | rfl
      · first | assumption | omega | decide
      refine on_iinc1 (pc' := 92) rfl rfl rfl ?_
      refine on_goto (tgt := 60) rfl rfl ?_
      rw [on_up_up]
      refine on_relv (l := [(0, .ref o), (2, .ref q2), (3, .int (nI (i + 1)))]) ⟨rfl, rfl, congrArg some (congrArg Value.int (nI_1 i)), trivial⟩ (ih (i + 1) _ (by omega) (fun j hj => ?_))
      by_cases e : j = 4 + i / 4
      · subst e
        rw [pk_us]
        unfold lb_i
        rw [if_neg (by omega), if_neg (by omega), if_neg (by omega), if_neg (by omega), if_pos (by omega), show 4 + i / 4 - 4 = i / 4 by omega]
      · rw [pk_un e, hF j hj]
        unfold lb_i
        split
        · rfl
        · split
          · rfl
          · split
            · rfl
            · split
              · rfl
              · split
                · rw [lb_w_ne (by omega) (by omega)]
                · rfl
set_option maxHeartbeats 4000000 in
/-- begin: the digest's key is hashed, the cipher's key is laid -/
theorem c_Lane_begin {n : Nat} {R : Nat → Int32} {D : Nat → Nat} (hW : la_W o tr h) (hq : h q = some (on_ai 0 n R)) (hqo : q < o ∨ o + 8 ≤ q) (hn : 32 ≤ n ∧ n < 2 ^ 31) (hD : on_by R D 32) (hq2 : h q2 = some (on_ai 0 n2 R2)) (hqo2 : q2 < o ∨ o + 8 ≤ q2) (hn2 : 32 ≤ n2 ∧ n2 < 2 ^ 31) (hK : on_by R2 K 32) :
    on_Ct G M_Lane_begin [.ref o, .ref q, .ref q2] h sz 0 0 (fun r h1 z => r = none ∧ z = sz ∧ la_S o tr (sp_sl D 0 32) K 0 h1 ∧ on_sm o (o + 8) h h1) := by
  obtain ⟨⟨due, inp, mix, blk, used, hB⟩, hX⟩ := hW
  have b1 := hB.1
  obtain ⟨f0, g0, l0, B0⟩ := id hX
  refine on_Ct.of (by decide) v_Lane_begin (Nat.le_of_ble_eq_true rfl) ?_
  first | refine on_aload_n (pc' := 1) rfl rfl rfl rfl ?_ | refine on_aload_nQ (pc' := 1) rfl rfl rfl rfl ?_
  first | apply on_get (pc' := 4) rfl rfl fl_Lane_12 | apply on_getN (pc' := 4) rfl rfl fl_Lane_12
  · repeat (first | assumption | exact on_up_eq _ _ _ | refine (on_up_ne (by omega)).trans ?_)
  · rfl
  refine on_callV (pc' := 7) (As := []) (rest := []) (b := o + 1) rfl rfl cw_Lane_begin_34 B0.1 rfl rfl (by decide) (Nat.zero_le _) (Nat.zero_le _) (c_Sha_start hX) ?_
  rintro r h1 z ⟨rfl, rfl, X1, t1⟩
  have B1 := hB.keep (h2 := h1) (fun a ha => t1 a (by omega))
  have q1 : h1 q = some (on_ai 0 n R) := (t1 q (by omega)).trans hq
  have q3 : h1 q2 = some (on_ai 0 n2 R2) := (t1 q2 (by omega)).trans hq2
  clear b1
  have b1 := B1.1
  obtain ⟨f1, g1, B1', -⟩ := id X1
  first | refine on_aload_n (pc' := 8) rfl rfl rfl rfl ?_ | refine on_aload_nQ (pc' := 8) rfl rfl rfl rfl ?_
  first | apply on_get (pc' := 11) rfl rfl fl_Lane_12 | apply on_getN (pc' := 11) rfl rfl fl_Lane_12
  · repeat (first | assumption | exact on_up_eq _ _ _ | refine (on_up_ne (by omega)).trans ?_)
  · rfl
  first | refine on_aload_n (pc' := 12) rfl rfl rfl rfl ?_ | refine on_aload_nQ (pc' := 12) rfl rfl rfl rfl ?_
  refine on_iconst (pc' := 13) (v := 0) rfl rfl li_0 ?_
  refine on_bipush (pc' := 15) (v := 32) rfl rfl lb_32 ?_
  refine on_callV (pc' := 18) (As := [.ref q, .int (nI 0), .int (nI 32)]) (rest := []) (b := o + 1) rfl rfl cw_Lane_begin_37 B1'.1 rfl rfl (by decide) (Nat.zero_le _) (Nat.zero_le _) (c_Sha_add (b := D) X1 (by decide) q1 (by omega) (by omega) hn.2 (fun i hi => by rw [Nat.zero_add]; exact hD i hi)) ?_
  rintro r h2 z ⟨rfl, rfl, X2, t2⟩
  have B2 := B1.keep (h2 := h2) (fun a ha => t2 a (by omega))
  have q4 : h2 q2 = some (on_ai 0 n2 R2) := (t2 q2 (by omega)).trans q3
  clear b1
  obtain ⟨b1, b2, b3, b4, b5⟩ := id B2
  first | refine on_aload_n (pc' := 19) rfl rfl rfl rfl ?_ | refine on_aload_nQ (pc' := 19) rfl rfl rfl rfl ?_
  first | apply on_get (pc' := 22) rfl rfl fl_Lane_22 | apply on_getN (pc' := 22) rfl rfl fl_Lane_22
  · repeat (first | assumption | exact on_up_eq _ _ _ | refine (on_up_ne (by omega)).trans ?_)
  · rfl
  refine on_iconst (pc' := 23) (v := 0) rfl rfl li_0 ?_
  refine on_callS (pc' := 26) (As := [.ref (o + 5), .int 0]) (rest := []) rfl rfl cw_Lane_begin_41 rfl rfl (by decide) (Nat.zero_le _) (Nat.zero_le _) (c_fill (by decide) b3) ?_
  rintro r h3 z ⟨rfl, rfl, rfl⟩
  first | refine on_aload_n (pc' := 27) rfl rfl rfl rfl ?_ | refine on_aload_nQ (pc' := 27) rfl rfl rfl rfl ?_
  first | apply on_get (pc' := 30) rfl rfl fl_Lane_22 | apply on_getN (pc' := 30) rfl rfl fl_Lane_22
  · repeat (first | assumption | exact on_up_eq _ _ _ | refine (on_up_ne (by omega)).trans ?_)
  · rfl
  refine on_iconst (pc' := 31) (v := 0) rfl rfl li_0 ?_
  refine on_ldc (pc' := 33) rfl rfl ld_Lane_47 ?_
  apply on_iastoreK (pc' := 34) (t := 0) rfl rfl
  · repeat (first | assumption | exact on_up_eq _ _ _ | refine (on_up_ne (by omega)).trans ?_)
  · rfl
  · first | assumption | exact on_lit _ | rfl
  · first | assumption | omega | decide
  first | refine on_aload_n (pc' := 35) rfl rfl rfl rfl ?_ | refine on_aload_nQ (pc' := 35) rfl rfl rfl rfl ?_
  first | apply on_get (pc' := 38) rfl rfl fl_Lane_22 | apply on_getN (pc' := 38) rfl rfl fl_Lane_22
  · repeat (first | assumption | exact on_up_eq _ _ _ | refine (on_up_ne (by omega)).trans ?_)
  · rfl
  refine on_iconst (pc' := 39) (v := 1) rfl rfl li_1 ?_
  refine on_ldc (pc' := 41) rfl rfl ld_Lane_48 ?_
  apply on_iastoreK (pc' := 42) (t := 0) rfl rfl
  · repeat (first | assumption | exact on_up_eq _ _ _ | refine (on_up_ne (by omega)).trans ?_)
  · rfl
  · first | assumption | exact on_lit _ | rfl
  · first | assumption | omega | decide
  first | refine on_aload_n (pc' := 43) rfl rfl rfl rfl ?_ | refine on_aload_nQ (pc' := 43) rfl rfl rfl rfl ?_
  first | apply on_get (pc' := 46) rfl rfl fl_Lane_22 | apply on_getN (pc' := 46) rfl rfl fl_Lane_22
  · repeat (first | assumption | exact on_up_eq _ _ _ | refine (on_up_ne (by omega)).trans ?_)
  · rfl
  refine on_iconst (pc' := 47) (v := 2) rfl rfl li_2 ?_
  refine on_ldc (pc' := 49) rfl rfl ld_Lane_49 ?_
  apply on_iastoreK (pc' := 50) (t := 0) rfl rfl
  · repeat (first | assumption | exact on_up_eq _ _ _ | refine (on_up_ne (by omega)).trans ?_)
  · rfl
  · first | assumption | exact on_lit _ | rfl
  · first | assumption | omega | decide
  first | refine on_aload_n (pc' := 51) rfl rfl rfl rfl ?_ | refine on_aload_nQ (pc' := 51) rfl rfl rfl rfl ?_
  first | apply on_get (pc' := 54) rfl rfl fl_Lane_22 | apply on_getN (pc' := 54) rfl rfl fl_Lane_22
  · repeat (first | assumption | exact on_up_eq _ _ _ | refine (on_up_ne (by omega)).trans ?_)
  · rfl
  refine on_iconst (pc' := 55) (v := 3) rfl rfl li_3 ?_
  refine on_ldc (pc' := 57) rfl rfl ld_Lane_50 ?_
  apply on_iastoreK (pc' := 58) (t := 0) rfl rfl
  · repeat (first | assumption | exact on_up_eq _ _ _ | refine (on_up_ne (by omega)).trans ?_)
  · rfl
  · first | assumption | exact on_lit _ | rfl
  · first | assumption | omega | decide
  refine on_iconst (pc' := 59) (v := 0) rfl rfl li_0 ?_
  refine on_istore_n (pc' := 60) rfl rfl rfl (by decide) ?_
  rw [on_up_up, on_up_up, on_up_up, on_up_up]
  have hBF : ∀ F : Nat → Int32, ln_B o tr due F mix blk used (on_up h2 (o + 5) (on_ai 0 16 F)) := fun F => ⟨(on_up_ne (by omega)).trans b1, (on_up_ne (by omega)).trans b2, on_up_eq _ _ _, (on_up_ne (by omega)).trans b4, (on_up_ne (by omega)).trans b5⟩
  refine on_relv (l := [(0, .ref o), (2, .ref q2), (3, .int (nI 0))]) ⟨rfl, rfl, rfl, trivial⟩ (lb_l (h := h2) hBF q4 (by omega) hn2 hK (fun F hF => ?_) 32 0 _ rfl (fun j hj => ?_))
  · obtain ⟨d1, d2, d3, d4, d5⟩ := hBF F
    first | refine on_aload_n (pc' := 96) rfl rfl rfl rfl ?_ | refine on_aload_nQ (pc' := 96) rfl rfl rfl rfl ?_
    refine on_bipush (pc' := 98) (v := 64) rfl rfl lb_64 ?_
    first | apply on_put (pc' := 101) rfl rfl fp_Lane_51 | apply on_putN (pc' := 101) rfl rfl fp_Lane_51
    · repeat (first | assumption | exact on_up_eq _ _ _ | refine (on_up_ne (by omega)).trans ?_)
    · first | rfl | assumption
    · first | rfl | assumption
    · exact Nat.le_of_ble_eq_true rfl
    refine on_vreturn rfl rfl ?_
    refine ⟨rfl, rfl, ⟨X2.keep (fun a h1 h2 => ?_), due, F, mix, blk, 64, 0, ⟨on_up_eq _ _ _, ?_, ?_, ?_, ?_⟩, by omega, by omega, hF, fun z => absurd z (by omega)⟩, ?_⟩
    · rw [on_up_ne (by omega), on_up_ne (by omega)]
    · repeat (first | assumption | exact on_up_eq _ _ _ | refine (on_up_ne (by omega)).trans ?_)
    · repeat (first | assumption | exact on_up_eq _ _ _ | refine (on_up_ne (by omega)).trans ?_)
    · repeat (first | assumption | exact on_up_eq _ _ _ | refine (on_up_ne (by omega)).trans ?_)
    · repeat (first | assumption | exact on_up_eq _ _ _ | refine (on_up_ne (by omega)).trans ?_)
    · exact (((t1.wide (by omega) (by omega)).trans (t2.wide (by omega) (by omega))).up (by omega) (by omega)).up (by omega) (by omega)
  · unfold lb_i
    by_cases e3 : j = 3
    · subst e3; rw [pk_us]; rfl
    · rw [pk_un e3]
      by_cases e2 : j = 2
      · subst e2; rw [pk_us]; rfl
      · rw [pk_un e2]
        by_cases e1 : j = 1
        · subst e1; rw [pk_us]; rfl
        · rw [pk_un e1]
          by_cases e0 : j = 0
          · subst e0; rw [pk_us]; rfl
          · rw [pk_un e0, if_neg e0, if_neg e1, if_neg e2, if_neg e3, show on_fl inp 0 16 0 j = 0 from if_pos (by omega)]
            split
            · unfold lb_w
              simp
              rfl
            · rfl
end LNB
