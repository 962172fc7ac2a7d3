/-! the reference's hashing: a byte, a row, a long, the name -/
section MHA
variable {G : on_G} {o q sz bc bs n : Nat} {x3 : Int32 × Int32 × Int32} {h : on_H} {Q : Option Value → on_H → Nat → Prop} {ms : List Nat}
theorem ms_W.keep {o : Nat} {h h2 : on_H} (k : ms_W o h) (hk : ∀ a, o ≤ a → a < o + 3 → h2 a = h a) : ms_W o h2 := by
  obtain ⟨f, g, len, b1, b2, b3⟩ := k
  exact ⟨f, g, len, (hk _ (by omega) (by omega)).trans b1, (hk _ (by omega) (by omega)).trans b2, (hk _ (by omega) (by omega)).trans b3⟩
/-- the reference's object and its hashing row of constants -/
def mo_O (o : Nat) (x : Int32 × Int32 × Int32) (h : on_H) : Prop := h o = some (.inr (17, mo_f o x.1 x.2.1 x.2.2)) ∧ ms_T (o + 17) h
theorem mo_O.keep {h2 : on_H} (k : mo_O o x3 h) (e : h2 o = h o) (e2 : h2 (o + 17) = h (o + 17)) : mo_O o x3 h2 := ⟨e.trans k.1, k.2.keep e2⟩
theorem c_M_hash {x : Int32} {b : Nat} (hO : mo_O o x3 h) (hX : ms_X (o + 8) ms h) (hL : ms.length + 1 < 2 ^ 31) (hx : x &&& 255 = nI b) (hb : b < 256) :
    on_Ct G M_M_hash [.ref o, .int x] h sz 0 0 (fun r h1 z => r = none ∧ z = sz ∧ ms_X (o + 8) (ms ++ [b]) h1 ∧ on_sm (o + 8) (o + 11) h h1) := by
  have ho := hO.1
  obtain ⟨f0, g0, B0, -⟩ := id hX
  refine on_Ct.of (by decide) v_M_hash (Nat.le_of_ble_eq_true rfl) ?_
  first | refine on_aload_n (pc' := 1) rfl rfl rfl rfl ?_ | refine on_aload_nQ (pc' := 1) rfl rfl rfl rfl ?_
  first | apply on_get (pc' := 4) rfl rfl fl_M_42 | apply on_getN (pc' := 4) rfl rfl fl_M_42
  · repeat (first | assumption | exact on_up_eq _ _ _ | refine (on_up_ne (by omega)).trans ?_)
  · rfl
  refine on_iload_n (pc' := 5) rfl rfl rfl rfl ?_
  first | refine on_aload_n (pc' := 6) rfl rfl rfl rfl ?_ | refine on_aload_nQ (pc' := 6) rfl rfl rfl rfl ?_
  first | apply on_get (pc' := 9) rfl rfl fl_M_52 | apply on_getN (pc' := 9) rfl rfl fl_M_52
  · repeat (first | assumption | exact on_up_eq _ _ _ | refine (on_up_ne (by omega)).trans ?_)
  · rfl
  refine on_callV (pc' := 12) (As := [.int x, .ref (o + 17)]) (rest := []) (b := o + 8) rfl rfl cw_M_hash_143 B0.1 rfl rfl (by decide) (Nat.zero_le _) (Nat.zero_le _) (c_MSha_add hX hL hO.2 (by omega) hx hb) ?_
  rintro r h1 z ⟨rfl, rfl, X1, t1⟩
  refine on_vreturn rfl rfl ?_
  exact ⟨rfl, rfl, X1, t1⟩
/-- a call of hash -/
theorem on_hash {M : on_M} {pc pc' : Nat} {lv : on_V} {x : Int32} {b : Nat} (hO : mo_O o x3 h) (hX : ms_X (o + 8) ms h) (hL : ms.length + 1 < 2 ^ 31) (hx : x &&& 255 = nI b) (hb : b < 256) (hd : on_tb M pc = some (.invokevirtual 155, 3)) (hp : pc + 3 = pc') (hC : on_CV M M_M_hash 155 1 17)
    (k : ∀ h2, mo_O o x3 h2 → ms_X (o + 8) (ms ++ [b]) h2 → on_sm (o + 8) (o + 11) h h2 → on_E G M pc' lv [] h2 sz bc bs Q) : on_E G M pc lv [.int x, .ref o] h sz bc bs Q := by
  refine on_callV (As := [.int x]) (rest := []) (b := o) hd hp hC hO.1 rfl rfl (by decide) (Nat.zero_le _) (Nat.zero_le _) (c_M_hash hO hX hL hx hb) ?_
  rintro r h1 z ⟨rfl, rfl, X1, t1⟩
  exact k h1 (hO.keep (t1 _ (by omega)) (t1 _ (by omega))) X1 t1
theorem nI_255 {b : Nat} (h : b < 256) : nI b &&& 255 = nI b := by
  rw [by_lo (by omega), Nat.mod_eq_of_lt h]
set_option maxHeartbeats 4000000 in
theorem mh_all {R : Nat → Int32} {x : Nat → Nat} (hq : h q = some (on_ai 0 n R)) (hqo : q < o + 8 ∨ o + 11 ≤ q) (hn : n < 2 ^ 31) {cnt : Nat} (hc : cnt ≤ n) (hx : on_by R x cnt) (hL : ms.length + cnt < 2 ^ 31)
    (k : ∀ h2, mo_O o x3 h2 → ms_X (o + 8) (ms ++ sp_sl x 0 cnt) h2 → on_sm (o + 8) (o + 11) h h2 → on_E G M_M_hashAll 20 (on_l []) [] h2 sz bc bs Q) :
    ∀ (m i : Nat) (h1 : on_H), i + m = cnt → mo_O o x3 h1 → ms_X (o + 8) (ms ++ sp_sl x 0 i) h1 → on_sm (o + 8) (o + 11) h h1 → on_E G M_M_hashAll 2 (on_l [(0, .ref o), (1, .ref q), (2, .int (nI cnt)), (3, .int (nI i))]) [] h1 sz bc bs Q := by
  intro m
  induction m with
  | zero =>
    intro i h1 hi hO hX hs
    obtain rfl : i = cnt := by omega
    refine on_iload_n (pc' := 3) rfl rfl rfl rfl ?_
    refine on_iload_n (pc' := 4) rfl rfl rfl rfl ?_
    refine on_icmp_ge (pc' := 7) (tgt := 20) rfl rfl rfl (fun cq => ?_) (fun cq => ?_)
    · exact on_relv (l := []) trivial (k h1 hO hX hs)
    · exact absurd (nI_le (a := i) (by omega) (by omega)) cq
  | succ m ih =>
    intro i h1 hi hO hX hs
    have q1 := (hs q hqo).trans hq
    have hi2 : i < n ∧ n < 2 ^ 31 := by omega
    have hxi := hx i (by omega)
    refine on_iload_n (pc' := 3) rfl rfl rfl rfl ?_
    refine on_iload_n (pc' := 4) rfl rfl rfl rfl ?_
    refine on_icmp_ge (pc' := 7) (tgt := 20) rfl rfl rfl (fun cq => ?_) (fun cq => ?_)
    · exact absurd cq (nI_ge (b := cnt) (by omega) (by omega))
    · first | refine on_aload_n (pc' := 8) rfl rfl rfl rfl ?_ | refine on_aload_nQ (pc' := 8) rfl rfl rfl rfl ?_
      first | refine on_aload_n (pc' := 9) rfl rfl rfl rfl ?_ | refine on_aload_nQ (pc' := 9) rfl rfl rfl rfl ?_
      refine on_iload_n (pc' := 10) rfl rfl rfl rfl ?_
      apply on_ialoadK (pc' := 11) (t := 0) rfl rfl
      · repeat (first | assumption | exact on_up_eq _ _ _ | refine (on_up_ne (by omega)).trans ?_)
      · rfl
      · first | assumption | exact on_lit _ | rfl
      · first | assumption | omega | decide
      rw [hxi.1]
      refine on_hash (pc' := 14) hO hX (by rw [List.length_append, sp_sl_len]; omega) (nI_255 hxi.2) hxi.2 rfl rfl cw_M_hashAll_155 (fun h2 O2 X2 t2 => ?_)
      refine on_iinc1 (pc' := 17) rfl rfl rfl ?_
      refine on_goto (tgt := 2) rfl rfl ?_
      refine on_relv (l := [(0, .ref o), (1, .ref q), (2, .int (nI cnt)), (3, .int (nI (i + 1)))]) ⟨rfl, rfl, rfl, congrArg some (congrArg Value.int (nI_1 i)), trivial⟩ (ih (i + 1) h2 (by omega) O2 ?_ (hs.trans t2))
      rw [List.append_assoc, show x i = x (0 + i) by rw [Nat.zero_add], ← sp_sl_s] at X2
      exact X2
/-- hashAll -/
theorem c_M_hashAll {R : Nat → Int32} {x : Nat → Nat} (hO : mo_O o x3 h) (hX : ms_X (o + 8) ms h) (hq : h q = some (on_ai 0 n R)) (hqo : q < o + 8 ∨ o + 11 ≤ q) (hn : n < 2 ^ 31) {cnt : Nat} (hc : cnt ≤ n) (hx : on_by R x cnt) (hL : ms.length + cnt < 2 ^ 31) :
    on_Ct G M_M_hashAll [.ref o, .ref q, .int (nI cnt)] h sz 0 0 (fun r h1 z => r = none ∧ z = sz ∧ ms_X (o + 8) (ms ++ sp_sl x 0 cnt) h1 ∧ on_sm (o + 8) (o + 11) h h1) := by
  refine on_Ct.of (by decide) v_M_hashAll (Nat.le_of_ble_eq_true rfl) ?_
  refine on_iconst (pc' := 1) (v := 0) rfl rfl li_0 ?_
  refine on_istore_n (pc' := 2) rfl rfl rfl (by decide) ?_
  refine on_relv (l := [(0, .ref o), (1, .ref q), (2, .int (nI cnt)), (3, .int (nI 0))]) ⟨rfl, rfl, rfl, rfl, trivial⟩ (mh_all (h := h) (x := x) hq hqo hn hc hx hL (fun h2 O2 X2 t2 => ?_) cnt 0 h (by omega) hO (by rw [show sp_sl x 0 0 = [] from rfl, List.append_nil]; exact hX) on_sm.rf)
  refine on_vreturn rfl rfl ?_
  exact ⟨rfl, rfl, X2, t2⟩
/-- the bytes of a long, the highest first -/
def sd_b (v : Int64) : Nat → Nat := fun i => v.toBitVec.toNat / 2 ^ (56 - 8 * i) % 256
theorem sd_lt (v : Int64) (i : Nat) : sd_b v i < 256 := Nat.mod_lt _ (by decide)
theorem l_and8 (x : Int64) : x &&& 255 = lN (x.toBitVec.toNat % 256) := by
  apply Int64.toBitVec_inj.mp
  apply BitVec.eq_of_toNat_eq
  show (x.toBitVec &&& 255#64).toNat = (BitVec.ofNat 64 (x.toBitVec.toNat % 256)).toNat
  rw [BitVec.toNat_and, show (255#64).toNat = 2 ^ 8 - 1 from by decide, Nat.and_two_pow_sub_one_eq_mod, BitVec.toNat_ofNat]
  omega
theorem sd_e (v : Int64) {k : Nat} (hk : ∃ j, j < 8 ∧ k = 56 - 8 * j) : (sl_r v (nI k) &&& 255).toInt32 = nI (v.toBitVec.toNat / 2 ^ k % 256) := by
  rw [l_and8, lN_i]
  refine congrArg nI ?_
  obtain ⟨j, hj, rfl⟩ := hk
  have e := sl_r_int v (k := 56 - 8 * j) (by omega)
  generalize sl_r v (nI (56 - 8 * j)) = y at e ⊢
  have e3 : v.toInt = if 2 * v.toBitVec.toNat < 2 ^ 64 then (v.toBitVec.toNat : Int) else (v.toBitVec.toNat : Int) - (2 ^ 64 : Nat) := BitVec.toInt_eq_toNat_cond _
  have e4 : y.toInt = if 2 * y.toBitVec.toNat < 2 ^ 64 then (y.toBitVec.toNat : Int) else (y.toBitVec.toNat : Int) - (2 ^ 64 : Nat) := BitVec.toInt_eq_toNat_cond _
  have h1 := v.toBitVec.isLt
  have h2 := y.toBitVec.isLt
  generalize v.toBitVec.toNat = a at *
  generalize y.toBitVec.toNat = b at *
  rw [e3, e4] at e
  match j, hj with
  | 0, _ => revert e; simp only [Nat.mul_zero, Nat.sub_zero]; split <;> split <;> intro e <;> omega
  | 1, _ => revert e; simp only [Nat.reduceMul, Nat.reduceSub]; split <;> split <;> intro e <;> omega
  | 2, _ => revert e; simp only [Nat.reduceMul, Nat.reduceSub]; split <;> split <;> intro e <;> omega
  | 3, _ => revert e; simp only [Nat.reduceMul, Nat.reduceSub]; split <;> split <;> intro e <;> omega
  | 4, _ => revert e; simp only [Nat.reduceMul, Nat.reduceSub]; split <;> split <;> intro e <;> omega
  | 5, _ => revert e; simp only [Nat.reduceMul, Nat.reduceSub]; split <;> split <;> intro e <;> omega
  | 6, _ => revert e; simp only [Nat.reduceMul, Nat.reduceSub]; split <;> split <;> intro e <;> omega
  | 7, _ => revert e; simp only [Nat.reduceMul, Nat.reduceSub]; split <;> split <;> intro e <;> omega
set_option maxHeartbeats 4000000 in
theorem mh_long {v : Int64} (hL : ms.length + 8 < 2 ^ 31)
    (k : ∀ h2, mo_O o x3 h2 → ms_X (o + 8) (ms ++ sp_sl (sd_b v) 0 8) h2 → on_sm (o + 8) (o + 11) h h2 → on_E G M_M_hashLong 25 (on_l []) [] h2 sz bc bs Q) :
    ∀ (m i : Nat) (h1 : on_H), i + m = 8 → mo_O o x3 h1 → ms_X (o + 8) (ms ++ sp_sl (sd_b v) 0 i) h1 → on_sm (o + 8) (o + 11) h h1 → on_E G M_M_hashLong 3 (on_l [(0, .ref o), (1, .long v), (3, .int (ms_k i))]) [] h1 sz bc bs Q := by
  intro m
  induction m with
  | zero =>
    intro i h1 hi hO hX hs
    obtain rfl : i = 8 := by omega
    refine on_iload_n (pc' := 4) rfl rfl rfl rfl ?_
    refine on_if_lt (pc' := 7) (tgt := 25) rfl rfl rfl (fun cq => ?_) (fun cq => ?_)
    · exact on_relv (l := []) trivial (k h1 hO hX hs)
    · exact absurd (by decide) cq
  | succ m ih =>
    intro i h1 hi hO hX hs
    have ek : ms_k i = nI (56 - 8 * i) := if_pos (by omega)
    refine on_iload_n (pc' := 4) rfl rfl rfl rfl ?_
    refine on_if_lt (pc' := 7) (tgt := 25) rfl rfl rfl (fun cq => ?_) (fun cq => ?_)
    · rw [ek] at cq
      exact absurd cq (nI_pos (by omega))
    · rw [ek]
      first | refine on_aload_n (pc' := 8) rfl rfl rfl rfl ?_ | refine on_aload_nQ (pc' := 8) rfl rfl rfl rfl ?_
      refine on_lload_n (pc' := 9) rfl rfl rfl rfl ?_
      refine on_iload_n (pc' := 10) rfl rfl rfl rfl ?_
      refine on_lshr (pc' := 11) rfl rfl ?_
      refine on_ldc2 (pc' := 14) rfl rfl ld_M_159 ?_
      refine on_land (pc' := 15) rfl rfl ?_
      refine on_l2i (pc' := 16) rfl rfl ?_
      rw [sd_e v ⟨i, by omega, rfl⟩]
      refine on_hash (pc' := 19) hO hX (by rw [List.length_append, sp_sl_len]; omega) (nI_255 (sd_lt v i)) (sd_lt v i) rfl rfl cw_M_hashLong_155 (fun h2 O2 X2 t2 => ?_)
      refine on_iinc (pc' := 22) rfl rfl rfl rfl ?_
      refine on_goto (tgt := 3) rfl rfl ?_
      refine on_relv (l := [(0, .ref o), (1, .long v), (3, .int (ms_k (i + 1)))]) ⟨rfl, rfl, congrArg some (congrArg Value.int (by rw [← ek]; exact ms_k_s (by omega))), trivial⟩ (ih (i + 1) h2 (by omega) O2 ?_ (hs.trans t2))
      rw [sp_sl_s, Nat.zero_add, ← List.append_assoc]
      exact X2
/-- hashLong -/
theorem c_M_hashLong {v : Int64} (hO : mo_O o x3 h) (hX : ms_X (o + 8) ms h) (hL : ms.length + 8 < 2 ^ 31) :
    on_Ct G M_M_hashLong [.ref o, .long v] h sz 0 0 (fun r h1 z => r = none ∧ z = sz ∧ ms_X (o + 8) (ms ++ sp_sl (sd_b v) 0 8) h1 ∧ on_sm (o + 8) (o + 11) h h1) := by
  refine on_Ct.of (by decide) v_M_hashLong (Nat.le_of_ble_eq_true rfl) ?_
  refine on_bipush (pc' := 2) (v := 56) rfl rfl lb_56 ?_
  refine on_istore_n (pc' := 3) rfl rfl rfl (by decide) ?_
  refine on_relv (l := [(0, .ref o), (1, .long v), (3, .int (ms_k 0))]) ⟨rfl, rfl, rfl, trivial⟩ (mh_long (h := h) hL (fun h2 O2 X2 t2 => ?_) 8 0 h rfl hO (by rw [show sp_sl (sd_b v) 0 0 = [] from rfl, List.append_nil]; exact hX) on_sm.rf)
  refine on_vreturn rfl rfl ?_
  exact ⟨rfl, rfl, X2, t2⟩
/-- the name, ONIONNET -/
def nm_b : Nat → Nat := sx_c 0
theorem nm_lt : ∀ j, j < 8 → nm_b j < 256 := by decide +kernel
set_option maxHeartbeats 4000000 in
theorem mh_name {tag : Int32} (hL : ms.length + 9 < 2 ^ 31)
    (k : ∀ h2, mo_O o x3 h2 → ms_X (o + 8) (ms ++ sp_sl nm_b 0 8) h2 → on_sm (o + 8) (o + 11) h h2 → on_E G M_M_hashName 26 (on_l [(0, .ref o), (1, .int tag)]) [] h2 sz bc bs Q) :
    ∀ (m i : Nat) (h1 : on_H), i + m = 8 → mo_O o x3 h1 → ms_X (o + 8) (ms ++ sp_sl nm_b 0 i) h1 → on_sm (o + 8) (o + 11) h h1 → on_E G M_M_hashName 5 (on_l [(0, .ref o), (1, .int tag), (2, .ref (on_sa G 10)), (3, .int (nI i))]) [] h1 sz bc bs Q := by
  intro m
  induction m with
  | zero =>
    intro i h1 hi hO hX hs
    obtain rfl : i = 8 := by omega
    refine on_iload_n (pc' := 6) rfl rfl rfl rfl ?_
    refine on_bipush (pc' := 8) (v := 8) rfl rfl lb_8 ?_
    refine on_icmp_ge (pc' := 11) (tgt := 26) rfl rfl rfl (fun cq => ?_) (fun cq => ?_)
    · exact on_relv (l := [(0, .ref o), (1, .int tag)]) ⟨rfl, rfl, trivial⟩ (k h1 hO hX hs)
    · exact absurd (nI_le (a := 8) (by omega) (by omega)) cq
  | succ m ih =>
    intro i h1 hi hO hX hs
    refine on_iload_n (pc' := 6) rfl rfl rfl rfl ?_
    refine on_bipush (pc' := 8) (v := 8) rfl rfl lb_8 ?_
    refine on_icmp_ge (pc' := 11) (tgt := 26) rfl rfl rfl (fun cq => ?_) (fun cq => ?_)
    · exact absurd cq (nI_ge (b := 8) (by omega) (by omega))
    · first | refine on_aload_n (pc' := 12) rfl rfl rfl rfl ?_ | refine on_aload_nQ (pc' := 12) rfl rfl rfl rfl ?_
      first | refine on_aload_n (pc' := 13) rfl rfl rfl rfl ?_ | refine on_aload_nQ (pc' := 13) rfl rfl rfl rfl ?_
      refine on_iload_n (pc' := 14) rfl rfl rfl rfl ?_
      refine on_charAt (pc' := 17) (i := 0) (j := i) rfl rfl cw_M_hashName_149 (by decide) (show i < 8 by omega) (Nat.le_of_ble_eq_true rfl) ?_
      refine on_hash (pc' := 20) (b := nm_b i) hO hX (by rw [List.length_append, sp_sl_len]; omega) (nI_255 (nm_lt i (by omega))) (nm_lt i (by omega)) rfl rfl cw_M_hashName_155 (fun h2 O2 X2 t2 => ?_)
      refine on_iinc1 (pc' := 23) rfl rfl rfl ?_
      refine on_goto (tgt := 5) rfl rfl ?_
      refine on_relv (l := [(0, .ref o), (1, .int tag), (2, .ref (on_sa G 10)), (3, .int (nI (i + 1)))]) ⟨rfl, rfl, rfl, congrArg some (congrArg Value.int (nI_1 i)), trivial⟩ (ih (i + 1) h2 (by omega) O2 ?_ (hs.trans t2))
      rw [List.append_assoc, show nm_b i = nm_b (0 + i) by rw [Nat.zero_add], ← sp_sl_s] at X2
      exact X2
/-- hashName: the name and a tag -/
theorem c_M_hashName {tag : Nat} (hO : mo_O o x3 h) (hX : ms_X (o + 8) ms h) (hL : ms.length + 9 < 2 ^ 31) (ht : tag < 256) :
    on_Ct G M_M_hashName [.ref o, .int (nI tag)] h sz 0 0 (fun r h1 z => r = none ∧ z = sz ∧ ms_X (o + 8) (ms ++ sp_sl nm_b 0 8 ++ [tag]) h1 ∧ on_sm (o + 8) (o + 11) h h1) := by
  refine on_Ct.of (by decide) v_M_hashName (Nat.le_of_ble_eq_true rfl) ?_
  refine on_ldcS (pc' := 2) (i := 10) rfl rfl rfl (Or.inl ⟨rfl, rfl⟩) ?_
  first | refine on_astore_n (pc' := 3) rfl rfl rfl (by decide) ?_ | refine on_astore_nQ (pc' := 3) rfl rfl rfl (by decide) ?_
  refine on_iconst (pc' := 4) (v := 0) rfl rfl li_0 ?_
  refine on_istore_n (pc' := 5) rfl rfl rfl (by decide) ?_
  refine on_relv (l := [(0, .ref o), (1, .int (nI tag)), (2, .ref (on_sa G 10)), (3, .int (nI 0))]) ⟨rfl, rfl, rfl, rfl, trivial⟩ (mh_name (h := h) hL (fun h2 O2 X2 t2 => ?_) 8 0 h rfl hO (by rw [show sp_sl nm_b 0 0 = [] from rfl, List.append_nil]; exact hX) on_sm.rf)
  first | refine on_aload_n (pc' := 27) rfl rfl rfl rfl ?_ | refine on_aload_nQ (pc' := 27) rfl rfl rfl rfl ?_
  refine on_iload_n (pc' := 28) rfl rfl rfl rfl ?_
  refine on_hash (pc' := 31) O2 X2 (by rw [List.length_append, sp_sl_len]; omega) (nI_255 ht) ht rfl rfl cw_M_hashName_155 (fun h3 O3 X3 t3 => ?_)
  refine on_vreturn rfl rfl ?_
  exact ⟨rfl, rfl, X3, t2.trans t3⟩
end MHA
