/-! the reference's keyed hash, its draws -/
/-- the keyed hash of the first n bytes of t under the first kl bytes of k -/
def hm_k (k : Nat → Nat) (kl : Nat) (c : Nat) : Nat → Nat := fun i => (if i < kl then k i else 0) ^^^ c
def hm_i (k : Nat → Nat) (kl : Nat) (t : Nat → Nat) (n : Nat) : List Nat := sp_sl (hm_k k kl 54) 0 64 ++ sp_sl t 0 n
def hm (k : Nat → Nat) (kl : Nat) (t : Nat → Nat) (n : Nat) : Nat → Nat := sp_d (sp_sl (hm_k k kl 92) 0 64 ++ sp_sl (sp_d (hm_i k kl t n)) 0 32)
theorem xor_lt8 {a b : Nat} (ha : a < 256) (hb : b < 256) : a ^^^ b < 256 := Nat.xor_lt_two_pow (n := 8) ha hb
theorem nI_xor {a b : Nat} : nI a ^^^ nI b = nI (a ^^^ b) := by
  apply Int32.toBitVec_inj.mp
  show BitVec.ofNat 32 a ^^^ BitVec.ofNat 32 b = BitVec.ofNat 32 (a ^^^ b)
  apply BitVec.eq_of_toNat_eq
  simp only [BitVec.toNat_xor, BitVec.toNat_ofNat]
  exact (Nat.xor_mod_two_pow).symm
section MMA
variable {G : on_G} {o q sz bc bs : Nat} {x3 : Int32 × Int32 × Int32} {h : on_H} {Q : Option Value → on_H → Nat → Prop}
set_option maxHeartbeats 4000000 in
theorem mk_l {tag : Int32} (ho : h o = some (.inr (17, mo_f o x3.1 x3.2.1 x3.2.2)))
    (k : ∀ T : Nat → Int32, on_by T nm_b 8 → on_E G M_M_keyName 28 (on_l [(0, .ref o), (1, .int tag)]) [] (on_up h (o + 19) (on_ai 0 64 T)) sz bc bs Q) :
    ∀ (m i : Nat) (T : Nat → Int32), i + m = 8 → on_by T nm_b i → on_E G M_M_keyName 5 (on_l [(0, .ref o), (1, .int tag), (2, .ref (on_sa G 10)), (3, .int (nI i))]) [] (on_up h (o + 19) (on_ai 0 64 T)) sz bc bs Q := by
  intro m
  induction m with
  | zero =>
    intro i T hi hT
    obtain rfl : i = 8 := by omega
    refine on_iload_n (pc' := 6) rfl rfl rfl rfl ?_
    refine on_bipush (pc' := 8) (v := 8) rfl rfl lb_8 ?_
    refine on_icmp_ge (pc' := 11) (tgt := 28) rfl rfl rfl (fun cq => ?_) (fun cq => ?_)
    · exact on_relv (l := [(0, .ref o), (1, .int tag)]) ⟨rfl, rfl, trivial⟩ (k T hT)
    · exact absurd (nI_le (a := 8) (by omega) (by omega)) cq
  | succ m ih =>
    intro i T hi hT
    have hi2 : i < 64 ∧ 64 < 2 ^ 31 := by omega
    refine on_iload_n (pc' := 6) rfl rfl rfl rfl ?_
    refine on_bipush (pc' := 8) (v := 8) rfl rfl lb_8 ?_
    refine on_icmp_ge (pc' := 11) (tgt := 28) rfl rfl rfl (fun cq => ?_) (fun cq => ?_)
    · exact absurd cq (nI_ge (b := 8) (by omega) (by omega))
    · first | refine on_aload_n (pc' := 12) rfl rfl rfl rfl ?_ | refine on_aload_nQ (pc' := 12) rfl rfl rfl rfl ?_
      first | apply on_get (pc' := 15) rfl rfl fl_M_58 | apply on_getN (pc' := 15) rfl rfl fl_M_58
      · repeat (first | assumption | exact on_up_eq _ _ _ | refine (on_up_ne (by omega)).trans ?_)
      · rfl
      refine on_iload_n (pc' := 16) rfl rfl rfl rfl ?_
      first | refine on_aload_n (pc' := 17) rfl rfl rfl rfl ?_ | refine on_aload_nQ (pc' := 17) rfl rfl rfl rfl ?_
      refine on_iload_n (pc' := 18) rfl rfl rfl rfl ?_
      refine on_charAt (pc' := 21) (i := 0) (j := i) rfl rfl cw_M_keyName_149 (by decide) (show i < 8 by omega) (Nat.le_of_ble_eq_true rfl) ?_
      apply on_iastoreK (pc' := 22) (t := 0) rfl rfl
      · repeat (first | assumption | exact on_up_eq _ _ _ | refine (on_up_ne (by omega)).trans ?_)
      · rfl
      · first | assumption | exact on_lit _ | rfl
      · first | assumption | omega | decide
      refine on_iinc1 (pc' := 25) rfl rfl rfl ?_
      refine on_goto (tgt := 5) rfl rfl ?_
      rw [on_up_up]
      refine on_relv (l := [(0, .ref o), (1, .int tag), (2, .ref (on_sa G 10)), (3, .int (nI (i + 1)))]) ⟨rfl, rfl, rfl, congrArg some (congrArg Value.int (nI_1 i)), trivial⟩ (ih (i + 1) _ (by omega) (fun j hj => ?_))
      by_cases e : j = i
      · subst e
        rw [pk_us]
        exact ⟨rfl, nm_lt j (by omega)⟩
      · rw [pk_un e]; exact hT j (by omega)
/-- the bytes of the name and a tag -/
def nt_b (tag : Nat) : Nat → Nat := fun i => if i = 8 then tag else nm_b i
theorem nt_lt {tag : Nat} (h : tag < 256) : ∀ i, i < 9 → nt_b tag i < 256 := fun i hi => by
  unfold nt_b
  split
  · exact h
  · exact nm_lt i (by omega)
/-- keyName -/
theorem c_M_keyName {tag : Nat} {T0 : Nat → Int32} (ho : h o = some (.inr (17, mo_f o x3.1 x3.2.1 x3.2.2))) (hk : h (o + 19) = some (on_ai 0 64 T0)) (ht : tag < 256) :
    on_Ct G M_M_keyName [.ref o, .int (nI tag)] h sz 0 0 (fun r h1 z => r = none ∧ z = sz ∧ ∃ T, h1 = on_up h (o + 19) (on_ai 0 64 T) ∧ on_by T (nt_b tag) 9) := by
  have h8 : (8 : Nat) < 64 ∧ 64 < 2 ^ 31 := by decide
  refine on_Ct.of (by decide) v_M_keyName (Nat.le_of_ble_eq_true rfl) ?_
  refine on_ldcS (pc' := 2) (i := 10) rfl rfl rfl (Or.inl ⟨rfl, rfl⟩) ?_
  first | refine on_astore_n (pc' := 3) rfl rfl rfl (by decide) ?_ | refine on_astore_nQ (pc' := 3) rfl rfl rfl (by decide) ?_
  refine on_iconst (pc' := 4) (v := 0) rfl rfl li_0 ?_
  refine on_istore_n (pc' := 5) rfl rfl rfl (by decide) ?_
  have := mk_l (G := G) (sz := sz) (bc := 0) (bs := 0) (tag := nI tag) (Q := fun r h1 z => r = none ∧ z = sz ∧ ∃ T, h1 = on_up h (o + 19) (on_ai 0 64 T) ∧ on_by T (nt_b tag) 9) ho ?_ 8 0 T0 rfl (fun j hj => absurd hj (by omega))
  · rw [on_up_self hk] at this
    exact on_relv (l := [(0, .ref o), (1, .int (nI tag)), (2, .ref (on_sa G 10)), (3, .int (nI 0))]) ⟨rfl, rfl, rfl, rfl, trivial⟩ this
  · intro T hT
    first | refine on_aload_n (pc' := 29) rfl rfl rfl rfl ?_ | refine on_aload_nQ (pc' := 29) rfl rfl rfl rfl ?_
    first | apply on_get (pc' := 32) rfl rfl fl_M_58 | apply on_getN (pc' := 32) rfl rfl fl_M_58
    · repeat (first | assumption | exact on_up_eq _ _ _ | refine (on_up_ne (by omega)).trans ?_)
    · rfl
    refine on_bipush (pc' := 34) (v := 8) rfl rfl lb_8 ?_
    refine on_iload_n (pc' := 35) rfl rfl rfl rfl ?_
    apply on_iastoreK (pc' := 36) (t := 0) rfl rfl
    · repeat (first | assumption | exact on_up_eq _ _ _ | refine (on_up_ne (by omega)).trans ?_)
    · rfl
    · first | assumption | exact on_lit _ | rfl
    · first | assumption | omega | decide
    refine on_vreturn rfl rfl ?_
    refine ⟨rfl, rfl, _, on_up_up _ _ _ _, fun j hj => ?_⟩
    unfold nt_b
    by_cases e : j = 8
    · subst e
      rw [pk_us, if_pos rfl]
      exact ⟨rfl, ht⟩
    · rw [pk_un e, if_neg e]
      exact hT j (by omega)
/-- zeros behind the key -/
theorem mm_z {n kl : Nat} {k0 : Nat → Nat} (ho : h o = some (.inr (17, mo_f o x3.1 x3.2.1 x3.2.2))) (hkl : kl ≤ 64)
    (k : ∀ T : Nat → Int32, on_by T (fun i => if i < kl then k0 i else 0) 64 → on_E G M_M_mac 24 (on_l [(0, .ref o), (2, .int (nI n)), (3, .ref q)]) [] (on_up h (o + 19) (on_ai 0 64 T)) sz bc bs Q) :
    ∀ (m i : Nat) (T : Nat → Int32), i + m = 64 → kl ≤ i → on_by T (fun i => if i < kl then k0 i else 0) i → on_E G M_M_mac 3 (on_l [(0, .ref o), (2, .int (nI n)), (3, .ref q), (4, .int (nI i))]) [] (on_up h (o + 19) (on_ai 0 64 T)) sz bc bs Q := by
  intro m
  induction m with
  | zero =>
    intro i T hi hk hT
    obtain rfl : i = 64 := by omega
    refine on_iload (pc' := 5) rfl rfl rfl ?_
    refine on_bipush (pc' := 7) (v := 64) rfl rfl lb_64 ?_
    refine on_icmp_ge (pc' := 10) (tgt := 24) rfl rfl rfl (fun cq => ?_) (fun cq => ?_)
    · exact on_relv (l := [(0, .ref o), (2, .int (nI n)), (3, .ref q)]) ⟨rfl, rfl, rfl, trivial⟩ (k T hT)
    · exact absurd (nI_le (a := 64) (by omega) (by omega)) cq
  | succ m ih =>
    intro i T hi hk hT
    have hi2 : i < 64 ∧ 64 < 2 ^ 31 := by omega
    refine on_iload (pc' := 5) rfl rfl rfl ?_
    refine on_bipush (pc' := 7) (v := 64) rfl rfl lb_64 ?_
    refine on_icmp_ge (pc' := 10) (tgt := 24) rfl rfl rfl (fun cq => ?_) (fun cq => ?_)
    · exact absurd cq (nI_ge (b := 64) (by omega) (by omega))
    · first | refine on_aload_n (pc' := 11) rfl rfl rfl rfl ?_ | refine on_aload_nQ (pc' := 11) rfl rfl rfl rfl ?_
      first | apply on_get (pc' := 14) rfl rfl fl_M_58 | apply on_getN (pc' := 14) rfl rfl fl_M_58
      · repeat (first | assumption | exact on_up_eq _ _ _ | refine (on_up_ne (by omega)).trans ?_)
      · rfl
      refine on_iload (pc' := 16) rfl rfl rfl ?_
      refine on_iconst (pc' := 17) (v := 0) rfl rfl li_0 ?_
      apply on_iastoreK (pc' := 18) (t := 0) rfl rfl
      · repeat (first | assumption | exact on_up_eq _ _ _ | refine (on_up_ne (by omega)).trans ?_)
      · rfl
      · first | assumption | exact on_lit _ | rfl
      · first | assumption | omega | decide
      refine on_iinc1 (pc' := 21) rfl rfl rfl ?_
      refine on_goto (tgt := 3) rfl rfl ?_
      rw [on_up_up]
      refine on_relv (l := [(0, .ref o), (2, .int (nI n)), (3, .ref q), (4, .int (nI (i + 1)))]) ⟨rfl, rfl, rfl, congrArg some (congrArg Value.int (nI_1 i)), trivial⟩ (ih (i + 1) _ (by omega) (by omega) (fun j hj => ?_))
      by_cases e : j = i
      · subst e
        rw [pk_us]
        show (0 : Int32) = nI (if j < kl then k0 j else 0) ∧ (if j < kl then k0 j else 0) < 256
        rw [if_neg (by omega)]
        exact ⟨rfl, by decide⟩
      · rw [pk_un e]; exact hT j (by omega)
/-- a call of add on the inner hash -/
theorem on_inn {M : on_M} {pc pc' : Nat} {lv : on_V} {x : Int32} {b : Nat} {ms : List Nat} (hO : mo_O o x3 h) (hX : ms_X (o + 11) ms h) (hL : ms.length + 1 < 2 ^ 31) (hx : x &&& 255 = nI b) (hb : b < 256) (hd : on_tb M pc = some (.invokevirtual 143, 3)) (hp : pc + 3 = pc') (hC : on_CV M M_MSha_add 143 2 12)
    (k : ∀ h2, mo_O o x3 h2 → ms_X (o + 11) (ms ++ [b]) h2 → on_sm (o + 11) (o + 14) h h2 → on_E G M pc' lv [] h2 sz bc bs Q) : on_E G M pc lv [.ref (o + 17), .int x, .ref (o + 11)] h sz bc bs Q := by
  obtain ⟨f0, g0, B0, -⟩ := id hX
  refine on_callV (As := [.int x, .ref (o + 17)]) (rest := []) (b := o + 11) hd hp hC B0.1 rfl rfl (by decide) (Nat.zero_le _) (Nat.zero_le _) (c_MSha_add hX hL hO.2 (by omega) hx hb) ?_
  rintro r h1 z ⟨rfl, rfl, X1, t1⟩
  exact k h1 (hO.keep (t1 _ (by omega)) (t1 _ (by omega))) X1 t1
set_option maxHeartbeats 4000000 in
theorem mm_i {n : Nat} {K : Nat → Int32} {k0 : Nat → Nat} (hk : h (o + 19) = some (on_ai 0 64 K)) (hK : on_by K k0 64)
    (k : ∀ h2, mo_O o x3 h2 → ms_X (o + 11) (sp_sl (fun i => k0 i ^^^ 54) 0 64) h2 → on_sm (o + 11) (o + 14) h h2 → on_E G M_M_mac 68 (on_l [(0, .ref o), (2, .int (nI n)), (3, .ref q)]) [] h2 sz bc bs Q) :
    ∀ (m i : Nat) (h1 : on_H), i + m = 64 → mo_O o x3 h1 → ms_X (o + 11) (sp_sl (fun i => k0 i ^^^ 54) 0 i) h1 → on_sm (o + 11) (o + 14) h h1 → on_E G M_M_mac 34 (on_l [(0, .ref o), (2, .int (nI n)), (3, .ref q), (4, .int (nI i))]) [] h1 sz bc bs Q := by
  intro m
  induction m with
  | zero =>
    intro i h1 hi hO hX hs
    obtain rfl : i = 64 := by omega
    refine on_iload (pc' := 36) rfl rfl rfl ?_
    refine on_bipush (pc' := 38) (v := 64) rfl rfl lb_64 ?_
    refine on_icmp_ge (pc' := 41) (tgt := 68) rfl rfl rfl (fun cq => ?_) (fun cq => ?_)
    · exact on_relv (l := [(0, .ref o), (2, .int (nI n)), (3, .ref q)]) ⟨rfl, rfl, rfl, trivial⟩ (k h1 hO hX hs)
    · exact absurd (nI_le (a := 64) (by omega) (by omega)) cq
  | succ m ih =>
    intro i h1 hi hO hX hs
    have ho := hO.1
    have hi2 : i < 64 ∧ 64 < 2 ^ 31 := by omega
    have q1 := (hs (o + 19) (by omega)).trans hk
    have hki := hK i (by omega)
    refine on_iload (pc' := 36) rfl rfl rfl ?_
    refine on_bipush (pc' := 38) (v := 64) rfl rfl lb_64 ?_
    refine on_icmp_ge (pc' := 41) (tgt := 68) rfl rfl rfl (fun cq => ?_) (fun cq => ?_)
    · exact absurd cq (nI_ge (b := 64) (by omega) (by omega))
    · first | refine on_aload_n (pc' := 42) rfl rfl rfl rfl ?_ | refine on_aload_nQ (pc' := 42) rfl rfl rfl rfl ?_
      first | apply on_get (pc' := 45) rfl rfl fl_M_46 | apply on_getN (pc' := 45) rfl rfl fl_M_46
      · repeat (first | assumption | exact on_up_eq _ _ _ | refine (on_up_ne (by omega)).trans ?_)
      · rfl
      first | refine on_aload_n (pc' := 46) rfl rfl rfl rfl ?_ | refine on_aload_nQ (pc' := 46) rfl rfl rfl rfl ?_
      first | apply on_get (pc' := 49) rfl rfl fl_M_58 | apply on_getN (pc' := 49) rfl rfl fl_M_58
      · repeat (first | assumption | exact on_up_eq _ _ _ | refine (on_up_ne (by omega)).trans ?_)
      · rfl
      refine on_iload (pc' := 51) rfl rfl rfl ?_
      apply on_ialoadK (pc' := 52) (t := 0) rfl rfl
      · repeat (first | assumption | exact on_up_eq _ _ _ | refine (on_up_ne (by omega)).trans ?_)
      · rfl
      · first | assumption | exact on_lit _ | rfl
      · first | assumption | omega | decide
      rw [hki.1]
      refine on_bipush (pc' := 54) (v := 54) rfl rfl lb_54 ?_
      refine on_ixor (pc' := 55) rfl rfl ?_
      first | refine on_aload_n (pc' := 56) rfl rfl rfl rfl ?_ | refine on_aload_nQ (pc' := 56) rfl rfl rfl rfl ?_
      first | apply on_get (pc' := 59) rfl rfl fl_M_52 | apply on_getN (pc' := 59) rfl rfl fl_M_52
      · repeat (first | assumption | exact on_up_eq _ _ _ | refine (on_up_ne (by omega)).trans ?_)
      · rfl
      rw [show (54 : Int32) = nI 54 from rfl, nI_xor]
      refine on_inn (pc' := 62) (b := k0 i ^^^ 54) hO hX (by rw [sp_sl_len]; omega) (nI_255 (xor_lt8 hki.2 (by decide))) (xor_lt8 hki.2 (by decide)) rfl rfl cw_M_mac_143 (fun h2 O2 X2 t2 => ?_)
      refine on_iinc1 (pc' := 65) rfl rfl rfl ?_
      refine on_goto (tgt := 34) rfl rfl ?_
      refine on_relv (l := [(0, .ref o), (2, .int (nI n)), (3, .ref q), (4, .int (nI (i + 1)))]) ⟨rfl, rfl, rfl, congrArg some (congrArg Value.int (nI_1 i)), trivial⟩ (ih (i + 1) h2 (by omega) O2 ?_ (hs.trans t2))
      rw [sp_sl_s, Nat.zero_add]
      exact X2
set_option maxHeartbeats 4000000 in
theorem mm_t {n : Nat} {T : Nat → Int32} {t : Nat → Nat} {ms : List Nat} (hk : h (o + 20) = some (on_ai 0 256 T)) (hn : n ≤ 256) (hT : on_by T t n) (hL : ms.length + n < 2 ^ 31)
    (k : ∀ h2, mo_O o x3 h2 → ms_X (o + 11) (ms ++ sp_sl t 0 n) h2 → on_sm (o + 11) (o + 14) h h2 → on_E G M_M_mac 101 (on_l [(0, .ref o), (3, .ref q)]) [] h2 sz bc bs Q) :
    ∀ (m i : Nat) (h1 : on_H), i + m = n → mo_O o x3 h1 → ms_X (o + 11) (ms ++ sp_sl t 0 i) h1 → on_sm (o + 11) (o + 14) h h1 → on_E G M_M_mac 71 (on_l [(0, .ref o), (2, .int (nI n)), (3, .ref q), (4, .int (nI i))]) [] h1 sz bc bs Q := by
  intro m
  induction m with
  | zero =>
    intro i h1 hi hO hX hs
    obtain rfl : i = n := by omega
    refine on_iload (pc' := 73) rfl rfl rfl ?_
    refine on_iload_n (pc' := 74) rfl rfl rfl rfl ?_
    refine on_icmp_ge (pc' := 77) (tgt := 101) rfl rfl rfl (fun cq => ?_) (fun cq => ?_)
    · exact on_relv (l := [(0, .ref o), (3, .ref q)]) ⟨rfl, rfl, trivial⟩ (k h1 hO hX hs)
    · exact absurd (nI_le (a := i) (by omega) (by omega)) cq
  | succ m ih =>
    intro i h1 hi hO hX hs
    have ho := hO.1
    have hi2 : i < 256 ∧ 256 < 2 ^ 31 := by omega
    have q1 := (hs (o + 20) (by omega)).trans hk
    have hki := hT i (by omega)
    refine on_iload (pc' := 73) rfl rfl rfl ?_
    refine on_iload_n (pc' := 74) rfl rfl rfl rfl ?_
    refine on_icmp_ge (pc' := 77) (tgt := 101) rfl rfl rfl (fun cq => ?_) (fun cq => ?_)
    · exact absurd cq (nI_ge (b := n) (by omega) (by omega))
    · first | refine on_aload_n (pc' := 78) rfl rfl rfl rfl ?_ | refine on_aload_nQ (pc' := 78) rfl rfl rfl rfl ?_
      first | apply on_get (pc' := 81) rfl rfl fl_M_46 | apply on_getN (pc' := 81) rfl rfl fl_M_46
      · repeat (first | assumption | exact on_up_eq _ _ _ | refine (on_up_ne (by omega)).trans ?_)
      · rfl
      first | refine on_aload_n (pc' := 82) rfl rfl rfl rfl ?_ | refine on_aload_nQ (pc' := 82) rfl rfl rfl rfl ?_
      first | apply on_get (pc' := 85) rfl rfl fl_M_61 | apply on_getN (pc' := 85) rfl rfl fl_M_61
      · repeat (first | assumption | exact on_up_eq _ _ _ | refine (on_up_ne (by omega)).trans ?_)
      · rfl
      refine on_iload (pc' := 87) rfl rfl rfl ?_
      apply on_ialoadK (pc' := 88) (t := 0) rfl rfl
      · repeat (first | assumption | exact on_up_eq _ _ _ | refine (on_up_ne (by omega)).trans ?_)
      · rfl
      · first | assumption | exact on_lit _ | rfl
      · first | assumption | omega | decide
      first | refine on_aload_n (pc' := 89) rfl rfl rfl rfl ?_ | refine on_aload_nQ (pc' := 89) rfl rfl rfl rfl ?_
      first | apply on_get (pc' := 92) rfl rfl fl_M_52 | apply on_getN (pc' := 92) rfl rfl fl_M_52
      · repeat (first | assumption | exact on_up_eq _ _ _ | refine (on_up_ne (by omega)).trans ?_)
      · rfl
      rw [hki.1]
      refine on_inn (pc' := 95) (b := t i) hO hX (by rw [List.length_append, sp_sl_len]; omega) (nI_255 hki.2) hki.2 rfl rfl cw_M_mac_143 (fun h2 O2 X2 t2 => ?_)
      refine on_iinc1 (pc' := 98) rfl rfl rfl ?_
      refine on_goto (tgt := 71) rfl rfl ?_
      refine on_relv (l := [(0, .ref o), (2, .int (nI n)), (3, .ref q), (4, .int (nI (i + 1)))]) ⟨rfl, rfl, rfl, congrArg some (congrArg Value.int (nI_1 i)), trivial⟩ (ih (i + 1) h2 (by omega) O2 ?_ (hs.trans t2))
      rw [sp_sl_s, Nat.zero_add, ← List.append_assoc]
      exact X2
set_option maxHeartbeats 4000000 in
theorem mm_o {K : Nat → Int32} {k0 : Nat → Nat} (hk : h (o + 19) = some (on_ai 0 64 K)) (hK : on_by K k0 64)
    (k : ∀ h2, mo_O o x3 h2 → ms_X (o + 8) (sp_sl (fun i => k0 i ^^^ 92) 0 64) h2 → on_sm (o + 8) (o + 11) h h2 → on_E G M_M_mac 154 (on_l [(0, .ref o), (3, .ref q)]) [] h2 sz bc bs Q) :
    ∀ (m i : Nat) (h1 : on_H), i + m = 64 → mo_O o x3 h1 → ms_X (o + 8) (sp_sl (fun i => k0 i ^^^ 92) 0 i) h1 → on_sm (o + 8) (o + 11) h h1 → on_E G M_M_mac 127 (on_l [(0, .ref o), (3, .ref q), (4, .int (nI i))]) [] h1 sz bc bs Q := by
  intro m
  induction m with
  | zero =>
    intro i h1 hi hO hX hs
    obtain rfl : i = 64 := by omega
    refine on_iload (pc' := 129) rfl rfl rfl ?_
    refine on_bipush (pc' := 131) (v := 64) rfl rfl lb_64 ?_
    refine on_icmp_ge (pc' := 134) (tgt := 154) rfl rfl rfl (fun cq => ?_) (fun cq => ?_)
    · exact on_relv (l := [(0, .ref o), (3, .ref q)]) ⟨rfl, rfl, trivial⟩ (k h1 hO hX hs)
    · exact absurd (nI_le (a := 64) (by omega) (by omega)) cq
  | succ m ih =>
    intro i h1 hi hO hX hs
    have ho := hO.1
    have hi2 : i < 64 ∧ 64 < 2 ^ 31 := by omega
    have q1 := (hs (o + 19) (by omega)).trans hk
    have hki := hK i (by omega)
    refine on_iload (pc' := 129) rfl rfl rfl ?_
    refine on_bipush (pc' := 131) (v := 64) rfl rfl lb_64 ?_
    refine on_icmp_ge (pc' := 134) (tgt := 154) rfl rfl rfl (fun cq => ?_) (fun cq => ?_)
    · exact absurd cq (nI_ge (b := 64) (by omega) (by omega))
    · first | refine on_aload_n (pc' := 135) rfl rfl rfl rfl ?_ | refine on_aload_nQ (pc' := 135) rfl rfl rfl rfl ?_
      first | refine on_aload_n (pc' := 136) rfl rfl rfl rfl ?_ | refine on_aload_nQ (pc' := 136) rfl rfl rfl rfl ?_
      first | apply on_get (pc' := 139) rfl rfl fl_M_58 | apply on_getN (pc' := 139) rfl rfl fl_M_58
      · repeat (first | assumption | exact on_up_eq _ _ _ | refine (on_up_ne (by omega)).trans ?_)
      · rfl
      refine on_iload (pc' := 141) rfl rfl rfl ?_
      apply on_ialoadK (pc' := 142) (t := 0) rfl rfl
      · repeat (first | assumption | exact on_up_eq _ _ _ | refine (on_up_ne (by omega)).trans ?_)
      · rfl
      · first | assumption | exact on_lit _ | rfl
      · first | assumption | omega | decide
      rw [hki.1]
      refine on_bipush (pc' := 144) (v := 92) rfl rfl lb_92 ?_
      refine on_ixor (pc' := 145) rfl rfl ?_
      rw [show (92 : Int32) = nI 92 from rfl, nI_xor]
      refine on_hash (pc' := 148) (b := k0 i ^^^ 92) hO hX (by rw [sp_sl_len]; omega) (nI_255 (xor_lt8 hki.2 (by decide))) (xor_lt8 hki.2 (by decide)) rfl rfl cw_M_mac_155 (fun h2 O2 X2 t2 => ?_)
      refine on_iinc1 (pc' := 151) rfl rfl rfl ?_
      refine on_goto (tgt := 127) rfl rfl ?_
      refine on_relv (l := [(0, .ref o), (3, .ref q), (4, .int (nI (i + 1)))]) ⟨rfl, rfl, congrArg some (congrArg Value.int (nI_1 i)), trivial⟩ (ih (i + 1) h2 (by omega) O2 ?_ (hs.trans t2))
      rw [sp_sl_s, Nat.zero_add]
      exact X2
set_option maxHeartbeats 4000000 in
/-- mac: the keyed hash; the key's row is left with zeros behind the key -/
theorem c_M_mac {n kl : Nat} {K T D R : Nat → Int32} {k0 t : Nat → Nat} (hO : mo_O o x3 h) (hA : ms_W (o + 8) h) (hB : ms_W (o + 11) h) (hk : h (o + 19) = some (on_ai 0 64 K)) (hkl : kl ≤ 64) (hK : on_by K k0 kl) (ht : h (o + 20) = some (on_ai 0 256 T)) (hn : n ≤ 256) (hT : on_by T t n) (hd : h (o + 18) = some (on_ai 0 32 D)) (hq : h q = some (on_ai 0 32 R)) (hqo : q < o + 8 ∨ o + 21 ≤ q) :
    on_Ct G M_M_mac [.ref o, .int (nI kl), .int (nI n), .ref q] h sz 0 0 (fun r h1 z => r = none ∧ z = sz ∧ mo_O o x3 h1 ∧ ms_W (o + 8) h1 ∧ ms_W (o + 11) h1 ∧ (∃ K2, h1 (o + 19) = some (on_ai 0 64 K2) ∧ on_by K2 k0 kl) ∧ (∃ D2, h1 (o + 18) = some (on_ai 0 32 D2)) ∧ (∃ R2, h1 q = some (on_ai 0 32 R2) ∧ on_by R2 (hm k0 kl t n) 32) ∧ ∀ a, a ≠ q → (a < o + 8 ∨ (o + 14 ≤ a ∧ a ≠ o + 18 ∧ a ≠ o + 19)) → h1 a = h a) := by
  have ho := hO.1
  have hqo' : q ≠ o := fun e => by rw [e, ho] at hq; cases hq
  refine on_Ct.of (by decide) v_M_mac (Nat.le_of_ble_eq_true rfl) ?_
  refine on_iload_n (pc' := 1) rfl rfl rfl rfl ?_
  refine on_istore (pc' := 3) rfl rfl (by decide) ?_
  have z := mm_z (G := G) (q := q) (sz := sz) (bc := 0) (bs := 0) (n := n) (kl := kl) (k0 := k0) (Q := fun r h1 z => r = none ∧ z = sz ∧ mo_O o x3 h1 ∧ ms_W (o + 8) h1 ∧ ms_W (o + 11) h1 ∧ (∃ K2, h1 (o + 19) = some (on_ai 0 64 K2) ∧ on_by K2 k0 kl) ∧ (∃ D2, h1 (o + 18) = some (on_ai 0 32 D2)) ∧ (∃ R2, h1 q = some (on_ai 0 32 R2) ∧ on_by R2 (hm k0 kl t n) 32) ∧ ∀ a, a ≠ q → (a < o + 8 ∨ (o + 14 ≤ a ∧ a ≠ o + 18 ∧ a ≠ o + 19)) → h1 a = h a) ho hkl ?_ (64 - kl) kl K (by omega) (Nat.le_refl _) (fun j hj => by dsimp only; rw [if_pos hj]; exact hK j hj)
  · rw [on_up_self hk] at z
    exact on_relv (l := [(0, .ref o), (2, .int (nI n)), (3, .ref q), (4, .int (nI kl))]) ⟨rfl, rfl, rfl, rfl, trivial⟩ z
  intro K1 hK1
  have O1 : mo_O o x3 (on_up h (o + 19) (on_ai 0 64 K1)) := hO.keep (on_up_ne (by omega)) (on_up_ne (by omega))
  have A1 : ms_W (o + 8) (on_up h (o + 19) (on_ai 0 64 K1)) := hA.keep (fun a h1 h2 => on_up_ne (by omega))
  have B1 : ms_W (o + 11) (on_up h (o + 19) (on_ai 0 64 K1)) := hB.keep (fun a h1 h2 => on_up_ne (by omega))
  have k1 : on_up h (o + 19) (on_ai 0 64 K1) (o + 19) = some (on_ai 0 64 K1) := on_up_eq _ _ _
  have t1 : ∀ a, a ≠ o + 19 → on_up h (o + 19) (on_ai 0 64 K1) a = h a := fun a ha => on_up_ne ha
  generalize on_up h (o + 19) (on_ai 0 64 K1) = h1 at *
  clear ho
  have ho := O1.1
  obtain ⟨f0, g0, l0, B1'⟩ := id B1
  first | refine on_aload_n (pc' := 25) rfl rfl rfl rfl ?_ | refine on_aload_nQ (pc' := 25) rfl rfl rfl rfl ?_
  first | apply on_get (pc' := 28) rfl rfl fl_M_46 | apply on_getN (pc' := 28) rfl rfl fl_M_46
  · repeat (first | assumption | exact on_up_eq _ _ _ | refine (on_up_ne (by omega)).trans ?_)
  · rfl
  refine on_callV (pc' := 31) (As := []) (rest := []) (b := o + 11) rfl rfl cw_M_mac_161 B1'.1 rfl rfl (by decide) (Nat.zero_le _) (Nat.zero_le _) (c_MSha_begin B1) ?_
  rintro r h2 z ⟨rfl, rfl, X2, t2⟩
  have O2 : mo_O o x3 h2 := O1.keep (t2 _ (by omega)) (t2 _ (by omega))
  refine on_iconst (pc' := 32) (v := 0) rfl rfl li_0 ?_
  refine on_istore (pc' := 34) rfl rfl (by decide) ?_
  refine on_relv (l := [(0, .ref o), (2, .int (nI n)), (3, .ref q), (4, .int (nI 0))]) ⟨rfl, rfl, rfl, rfl, trivial⟩ (mm_i (h := h2) ((t2 _ (by omega)).trans k1) hK1 (fun h3 O3 X3 t3 => ?_) 64 0 h2 rfl O2 X2 on_sm.rf)
  have tt3 : on_sm (o + 11) (o + 14) h1 h3 := t2.trans t3
  refine on_iconst (pc' := 69) (v := 0) rfl rfl li_0 ?_
  refine on_istore (pc' := 71) rfl rfl (by decide) ?_
  refine on_relv (l := [(0, .ref o), (2, .int (nI n)), (3, .ref q), (4, .int (nI 0))]) ⟨rfl, rfl, rfl, rfl, trivial⟩ (mm_t (h := h3) (ms := sp_sl (fun i => (if i < kl then k0 i else 0) ^^^ 54) 0 64) (t := t) ((tt3 _ (by omega)).trans ((t1 _ (by omega)).trans ht)) hn hT (by rw [sp_sl_len]; omega) (fun h4 O4 X4 t4 => ?_) n 0 h3 (by omega) O3 (by rw [show sp_sl t 0 0 = [] from rfl, List.append_nil]; exact X3) on_sm.rf)
  have tt4 : on_sm (o + 11) (o + 14) h1 h4 := tt3.trans t4
  clear ho
  have ho := O4.1
  obtain ⟨f4, g4, X4', -⟩ := id X4
  first | refine on_aload_n (pc' := 102) rfl rfl rfl rfl ?_ | refine on_aload_nQ (pc' := 102) rfl rfl rfl rfl ?_
  first | apply on_get (pc' := 105) rfl rfl fl_M_46 | apply on_getN (pc' := 105) rfl rfl fl_M_46
  · repeat (first | assumption | exact on_up_eq _ _ _ | refine (on_up_ne (by omega)).trans ?_)
  · rfl
  first | refine on_aload_n (pc' := 106) rfl rfl rfl rfl ?_ | refine on_aload_nQ (pc' := 106) rfl rfl rfl rfl ?_
  first | apply on_get (pc' := 109) rfl rfl fl_M_55 | apply on_getN (pc' := 109) rfl rfl fl_M_55
  · repeat (first | assumption | exact on_up_eq _ _ _ | refine (on_up_ne (by omega)).trans ?_)
  · rfl
  refine on_iconst (pc' := 110) (v := 0) rfl rfl li_0 ?_
  first | refine on_aload_n (pc' := 111) rfl rfl rfl rfl ?_ | refine on_aload_nQ (pc' := 111) rfl rfl rfl rfl ?_
  first | apply on_get (pc' := 114) rfl rfl fl_M_52 | apply on_getN (pc' := 114) rfl rfl fl_M_52
  · repeat (first | assumption | exact on_up_eq _ _ _ | refine (on_up_ne (by omega)).trans ?_)
  · rfl
  refine on_callV (pc' := 117) (As := [.ref (o + 18), .int 0, .ref (o + 17)]) (rest := []) (b := o + 11) rfl rfl cw_M_mac_164 X4'.1 rfl rfl (by decide) (Nat.zero_le _) (Nat.zero_le _) (c_MSha_end X4 (by rw [List.length_append, sp_sl_len, sp_sl_len]; omega) O4.2 (by omega) ((tt4 _ (by omega)).trans ((t1 _ (by omega)).trans hd)) (by omega)) ?_
  rintro r h5 z ⟨rfl, rfl, B5, d5, t5⟩
  have O5 : mo_O o x3 h5 := O4.keep (t5 _ (by omega) (by omega)) (t5 _ (by omega) (by omega))
  have A5 : ms_W (o + 8) h5 := A1.keep (fun a h1 h2 => (t5 a (by omega) (by omega)).trans (tt4 a (by omega)))
  have k5 : h5 (o + 19) = some (on_ai 0 64 K1) := (t5 _ (by omega) (by omega)).trans ((tt4 _ (by omega)).trans k1)
  clear ho
  have ho := O5.1
  obtain ⟨f5, g5, l5, A5'⟩ := id A5
  first | refine on_aload_n (pc' := 118) rfl rfl rfl rfl ?_ | refine on_aload_nQ (pc' := 118) rfl rfl rfl rfl ?_
  first | apply on_get (pc' := 121) rfl rfl fl_M_42 | apply on_getN (pc' := 121) rfl rfl fl_M_42
  · repeat (first | assumption | exact on_up_eq _ _ _ | refine (on_up_ne (by omega)).trans ?_)
  · rfl
  refine on_callV (pc' := 124) (As := []) (rest := []) (b := o + 8) rfl rfl cw_M_mac_161 A5'.1 rfl rfl (by decide) (Nat.zero_le _) (Nat.zero_le _) (c_MSha_begin A5) ?_
  rintro r h6 z ⟨rfl, rfl, X6, t6⟩
  have O6 : mo_O o x3 h6 := O5.keep (t6 _ (by omega)) (t6 _ (by omega))
  refine on_iconst (pc' := 125) (v := 0) rfl rfl li_0 ?_
  refine on_istore (pc' := 127) rfl rfl (by decide) ?_
  refine on_relv (l := [(0, .ref o), (3, .ref q), (4, .int (nI 0))]) ⟨rfl, rfl, rfl, trivial⟩ (mm_o (h := h6) ((t6 _ (by omega)).trans k5) hK1 (fun h7 O7 X7 t7 => ?_) 64 0 h6 rfl O6 X6 on_sm.rf)
  have tt7 : on_sm (o + 8) (o + 11) h5 h7 := t6.trans t7
  clear ho
  have ho := O7.1
  first | refine on_aload_n (pc' := 155) rfl rfl rfl rfl ?_ | refine on_aload_nQ (pc' := 155) rfl rfl rfl rfl ?_
  first | refine on_aload_n (pc' := 156) rfl rfl rfl rfl ?_ | refine on_aload_nQ (pc' := 156) rfl rfl rfl rfl ?_
  first | apply on_get (pc' := 159) rfl rfl fl_M_55 | apply on_getN (pc' := 159) rfl rfl fl_M_55
  · repeat (first | assumption | exact on_up_eq _ _ _ | refine (on_up_ne (by omega)).trans ?_)
  · rfl
  refine on_bipush (pc' := 161) (v := 32) rfl rfl lb_32 ?_
  refine on_callV (pc' := 164) (As := [.ref (o + 18), .int (nI 32)]) (rest := []) (b := o) rfl rfl cw_M_mac_168 ho rfl rfl (by decide) (Nat.zero_le _) (Nat.zero_le _) (c_M_hashAll (x := sp_d (sp_sl (fun i => (if i < kl then k0 i else 0) ^^^ 54) 0 64 ++ sp_sl t 0 n)) O7 X7 ((tt7 _ (by omega)).trans d5) (by omega) (by decide) (Nat.le_refl _) (fun i hi => ⟨on_tk_lt hi, sp_d_lt _ _⟩) (by rw [sp_sl_len]; omega)) ?_
  rintro r h8 z ⟨rfl, rfl, X8, t8⟩
  have tt8 : on_sm (o + 8) (o + 11) h5 h8 := tt7.trans t8
  have O8 : mo_O o x3 h8 := O5.keep (tt8 _ (by omega)) (tt8 _ (by omega))
  clear ho
  have ho := O8.1
  obtain ⟨f8, g8, X8', -⟩ := id X8
  have q8 : h8 q = some (on_ai 0 32 R) := (tt8 _ (by omega)).trans ((t5 _ (by omega) (by omega)).trans ((tt4 _ (by omega)).trans ((t1 _ (by omega)).trans hq)))
  first | refine on_aload_n (pc' := 165) rfl rfl rfl rfl ?_ | refine on_aload_nQ (pc' := 165) rfl rfl rfl rfl ?_
  first | apply on_get (pc' := 168) rfl rfl fl_M_42 | apply on_getN (pc' := 168) rfl rfl fl_M_42
  · repeat (first | assumption | exact on_up_eq _ _ _ | refine (on_up_ne (by omega)).trans ?_)
  · rfl
  first | refine on_aload_n (pc' := 169) rfl rfl rfl rfl ?_ | refine on_aload_nQ (pc' := 169) rfl rfl rfl rfl ?_
  refine on_iconst (pc' := 170) (v := 0) rfl rfl li_0 ?_
  first | refine on_aload_n (pc' := 171) rfl rfl rfl rfl ?_ | refine on_aload_nQ (pc' := 171) rfl rfl rfl rfl ?_
  first | apply on_get (pc' := 174) rfl rfl fl_M_52 | apply on_getN (pc' := 174) rfl rfl fl_M_52
  · repeat (first | assumption | exact on_up_eq _ _ _ | refine (on_up_ne (by omega)).trans ?_)
  · rfl
  refine on_callV (pc' := 177) (As := [.ref q, .int 0, .ref (o + 17)]) (rest := []) (b := o + 8) rfl rfl cw_M_mac_164 X8'.1 rfl rfl (by decide) (Nat.zero_le _) (Nat.zero_le _) (c_MSha_end X8 (by rw [List.length_append, sp_sl_len, sp_sl_len]; decide) O8.2 (by omega) q8 (by omega)) ?_
  rintro r h9 z ⟨rfl, rfl, A9, d9, t9⟩
  refine on_vreturn rfl rfl ?_
  refine ⟨rfl, rfl, O8.keep (t9 _ (by omega) (by omega)) (t9 _ (by omega) (by omega)), A9, B5.keep (fun a h1 h2 => (t9 a (by omega) (by omega)).trans (tt8 a (by omega))), ⟨K1, (t9 _ (by omega) (by omega)).trans ((tt8 _ (by omega)).trans k5), fun i hi => ?_⟩, ⟨_, (t9 _ (by omega) (by omega)).trans ((tt8 _ (by omega)).trans d5)⟩, ⟨_, d9, fun i hi => ⟨on_tk_lt hi, sp_d_lt _ _⟩⟩, fun a h1 h2 => ?_⟩
  · have := hK1 i (by omega)
    dsimp only at this
    rw [if_pos hi] at this
    exact this
  · rw [t9 a h1 (by omega), tt8 a (by omega), t5 a (by omega) (by omega), tt4 a (by omega), t1 a (by omega)]
end MMA
