/-- the length in bits, as eight bytes -/
def sp_lb (n : Nat) : List Nat := (List.range 8).map (fun j => 8 * n / 2 ^ (56 - 8 * j) % 256)
theorem sp_m_app1 {a b : List Nat} {i : Nat} (h : i < a.length) : sp_m (a ++ b) i = sp_m a i := by
  unfold sp_m
  rw [List.getD_eq_getElem?_getD, List.getD_eq_getElem?_getD, List.getElem?_append_left h]
theorem sp_m_app2 {a b : List Nat} {i : Nat} (h : a.length ≤ i) : sp_m (a ++ b) i = sp_m b (i - a.length) := by
  unfold sp_m
  rw [List.getD_eq_getElem?_getD, List.getD_eq_getElem?_getD, List.getElem?_append_right h]
theorem sp_m_rep {n i : Nat} : sp_m (List.replicate n 0) i = 0 := by
  unfold sp_m
  rw [List.getD_eq_getElem?_getD, List.getElem?_replicate]
  split <;> rfl
theorem sp_lb_at {n j : Nat} (hj : j < 8) : sp_m (sp_lb n) j = 8 * n / 2 ^ (56 - 8 * j) % 256 := by
  unfold sp_m sp_lb
  rw [List.getD_eq_getElem?_getD, List.getElem?_map, List.getElem?_range hj]
  rfl
/-- a message with its end, as a list -/
def sp_pl (ms : List Nat) : List Nat := ms ++ [128] ++ List.replicate (64 * sp_nb ms - 9 - ms.length) 0 ++ sp_lb ms.length
theorem sp_pl_len (ms : List Nat) : (sp_pl ms).length = 64 * sp_nb ms := by
  have : ms.length + 9 ≤ 64 * sp_nb ms := by unfold sp_nb; omega
  simp [sp_pl, sp_lb]
  omega
theorem sp_pl_at (ms : List Nat) (i : Nat) (hi : i < 64 * sp_nb ms) : sp_m (sp_pl ms) i = sp_pad ms i := by
  have hn : ms.length + 9 ≤ 64 * sp_nb ms := by unfold sp_nb; omega
  have l1 : (ms ++ [128] ++ List.replicate (64 * sp_nb ms - 9 - ms.length) 0).length = 64 * sp_nb ms - 8 := by simp; omega
  have l2 : (ms ++ [128]).length = ms.length + 1 := by simp
  unfold sp_pl
  by_cases h1 : i < 64 * sp_nb ms - 8
  · rw [sp_m_app1 (by omega)]
    by_cases h2 : i < ms.length + 1
    · rw [sp_m_app1 (by omega)]
      by_cases h3 : i < ms.length
      · rw [sp_m_app1 h3, sp_pad_lt h3]
      · rw [show i = ms.length by omega, sp_m_last, sp_pad_at]
    · rw [sp_m_app2 (by omega), sp_m_rep, sp_pad_0 (by omega) h1]
  · rw [sp_m_app2 (by omega), l1, sp_lb_at (by omega), sp_pad_l (by omega)]
    congr 3
    omega
theorem sp_pl_sha (ms : List Nat) {f g : Nat → Int32} (hI : ms_I (sp_pl ms) f g) (i : Nat) (hi : i < 8) : f i = sp_sha ms i := by
  rw [hI.1 i hi, sp_pl_len, show 64 * sp_nb ms / 64 = sp_nb ms by omega]
  exact sp_hs_congr _ (fun j hj => sp_pl_at ms j hj) i hi
theorem e_lsh {B k : Nat} (hB : B < 2 ^ 62) (hk : k < 64) : sl_r (lN B) (nI k) = lN (B / 2 ^ k) := by
  unfold sl_r
  exact pf_shr (by rw [wb_c k hk, wb_tb, wb_sm k hk, BitVec.toNat_ofNat]; omega) hB
theorem e_l255 {a : Nat} (ha : a < 2 ^ 64) : lN a &&& 255 = lN (a % 256) := wb_mask (k := 8) ha (by decide)
theorem e_nI255 {a : Nat} (ha : a < 256) : nI a &&& 255 = nI a := by
  rw [show nI a &&& 255 = nI (a % 2 ^ 8) from pk_andN (by omega) 8 rfl, Nat.mod_eq_of_lt ha]
section MSK
variable {G : on_G} {o q t sz bc bs : Nat} {h : on_H} {Q : Option Value → on_H → Nat → Prop}
set_option maxHeartbeats 4000000 in
/-- the zeros -/
theorem ms_end1 {ms : List Nat} {B : Int64} (hn : ms.length < 2 ^ 28) (hq : ms_T q h) (hqo : q < o ∨ o + 3 ≤ q)
    (k : ∀ h2, ms_X o (ms ++ [128] ++ List.replicate (64 * sp_nb ms - 9 - ms.length) 0) h2 → on_sm o (o + 3) h h2 → on_E G M_MSha_end 42 (on_l [(0, .ref o), (1, .ref t), (2, .int 0), (3, .ref q), (4, .long B)]) [] h2 sz bc bs Q) :
    ∀ (m j : Nat) (h1 : on_H), j + m = 64 * sp_nb ms - 9 - ms.length → ms_X o (ms ++ [128] ++ List.replicate j 0) h1 → on_sm o (o + 3) h h1 → on_E G M_MSha_end 18 (on_l [(0, .ref o), (1, .ref t), (2, .int 0), (3, .ref q), (4, .long B)]) [] h1 sz bc bs Q := by
  have hnb : sp_nb ms = (ms.length + 8) / 64 + 1 := rfl
  have n64 : ¬ (64 : Int64) = 0 := by decide
  intro m
  induction m with
  | zero =>
    intro j h1 hj hX hs
    have hl : (ms ++ [128] ++ List.replicate j 0).length = ms.length + 1 + j := by simp; omega
    obtain ⟨f, g, ⟨b1, b2, b3⟩, hI⟩ := id hX
    rw [hl] at b1
    have e64 : l_rem (lN (ms.length + 1 + j)) 64 = lN ((ms.length + 1 + j) % 64) := pk_lRem (b := 64) (by omega) (by decide) (by decide)
    first | refine on_aload_n (pc' := 19) rfl rfl rfl rfl ?_ | refine on_aload_nQ (pc' := 19) rfl rfl rfl rfl ?_
    apply on_get (pc' := 22) rfl rfl fl_MSha_24
    · repeat (first | assumption | exact on_up_eq _ _ _ | refine (on_up_ne (by omega)).trans ?_)
    · rfl
    refine on_ldc2 (pc' := 25) rfl rfl ld_MSha_28 ?_
    refine on_lrem (pc' := 26) rfl rfl (by first | assumption | decide) ?_
    refine on_ldc2 (pc' := 29) rfl rfl ld_MSha_44 ?_
    refine on_lcmp (pc' := 30) rfl rfl ?_
    rw [e64]
    refine on_if_eq (pc' := 33) (tgt := 42) rfl rfl rfl (fun cq => ?_) (fun cq => ?_)
    · rw [show j = 64 * sp_nb ms - 9 - ms.length by omega] at hX
      exact k h1 hX hs
    · exact absurd ((lg_cmp_eq _ _).mpr (by rw [show (ms.length + 1 + j) % 64 = 56 by omega]; rfl)) cq
  | succ m ih =>
    intro j h1 hj hX hs
    have hl : (ms ++ [128] ++ List.replicate j 0).length = ms.length + 1 + j := by simp; omega
    obtain ⟨f, g, ⟨b1, b2, b3⟩, hI⟩ := id hX
    rw [hl] at b1
    have e64 : l_rem (lN (ms.length + 1 + j)) 64 = lN ((ms.length + 1 + j) % 64) := pk_lRem (b := 64) (by omega) (by decide) (by decide)
    first | refine on_aload_n (pc' := 19) rfl rfl rfl rfl ?_ | refine on_aload_nQ (pc' := 19) rfl rfl rfl rfl ?_
    apply on_get (pc' := 22) rfl rfl fl_MSha_24
    · repeat (first | assumption | exact on_up_eq _ _ _ | refine (on_up_ne (by omega)).trans ?_)
    · rfl
    refine on_ldc2 (pc' := 25) rfl rfl ld_MSha_28 ?_
    refine on_lrem (pc' := 26) rfl rfl (by first | assumption | decide) ?_
    refine on_ldc2 (pc' := 29) rfl rfl ld_MSha_44 ?_
    refine on_lcmp (pc' := 30) rfl rfl ?_
    rw [e64]
    refine on_if_eq (pc' := 33) (tgt := 42) rfl rfl rfl (fun cq => ?_) (fun cq => ?_)
    · have h56 : (ms.length + 1 + j) % 64 = 56 := (lN_eq (a := (ms.length + 1 + j) % 64) (b := 56) (by omega) (by omega)).mp ((lg_cmp_eq _ _).mp cq)
      omega
    · first | refine on_aload_n (pc' := 34) rfl rfl rfl rfl ?_ | refine on_aload_nQ (pc' := 34) rfl rfl rfl rfl ?_
      refine on_iconst (pc' := 35) (v := 0) rfl rfl li_0 ?_
      first | refine on_aload_n (pc' := 36) rfl rfl rfl rfl ?_ | refine on_aload_nQ (pc' := 36) rfl rfl rfl rfl ?_
      refine on_callV (pc' := 39) (As := [.int 0, .ref q]) (rest := []) (b := o) rfl rfl cw_MSha_end_40 b1 rfl rfl (by decide) (Nat.zero_le _) (Nat.zero_le _) (c_MSha_add (b := 0) hX (by rw [hl]; omega) (hq.keep (hs q hqo)) hqo (by decide) (by decide)) ?_
      rintro r2 h2 z ⟨rfl, rfl, hX2, hs2⟩
      refine on_goto (tgt := 18) rfl rfl ?_
      rw [List.append_assoc (ms ++ [128]), ← List.replicate_succ'] at hX2
      exact ih (j + 1) h2 (by omega) hX2 (hs.trans hs2)
/-- the place of the byte of the length that comes next -/
def ms_k (j : Nat) : Int32 := if j < 8 then nI (56 - 8 * j) else -8
theorem ms_k_s {j : Nat} (hj : j < 8) : ms_k j + Int32.ofInt (-8) = ms_k (j + 1) := by
  match j, hj with
  | 0, _ | 1, _ | 2, _ | 3, _ | 4, _ | 5, _ | 6, _ | 7, _ => decide
set_option maxHeartbeats 4000000 in
/-- the bytes of the length -/
theorem ms_end2 {ms : List Nat} (hn : ms.length < 2 ^ 28) (hq : ms_T q h) (hqo : q < o ∨ o + 3 ≤ q)
    (k : ∀ h2, ms_X o (sp_pl ms) h2 → on_sm o (o + 3) h h2 → on_E G M_MSha_end 72 (on_l [(0, .ref o), (1, .ref t), (2, .int 0)]) [] h2 sz bc bs Q) :
    ∀ (m j : Nat) (h1 : on_H), j + m = 8 → ms_X o (ms ++ [128] ++ List.replicate (64 * sp_nb ms - 9 - ms.length) 0 ++ (sp_lb ms.length).take j) h1 → on_sm o (o + 3) h h1 → on_E G M_MSha_end 46 (on_l [(0, .ref o), (1, .ref t), (2, .int 0), (3, .ref q), (4, .long (lN (8 * ms.length))), (6, .int (ms_k j))]) [] h1 sz bc bs Q := by
  have hnb : sp_nb ms = (ms.length + 8) / 64 + 1 := rfl
  have hl8 : (sp_lb ms.length).length = 8 := by simp [sp_lb]
  intro m
  induction m with
  | zero =>
    intro j h1 hj hX hs
    rw [show j = 8 by omega] at hX ⊢
    rw [List.take_of_length_le (by omega)] at hX
    refine on_iload (pc' := 48) rfl rfl rfl ?_
    refine on_if_lt (pc' := 51) (tgt := 72) rfl rfl rfl (fun cq => ?_) (fun cq => ?_)
    · exact on_relv (l := [(0, .ref o), (1, .ref t), (2, .int 0)]) ⟨rfl, rfl, rfl, trivial⟩ (k h1 hX hs)
    · exact absurd (by decide) cq
  | succ m ih =>
    intro j h1 hj hX hs
    have hl : (ms ++ [128] ++ List.replicate (64 * sp_nb ms - 9 - ms.length) 0 ++ (sp_lb ms.length).take j).length = 64 * sp_nb ms - 8 + j := by
      simp only [List.length_append, List.length_replicate, List.length_take, hl8, List.length_cons, List.length_nil]
      omega
    obtain ⟨f, g, ⟨b1, b2, b3⟩, hI⟩ := id hX
    have ek : ms_k j = nI (56 - 8 * j) := if_pos (by omega)
    refine on_iload (pc' := 48) rfl rfl rfl ?_
    refine on_if_lt (pc' := 51) (tgt := 72) rfl rfl rfl (fun cq => ?_) (fun cq => ?_)
    · rw [ek] at cq
      exact absurd cq (nI_pos (by omega))
    · first | refine on_aload_n (pc' := 52) rfl rfl rfl rfl ?_ | refine on_aload_nQ (pc' := 52) rfl rfl rfl rfl ?_
      refine on_lload (pc' := 54) rfl rfl rfl ?_
      refine on_iload (pc' := 56) rfl rfl rfl ?_
      rw [ek]
      refine on_lshr (pc' := 57) rfl rfl ?_
      rw [e_lsh (by omega) (by omega)]
      refine on_ldc2 (pc' := 60) rfl rfl ld_MSha_46 ?_
      refine on_land (pc' := 61) rfl rfl ?_
      have hd : 8 * ms.length / 2 ^ (56 - 8 * j) ≤ 8 * ms.length := Nat.div_le_self _ _
      rw [e_l255 (by omega)]
      refine on_l2i (pc' := 62) rfl rfl ?_
      rw [lN_i]
      first | refine on_aload_n (pc' := 63) rfl rfl rfl rfl ?_ | refine on_aload_nQ (pc' := 63) rfl rfl rfl rfl ?_
      have hb : 8 * ms.length / 2 ^ (56 - 8 * j) % 256 < 256 := Nat.mod_lt _ (by decide)
      refine on_callV (pc' := 66) (As := [.int (nI (8 * ms.length / 2 ^ (56 - 8 * j) % 256)), .ref q]) (rest := []) (b := o) rfl rfl cw_MSha_end_40 b1 rfl rfl (by decide) (Nat.zero_le _) (Nat.zero_le _) (c_MSha_add (b := 8 * ms.length / 2 ^ (56 - 8 * j) % 256) hX (by rw [hl]; omega) (hq.keep (hs q hqo)) hqo (e_nI255 hb) hb) ?_
      rintro r2 h2 z ⟨rfl, rfl, hX2, hs2⟩
      refine on_iinc (pc' := 69) rfl rfl rfl rfl ?_
      refine on_goto (tgt := 46) rfl rfl ?_
      rw [List.append_assoc] at hX2
      have et : (sp_lb ms.length).take j ++ [8 * ms.length / 2 ^ (56 - 8 * j) % 256] = (sp_lb ms.length).take (j + 1) := by
        rw [List.take_add_one]
        congr 1
        unfold sp_lb
        rw [List.getElem?_map, List.getElem?_range (by omega)]
        rfl
      rw [et] at hX2
      exact on_relv (l := [(0, .ref o), (1, .ref t), (2, .int 0), (3, .ref q), (4, .long (lN (8 * ms.length))), (6, .int (ms_k (j + 1)))]) ⟨rfl, rfl, rfl, rfl, rfl, congrArg some (congrArg Value.int (by rw [← ek]; exact ms_k_s (by omega))), trivial⟩ (ih (j + 1) h2 (by omega) hX2 (hs.trans hs2))
theorem ms_end_l {ms : List Nat} {F g r : Nat → Int32} {len : Int64} (hB : ms_B o F g len h) (hq : h t = some (on_ai 0 32 r)) (hto : t < o ∨ o + 3 ≤ t) (hF : ∀ i, i < 8 → F i = sp_sha ms i)
    (k : on_E G M_MSha_end 118 (on_l []) [] (on_up h t (on_ai 0 32 (on_tk (fun i => nI (sp_d ms i)) r 32))) sz bc bs Q) :
    ∀ (m i : Nat), i + m = 32 → on_E G M_MSha_end 75 (on_l [(0, .ref o), (1, .ref t), (2, .int 0), (6, .int (nI i))]) [] (on_up h t (on_ai 0 32 (on_tk (fun i => nI (sp_d ms i)) r i))) sz bc bs Q := by
  obtain ⟨b1, b2, b3⟩ := hB
  have n4 : ¬ (4 : Int32) = 0 := by decide
  intro m
  induction m with
  | zero =>
    intro i hi
    refine on_iload (pc' := 77) rfl rfl rfl ?_
    refine on_bipush (pc' := 79) (v := 32) rfl rfl lb_32 ?_
    refine on_icmp_ge (pc' := 82) (tgt := 118) rfl rfl rfl (fun cq => ?_) (fun cq => ?_)
    · rw [show i = 32 by omega]
      exact on_relv (l := []) trivial k
    · exact absurd (nI_le (a := 32) (by omega) (by omega)) cq
  | succ m ih =>
    intro i hi
    have e4 : nI i / 4 = nI (i / 4) := pk_div (d := 4) (by omega) (by decide) (by decide)
    have e8 : i / 4 < 8 ∧ 8 < 2 ^ 31 := by omega
    have er : (24 : Int32) - i_rem (nI i) 4 * 8 = nI (24 - 8 * (i % 4)) := by
      rw [show i_rem (nI i) 4 = nI (i % 4) from pk_rem (d := 4) (by omega) (by decide) (by decide), show (8 : Int32) = nI 8 from rfl, show (24 : Int32) = nI 24 from rfl, pk_mul, pk_sub (by omega), Nat.mul_comm]
    have e0 : (0 : Int32) + nI i = nI i := by rw [show (0 : Int32) = nI 0 from rfl, nI_add, Nat.zero_add]
    refine on_iload (pc' := 77) rfl rfl rfl ?_
    refine on_bipush (pc' := 79) (v := 32) rfl rfl lb_32 ?_
    refine on_icmp_ge (pc' := 82) (tgt := 118) rfl rfl rfl (fun cq => ?_) (fun cq => ?_)
    · exact absurd cq (nI_ge (b := 32) (by omega) (by omega))
    · first | refine on_aload_n (pc' := 83) rfl rfl rfl rfl ?_ | refine on_aload_nQ (pc' := 83) rfl rfl rfl rfl ?_
      refine on_iload_n (pc' := 84) rfl rfl rfl rfl ?_
      refine on_iload (pc' := 86) rfl rfl rfl ?_
      refine on_iadd (pc' := 87) rfl rfl ?_
      first | refine on_aload_n (pc' := 88) rfl rfl rfl rfl ?_ | refine on_aload_nQ (pc' := 88) rfl rfl rfl rfl ?_
      apply on_get (pc' := 91) rfl rfl fl_MSha_7
      · repeat (first | assumption | exact on_up_eq _ _ _ | refine (on_up_ne (by omega)).trans ?_)
      · rfl
      refine on_iload (pc' := 93) rfl rfl rfl ?_
      refine on_iconst (pc' := 94) (v := 4) rfl rfl li_4 ?_
      refine on_idiv (pc' := 95) rfl rfl (by first | assumption | decide) ?_
      apply on_ialoadK (pc' := 96) (t := 0) rfl rfl
      · repeat (first | assumption | exact on_up_eq _ _ _ | refine (on_up_ne (by omega)).trans ?_)
      · rfl
      · first | assumption | exact on_lit _ | rfl
      · first | assumption | omega | decide
      refine on_bipush (pc' := 98) (v := 24) rfl rfl lb_24 ?_
      refine on_iload (pc' := 100) rfl rfl rfl ?_
      refine on_iconst (pc' := 101) (v := 4) rfl rfl li_4 ?_
      refine on_irem (pc' := 102) rfl rfl (by first | assumption | decide) ?_
      refine on_bipush (pc' := 104) (v := 8) rfl rfl lb_8 ?_
      refine on_imul (pc' := 105) rfl rfl ?_
      refine on_isub (pc' := 106) rfl rfl ?_
      rw [er]
      refine on_iushr (pc' := 107) rfl rfl ?_
      refine on_sipush (pc' := 110) (v := 255) rfl rfl ls_255 ?_
      refine on_iand (pc' := 111) rfl rfl ?_
      rw [pk_and _ 8 rfl, sh_u_nat _ (by omega), hF _ (by omega)]
      apply on_iastoreK (pc' := 112) (t := 0) (k := i) rfl rfl
      · repeat (first | assumption | exact on_up_eq _ _ _ | refine (on_up_ne (by omega)).trans ?_)
      · rfl
      · exact e0
      · omega
      refine on_iinc1 (pc' := 115) rfl rfl rfl ?_
      refine on_goto (tgt := 75) rfl rfl ?_
      rw [on_up_up]
      have := on_tk_s (s := fun i => nI (sp_d ms i)) (r := r) (k := i)
      rw [show nI ((sp_sha ms (i / 4)).toBitVec.toNat / 2 ^ (24 - 8 * (i % 4)) % 2 ^ 8) = (fun i => nI (sp_d ms i)) i from rfl, this]
      exact on_relv (l := [(0, .ref o), (1, .ref t), (2, .int 0), (6, .int (nI (i + 1)))]) ⟨rfl, rfl, rfl, congrArg some (congrArg Value.int (nI_1 i)), trivial⟩ (ih (i + 1) (by omega))
set_option maxHeartbeats 4000000 in
/-- the reference's Sha.end -/
theorem c_MSha_end {ms : List Nat} {r : Nat → Int32} (hX : ms_X o ms h) (hn : ms.length < 2 ^ 28) (hq : ms_T q h) (hqo : q < o ∨ o + 3 ≤ q) (ht : h t = some (on_ai 0 32 r)) (hto : t < o ∨ o + 3 ≤ t) :
    on_Ct G M_MSha_end [.ref o, .ref t, .int 0, .ref q] h sz 0 0 (fun r2 h2 z => r2 = none ∧ z = sz ∧ ms_W o h2 ∧ h2 t = some (on_ai 0 32 (on_tk (fun i => nI (sp_d ms i)) r 32)) ∧ ∀ a, a ≠ t → a < o ∨ o + 3 ≤ a → h2 a = h a) := by
  obtain ⟨f, g, ⟨b1, b2, b3⟩, hI⟩ := id hX
  have hnb : sp_nb ms = (ms.length + 8) / 64 + 1 := rfl
  have e8 : lN ms.length * 8 = lN (8 * ms.length) := by rw [show (8 : Int64) = lN 8 from rfl, lN_mul, Nat.mul_comm]
  refine on_Ct.of (by decide) v_MSha_end (Nat.le_of_ble_eq_true rfl) ?_
  first | refine on_aload_n (pc' := 1) rfl rfl rfl rfl ?_ | refine on_aload_nQ (pc' := 1) rfl rfl rfl rfl ?_
  apply on_get (pc' := 4) rfl rfl fl_MSha_24
  · repeat (first | assumption | exact on_up_eq _ _ _ | refine (on_up_ne (by omega)).trans ?_)
  · rfl
  refine on_ldc2 (pc' := 7) rfl rfl ld_MSha_38 ?_
  refine on_lmul (pc' := 8) rfl rfl ?_
  rw [e8]
  refine on_lstore (pc' := 10) rfl rfl (by decide) ?_
  first | refine on_aload_n (pc' := 11) rfl rfl rfl rfl ?_ | refine on_aload_nQ (pc' := 11) rfl rfl rfl rfl ?_
  refine on_sipush (pc' := 14) (v := 128) rfl rfl ls_128 ?_
  first | refine on_aload_n (pc' := 15) rfl rfl rfl rfl ?_ | refine on_aload_nQ (pc' := 15) rfl rfl rfl rfl ?_
  refine on_callV (pc' := 18) (As := [.int 128, .ref q]) (rest := []) (b := o) rfl rfl cw_MSha_end_40 b1 rfl rfl (by decide) (Nat.zero_le _) (Nat.zero_le _) (c_MSha_add (b := 128) hX (by omega) hq hqo (by decide) (by decide)) ?_
  rintro r2 h2 z ⟨rfl, rfl, hX2, hs2⟩
  refine on_relv (l := [(0, .ref o), (1, .ref t), (2, .int 0), (3, .ref q), (4, .long (lN (8 * ms.length)))]) ⟨rfl, rfl, rfl, rfl, rfl, trivial⟩ ?_
  refine ms_end1 (h := h2) hn (hq.keep (hs2 q hqo)) hqo (fun h3 hX3 hs3 => ?_) (64 * sp_nb ms - 9 - ms.length) 0 h2 (by omega) (by rw [List.replicate_zero, List.append_nil]; exact hX2) on_sm.rf
  refine on_bipush (pc' := 44) (v := 56) rfl rfl lb_56 ?_
  refine on_istore (pc' := 46) rfl rfl (by decide) ?_
  refine on_relv (l := [(0, .ref o), (1, .ref t), (2, .int 0), (3, .ref q), (4, .long (lN (8 * ms.length))), (6, .int (ms_k 0))]) ⟨rfl, rfl, rfl, rfl, rfl, rfl, trivial⟩ ?_
  refine ms_end2 (h := h3) hn (hq.keep ((hs3 q hqo).trans (hs2 q hqo))) hqo (fun h4 hX4 hs4 => ?_) 8 0 h3 rfl (by rw [List.take_zero, List.append_nil]; exact hX3) on_sm.rf
  obtain ⟨F, g4, hB4, hI4⟩ := hX4
  have ht4 : h4 t = some (on_ai 0 32 r) := (hs4 t hto).trans ((hs3 t hto).trans ((hs2 t hto).trans ht))
  refine on_iconst (pc' := 73) (v := 0) rfl rfl li_0 ?_
  refine on_istore (pc' := 75) rfl rfl (by decide) ?_
  refine on_relv (l := [(0, .ref o), (1, .ref t), (2, .int 0), (6, .int (nI 0))]) ⟨rfl, rfl, rfl, rfl, trivial⟩ ?_
  have := ms_end_l (G := G) (ms := ms) (r := r) (sz := z) (bc := 0) (bs := 0) (Q := fun r2 h2 z2 => r2 = none ∧ z2 = z ∧ ms_W o h2 ∧ h2 t = some (on_ai 0 32 (on_tk (fun i => nI (sp_d ms i)) r 32)) ∧ ∀ a, a ≠ t → a < o ∨ o + 3 ≤ a → h2 a = h a) hB4 ht4 hto (sp_pl_sha ms hI4) ?_ 32 0 rfl
  · rw [on_tk_0, on_up_self ht4] at this
    exact this
  · refine on_vreturn rfl rfl ?_
    refine ⟨rfl, rfl, ⟨_, _, _, (on_up_ne (by omega)).trans hB4.1, (on_up_ne (by omega)).trans hB4.2.1, (on_up_ne (by omega)).trans hB4.2.2⟩, on_up_eq _ _ _, fun a h1 h3 => ?_⟩
    rw [on_up_ne h1, hs4 a h3, hs3 a h3, hs2 a h3]
end MSK
