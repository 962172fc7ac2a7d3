/-- the first k of s, the rest of r -/
def on_tk {α : Type} (s r : Nat → α) (k : Nat) : Nat → α := fun j => if j < k then s j else r j
theorem on_tk_0 {α : Type} (s r : Nat → α) : on_tk s r 0 = r := by
  funext j
  exact if_neg (by omega)
theorem on_tk_s {s r : Nat → Int32} {k : Nat} : upd (on_tk s r k) k (s k) = on_tk s r (k + 1) := by
  funext j
  unfold upd on_tk
  by_cases h : j = k
  · rw [if_pos h, if_pos (by omega), h]
  · rw [if_neg h]
    by_cases h2 : j < k
    · rw [if_pos h2, if_pos (by omega)]
    · rw [if_neg h2, if_neg (by omega)]
theorem on_tk_sL {s r : Nat → Int64} {k : Nat} : vp_updL (on_tk s r k) k (s k) = on_tk s r (k + 1) := by
  funext j
  unfold vp_updL on_tk
  by_cases h : j = k
  · rw [if_pos h, if_pos (by omega), h]
  · rw [if_neg h]
    by_cases h2 : j < k
    · rw [if_pos h2, if_pos (by omega)]
    · rw [if_neg h2, if_neg (by omega)]
theorem on_tk_lt {α : Type} {s r : Nat → α} {k j : Nat} (h : j < k) : on_tk s r k j = s j := if_pos h
theorem sh_u_nat (x : Int32) {k : Nat} (hk : k < 32) : (sh_u x (nI k)).toBitVec.toNat = x.toBitVec.toNat / 2 ^ k := by
  have : ∀ n, n < 32 → (((nI n).toUInt32 &&& Int32.toUInt32 31).toBitVec % 32).toNat = n := by decide
  exact pk_ushr x (nI k) k (this k hk)
/-- a byte of a word -/
theorem e_by (x : Int32) {i : Nat} (hi : i < 2 ^ 31) : sh_u x (24 - 8 * (nI i &&& 3)) &&& 255 = nI (x.toBitVec.toNat / 2 ^ (24 - 8 * (i % 4)) % 256) := by
  rw [e_sh hi, pk_and _ 8 rfl, sh_u_nat _ (by omega)]
section SHE
variable {G : on_G} {o q sz bc bs : Nat} {h : on_H} {Q : Option Value → on_H → Nat → Prop}
theorem sh_end_l {ms : List Nat} {F g r : Nat → Int32} {len : Int32} (hB : sh_B o F g len h) (hq : h q = some (on_ai 0 32 r)) (hqo : q < o ∨ o + 3 ≤ q) (hF : ∀ i, i < 8 → F i = sp_sha ms i)
    (k : on_E G M_Sha_end 172 (on_l []) [] (on_up h q (on_ai 0 32 (on_tk (fun i => nI (sp_d ms i)) r 32))) sz bc bs Q) :
    ∀ (m i : Nat), i + m = 32 → on_E G M_Sha_end 131 (on_l [(0, .ref o), (1, .ref q), (4, .int (nI 32)), (5, .int (nI i))]) [] (on_up h q (on_ai 0 32 (on_tk (fun i => nI (sp_d ms i)) r i))) sz bc bs Q := by
  obtain ⟨b1, b2, b3⟩ := hB
  intro m
  induction m with
  | zero =>
    intro i hi
    refine on_iload (pc' := 133) rfl rfl rfl ?_
    refine on_iload (pc' := 135) rfl rfl rfl ?_
    refine on_icmp_ge (pc' := 138) (tgt := 172) rfl rfl rfl (fun cq => ?_) (fun cq => ?_)
    · rw [show i = 32 by omega]
      exact on_relv (l := []) trivial k
    · exact absurd (nI_le (by omega) (by omega)) cq
  | succ m ih =>
    intro i hi
    have e4 : sh_u (nI i) 2 = nI (i / 4) := e_ush (k := 2) (by omega) (by omega)
    have e8 : i / 4 < 8 ∧ 8 < 2 ^ 31 := by omega
    refine on_iload (pc' := 133) rfl rfl rfl ?_
    refine on_iload (pc' := 135) rfl rfl rfl ?_
    refine on_icmp_ge (pc' := 138) (tgt := 172) rfl rfl rfl (fun cq => ?_) (fun cq => ?_)
    · exact absurd cq (nI_ge (by omega) (by omega))
    · first | refine on_aload_n (pc' := 139) rfl rfl rfl rfl ?_ | refine on_aload_nQ (pc' := 139) rfl rfl rfl rfl ?_
      refine on_iload (pc' := 141) rfl rfl rfl ?_
      first | refine on_aload_n (pc' := 142) rfl rfl rfl rfl ?_ | refine on_aload_nQ (pc' := 142) rfl rfl rfl rfl ?_
      apply on_get (pc' := 145) rfl rfl fl_Sha_9
      · repeat (first | assumption | exact on_up_eq _ _ _ | refine (on_up_ne (by omega)).trans ?_)
      · rfl
      refine on_iload (pc' := 147) rfl rfl rfl ?_
      refine on_iconst (pc' := 148) (v := 2) rfl rfl li_2 ?_
      refine on_iushr (pc' := 149) rfl rfl ?_
      apply on_ialoadK (pc' := 150) (t := 0) rfl rfl
      · repeat (first | assumption | exact on_up_eq _ _ _ | refine (on_up_ne (by omega)).trans ?_)
      · rfl
      · first | assumption | exact on_lit _ | rfl
      · first | assumption | omega | decide
      refine on_bipush (pc' := 152) (v := 24) rfl rfl lb_24 ?_
      refine on_bipush (pc' := 154) (v := 8) rfl rfl lb_8 ?_
      refine on_iload (pc' := 156) rfl rfl rfl ?_
      refine on_iconst (pc' := 157) (v := 3) rfl rfl li_3 ?_
      refine on_iand (pc' := 158) rfl rfl ?_
      refine on_imul (pc' := 159) rfl rfl ?_
      refine on_isub (pc' := 160) rfl rfl ?_
      refine on_iushr (pc' := 161) rfl rfl ?_
      refine on_sipush (pc' := 164) (v := 255) rfl rfl ls_255 ?_
      refine on_iand (pc' := 165) rfl rfl ?_
      rw [e_by _ (by omega), hF _ (by omega)]
      apply on_iastoreK (pc' := 166) (t := 0) rfl rfl
      · repeat (first | assumption | exact on_up_eq _ _ _ | refine (on_up_ne (by omega)).trans ?_)
      · rfl
      · first | assumption | exact on_lit _ | rfl
      · first | assumption | omega | decide
      refine on_iinc1 (pc' := 169) rfl rfl rfl ?_
      refine on_goto (tgt := 131) rfl rfl ?_
      rw [on_up_up]
      have := on_tk_s (s := fun i => nI (sp_d ms i)) (r := r) (k := i)
      rw [show nI ((sp_sha ms (i / 4)).toBitVec.toNat / 2 ^ (24 - 8 * (i % 4)) % 256) = (fun i => nI (sp_d ms i)) i from rfl, this]
      exact on_relv (l := [(0, .ref o), (1, .ref q), (4, .int (nI 32)), (5, .int (nI (i + 1)))]) ⟨rfl, rfl, rfl, congrArg some (congrArg Value.int (nI_1 i)), trivial⟩ (ih (i + 1) (by omega))
set_option maxHeartbeats 4000000 in
/-- from the words of the length on -/
theorem sh_end_t {ms : List Nat} {f1 W r : Nat → Int32} (hn : ms.length < 2 ^ 28) (hB : sh_B o f1 W (nI ms.length) h) (hq : h q = some (on_ai 0 32 r)) (hqo : q < o ∨ o + 3 ≤ q) (hF : ∀ i, i < 8 → sp_c f1 (upd (upd W 14 (nI 0)) 15 (nI (8 * ms.length))) i = sp_sha ms i)
    (hQ : ∀ h2, sh_W o h2 → h2 q = some (on_ai 0 32 (on_tk (fun i => nI (sp_d ms i)) r 32)) → (∀ a, a ≠ q → a < o ∨ o + 3 ≤ a → h2 a = h a) → Q none h2 sz) :
    on_E G M_Sha_end 88 (on_l [(0, .ref o), (1, .ref q)]) [] h sz bc bs Q := by
  obtain ⟨b1, b2, b3⟩ := id hB
  have e29 : sh_u (nI ms.length) 29 = nI 0 := by
    rw [show (29 : Int32) = nI 29 from rfl, e_ush (by omega) (by omega), Nat.div_eq_of_lt (by omega)]
  have e3 : sh_l (nI ms.length) 3 = nI (8 * ms.length) := by
    rw [show (3 : Int32) = nI 3 from rfl, e_shl (by omega) (by omega), Nat.mul_comm]
  first | refine on_aload_n (pc' := 89) rfl rfl rfl rfl ?_ | refine on_aload_nQ (pc' := 89) rfl rfl rfl rfl ?_
  apply on_get (pc' := 92) rfl rfl fl_Sha_15
  · repeat (first | assumption | exact on_up_eq _ _ _ | refine (on_up_ne (by omega)).trans ?_)
  · rfl
  refine on_bipush (pc' := 94) (v := 14) rfl rfl lb_14 ?_
  first | refine on_aload_n (pc' := 95) rfl rfl rfl rfl ?_ | refine on_aload_nQ (pc' := 95) rfl rfl rfl rfl ?_
  apply on_get (pc' := 98) rfl rfl fl_Sha_27
  · repeat (first | assumption | exact on_up_eq _ _ _ | refine (on_up_ne (by omega)).trans ?_)
  · rfl
  refine on_bipush (pc' := 100) (v := 29) rfl rfl lb_29 ?_
  refine on_iushr (pc' := 101) rfl rfl ?_
  rw [e29]
  apply on_iastoreK (pc' := 102) (t := 0) rfl rfl
  · repeat (first | assumption | exact on_up_eq _ _ _ | refine (on_up_ne (by omega)).trans ?_)
  · rfl
  · first | assumption | exact on_lit _ | rfl
  · first | assumption | omega | decide
  first | refine on_aload_n (pc' := 103) rfl rfl rfl rfl ?_ | refine on_aload_nQ (pc' := 103) rfl rfl rfl rfl ?_
  apply on_get (pc' := 106) rfl rfl fl_Sha_15
  · repeat (first | assumption | exact on_up_eq _ _ _ | refine (on_up_ne (by omega)).trans ?_)
  · rfl
  refine on_bipush (pc' := 108) (v := 15) rfl rfl lb_15 ?_
  first | refine on_aload_n (pc' := 109) rfl rfl rfl rfl ?_ | refine on_aload_nQ (pc' := 109) rfl rfl rfl rfl ?_
  apply on_get (pc' := 112) rfl rfl fl_Sha_27
  · repeat (first | assumption | exact on_up_eq _ _ _ | refine (on_up_ne (by omega)).trans ?_)
  · rfl
  refine on_iconst (pc' := 113) (v := 3) rfl rfl li_3 ?_
  refine on_ishl (pc' := 114) rfl rfl ?_
  rw [e3]
  apply on_iastoreK (pc' := 115) (t := 0) rfl rfl
  · repeat (first | assumption | exact on_up_eq _ _ _ | refine (on_up_ne (by omega)).trans ?_)
  · rfl
  · first | assumption | exact on_lit _ | rfl
  · first | assumption | omega | decide
  first | refine on_aload_n (pc' := 116) rfl rfl rfl rfl ?_ | refine on_aload_nQ (pc' := 116) rfl rfl rfl rfl ?_
  rw [on_up_up]
  have hB2 : sh_B o f1 (upd (upd W 14 (nI 0)) 15 (nI (8 * ms.length))) (nI ms.length) (on_up h (o + 2) (on_ai 0 64 (upd (upd W 14 (nI 0)) 15 (nI (8 * ms.length))))) := by
    refine ⟨?_, ?_, ?_⟩
    · repeat (first | assumption | exact on_up_eq _ _ _ | refine (on_up_ne (by omega)).trans ?_)
    · repeat (first | assumption | exact on_up_eq _ _ _ | refine (on_up_ne (by omega)).trans ?_)
    · repeat (first | assumption | exact on_up_eq _ _ _ | refine (on_up_ne (by omega)).trans ?_)
  refine on_callV (pc' := 119) (As := []) (rest := []) (b := o) rfl rfl cw_Sha_end_40 hB2.1 rfl rfl (by decide) (Nat.zero_le _) (Nat.zero_le _) (c_Sha_mix hB2) ?_
  rintro r2 h2 z ⟨rfl, rfl, hB3, hs3⟩
  have hq2 : h2 q = some (on_ai 0 32 r) := by
    rw [hs3 q (by omega), on_up_ne (by omega)]; exact hq
  first | refine on_aload_n (pc' := 120) rfl rfl rfl rfl ?_ | refine on_aload_nQ (pc' := 120) rfl rfl rfl rfl ?_
  apply on_alenI (pc' := 121) rfl rfl
  · repeat (first | assumption | exact on_up_eq _ _ _ | refine (on_up_ne (by omega)).trans ?_)
  · rfl
  refine on_bipush (pc' := 123) (v := 32) rfl rfl lb_32 ?_
  refine on_min (pc' := 126) rfl rfl jm_Sha_31 w_min1 w_mth w_min2 (Nat.le_of_ble_eq_true rfl) (Nat.le_of_ble_eq_true rfl) ?_
  refine on_istore (pc' := 128) rfl rfl (by decide) ?_
  refine on_iconst (pc' := 129) (v := 0) rfl rfl li_0 ?_
  refine on_istore (pc' := 131) rfl rfl (by decide) ?_
  refine on_relv (l := [(0, .ref o), (1, .ref q), (4, .int (nI 32)), (5, .int (nI 0))]) ⟨rfl, rfl, rfl, rfl, trivial⟩ ?_
  have := sh_end_l (G := G) (ms := ms) (r := r) (sz := z) (bc := bc) (bs := bs) (Q := Q) hB3 hq2 hqo hF ?_ 32 0 rfl
  · rw [on_tk_0, on_up_self hq2] at this
    exact this
  · refine on_vreturn rfl rfl ?_
    refine hQ _ ⟨_, _, _, (on_up_ne (by omega)).trans hB3.1, (on_up_ne (by omega)).trans hB3.2.1, (on_up_ne (by omega)).trans hB3.2.2⟩ (on_up_eq _ _ _) (fun a h1 h3 => ?_)
    rw [on_up_ne h1, hs3 a h3, on_up_ne (by omega)]
set_option maxHeartbeats 4000000 in
/-- Sha.end: the hash of the message, as bytes -/
theorem c_Sha_end {ms : List Nat} {r : Nat → Int32} (hX : sh_X o ms h) (hn : ms.length < 2 ^ 28) (hq : h q = some (on_ai 0 32 r)) (hqo : q < o ∨ o + 3 ≤ q) :
    on_Ct G M_Sha_end [.ref o, .ref q] h sz 0 0 (fun r2 h2 z => r2 = none ∧ z = sz ∧ sh_W o h2 ∧ h2 q = some (on_ai 0 32 (on_tk (fun i => nI (sp_d ms i)) r 32)) ∧ ∀ a, a ≠ q → a < o ∨ o + 3 ≤ a → h2 a = h a) := by
  obtain ⟨f, g, hB, hI⟩ := hX
  obtain ⟨b1, b2, b3⟩ := id hB
  have hw : ms.length % 64 / 4 < 64 ∧ 64 < 2 ^ 31 := by omega
  have el : sh_l 128 (24 - 8 * (nI ms.length &&& 3)) = nI (128 * 2 ^ (24 - 8 * (ms.length % 4))) := e_lay (b := 128) (by omega) (by omega)
  refine on_Ct.of (by decide) v_Sha_end (Nat.le_of_ble_eq_true rfl) ?_
  have tail : ∀ bf : Int32, bf = (if ms.length % 4 = 0 then 0 else g (ms.length % 64 / 4)) → on_E G M_Sha_end 29 (on_l [(0, .ref o), (1, .ref q), (2, .int (nI (ms.length % 64 / 4)))]) [.int bf] h sz 0 0 (fun r2 h2 z => r2 = none ∧ z = sz ∧ sh_W o h2 ∧ h2 q = some (on_ai 0 32 (on_tk (fun i => nI (sp_d ms i)) r 32)) ∧ ∀ a, a ≠ q → a < o ∨ o + 3 ≤ a → h2 a = h a) := by
    intro bf hbf
    refine on_istore_n (pc' := 30) rfl rfl rfl (by decide) ?_
    first | refine on_aload_n (pc' := 31) rfl rfl rfl rfl ?_ | refine on_aload_nQ (pc' := 31) rfl rfl rfl rfl ?_
    apply on_get (pc' := 34) rfl rfl fl_Sha_15
    · repeat (first | assumption | exact on_up_eq _ _ _ | refine (on_up_ne (by omega)).trans ?_)
    · rfl
    refine on_iload_n (pc' := 35) rfl rfl rfl rfl ?_
    refine on_iload_n (pc' := 36) rfl rfl rfl rfl ?_
    refine on_sipush (pc' := 39) (v := 128) rfl rfl ls_128 ?_
    refine on_bipush (pc' := 41) (v := 24) rfl rfl lb_24 ?_
    refine on_bipush (pc' := 43) (v := 8) rfl rfl lb_8 ?_
    first | refine on_aload_n (pc' := 44) rfl rfl rfl rfl ?_ | refine on_aload_nQ (pc' := 44) rfl rfl rfl rfl ?_
    apply on_get (pc' := 47) rfl rfl fl_Sha_27
    · repeat (first | assumption | exact on_up_eq _ _ _ | refine (on_up_ne (by omega)).trans ?_)
    · rfl
    refine on_iconst (pc' := 48) (v := 3) rfl rfl li_3 ?_
    refine on_iand (pc' := 49) rfl rfl ?_
    refine on_imul (pc' := 50) rfl rfl ?_
    refine on_isub (pc' := 51) rfl rfl ?_
    refine on_ishl (pc' := 52) rfl rfl ?_
    refine on_ior (pc' := 53) rfl rfl ?_
    apply on_iastoreK (pc' := 54) (t := 0) rfl rfl
    · repeat (first | assumption | exact on_up_eq _ _ _ | refine (on_up_ne (by omega)).trans ?_)
    · rfl
    · first | assumption | exact on_lit _ | rfl
    · first | assumption | omega | decide
    rw [el, hbf]
    show on_E G M_Sha_end 54 _ _ (on_up h (o + 2) (on_ai 0 64 (sh_n ms g 128))) sz 0 0 _
    first | refine on_aload_n (pc' := 55) rfl rfl rfl rfl ?_ | refine on_aload_nQ (pc' := 55) rfl rfl rfl rfl ?_
    apply on_get (pc' := 58) rfl rfl fl_Sha_15
    · repeat (first | assumption | exact on_up_eq _ _ _ | refine (on_up_ne (by omega)).trans ?_)
    · rfl
    refine on_iload_n (pc' := 59) rfl rfl rfl rfl ?_
    refine on_iconst (pc' := 60) (v := 1) rfl rfl li_1 ?_
    refine on_iadd (pc' := 61) rfl rfl ?_
    refine on_bipush (pc' := 63) (v := 16) rfl rfl lb_16 ?_
    refine on_iconst (pc' := 64) (v := 0) rfl rfl li_0 ?_
    rw [nI_1]
    have hw2 : on_up h (o + 2) (on_ai 0 64 (sh_n ms g 128)) (o + 2) = some (on_ai 0 64 (sh_n ms g 128)) := on_up_eq _ _ _
    refine on_callS (pc' := 67) (As := [.ref (o + 2), .int (nI (ms.length % 64 / 4 + 1)), .int (nI 16), .int 0]) (rest := []) rfl rfl cw_Sha_end_43 rfl rfl (by decide) (Nat.zero_le _) (Nat.zero_le _) (c_fill2 (by omega) (by omega) (by omega) hw2) ?_
    rintro r2 h2 z ⟨rfl, rfl, rfl⟩
    rw [on_up_up]
    have hB2 : sh_B o f (on_fl (sh_n ms g 128) (ms.length % 64 / 4 + 1) 16 0) (nI ms.length) (on_up h (o + 2) (on_ai 0 64 (on_fl (sh_n ms g 128) (ms.length % 64 / 4 + 1) 16 0))) := by
      refine ⟨?_, ?_, ?_⟩
      · repeat (first | assumption | exact on_up_eq _ _ _ | refine (on_up_ne (by omega)).trans ?_)
      · repeat (first | assumption | exact on_up_eq _ _ _ | refine (on_up_ne (by omega)).trans ?_)
      · repeat (first | assumption | exact on_up_eq _ _ _ | refine (on_up_ne (by omega)).trans ?_)
    have hq2 : on_up h (o + 2) (on_ai 0 64 (on_fl (sh_n ms g 128) (ms.length % 64 / 4 + 1) 16 0)) q = some (on_ai 0 32 r) := (on_up_ne (by omega)).trans hq
    refine on_iload_n (pc' := 68) rfl rfl rfl rfl ?_
    refine on_bipush (pc' := 70) (v := 14) rfl rfl lb_14 ?_
    refine on_icmp_lt (pc' := 73) (tgt := 88) rfl rfl rfl (fun cq => ?_) (fun cq => ?_)
    · have hc : ms.length % 64 / 4 < 14 := by
        rcases Nat.lt_or_ge (ms.length % 64 / 4) 14 with z | z
        · exact z
        · exact absurd cq (nI_nlt (a := ms.length % 64 / 4) (b := 14) z (by omega))
      refine on_relv (l := [(0, .ref o), (1, .ref q)]) ⟨rfl, rfl, trivial⟩ (sh_end_t hn hB2 hq2 hqo (se_one hI hn hc) (fun h3 k1 k2 k3 => ⟨rfl, rfl, k1, k2, fun a ha1 ha2 => ?_⟩))
      rw [k3 a ha1 ha2, on_up_ne (by omega)]
    · have hc : ¬ ms.length % 64 / 4 < 14 := fun z => cq (nI_lt (b := 14) z (by omega))
      first | refine on_aload_n (pc' := 74) rfl rfl rfl rfl ?_ | refine on_aload_nQ (pc' := 74) rfl rfl rfl rfl ?_
      refine on_callV (pc' := 77) (As := []) (rest := []) (b := o) rfl rfl cw_Sha_end_40 hB2.1 rfl rfl (by decide) (Nat.zero_le _) (Nat.zero_le _) (c_Sha_mix hB2) ?_
      rintro r3 h3 z ⟨rfl, rfl, hB3, hs3⟩
      obtain ⟨d1, d2, d3⟩ := id hB3
      first | refine on_aload_n (pc' := 78) rfl rfl rfl rfl ?_ | refine on_aload_nQ (pc' := 78) rfl rfl rfl rfl ?_
      apply on_get (pc' := 81) rfl rfl fl_Sha_15
      · repeat (first | assumption | exact on_up_eq _ _ _ | refine (on_up_ne (by omega)).trans ?_)
      · rfl
      refine on_iconst (pc' := 82) (v := 0) rfl rfl li_0 ?_
      refine on_bipush (pc' := 84) (v := 14) rfl rfl lb_14 ?_
      refine on_iconst (pc' := 85) (v := 0) rfl rfl li_0 ?_
      refine on_callS (pc' := 88) (As := [.ref (o + 2), .int (nI 0), .int (nI 14), .int 0]) (rest := []) rfl rfl cw_Sha_end_43 rfl rfl (by decide) (Nat.zero_le _) (Nat.zero_le _) (c_fill2 (by omega) (by omega) (by omega) d3) ?_
      rintro r4 h4 z4 ⟨rfl, rfl, rfl⟩
      have hB4 : sh_B o (sp_c f (on_fl (sh_n ms g 128) (ms.length % 64 / 4 + 1) 16 0)) (on_fl (sp_w (on_fl (sh_n ms g 128) (ms.length % 64 / 4 + 1) 16 0) 48) 0 14 0) (nI ms.length) (on_up h3 (o + 2) (on_ai 0 64 (on_fl (sp_w (on_fl (sh_n ms g 128) (ms.length % 64 / 4 + 1) 16 0) 48) 0 14 0))) := by
        refine ⟨?_, ?_, ?_⟩
        · repeat (first | assumption | exact on_up_eq _ _ _ | refine (on_up_ne (by omega)).trans ?_)
        · repeat (first | assumption | exact on_up_eq _ _ _ | refine (on_up_ne (by omega)).trans ?_)
        · repeat (first | assumption | exact on_up_eq _ _ _ | refine (on_up_ne (by omega)).trans ?_)
      have hq4 : on_up h3 (o + 2) (on_ai 0 64 (on_fl (sp_w (on_fl (sh_n ms g 128) (ms.length % 64 / 4 + 1) 16 0) 48) 0 14 0)) q = some (on_ai 0 32 r) := (on_up_ne (by omega)).trans ((hs3 q (by omega)).trans hq2)
      refine on_relv (l := [(0, .ref o), (1, .ref q)]) ⟨rfl, rfl, trivial⟩ (sh_end_t hn hB4 hq4 hqo (se_two hI hn hc) (fun h5 k1 k2 k3 => ⟨rfl, rfl, k1, k2, fun a ha1 ha2 => ?_⟩))
      rw [k3 a ha1 ha2, on_up_ne (by omega), hs3 a ha2, on_up_ne (by omega)]
  first | refine on_aload_n (pc' := 1) rfl rfl rfl rfl ?_ | refine on_aload_nQ (pc' := 1) rfl rfl rfl rfl ?_
  apply on_get (pc' := 4) rfl rfl fl_Sha_27
  · repeat (first | assumption | exact on_up_eq _ _ _ | refine (on_up_ne (by omega)).trans ?_)
  · rfl
  refine on_bipush (pc' := 6) (v := 63) rfl rfl lb_63 ?_
  refine on_iand (pc' := 7) rfl rfl ?_
  refine on_iconst (pc' := 8) (v := 2) rfl rfl li_2 ?_
  refine on_iushr (pc' := 9) rfl rfl ?_
  refine on_istore_n (pc' := 10) rfl rfl rfl (by decide) ?_
  first | refine on_aload_n (pc' := 11) rfl rfl rfl rfl ?_ | refine on_aload_nQ (pc' := 11) rfl rfl rfl rfl ?_
  apply on_get (pc' := 14) rfl rfl fl_Sha_27
  · repeat (first | assumption | exact on_up_eq _ _ _ | refine (on_up_ne (by omega)).trans ?_)
  · rfl
  refine on_iconst (pc' := 15) (v := 3) rfl rfl li_3 ?_
  refine on_iand (pc' := 16) rfl rfl ?_
  rw [e_word (by omega), e_and3 (by omega)]
  refine on_if_ne (pc' := 19) (tgt := 23) rfl rfl rfl (fun cq => ?_) (fun cq => ?_)
  · have h4 : ms.length % 4 ≠ 0 := fun z => cq (by rw [z]; rfl)
    first | refine on_aload_n (pc' := 24) rfl rfl rfl rfl ?_ | refine on_aload_nQ (pc' := 24) rfl rfl rfl rfl ?_
    apply on_get (pc' := 27) rfl rfl fl_Sha_15
    · repeat (first | assumption | exact on_up_eq _ _ _ | refine (on_up_ne (by omega)).trans ?_)
    · rfl
    refine on_iload_n (pc' := 28) rfl rfl rfl rfl ?_
    apply on_ialoadK (pc' := 29) (t := 0) rfl rfl
    · repeat (first | assumption | exact on_up_eq _ _ _ | refine (on_up_ne (by omega)).trans ?_)
    · rfl
    · first | assumption | exact on_lit _ | rfl
    · first | assumption | omega | decide
    exact on_relv (l := [(0, .ref o), (1, .ref q), (2, .int (nI (ms.length % 64 / 4)))]) ⟨rfl, rfl, rfl, trivial⟩ (tail _ (by rw [if_neg h4]))
  · have h4 : ms.length % 4 = 0 := by
      rcases Nat.eq_zero_or_pos (ms.length % 4) with z | z
      · exact z
      · exact absurd cq (nI_ne0 z (by omega))
    refine on_iconst (pc' := 20) (v := 0) rfl rfl li_0 ?_
    refine on_goto (tgt := 29) rfl rfl ?_
    exact on_relv (l := [(0, .ref o), (1, .ref q), (2, .int (nI (ms.length % 64 / 4)))]) ⟨rfl, rfl, rfl, trivial⟩ (tail _ (by rw [if_pos h4]))
end SHE
