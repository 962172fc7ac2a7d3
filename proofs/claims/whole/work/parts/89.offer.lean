/-! the class's Handshake: the side of the one who begins -/
/-- a Circuit's object at c + 1, its path's row at c -/
def cr_O (c cl hs : Nat) (num ph jo sc : Int32) (h : on_H) : Prop := h (c + 1) = some (.inr (9, [.ref cl, .int num, .ref c, .ref hs, .ref (c + 5), .ref (c + 6), .ref (c + 2), .ref (c + 3), .ref (c + 4), .int ph, .int jo, .int sc]))
/-- the offer: who the relay is, and X -/
def of_b (seed : Int64) (x : Nat → Nat) : Nat → Nat := fun i => if i < 36 then rs_i seed i else nb (cv_x x bs_p) (i - 36)
theorem of_lt (seed : Int64) (x : Nat → Nat) (i : Nat) : of_b seed x i < 256 := by
  unfold of_b
  split
  · exact rs_i_lt _ _
  · exact nb_lt _ _
section OFF
variable {G : on_G} {o a c cl ot sz bc bs : Nat} {h : on_H} {Q : Option Value → on_H → Nat → Prop} {kc w num ph jo sc : Int32} {x : Nat → Nat}
set_option maxHeartbeats 8000000 in
/-- offer -/
theorem c_offer {nn : Int32} {seed seedR : Int64} {draws next : Int32} (K0 : hk_W o h) (hC : cr_O c cl o num ph jo sc h) (hN : nd_S cl nn seed draws next h) (hR : rl_O a ot o kc w h) (hi : rB h (a + 5) 36 (rs_i seedR)) (hd : rW h (c + 3) 32) (hf : rW h (c + 4) 68) (hco : c + 7 ≤ o ∨ o + 29 ≤ c) (hlo : cl + 2 ≤ o ∨ o + 29 ≤ cl) (hlc : cl + 2 ≤ c ∨ c + 7 ≤ cl) (hao : a + 8 ≤ o ∨ o + 29 ≤ a) (hac : a + 8 ≤ c ∨ c + 7 ≤ a) (hal : a + 8 ≤ cl ∨ cl + 2 ≤ a) :
    on_Ct G M_Handshake_offer [.ref o, .ref (c + 1), .ref a] h sz 0 0 (fun r h1 z => r = none ∧ z = sz ∧ hk_W o h1 ∧ nd_S cl nn seed (draws + 1) next h1 ∧ rB h1 (c + 3) 32 (an_d seed draws) ∧ rB h1 (c + 4) 68 (of_b seedR (an_d seed draws)) ∧ ∀ b, b ≠ cl → b ≠ c + 3 → b ≠ c + 4 → (b < o ∨ o + 29 ≤ b) → h1 b = h b) := by
  have c0 : h (c + 1) = some (.inr (9, [.ref cl, .int num, .ref c, .ref o, .ref (c + 5), .ref (c + 6), .ref (c + 2), .ref (c + 3), .ref (c + 4), .int ph, .int jo, .int sc])) := hC
  have r0 : h a = some (.inr (8, [.ref (a + 1), .ref ot, .ref o, .ref (a + 3), .ref (a + 4), .ref (a + 5), .ref (a + 6), .ref (a + 7), .int kc, .int w])) := hR
  refine on_Ct.of (by decide) v_Handshake_offer (Nat.le_of_ble_eq_true rfl) ?_
  first | refine on_aload_n (pc' := 1) rfl rfl rfl rfl ?_ | refine on_aload_nQ (pc' := 1) rfl rfl rfl rfl ?_
  first | refine on_aload_n (pc' := 2) rfl rfl rfl rfl ?_ | refine on_aload_nQ (pc' := 2) rfl rfl rfl rfl ?_
  first | apply on_get (pc' := 5) rfl rfl fl_Handshake_129 | apply on_getN (pc' := 5) rfl rfl fl_Handshake_129
  · repeat (first | assumption | exact on_up_eq _ _ _ | refine (on_up_ne (by omega)).trans ?_)
  · rfl
  first | refine on_aload_n (pc' := 6) rfl rfl rfl rfl ?_ | refine on_aload_nQ (pc' := 6) rfl rfl rfl rfl ?_
  first | apply on_get (pc' := 9) rfl rfl fl_Handshake_134 | apply on_getN (pc' := 9) rfl rfl fl_Handshake_134
  · repeat (first | assumption | exact on_up_eq _ _ _ | refine (on_up_ne (by omega)).trans ?_)
  · rfl
  refine on_callV (pc' := 12) (As := [.ref cl, .ref (c + 3)]) (rest := []) (b := o) rfl rfl cw_Handshake_offer_121 K0.ob rfl rfl (by decide) (Nat.zero_le _) (Nat.zero_le _) (c_Handshake_draw K0 hN (by omega) hd (by omega) (by omega)) ?_
  rintro r h1 sz ⟨rfl, rfl, K1, N1, D1, t1⟩
  have r1 := (t1 a (by omega) (by omega) (by omega)).trans r0
  have c1 := (t1 (c + 1) (by omega) (by omega) (by omega)).trans c0
  obtain ⟨I1, i1, I1'⟩ := hi.keep (h2 := h1) (t1 _ (by omega) (by omega) (by omega))
  obtain ⟨F1, f1⟩ := hf.keep (h2 := h1) (t1 _ (by omega) (by omega) (by omega))
  obtain ⟨Dw, d1, D1'⟩ := D1
  clear r0 c0
  have j1 : 0 + 36 ≤ 36 ∧ 36 < 2 ^ 31 := by decide
  have j2 : 0 + 36 ≤ 68 ∧ 68 < 2 ^ 31 := by decide
  first | refine on_aload_n (pc' := 13) rfl rfl rfl rfl ?_ | refine on_aload_nQ (pc' := 13) rfl rfl rfl rfl ?_
  first | apply on_get (pc' := 16) rfl rfl fl_Handshake_96 | apply on_getN (pc' := 16) rfl rfl fl_Handshake_96
  · repeat (first | assumption | exact on_up_eq _ _ _ | refine (on_up_ne (by omega)).trans ?_)
  · rfl
  refine on_iconst (pc' := 17) (v := 0) rfl rfl li_0 ?_
  first | refine on_aload_n (pc' := 18) rfl rfl rfl rfl ?_ | refine on_aload_nQ (pc' := 18) rfl rfl rfl rfl ?_
  first | apply on_get (pc' := 21) rfl rfl fl_Handshake_135 | apply on_getN (pc' := 21) rfl rfl fl_Handshake_135
  · repeat (first | assumption | exact on_up_eq _ _ _ | refine (on_up_ne (by omega)).trans ?_)
  · rfl
  refine on_iconst (pc' := 22) (v := 0) rfl rfl li_0 ?_
  refine on_bipush (pc' := 24) (v := 36) rfl rfl lb_36 ?_
  apply on_acopy (pc' := 27) (i0 := 0) (j0 := 0) (k0 := 36) rfl rfl jm_Handshake_64 (Nat.le_of_ble_eq_true rfl) (Nat.le_of_ble_eq_true rfl)
  · repeat (first | assumption | exact on_up_eq _ _ _ | refine (on_up_ne (by omega)).trans ?_)
  · repeat (first | assumption | exact on_up_eq _ _ _ | refine (on_up_ne (by omega)).trans ?_)
  · first | assumption | exact on_lit _ | rfl
  · first | assumption | exact on_lit _ | rfl
  · first | assumption | exact on_lit _ | rfl
  · first | assumption | omega | decide
  · first | assumption | omega | decide
  have K2 := K1.keep (h2 := on_up h1 (c + 4) (on_ai 0 68 (va_cpy I1 F1 0 0 36))) (fun b h1 h2 => on_up_ne (by omega))
  have f2 : on_up h1 (c + 4) (on_ai 0 68 (va_cpy I1 F1 0 0 36)) (c + 4) = some (on_ai 0 68 (va_cpy I1 F1 0 0 36)) := on_up_eq _ _ _
  have t2 : ∀ b, b ≠ c + 4 → on_up h1 (c + 4) (on_ai 0 68 (va_cpy I1 F1 0 0 36)) b = h1 b := fun b hb => on_up_ne hb
  generalize on_up h1 (c + 4) (on_ai 0 68 (va_cpy I1 F1 0 0 36)) = h2 at *
  have c2 := (t2 (c + 1) (by omega)).trans c1
  have d2 := (t2 (c + 3) (by omega)).trans d1
  have N2 := N1.keep (h2 := h2) (t2 _ (by omega)) (t2 _ (by omega))
  clear r1 c1 d1 i1 f1
  have ho := K2.ob
  obtain ⟨B2, b2, B2'⟩ := K2.ba
  obtain ⟨cc, cv, C2, -, -⟩ := id K2.cu
  first | refine on_aload_n (pc' := 28) rfl rfl rfl rfl ?_ | refine on_aload_nQ (pc' := 28) rfl rfl rfl rfl ?_
  first | apply on_get (pc' := 31) rfl rfl fl_Handshake_24 | apply on_getN (pc' := 31) rfl rfl fl_Handshake_24
  · repeat (first | assumption | exact on_up_eq _ _ _ | refine (on_up_ne (by omega)).trans ?_)
  · rfl
  first | refine on_aload_n (pc' := 32) rfl rfl rfl rfl ?_ | refine on_aload_nQ (pc' := 32) rfl rfl rfl rfl ?_
  first | apply on_get (pc' := 35) rfl rfl fl_Handshake_134 | apply on_getN (pc' := 35) rfl rfl fl_Handshake_134
  · repeat (first | assumption | exact on_up_eq _ _ _ | refine (on_up_ne (by omega)).trans ?_)
  · rfl
  first | refine on_aload_n (pc' := 36) rfl rfl rfl rfl ?_ | refine on_aload_nQ (pc' := 36) rfl rfl rfl rfl ?_
  first | apply on_get (pc' := 39) rfl rfl fl_Handshake_28 | apply on_getN (pc' := 39) rfl rfl fl_Handshake_28
  · repeat (first | assumption | exact on_up_eq _ _ _ | refine (on_up_ne (by omega)).trans ?_)
  · rfl
  refine on_iconst (pc' := 40) (v := 0) rfl rfl li_0 ?_
  first | refine on_aload_n (pc' := 41) rfl rfl rfl rfl ?_ | refine on_aload_nQ (pc' := 41) rfl rfl rfl rfl ?_
  first | apply on_get (pc' := 44) rfl rfl fl_Handshake_135 | apply on_getN (pc' := 44) rfl rfl fl_Handshake_135
  · repeat (first | assumption | exact on_up_eq _ _ _ | refine (on_up_ne (by omega)).trans ?_)
  · rfl
  refine on_bipush (pc' := 46) (v := 36) rfl rfl lb_36 ?_
  refine on_callV (pc' := 49) (As := [.ref (c + 3), .ref (o + 19), .int (nI 0), .ref (c + 4), .int (nI 36)]) (rest := []) (b := o + 7) rfl rfl cw_Handshake_offer_99 C2.1 rfl rfl (by decide) (Nat.zero_le _) (Nat.zero_le _) (c_Curve_times (k := an_d seed draws) (p := bs_p) K2.cu d2 (by omega) (by decide) (fun i hi => (D1' i hi).1) (fun i hi => sp_d_lt _ _) b2 (by decide) (fun i hi => by rw [Nat.zero_add]; exact (B2' i hi).1) (fun i hi => bs_lt i) f2 (by decide) (by omega)) ?_
  rintro r h3 sz ⟨rfl, rfl, C3, f3, t3⟩
  refine on_vreturn rfl rfl ?_
  refine ⟨rfl, rfl, K2.cur C3 (by omega) t3, N2.keep (t3 _ (by omega) (by omega)) (t3 _ (by omega) (by omega)), ⟨Dw, (t3 _ (by omega) (by omega)).trans d2, D1'⟩, ⟨_, f3, fun i hi => ⟨?_, of_lt _ _ _⟩⟩, fun b h1 h2 h3 h4 => ?_⟩
  · unfold of_b
    by_cases e : i < 36
    · rw [if_pos e, wr_out (by omega), pk_cpy_in (Nat.zero_le _) (by omega), Nat.zero_add, Nat.sub_zero]
      exact (I1' i e).1
    · rw [if_neg e, show i = 36 + (i - 36) by omega, wr_in (by omega), show 36 + (i - 36) - 36 = i - 36 by omega]
  · rw [t3 b h3 (by omega), t2 b h3, t1 b h2 h1 h4]
/-- the client's text -/
def is_t (seed : Int64) (x y : Nat → Nat) : Nat → Nat := st_x (nb (cv_x x y)) (nb (cv_x x (rs_k seed))) (rs_m seed) (rs_k seed) (nb (cv_x x bs_p)) y
/-- whether the proof is right -/
def is_ok (seed : Int64) (x y p : Nat → Nat) : Nat → Bool
  | 0 => true
  | k + 1 => is_ok seed x y p k && decide (hm (nt_b 4) 9 (is_t seed x y) 172 k = p k)
theorem is_ok_iff (seed : Int64) (x y p : Nat → Nat) : ∀ n, is_ok seed x y p n = true ↔ ∀ k, k < n → hm (nt_b 4) 9 (is_t seed x y) 172 k = p k
  | 0 => ⟨fun _ k hk => absurd hk (by omega), fun _ => rfl⟩
  | n + 1 => by
    show (is_ok seed x y p n && decide (hm (nt_b 4) 9 (is_t seed x y) 172 n = p n)) = true ↔ _
    rw [Bool.and_eq_true, is_ok_iff seed x y p n, decide_eq_true_eq]
    constructor
    · rintro ⟨h1, h2⟩ k hk
      by_cases e : k = n
      · rw [e]; exact h2
      · exact h1 k (by omega)
    · exact fun h => ⟨fun k hk => h k (by omega), h n (by omega)⟩
set_option maxHeartbeats 4000000 in
theorem isr_l {q at_ : Nat} {P X : Nat → Int32} {d : Nat → Nat} {p : Nat → Nat} (ho : h o = some (.inr (3, hk_f o))) (hp : h (o + 24) = some (on_ai 0 32 P)) (hP : on_by P d 32) (hq : h q = some (on_ai 0 140 X)) (hat : at_ + 64 ≤ 140) (hX : ∀ j, j < 32 → X (at_ + 32 + j) = nI (p j) ∧ p j < 256)
    (ky : (∀ j, j < 32 → d j = p j) → on_E G M_Handshake_isRight 140 (on_l []) [] h sz bc bs Q) (kn : (∃ j, j < 32 ∧ ¬ d j = p j) → on_E G M_Handshake_isRight 132 (on_l []) [] h sz bc bs Q) :
    ∀ (m i : Nat), i + m = 32 → (∀ j, j < i → d j = p j) → on_E G M_Handshake_isRight 106 (on_l [(0, .ref o), (2, .ref q), (3, .int (nI at_)), (4, .int (nI i))]) [] h sz bc bs Q := by
  intro m
  induction m with
  | zero =>
    intro i hi hd
    obtain rfl : i = 32 := by omega
    refine on_iload (pc' := 108) rfl rfl rfl ?_
    refine on_bipush (pc' := 110) (v := 32) rfl rfl lb_32 ?_
    refine on_icmp_ge (pc' := 113) (tgt := 140) rfl rfl rfl (fun cq => ?_) (fun cq => ?_)
    · exact on_relv (l := []) trivial (ky hd)
    · exact absurd (nI_le (a := 32) (by omega) (by omega)) cq
  | succ m ih =>
    intro i hi hd
    have hi1 : i < 32 ∧ 32 < 2 ^ 31 := by omega
    have hi2 : at_ + 32 + i < 140 ∧ 140 < 2 ^ 31 := by omega
    have e1 : nI at_ + 32 = nI (at_ + 32) := nI_add at_ 32
    have e2 : nI (at_ + 32) + nI i = nI (at_ + 32 + i) := nI_add _ i
    have xi := hX i hi1.1
    have pi := hP i hi1.1
    refine on_iload (pc' := 108) rfl rfl rfl ?_
    refine on_bipush (pc' := 110) (v := 32) rfl rfl lb_32 ?_
    refine on_icmp_ge (pc' := 113) (tgt := 140) rfl rfl rfl (fun cq => ?_) (fun cq => ?_)
    · exact absurd cq (nI_ge (b := 32) (by omega) (by omega))
    · first | refine on_aload_n (pc' := 114) rfl rfl rfl rfl ?_ | refine on_aload_nQ (pc' := 114) rfl rfl rfl rfl ?_
      first | apply on_get (pc' := 117) rfl rfl fl_Handshake_46 | apply on_getN (pc' := 117) rfl rfl fl_Handshake_46
      · repeat (first | assumption | exact on_up_eq _ _ _ | refine (on_up_ne (by omega)).trans ?_)
      · rfl
      refine on_iload (pc' := 119) rfl rfl rfl ?_
      apply on_ialoadK (pc' := 120) (t := 0) rfl rfl
      · repeat (first | assumption | exact on_up_eq _ _ _ | refine (on_up_ne (by omega)).trans ?_)
      · rfl
      · first | assumption | exact on_lit _ | rfl
      · first | assumption | omega | decide
      rw [pi.1]
      first | refine on_aload_n (pc' := 121) rfl rfl rfl rfl ?_ | refine on_aload_nQ (pc' := 121) rfl rfl rfl rfl ?_
      refine on_iload_n (pc' := 122) rfl rfl rfl rfl ?_
      refine on_bipush (pc' := 124) (v := 32) rfl rfl lb_32 ?_
      refine on_iadd (pc' := 125) rfl rfl ?_
      rw [e1]
      refine on_iload (pc' := 127) rfl rfl rfl ?_
      refine on_iadd (pc' := 128) rfl rfl ?_
      rw [e2]
      apply on_ialoadK (pc' := 129) (t := 0) rfl rfl
      · repeat (first | assumption | exact on_up_eq _ _ _ | refine (on_up_ne (by omega)).trans ?_)
      · rfl
      · first | assumption | exact on_lit _ | rfl
      · first | assumption | omega | decide
      rw [xi.1]
      refine on_icmp_eq (pc' := 132) (tgt := 134) rfl rfl rfl (fun cq => ?_) (fun cq => ?_)
      · have e : d i = p i := (nI_eq (by omega) (by omega)).mp cq
        refine on_iinc1 (pc' := 137) rfl rfl rfl ?_
        refine on_goto (tgt := 106) rfl rfl ?_
        refine on_relv (l := [(0, .ref o), (2, .ref q), (3, .int (nI at_)), (4, .int (nI (i + 1)))]) ⟨rfl, rfl, rfl, congrArg some (congrArg Value.int (nI_1 i)), trivial⟩ (ih (i + 1) (by omega) (fun j hj => ?_))
        by_cases ee : j = i
        · rw [ee]; exact e
        · exact hd j (by omega)
      · exact on_relv (l := []) trivial (kn ⟨i, hi1.1, fun e => cq (by rw [e])⟩)
set_option maxHeartbeats 32000000 in
/-- isRight -/
theorem c_isRight {q at_ : Nat} {seedR : Int64} {X : Nat → Int32} {y p : Nat → Nat} (K0 : hk_W o h) (hC : cr_O c cl o num ph jo sc h) (hd : rB h (c + 3) 32 x) (hf : rB h (c + 4) 68 (of_b seedR x)) (hco : c + 7 ≤ o ∨ o + 29 ≤ c) (hq : h q = some (on_ai 0 140 X)) (hqo : q < o ∨ o + 29 ≤ q) (hat : at_ + 64 ≤ 140) (hy : ∀ j, j < 32 → X (at_ + j) = nI (y j) ∧ y j < 256) (hp : ∀ j, j < 32 → X (at_ + 32 + j) = nI (p j) ∧ p j < 256) :
    on_Ct G M_Handshake_isRight [.ref o, .ref (c + 1), .ref q, .int (nI at_)] h sz 0 0 (fun r h1 z => r = some (.int (if is_ok seedR x y p 32 then 1 else 0)) ∧ z = sz ∧ hk_W o h1 ∧ rB h1 (o + 21) 172 (is_t seedR x y) ∧ ∀ b, (b < o ∨ o + 29 ≤ b) → h1 b = h b) := by
  have c0 : h (c + 1) = some (.inr (9, [.ref cl, .int num, .ref c, .ref o, .ref (c + 5), .ref (c + 6), .ref (c + 2), .ref (c + 3), .ref (c + 4), .int ph, .int jo, .int sc])) := hC
  obtain ⟨Dw, d0, D0'⟩ := hd
  obtain ⟨F0, f0, F0'⟩ := hf
  obtain ⟨T, x0, hT⟩ := K0.tx
  have ho := K0.ob
  have j1 : 0 + 68 ≤ 68 ∧ 68 < 2 ^ 31 := by decide
  have j2 : 64 + 68 ≤ 172 ∧ 172 < 2 ^ 31 := by decide
  have j3 : at_ + 32 ≤ 140 ∧ 140 < 2 ^ 31 := by omega
  have j4 : 132 + 32 ≤ 172 ∧ 172 < 2 ^ 31 := by decide
  refine on_Ct.of (by decide) v_Handshake_isRight (Nat.le_of_ble_eq_true rfl) ?_
  first | refine on_aload_n (pc' := 1) rfl rfl rfl rfl ?_ | refine on_aload_nQ (pc' := 1) rfl rfl rfl rfl ?_
  first | apply on_get (pc' := 4) rfl rfl fl_Handshake_135 | apply on_getN (pc' := 4) rfl rfl fl_Handshake_135
  · repeat (first | assumption | exact on_up_eq _ _ _ | refine (on_up_ne (by omega)).trans ?_)
  · rfl
  refine on_iconst (pc' := 5) (v := 0) rfl rfl li_0 ?_
  first | refine on_aload_n (pc' := 6) rfl rfl rfl rfl ?_ | refine on_aload_nQ (pc' := 6) rfl rfl rfl rfl ?_
  first | apply on_get (pc' := 9) rfl rfl fl_Handshake_35 | apply on_getN (pc' := 9) rfl rfl fl_Handshake_35
  · repeat (first | assumption | exact on_up_eq _ _ _ | refine (on_up_ne (by omega)).trans ?_)
  · rfl
  refine on_bipush (pc' := 11) (v := 64) rfl rfl lb_64 ?_
  refine on_bipush (pc' := 13) (v := 68) rfl rfl lb_68 ?_
  apply on_acopy (pc' := 16) (i0 := 0) (j0 := 64) (k0 := 68) rfl rfl jm_Handshake_64 (Nat.le_of_ble_eq_true rfl) (Nat.le_of_ble_eq_true rfl)
  · repeat (first | assumption | exact on_up_eq _ _ _ | refine (on_up_ne (by omega)).trans ?_)
  · repeat (first | assumption | exact on_up_eq _ _ _ | refine (on_up_ne (by omega)).trans ?_)
  · first | assumption | exact on_lit _ | rfl
  · first | assumption | exact on_lit _ | rfl
  · first | assumption | exact on_lit _ | rfl
  · first | assumption | omega | decide
  · first | assumption | omega | decide
  first | refine on_aload_n (pc' := 17) rfl rfl rfl rfl ?_ | refine on_aload_nQ (pc' := 17) rfl rfl rfl rfl ?_
  refine on_iload_n (pc' := 18) rfl rfl rfl rfl ?_
  first | refine on_aload_n (pc' := 19) rfl rfl rfl rfl ?_ | refine on_aload_nQ (pc' := 19) rfl rfl rfl rfl ?_
  first | apply on_get (pc' := 22) rfl rfl fl_Handshake_35 | apply on_getN (pc' := 22) rfl rfl fl_Handshake_35
  · repeat (first | assumption | exact on_up_eq _ _ _ | refine (on_up_ne (by omega)).trans ?_)
  · rfl
  refine on_sipush (pc' := 25) (v := 132) rfl rfl ls_132 ?_
  refine on_bipush (pc' := 27) (v := 32) rfl rfl lb_32 ?_
  apply on_acopy (pc' := 30) (j0 := 132) (k0 := 32) rfl rfl jm_Handshake_64 (Nat.le_of_ble_eq_true rfl) (Nat.le_of_ble_eq_true rfl)
  · repeat (first | assumption | exact on_up_eq _ _ _ | refine (on_up_ne (by omega)).trans ?_)
  · repeat (first | assumption | exact on_up_eq _ _ _ | refine (on_up_ne (by omega)).trans ?_)
  · first | assumption | exact on_lit _ | rfl
  · first | assumption | exact on_lit _ | rfl
  · first | assumption | exact on_lit _ | rfl
  · first | assumption | omega | decide
  · first | assumption | omega | decide
  rw [on_up_up]
  have hT2 := tx_cp (R := X) (i0 := at_) (j0 := 132) (k0 := 32) (tx_cp (R := F0) (i0 := 0) (j0 := 64) (k0 := 68) hT (by decide)) (by decide)
  have K2 := K0.txu hT2
  have x2 : on_up h (o + 21) (on_ai 0 172 (va_cpy X (va_cpy F0 T 0 64 68) at_ 132 32)) (o + 21) = some (on_ai 0 172 (va_cpy X (va_cpy F0 T 0 64 68) at_ 132 32)) := on_up_eq _ _ _
  have t2 : ∀ b, b ≠ o + 21 → on_up h (o + 21) (on_ai 0 172 (va_cpy X (va_cpy F0 T 0 64 68) at_ 132 32)) b = h b := fun b hb => on_up_ne hb
  generalize on_up h (o + 21) (on_ai 0 172 (va_cpy X (va_cpy F0 T 0 64 68) at_ 132 32)) = h2 at *
  have eY : ∀ j, j < 32 → va_cpy X (va_cpy F0 T 0 64 68) at_ 132 32 (132 + j) = nI (y j) := fun j hj => by
    rw [pk_cpy_in (by omega) (by omega), show at_ + (132 + j - 132) = at_ + j by omega]
    exact (hy j hj).1
  have eO : ∀ j, j < 68 → va_cpy X (va_cpy F0 T 0 64 68) at_ 132 32 (64 + j) = nI (of_b seedR x j) := fun j hj => by
    rw [pk_cpy_out (by omega), pk_cpy_in (by omega) (by omega), show 0 + (64 + j - 64) = j by omega]
    exact (F0' j hj).1
  generalize va_cpy X (va_cpy F0 T 0 64 68) at_ 132 32 = T2 at *
  have c2 := (t2 (c + 1) (by omega)).trans c0
  have d2 := (t2 (c + 3) (by omega)).trans d0
  have q2 := (t2 q (by omega)).trans hq
  clear ho c0 d0 f0 x0 hq
  have ho := K2.ob
  first | refine on_aload_n (pc' := 31) rfl rfl rfl rfl ?_ | refine on_aload_nQ (pc' := 31) rfl rfl rfl rfl ?_
  first | apply on_get (pc' := 34) rfl rfl fl_Handshake_24 | apply on_getN (pc' := 34) rfl rfl fl_Handshake_24
  · repeat (first | assumption | exact on_up_eq _ _ _ | refine (on_up_ne (by omega)).trans ?_)
  · rfl
  first | refine on_aload_n (pc' := 35) rfl rfl rfl rfl ?_ | refine on_aload_nQ (pc' := 35) rfl rfl rfl rfl ?_
  first | apply on_get (pc' := 38) rfl rfl fl_Handshake_134 | apply on_getN (pc' := 38) rfl rfl fl_Handshake_134
  · repeat (first | assumption | exact on_up_eq _ _ _ | refine (on_up_ne (by omega)).trans ?_)
  · rfl
  first | refine on_aload_n (pc' := 39) rfl rfl rfl rfl ?_ | refine on_aload_nQ (pc' := 39) rfl rfl rfl rfl ?_
  first | apply on_get (pc' := 42) rfl rfl fl_Handshake_35 | apply on_getN (pc' := 42) rfl rfl fl_Handshake_35
  · repeat (first | assumption | exact on_up_eq _ _ _ | refine (on_up_ne (by omega)).trans ?_)
  · rfl
  refine on_sipush (pc' := 45) (v := 132) rfl rfl ls_132 ?_
  first | refine on_aload_n (pc' := 46) rfl rfl rfl rfl ?_ | refine on_aload_nQ (pc' := 46) rfl rfl rfl rfl ?_
  first | apply on_get (pc' := 49) rfl rfl fl_Handshake_35 | apply on_getN (pc' := 49) rfl rfl fl_Handshake_35
  · repeat (first | assumption | exact on_up_eq _ _ _ | refine (on_up_ne (by omega)).trans ?_)
  · rfl
  refine on_iconst (pc' := 50) (v := 0) rfl rfl li_0 ?_
  refine on_tim (pc' := 53) (k := x) (p := y) K2 d2 (by omega) (by decide) (fun i hi => (D0' i hi).1) (fun i hi => (D0' i hi).2) x2 (by decide) eY (fun j hj => (hy j hj).2) x2 hT2 (by decide) rfl rfl cw_Handshake_isRight_99 (fun h3 K3 x3 hT3 t3 => ?_)
  have c3 := (t3 (c + 1) (by omega) (by omega)).trans c2
  have d3 := (t3 (c + 3) (by omega) (by omega)).trans d2
  have q3 := (t3 q (by omega) (by omega)).trans q2
  clear ho c2 d2 q2 x2
  have ho := K3.ob
  have eK : ∀ j, j < 32 → wr_by T2 0 (cv_x x y) 32 (68 + j) = nI (rs_k seedR j) := fun j hj => by
    rw [wr_out (by omega), show 68 + j = 64 + (4 + j) by omega, eO _ (by omega)]
    unfold of_b rs_i
    rw [if_pos (by omega), if_neg (by omega), show 4 + j - 4 = j by omega]
  first | refine on_aload_n (pc' := 54) rfl rfl rfl rfl ?_ | refine on_aload_nQ (pc' := 54) rfl rfl rfl rfl ?_
  first | apply on_get (pc' := 57) rfl rfl fl_Handshake_24 | apply on_getN (pc' := 57) rfl rfl fl_Handshake_24
  · repeat (first | assumption | exact on_up_eq _ _ _ | refine (on_up_ne (by omega)).trans ?_)
  · rfl
  first | refine on_aload_n (pc' := 58) rfl rfl rfl rfl ?_ | refine on_aload_nQ (pc' := 58) rfl rfl rfl rfl ?_
  first | apply on_get (pc' := 61) rfl rfl fl_Handshake_134 | apply on_getN (pc' := 61) rfl rfl fl_Handshake_134
  · repeat (first | assumption | exact on_up_eq _ _ _ | refine (on_up_ne (by omega)).trans ?_)
  · rfl
  first | refine on_aload_n (pc' := 62) rfl rfl rfl rfl ?_ | refine on_aload_nQ (pc' := 62) rfl rfl rfl rfl ?_
  first | apply on_get (pc' := 65) rfl rfl fl_Handshake_35 | apply on_getN (pc' := 65) rfl rfl fl_Handshake_35
  · repeat (first | assumption | exact on_up_eq _ _ _ | refine (on_up_ne (by omega)).trans ?_)
  · rfl
  refine on_bipush (pc' := 67) (v := 68) rfl rfl lb_68 ?_
  first | refine on_aload_n (pc' := 68) rfl rfl rfl rfl ?_ | refine on_aload_nQ (pc' := 68) rfl rfl rfl rfl ?_
  first | apply on_get (pc' := 71) rfl rfl fl_Handshake_35 | apply on_getN (pc' := 71) rfl rfl fl_Handshake_35
  · repeat (first | assumption | exact on_up_eq _ _ _ | refine (on_up_ne (by omega)).trans ?_)
  · rfl
  refine on_bipush (pc' := 73) (v := 32) rfl rfl lb_32 ?_
  refine on_tim (pc' := 76) (k := x) (p := rs_k seedR) K3 d3 (by omega) (by decide) (fun i hi => (D0' i hi).1) (fun i hi => (D0' i hi).2) x3 (by decide) eK (fun j hj => nb_lt _ _) x3 hT3 (by decide) rfl rfl cw_Handshake_isRight_99 (fun h4 K4 x4 hT4 t4 => ?_)
  have q4 := (t4 q (by omega) (by omega)).trans q3
  have hx4 : on_by (wr_by (wr_by T2 0 (cv_x x y) 32) 32 (cv_x x (rs_k seedR)) 32) (is_t seedR x y) 172 := by
    refine st_by (fun j hj => ⟨?_, ?_, ?_, ?_, ?_⟩) (fun j hj => ?_) (fun j hj => ?_) (fun j hj => ⟨nb_lt _ _, nb_lt _ _, nb_lt _ _, nb_lt _ _, (hy j hj).2⟩) (fun j hj => sp_d_lt _ _)
    · rw [wr_out (by omega), show j = 0 + j by omega, wr_in hj, Nat.zero_add]
    · rw [wr_in hj]
    · rw [wr_out (by omega)]
      exact eK j hj
    · rw [wr_out (by omega), wr_out (by omega), show 100 + j = 64 + (36 + j) by omega, eO _ (by omega)]
      unfold of_b
      rw [if_neg (by omega), show 36 + j - 36 = j by omega]
    · rw [wr_out (by omega), wr_out (by omega)]
      exact eY j hj
    · rw [wr_out (by omega), wr_out (by omega), eO _ (by omega)]
      unfold of_b rs_i
      rw [if_pos (by omega), if_pos hj]
    · exact hT4 j hj
  generalize wr_by (wr_by T2 0 (cv_x x y) 32) 32 (cv_x x (rs_k seedR)) 32 = T4 at *
  clear ho c3 d3 q3 x3
  have ho := K4.ob
  obtain ⟨L, l4, hL⟩ := K4.la
  have h8 : (8 : Nat) < 9 ∧ 9 < 2 ^ 31 := by decide
  obtain ⟨la1, la2⟩ := la_tag (tag := 4) hL (by decide)
  first | refine on_aload_n (pc' := 77) rfl rfl rfl rfl ?_ | refine on_aload_nQ (pc' := 77) rfl rfl rfl rfl ?_
  first | apply on_get (pc' := 80) rfl rfl fl_Handshake_32 | apply on_getN (pc' := 80) rfl rfl fl_Handshake_32
  · repeat (first | assumption | exact on_up_eq _ _ _ | refine (on_up_ne (by omega)).trans ?_)
  · rfl
  refine on_bipush (pc' := 82) (v := 8) rfl rfl lb_8 ?_
  refine on_iconst (pc' := 83) (v := 4) rfl rfl li_4 ?_
  apply on_iastoreK (pc' := 84) (t := 0) rfl rfl
  · repeat (first | assumption | exact on_up_eq _ _ _ | refine (on_up_ne (by omega)).trans ?_)
  · rfl
  · first | assumption | exact on_lit _ | rfl
  · first | assumption | omega | decide
  have K6 : hk_W o (on_up h4 (o + 20) (on_ai 0 9 (upd L 8 4))) := K4.lau la2
  have e6 : on_up h4 (o + 20) (on_ai 0 9 (upd L 8 4)) (o + 20) = some (on_ai 0 9 (upd L 8 4)) := on_up_eq _ _ _
  have t6 : ∀ b, b ≠ o + 20 → on_up h4 (o + 20) (on_ai 0 9 (upd L 8 4)) b = h4 b := fun b hb => on_up_ne hb
  generalize on_up h4 (o + 20) (on_ai 0 9 (upd L 8 4)) = h6 at *
  have q6 := (t6 q (by omega)).trans q4
  have x6 := (t6 (o + 21) (by omega)).trans x4
  clear ho q4 x4
  have ho := K6.ob
  first | refine on_aload_n (pc' := 85) rfl rfl rfl rfl ?_ | refine on_aload_nQ (pc' := 85) rfl rfl rfl rfl ?_
  first | refine on_aload_n (pc' := 86) rfl rfl rfl rfl ?_ | refine on_aload_nQ (pc' := 86) rfl rfl rfl rfl ?_
  first | apply on_get (pc' := 89) rfl rfl fl_Handshake_32 | apply on_getN (pc' := 89) rfl rfl fl_Handshake_32
  · repeat (first | assumption | exact on_up_eq _ _ _ | refine (on_up_ne (by omega)).trans ?_)
  · rfl
  first | refine on_aload_n (pc' := 90) rfl rfl rfl rfl ?_ | refine on_aload_nQ (pc' := 90) rfl rfl rfl rfl ?_
  first | apply on_get (pc' := 93) rfl rfl fl_Handshake_35 | apply on_getN (pc' := 93) rfl rfl fl_Handshake_35
  · repeat (first | assumption | exact on_up_eq _ _ _ | refine (on_up_ne (by omega)).trans ?_)
  · rfl
  refine on_sipush (pc' := 96) (v := 172) rfl rfl ls_172 ?_
  first | refine on_aload_n (pc' := 97) rfl rfl rfl rfl ?_ | refine on_aload_nQ (pc' := 97) rfl rfl rfl rfl ?_
  first | apply on_get (pc' := 100) rfl rfl fl_Handshake_46 | apply on_getN (pc' := 100) rfl rfl fl_Handshake_46
  · repeat (first | assumption | exact on_up_eq _ _ _ | refine (on_up_ne (by omega)).trans ?_)
  · rfl
  refine on_callV (pc' := 103) (As := [.ref (o + 20), .ref (o + 21), .int (nI 172), .ref (o + 24)]) (rest := []) (b := o) rfl rfl cw_Handshake_isRight_125 ho rfl rfl (by decide) (Nat.zero_le _) (Nat.zero_le _) (c_hmac (k0 := nt_b 4) (t := is_t seedR x y) ho K6.sh K6.pa K6.inn ⟨_, e6, la1⟩ (by omega) (by decide) x6 (by omega) (by decide) (by decide) hx4 K6.pr (by omega)) ?_
  rintro r h7 sz ⟨rfl, rfl, s7, p7, i7, y7, u7⟩
  have K7 := K6.hm s7 p7 i7 y7.w (by omega) u7
  have q7 := (u7 q (by omega) (by omega) (by omega) (by omega)).trans q6
  have x7 := (u7 (o + 21) (by omega) (by omega) (by omega) (by omega)).trans x6
  have tt : ∀ b, (b < o ∨ o + 29 ≤ b) → h7 b = h b := fun b hb => by rw [u7 b (by omega) (by omega) (by omega) (by omega), t6 b (by omega), t4 b (by omega) (by omega), t3 b (by omega) (by omega), t2 b (by omega)]
  obtain ⟨Y7, y7, Y7'⟩ := y7
  clear ho
  have ho := K7.ob
  refine on_iconst (pc' := 104) (v := 0) rfl rfl li_0 ?_
  refine on_istore (pc' := 106) rfl rfl (by decide) ?_
  refine on_relv (l := [(0, .ref o), (2, .ref q), (3, .int (nI at_)), (4, .int (nI 0))]) ⟨rfl, rfl, rfl, rfl, trivial⟩ (isr_l (p := p) ho y7 Y7' q7 hat hp (fun hy => ?_) (fun hn => ?_) 32 0 rfl (fun j hj => absurd hj (by omega)))
  · have ok := (is_ok_iff seedR x y p 32).mpr hy
    refine on_iconst (pc' := 141) (v := 1) rfl rfl li_1 ?_
    refine on_zreturn rfl rfl ?_ ?_
    · first | rfl | assumption
    exact ⟨by rw [if_pos ok], rfl, K7, ⟨T4, x7, hx4⟩, tt⟩
  · have ok : ¬ (is_ok seedR x y p 32 = true) := fun e => by
      obtain ⟨j, hj, nj⟩ := hn
      exact nj ((is_ok_iff seedR x y p 32).mp e j hj)
    refine on_iconst (pc' := 133) (v := 0) rfl rfl li_0 ?_
    refine on_zreturn rfl rfl ?_ ?_
    · first | rfl | assumption
    exact ⟨by rw [if_neg ok], rfl, K7, ⟨T4, x7, hx4⟩, tt⟩
end OFF
