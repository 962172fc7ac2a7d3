/-- where a limb begins -/
def cv_s (i : Nat) : Nat := (51 * i + 1) / 2
theorem cv_s_s (i : Nat) : cv_s (i + 1) = cv_s i + cv_w i := by
  unfold cv_s cv_w
  obtain ⟨k, hk⟩ : ∃ k, i = 2 * k ∨ i = 2 * k + 1 := ⟨i / 2, by omega⟩
  rcases hk with rfl | rfl <;> omega
theorem cv_s_le {i : Nat} (h : i ≤ 10) : cv_s i ≤ 255 := by unfold cv_s; omega
theorem cv_w_ge (i : Nat) : 25 ≤ cv_w i ∧ cv_w i ≤ 26 := by unfold cv_w; omega
/-- limbs that are a number's -/
def cv_lm (C : Nat → Int64) (V : Nat) : Prop := ∀ i, i < 10 → C i = lN (V / 2 ^ cv_s i % 2 ^ cv_w i)
/-- the one number below the prime -/
def cv_n (v : Int) : Nat := (v % cv_P).toNat
theorem cv_n_of {V v : Int} (h0 : 0 ≤ V) (h1 : V < cv_P) (h : cg V v) : V = (cv_n v : Nat) := by
  obtain ⟨k, hk⟩ := h
  unfold cv_n
  have e : v % cv_P = V := by
    rw [show v = V + cv_P * (-k) by rw [Int.mul_neg]; omega, Int.add_mul_emod_self_left]
    exact Int.emod_eq_of_lt h0 h1
  rw [e]
  omega
theorem cv_n_lt (v : Int) : cv_n v < 57896044618658097711785492504343953926634992332820282019728792003956564819949 := by
  have h1 : v % cv_P < cv_P := Int.emod_lt_of_pos v (by unfold cv_P; decide)
  have h0 : 0 ≤ v % cv_P := Int.emod_nonneg v (by unfold cv_P; decide)
  unfold cv_n
  unfold cv_P at *
  omega
theorem cv_n_cg {a b : Int} (h : cg a b) : cv_n a = cv_n b := by
  obtain ⟨k, rfl⟩ := h
  unfold cv_n
  rw [Int.add_mul_emod_self_left]
theorem lN_of {x : Int64} {z : Int} {n : Nat} (h : x.toInt = z) (hz : z = (n : Int)) (hn : n < 2 ^ 63) : x = lN n := Int64.toInt_inj.mp (by rw [h, hz, pf_lI hn])
theorem cv_lm_0 {V : Nat} {g : Nat → Int} (b : ∀ i, i < 10 → 0 ≤ g i ∧ g i < 2 ^ cv_w i) (h : cv_v g = (V : Int)) : ∀ i, i < 10 → g i = ((V / 2 ^ cv_s i % 2 ^ cv_w i : Nat) : Int) := by
  have h0 := b 0 (by omega)
  have h1 := b 1 (by omega)
  have h2 := b 2 (by omega)
  have h3 := b 3 (by omega)
  have h4 := b 4 (by omega)
  have h5 := b 5 (by omega)
  have h6 := b 6 (by omega)
  have h7 := b 7 (by omega)
  have h8 := b 8 (by omega)
  have h9 := b 9 (by omega)
  clear b
  simp only [cv_w, Nat.reduceMod, Nat.reduceSub] at h0 h1 h2 h3 h4 h5 h6 h7 h8 h9
  unfold cv_v at h
  intro i hi
  match i, hi with
  | 0, _ => simp only [cv_s, cv_w, Nat.reduceMul, Nat.reduceAdd, Nat.reduceDiv, Nat.reduceMod, Nat.reduceSub, Nat.reducePow]; omega
  | 1, _ => simp only [cv_s, cv_w, Nat.reduceMul, Nat.reduceAdd, Nat.reduceDiv, Nat.reduceMod, Nat.reduceSub, Nat.reducePow]; omega
  | 2, _ => simp only [cv_s, cv_w, Nat.reduceMul, Nat.reduceAdd, Nat.reduceDiv, Nat.reduceMod, Nat.reduceSub, Nat.reducePow]; omega
  | 3, _ => simp only [cv_s, cv_w, Nat.reduceMul, Nat.reduceAdd, Nat.reduceDiv, Nat.reduceMod, Nat.reduceSub, Nat.reducePow]; omega
  | 4, _ => simp only [cv_s, cv_w, Nat.reduceMul, Nat.reduceAdd, Nat.reduceDiv, Nat.reduceMod, Nat.reduceSub, Nat.reducePow]; omega
  | 5, _ => simp only [cv_s, cv_w, Nat.reduceMul, Nat.reduceAdd, Nat.reduceDiv, Nat.reduceMod, Nat.reduceSub, Nat.reducePow]; omega
  | 6, _ => simp only [cv_s, cv_w, Nat.reduceMul, Nat.reduceAdd, Nat.reduceDiv, Nat.reduceMod, Nat.reduceSub, Nat.reducePow]; omega
  | 7, _ => simp only [cv_s, cv_w, Nat.reduceMul, Nat.reduceAdd, Nat.reduceDiv, Nat.reduceMod, Nat.reduceSub, Nat.reducePow]; omega
  | 8, _ => simp only [cv_s, cv_w, Nat.reduceMul, Nat.reduceAdd, Nat.reduceDiv, Nat.reduceMod, Nat.reduceSub, Nat.reducePow]; omega
  | 9, _ => simp only [cv_s, cv_w, Nat.reduceMul, Nat.reduceAdd, Nat.reduceDiv, Nat.reduceMod, Nat.reduceSub, Nat.reducePow]; omega
theorem cv_lm_of {C : Nat → Int64} {V : Nat} {g : Nat → Int} (hC : cv_ok C g) (h : cv_v g = (V : Int)) : cv_lm C V := fun i hi => by
  have e := cv_lm_0 (fun i hi => (hC i hi).2) h i hi
  have l : V / 2 ^ cv_s i % 2 ^ cv_w i < 2 ^ 63 := Nat.lt_of_lt_of_le (Nat.mod_lt _ (Nat.two_pow_pos _)) (Nat.pow_le_pow_right (by decide) (by have := cv_w_ge i; omega))
  exact lN_of (hC i hi).1 e l
theorem lN_or {a b k : Nat} (ha : a < 2 ^ k) (hab : a + b * 2 ^ k < 2 ^ 64) : lN a ||| lN (b * 2 ^ k) = lN (a + b * 2 ^ k) := by
  rw [wb_or (by omega) (by omega)]
  congr 1
  rw [Nat.or_comm, Nat.mul_comm b, ← Nat.two_pow_add_eq_or_of_lt ha, Nat.add_comm]
theorem cv_gat (V : Nat) {s w e : Nat} (h : e ≤ s) : V % 2 ^ s / 2 ^ e + (V / 2 ^ s % 2 ^ w) * 2 ^ (s - e) = V % 2 ^ (s + w) / 2 ^ e := by
  rw [Nat.pow_add, Nat.mod_mul, wb_pw h, Nat.mul_assoc, Nat.add_mul_div_left _ _ (Nat.two_pow_pos e), Nat.mul_comm (2 ^ (s - e))]
theorem cv_gat_lt (V : Nat) {s e : Nat} (h : e ≤ s) : V % 2 ^ s / 2 ^ e < 2 ^ (s - e) := by
  rw [Nat.div_lt_iff_lt_mul (Nat.two_pow_pos e), Nat.mul_comm, ← wb_pw h]
  exact Nat.mod_lt _ (Nat.two_pow_pos s)
theorem cv_byt (V : Nat) {s e : Nat} (h : e + 8 ≤ s) : V % 2 ^ s / 2 ^ e % 256 = V / 2 ^ e % 256 := by
  rw [wb_pw (show e ≤ s by omega), Nat.mod_mul_right_div_self, show (256 : Nat) = 2 ^ 8 from rfl, wb_pw (show 8 ≤ s - e by omega), Nat.mod_mul_right_mod]
/-- a number's bytes from the lowest on, at a place of a row -/
def wr_by (R : Nat → Int32) (at_ V n : Nat) : Nat → Int32 := fun j => if at_ ≤ j ∧ j < at_ + n then nI (V / 2 ^ (8 * (j - at_)) % 256) else R j
theorem wr_by_0 (R : Nat → Int32) (at_ V : Nat) : wr_by R at_ V 0 = R := by
  funext j
  exact if_neg (by omega)
theorem wr_by_s (R : Nat → Int32) (at_ V n : Nat) : upd (wr_by R at_ V n) (at_ + n) (nI (V / 2 ^ (8 * n) % 256)) = wr_by R at_ V (n + 1) := by
  funext j
  unfold upd wr_by
  by_cases h : j = at_ + n
  · rw [if_pos h, if_pos (by omega), h, Nat.add_sub_cancel_left]
  · rw [if_neg h]
    by_cases h2 : at_ ≤ j ∧ j < at_ + n
    · rw [if_pos h2, if_pos (by omega)]
    · rw [if_neg h2, if_neg (by omega)]
section WR3
variable {G : on_G} {o a q sz bc bs : Nat} {h : on_H} {Q : Option Value → on_H → Nat → Prop} {fs : List Value} {C : Nat → Int64} {R : Nat → Int32} {V n at_ : Nat}
set_option maxHeartbeats 4000000 in
/-- a byte, once there is one -/
theorem wr_b1 {L i : Nat} (hi : i < 32) (hL : L ≤ 10) (hat : at_ + 32 ≤ n ∧ n < 2 ^ 31) (h8 : 8 * i ≤ cv_s L) (hb : 8 * i + 8 ≤ cv_s L ∨ (i = 31 ∧ V % 2 ^ cv_s L = V)) (hg : V % 2 ^ cv_s L / 2 ^ (8 * i) < 2 ^ 62)
    (k : ∀ hv : Int32, (i + 1 < 32 → hv = nI (cv_s L - 8 * (i + 1)) ∧ 8 * (i + 1) ≤ cv_s L) → on_E G M_Curve_writeReduced 87 (on_l [(1, .ref a), (2, .ref q), (3, .int (nI at_)), (6, .long (lN (V % 2 ^ cv_s L / 2 ^ (8 * (i + 1))))), (8, .int hv), (9, .int (nI L)), (10, .int (nI (i + 1)))]) [] (on_up h q (on_ai 0 n (wr_by R at_ V (i + 1)))) sz bc bs Q) :
    on_E G M_Curve_writeReduced 135 (on_l [(1, .ref a), (2, .ref q), (3, .int (nI at_)), (6, .long (lN (V % 2 ^ cv_s L / 2 ^ (8 * i)))), (8, .int (nI (cv_s L - 8 * i))), (9, .int (nI L)), (10, .int (nI i))]) [] (on_up h q (on_ai 0 n (wr_by R at_ V i))) sz bc bs Q := by
  have hk : at_ + i < n ∧ n < 2 ^ 31 := by omega
  have ei : nI at_ + nI i = nI (at_ + i) := nI_add _ _
  have eb : (lN (V % 2 ^ cv_s L / 2 ^ (8 * i))).toInt32 &&& 255 = nI (V / 2 ^ (8 * i) % 256) := by
    rw [lN_i, pk_and _ 8 (by decide)]
    show nI ((BitVec.ofNat 32 _).toNat % 2 ^ 8) = _
    rw [BitVec.toNat_ofNat, show (2 : Nat) ^ 32 = 2 ^ 8 * 2 ^ 24 from rfl, Nat.mod_mul_right_mod]
    rcases hb with hb | ⟨-, hb⟩
    · rw [show (2 : Nat) ^ 8 = 256 from rfl, cv_byt V hb]
    · rw [hb]
  have es : sl_u (lN (V % 2 ^ cv_s L / 2 ^ (8 * i))) 8 = lN (V % 2 ^ cv_s L / 2 ^ (8 * (i + 1))) := by
    show ((lN _).toUInt64 >>> ((nI 8).toInt64.toUInt64 &&& Int64.toUInt64 63)).toInt64 = _
    rw [wb_shr (by omega) (by omega), Nat.div_div_eq_div_mul, ← Nat.pow_add]
    rfl
  first | refine on_aload_n (pc' := 136) rfl rfl rfl rfl ?_ | refine on_aload_nQ (pc' := 136) rfl rfl rfl rfl ?_
  refine on_iload_n (pc' := 137) rfl rfl rfl rfl ?_
  refine on_iload (pc' := 139) rfl rfl rfl ?_
  refine on_iadd (pc' := 140) rfl rfl ?_
  refine on_lload (pc' := 142) rfl rfl rfl ?_
  refine on_l2i (pc' := 143) rfl rfl ?_
  refine on_sipush (pc' := 146) (v := 255) rfl rfl ls_255 ?_
  refine on_iand (pc' := 147) rfl rfl ?_
  rw [eb]
  apply on_iastoreK (pc' := 148) (t := 0) rfl rfl
  · repeat (first | assumption | exact on_up_eq _ _ _ | refine (on_up_ne (by omega)).trans ?_)
  · rfl
  · first | assumption | exact on_lit _ | rfl
  · first | assumption | omega | decide
  rw [on_up_up, wr_by_s]
  refine on_lload (pc' := 150) rfl rfl rfl ?_
  refine on_bipush (pc' := 152) (v := 8) rfl rfl lb_8 ?_
  refine on_lushr (pc' := 153) rfl rfl ?_
  rw [es]
  refine on_lstore (pc' := 155) rfl rfl (by decide) ?_
  refine on_iinc (pc' := 158) rfl rfl rfl rfl ?_
  refine on_iinc1 (pc' := 161) rfl rfl rfl ?_
  refine on_goto (tgt := 87) rfl rfl ?_
  refine on_relv (l := [(1, .ref a), (2, .ref q), (3, .int (nI at_)), (6, .long (lN (V % 2 ^ cv_s L / 2 ^ (8 * (i + 1))))), (8, .int (nI (cv_s L - 8 * i) + Int32.ofInt (-8))), (9, .int (nI L)), (10, .int (nI (i + 1)))]) ⟨rfl, rfl, rfl, rfl, rfl, rfl, congrArg some (congrArg Value.int (nI_1 i)), trivial⟩ (k _ (fun hi2 => ?_))
  have h9 : 8 * i + 8 ≤ cv_s L := by omega
  refine ⟨?_, by omega⟩
  rw [show cv_s L - 8 * i = (cv_s L - 8 * (i + 1)) + 8 by omega, ← nI_add, Int32.add_assoc]
  rw [show nI 8 + Int32.ofInt (-8) = 0 from by decide, Int32.add_zero]
set_option maxHeartbeats 4000000 in
theorem wr_b (hqa : q ≠ a) (hC : h a = some (on_al 1 10 C)) (hV : cv_lm C V) (hVl : V < 57896044618658097711785492504343953926634992332820282019728792003956564819968) (hat : at_ + 32 ≤ n ∧ n < 2 ^ 31)
    (k : on_E G M_Curve_writeReduced 164 (on_l []) [] (on_up h q (on_ai 0 n (wr_by R at_ V 32))) sz bc bs Q) :
    ∀ (m i L : Nat) (hv : Int32), i + m = 32 → L ≤ 10 → (i < 32 → hv = nI (cv_s L - 8 * i) ∧ 8 * i ≤ cv_s L ∧ cv_s L ≤ 8 * i + 33) → on_E G M_Curve_writeReduced 87 (on_l [(1, .ref a), (2, .ref q), (3, .int (nI at_)), (6, .long (lN (V % 2 ^ cv_s L / 2 ^ (8 * i)))), (8, .int hv), (9, .int (nI L)), (10, .int (nI i))]) [] (on_up h q (on_ai 0 n (wr_by R at_ V i))) sz bc bs Q := by
  intro m
  induction m with
  | zero =>
    intro i L hv hi hL hh
    rw [show i = 32 by omega]
    refine on_iload (pc' := 89) rfl rfl rfl ?_
    refine on_bipush (pc' := 91) (v := 32) rfl rfl lb_32 ?_
    refine on_icmp_ge (pc' := 94) (tgt := 164) rfl rfl rfl (fun cq => ?_) (fun cq => ?_)
    · exact on_relv (l := []) trivial k
    · exact absurd (nI_le (a := 32) (by omega) (by omega)) cq
  | succ m ih =>
    intro i L hv hi hL hh
    obtain ⟨rfl, h8, h33⟩ := hh (by omega)
    have sL := cv_s_le hL
    have hlt := cv_gat_lt V h8
    refine on_iload (pc' := 89) rfl rfl rfl ?_
    refine on_bipush (pc' := 91) (v := 32) rfl rfl lb_32 ?_
    refine on_icmp_ge (pc' := 94) (tgt := 164) rfl rfl rfl (fun cq => ?_) (fun cq => ?_)
    · exact absurd cq (nI_ge (b := 32) (by omega) (by omega))
    · refine on_iload (pc' := 96) rfl rfl rfl ?_
      refine on_bipush (pc' := 98) (v := 8) rfl rfl lb_8 ?_
      refine on_icmp_ge (pc' := 101) (tgt := 135) rfl rfl rfl (fun cq => ?_) (fun cq => ?_)
      · have c8 : 8 ≤ cv_s L - 8 * i := (nI_leI (a := 8) (by omega) (by omega)).mp cq
        refine wr_b1 (by omega) hL hat h8 (Or.inl (by omega)) (Nat.lt_of_lt_of_le hlt (Nat.pow_le_pow_right (by decide) (by omega))) (fun hv2 h2 => ih (i + 1) L hv2 (by omega) hL (fun w => ⟨(h2 w).1, (h2 w).2, by omega⟩))
      · have c8 : ¬ 8 ≤ cv_s L - 8 * i := fun w => cq ((nI_leI (a := 8) (by omega) (by omega)).mpr w)
        refine on_iload (pc' := 103) rfl rfl rfl ?_
        refine on_bipush (pc' := 105) (v := 10) rfl rfl lb_10 ?_
        refine on_icmp_ge (pc' := 108) (tgt := 135) rfl rfl rfl (fun cq => ?_) (fun cq => ?_)
        · have c10 : 10 ≤ L := (nI_leI (a := 10) (by omega) (by omega)).mp cq
          obtain rfl : L = 10 := by omega
          have hi31 : i = 31 := by rw [show cv_s 10 = 255 from rfl] at c8; omega
          refine wr_b1 (by omega) hL hat h8 (Or.inr ⟨hi31, Nat.mod_eq_of_lt hVl⟩) (Nat.lt_of_lt_of_le hlt (Nat.pow_le_pow_right (by decide) (by omega))) (fun hv2 h2 => ih (i + 1) 10 hv2 (by omega) hL (fun w => ⟨(h2 w).1, (h2 w).2, by omega⟩))
        · have c10 : ¬ 10 ≤ L := fun w => cq ((nI_leI (a := 10) (by omega) (by omega)).mpr w)
          have hL2 : L < 10 ∧ 10 < 2 ^ 31 := by omega
          have hw := cv_w_ge L
          have ho : on_up h q (on_ai 0 n (wr_by R at_ V i)) a = some (on_al 1 10 C) := (on_up_ne (Ne.symm hqa)).trans hC
          have hsum := cv_gat V (w := cv_w L) h8
          have hlt2 := cv_gat_lt V (s := cv_s L + cv_w L) (e := 8 * i) (by omega)
          have hp : 2 ^ (cv_s L + cv_w L - 8 * i) ≤ 2 ^ 34 := Nat.pow_le_pow_right (by decide) (by omega)
          have eg : lN (V % 2 ^ cv_s L / 2 ^ (8 * i)) ||| sl_l (C L) (nI (cv_s L - 8 * i)) = lN (V % 2 ^ cv_s (L + 1) / 2 ^ (8 * i)) := by
            rw [hV L hL2.1]
            show _ ||| lN _ <<< ((nI _).toInt64 &&& 63) = _
            rw [wb_shl _ (by omega), lN_or hlt (by rw [hsum]; omega), hsum, cv_s_s]
          have ew : (26 : Int32) - (nI L &&& 1) = nI (cv_w L) := e_w (by omega)
          refine on_lload (pc' := 110) rfl rfl rfl ?_
          first | refine on_aload_n (pc' := 111) rfl rfl rfl rfl ?_ | refine on_aload_nQ (pc' := 111) rfl rfl rfl rfl ?_
          refine on_iload (pc' := 113) rfl rfl rfl ?_
          apply on_laloadK (pc' := 114) (t := 1) rfl rfl
          · repeat (first | assumption | exact on_up_eq _ _ _ | refine (on_up_ne (by omega)).trans ?_)
          · rfl
          · first | assumption | exact on_lit _ | rfl
          · first | assumption | omega | decide
          refine on_iload (pc' := 116) rfl rfl rfl ?_
          refine on_lshl (pc' := 117) rfl rfl ?_
          refine on_lor (pc' := 118) rfl rfl ?_
          rw [eg]
          refine on_lstore (pc' := 120) rfl rfl (by decide) ?_
          refine on_iload (pc' := 122) rfl rfl rfl ?_
          refine on_bipush (pc' := 124) (v := 26) rfl rfl lb_26 ?_
          refine on_iload (pc' := 126) rfl rfl rfl ?_
          refine on_iconst (pc' := 127) (v := 1) rfl rfl li_1 ?_
          refine on_iand (pc' := 128) rfl rfl ?_
          refine on_isub (pc' := 129) rfl rfl ?_
          rw [ew]
          refine on_iadd (pc' := 130) rfl rfl ?_
          rw [nI_add, show cv_s L - 8 * i + cv_w L = cv_s (L + 1) - 8 * i by rw [cv_s_s]; omega]
          refine on_istore (pc' := 132) rfl rfl (by decide) ?_
          refine on_iinc1 (pc' := 135) rfl rfl rfl ?_
          refine on_relv (l := [(1, .ref a), (2, .ref q), (3, .int (nI at_)), (6, .long (lN (V % 2 ^ cv_s (L + 1) / 2 ^ (8 * i)))), (8, .int (nI (cv_s (L + 1) - 8 * i))), (9, .int (nI (L + 1))), (10, .int (nI i))]) ⟨rfl, rfl, rfl, rfl, rfl, congrArg some (congrArg Value.int (nI_1 L)), rfl, trivial⟩ ?_
          refine wr_b1 (by omega) (by omega) hat (by rw [cv_s_s]; omega) (Or.inl (by rw [cv_s_s]; omega)) (by rw [cv_s_s]; omega) (fun hv2 h2 => ih (i + 1) (L + 1) hv2 (by omega) (by omega) (fun w => ⟨(h2 w).1, (h2 w).2, by rw [cv_s_s]; omega⟩))
set_option maxHeartbeats 4000000 in
theorem c_Curve_writeReduced {F : Nat → Int64} {v : Int} (hao : a ≠ o) (ho : h o = some (.inr (1, fs))) (ha : h a = some (on_al 1 10 F)) (hv : rp F v) (hq : h q = some (on_ai 0 n R)) (hat : at_ + 32 ≤ n ∧ n < 2 ^ 31) :
    on_Ct G M_Curve_writeReduced [.ref o, .ref a, .ref q, .int (nI at_)] h sz 0 0 (fun r h1 z => r = none ∧ z = sz ∧ ∃ C, h1 = on_up (on_up h a (on_al 1 10 C)) q (on_ai 0 n (wr_by R at_ (cv_n v) 32))) := by
  have hqa : q ≠ a := fun e => by
    rw [e, ha] at hq
    cases hq
  refine on_Ct.of (by decide) v_Curve_writeReduced (Nat.le_of_ble_eq_true rfl) ?_
  refine on_relv (l := [(0, .ref o), (1, .ref a), (2, .ref q), (3, .int (nI at_))]) ⟨rfl, rfl, rfl, rfl, trivial⟩ ?_
  refine wr_half hao ho ha hv (fun C g k1 k2 k3 k4 => ?_)
  have eV := cv_n_of k2 k3 k4
  have hlm := cv_lm_of k1 eV
  have hVl := cv_n_lt v
  have hq2 : on_up h a (on_al 1 10 C) q = some (on_ai 0 n R) := (on_up_ne hqa).trans hq
  have := wr_b (G := G) (h := on_up h a (on_al 1 10 C)) (q := q) (a := a) (C := C) (R := R) (V := cv_n v) (n := n) (at_ := at_) (sz := sz) (bc := 0) (bs := 0) (Q := fun r h1 z => r = none ∧ z = sz ∧ ∃ C, h1 = on_up (on_up h a (on_al 1 10 C)) q (on_ai 0 n (wr_by R at_ (cv_n v) 32))) hqa (on_up_eq _ _ _) hlm (by omega) hat ?_ 32 0 0 0 rfl (by omega) (fun _ => ⟨rfl, by decide, by decide⟩)
  · rw [wr_by_0, on_up_self hq2, show cv_s 0 = 0 from rfl, Nat.pow_zero, Nat.mod_one, Nat.zero_div] at this
    refine on_lconst (pc' := 76) (v := 0) rfl rfl ll_0 ?_
    refine on_lstore (pc' := 78) rfl rfl (by decide) ?_
    refine on_iconst (pc' := 79) (v := 0) rfl rfl li_0 ?_
    refine on_istore (pc' := 81) rfl rfl (by decide) ?_
    refine on_iconst (pc' := 82) (v := 0) rfl rfl li_0 ?_
    refine on_istore (pc' := 84) rfl rfl (by decide) ?_
    refine on_iconst (pc' := 85) (v := 0) rfl rfl li_0 ?_
    refine on_istore (pc' := 87) rfl rfl (by decide) ?_
    exact on_relv (l := [(1, .ref a), (2, .ref q), (3, .int (nI at_)), (6, .long (lN 0)), (8, .int 0), (9, .int (nI 0)), (10, .int (nI 0))]) ⟨rfl, rfl, rfl, rfl, rfl, rfl, rfl, trivial⟩ this
  · refine on_vreturn rfl rfl ?_
    exact ⟨rfl, rfl, C, rfl⟩
end WR3
