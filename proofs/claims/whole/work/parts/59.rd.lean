/-- a number of n bytes, the lowest first -/
def le_v (p : Nat → Nat) : Nat → Nat
  | 0 => 0
  | n + 1 => le_v p n + p n * 2 ^ (8 * n)
theorem le_v_lt {p : Nat → Nat} : ∀ {n : Nat}, (∀ i, i < n → p i < 256) → le_v p n < 2 ^ (8 * n)
  | 0, _ => by show (0 : Nat) < 2 ^ (8 * 0); decide
  | n + 1, h => by
    have ih := le_v_lt (p := p) (n := n) (fun i hi => h i (by omega))
    have h1 := h n (by omega)
    show le_v p n + p n * 2 ^ (8 * n) < _
    rw [show 8 * (n + 1) = 8 * n + 8 by omega, Nat.pow_add]
    have h2 : p n * 2 ^ (8 * n) ≤ 255 * 2 ^ (8 * n) := Nat.mul_le_mul_right _ (by omega)
    omega
theorem le_v_mod {p : Nat → Nat} {n : Nat} : ∀ {m : Nat}, n ≤ m → (∀ i, i < m → p i < 256) → le_v p m % 2 ^ (8 * n) = le_v p n
  | 0, h, _ => by
    obtain rfl : n = 0 := by omega
    rfl
  | m + 1, h, hp => by
    rcases Nat.lt_or_ge m n with z | z
    · obtain rfl : n = m + 1 := by omega
      exact Nat.mod_eq_of_lt (le_v_lt hp)
    · have ih := le_v_mod (p := p) (n := n) z (fun i hi => hp i (by omega))
      show (le_v p m + p m * 2 ^ (8 * m)) % _ = _
      rw [wb_pw (show 8 * n ≤ 8 * m by omega), Nat.mul_left_comm, Nat.add_mul_mod_self_left]
      exact ih
theorem le_v_congr {p p2 : Nat → Nat} : ∀ {n : Nat}, (∀ i, i < n → p i = p2 i) → le_v p n = le_v p2 n
  | 0, _ => rfl
  | n + 1, h => by
    show le_v p n + p n * _ = le_v p2 n + p2 n * _
    rw [le_v_congr (fun i hi => h i (by omega)), h n (by omega)]
theorem le_v_div {p : Nat → Nat} {n s : Nat} (h : s ≤ 8 * n) : le_v p (n + 1) / 2 ^ s = le_v p n / 2 ^ s + p n * 2 ^ (8 * n - s) := by
  show (le_v p n + p n * 2 ^ (8 * n)) / _ = _
  rw [wb_pw h, Nat.mul_left_comm, Nat.add_mul_div_left _ _ (Nat.two_pow_pos s)]
theorem cv_limb (V : Nat) {s w e : Nat} (h : s + w ≤ e) : V % 2 ^ e / 2 ^ s % 2 ^ w = V / 2 ^ s % 2 ^ w := by
  rw [wb_pw (show s ≤ e by omega), Nat.mod_mul_right_div_self, wb_pw (show w ≤ e - s by omega), Nat.mod_mul_right_mod]
theorem cv_msk : ∀ w, w = 25 ∨ w = 26 → sl_l 1 (nI w) - 1 = lN (2 ^ w - 1) := by
  rintro w (rfl | rfl) <;> decide
theorem cv_lm_v {X : Nat → Int64} {V : Nat} (h : cv_lm X V) : rp X ((V % 57896044618658097711785492504343953926634992332820282019728792003956564819968 : Nat) : Int) := by
  refine ⟨fun i => ((V / 2 ^ cv_s i % 2 ^ cv_w i : Nat) : Int), fun i hi => ?_, ?_⟩
  · have hl : V / 2 ^ cv_s i % 2 ^ cv_w i < 2 ^ cv_w i := Nat.mod_lt _ (Nat.two_pow_pos _)
    have hw : 2 ^ cv_w i ≤ 67108864 := by rcases cv_w_or i with e | e <;> rw [e] <;> decide
    refine ⟨by rw [h i hi, pf_lI (by omega)], ?_⟩
    show ((V / 2 ^ cv_s i % 2 ^ cv_w i : Nat) : Int).natAbs ≤ _
    rw [Int.natAbs_natCast]
    unfold cv_R
    split
    · omega
    · rename_i hp
      have : cv_w i = 25 := by unfold cv_w; omega
      rw [this] at hl ⊢
      omega
  · have e : cv_v (fun i => ((V / 2 ^ cv_s i % 2 ^ cv_w i : Nat) : Int)) = ((V % 57896044618658097711785492504343953926634992332820282019728792003956564819968 : Nat) : Int) := by
      unfold cv_v
      simp only [cv_s, cv_w, Nat.reduceMul, Nat.reduceAdd, Nat.reduceDiv, Nat.reduceMod, Nat.reduceSub, Nat.reducePow]
      omega
    rw [e]
    exact cg.rf _
section RDP
variable {G : on_G} {o b sz bc bs : Nat} {h : on_H} {Q : Option Value → on_H → Nat → Prop} {fs : List Value} {R : Nat → Int32} {p : Nat → Nat} {n at_ : Nat}
set_option maxHeartbeats 4000000 in
theorem cu_rd_l {X0 : Nat → Int64} (hx0 : h (o + 1) = some (on_al 1 10 X0)) (ho : h o = some (.inr (1, .ref (o + 1) :: fs))) (hb : h b = some (on_ai 0 n R)) (hat : at_ + 32 ≤ n ∧ n < 2 ^ 31) (hp : ∀ i, i < 32 → R (at_ + i) = nI (p i)) (hp2 : ∀ i, i < 32 → p i < 256)
    (k : ∀ X, cv_lm X (le_v p 32) → on_E G M_Curve_readPoint 93 (on_l []) [] (on_up h (o + 1) (on_al 1 10 X)) sz bc bs Q) :
    ∀ (m i L : Nat) (X : Nat → Int64), i + m = 32 → L ≤ 10 → cv_s L ≤ 8 * i → (L < 10 → 8 * i < cv_s (L + 1)) → (∀ l, l < L → X l = lN (le_v p 32 / 2 ^ cv_s l % 2 ^ cv_w l)) → on_E G M_Curve_readPoint 11 (on_l [(0, .ref o), (1, .ref b), (2, .int (nI at_)), (3, .long (lN (le_v p i / 2 ^ cv_s L))), (5, .int (nI (8 * i - cv_s L))), (6, .int (nI L)), (7, .int (nI i))]) [] (on_up h (o + 1) (on_al 1 10 X)) sz bc bs Q := by
  intro m
  induction m with
  | zero =>
    intro i L X hi hL h1 h2 hX
    rw [show i = 32 by omega] at h1 h2 ⊢
    refine on_iload (pc' := 13) rfl rfl rfl ?_
    refine on_bipush (pc' := 15) (v := 32) rfl rfl lb_32 ?_
    refine on_icmp_ge (pc' := 18) (tgt := 93) rfl rfl rfl (fun cq => ?_) (fun cq => ?_)
    · have : L = 10 := by
        rcases Nat.lt_or_ge L 10 with z | z
        · have := h2 z
          have := cv_s_le (i := L + 1) (by omega)
          omega
        · omega
      rw [this] at hX
      exact on_relv (l := []) trivial (k X hX)
    · exact absurd (nI_le (a := 32) (by omega) (by omega)) cq
  | succ m ih =>
    intro i L X hi hL h1 h2 hX
    have hi3 : at_ + i < n ∧ n < 2 ^ 31 := by omega
    have ei : nI at_ + nI i = nI (at_ + i) := nI_add _ _
    have hob : b ≠ o := fun e => by rw [e, ho] at hb; cases hb
    have sL := cv_s_le hL
    have hw := cv_w_ge L
    have hss := cv_s_s L
    have hp8 := hp2 i (by omega)
    have hlt : le_v p i / 2 ^ cv_s L < 2 ^ (8 * i - cv_s L) := by
      rw [Nat.div_lt_iff_lt_mul (Nat.two_pow_pos _), Nat.mul_comm, ← wb_pw h1]
      exact le_v_lt (fun j hj => hp2 j (by omega))
    have hlt2 : le_v p (i + 1) / 2 ^ cv_s L < 2 ^ (8 * (i + 1) - cv_s L) := by
      rw [Nat.div_lt_iff_lt_mul (Nat.two_pow_pos _), Nat.mul_comm, ← wb_pw (by omega)]
      exact le_v_lt (fun j hj => hp2 j (by omega))
    have h34 : 8 * (i + 1) - cv_s L ≤ 34 := by
      rcases Nat.lt_or_ge L 10 with z | z
      · have := h2 z; omega
      · obtain rfl : L = 10 := by omega
        rw [show cv_s 10 = 255 from rfl] at *
        omega
    have hpw : 2 ^ (8 * (i + 1) - cv_s L) ≤ 2 ^ 34 := Nat.pow_le_pow_right (by decide) h34
    have hdv := le_v_div (p := p) h1
    have eg : lN (le_v p i / 2 ^ cv_s L) ||| sl_l (nI (p i)).toInt64 (nI (8 * i - cv_s L)) = lN (le_v p (i + 1) / 2 ^ cv_s L) := by
      rw [nI_l (by omega)]
      show _ ||| lN _ <<< ((nI _).toInt64 &&& 63) = _
      rw [wb_shl _ (by omega), lN_or hlt (by rw [← hdv]; omega), ← hdv]
    have eh : nI (8 * i - cv_s L) + Int32.ofInt 8 = nI (8 * (i + 1) - cv_s L) := by
      rw [show Int32.ofInt 8 = nI 8 from rfl, nI_add]
      congr 1
      omega
    have ew : (26 : Int32) - (nI L &&& 1) = nI (cv_w L) := e_w (by omega)
    have hx : on_up h (o + 1) (on_al 1 10 X) (o + 1) = some (on_al 1 10 X) := on_up_eq _ _ _
    have hb1 : b ≠ o + 1 := fun e => by rw [e, hx0] at hb; cases hb
    refine on_iload (pc' := 13) rfl rfl rfl ?_
    refine on_bipush (pc' := 15) (v := 32) rfl rfl lb_32 ?_
    refine on_icmp_ge (pc' := 18) (tgt := 93) rfl rfl rfl (fun cq => ?_) (fun cq => ?_)
    · exact absurd cq (nI_ge (b := 32) (by omega) (by omega))
    · refine on_lload_n (pc' := 19) rfl rfl rfl rfl ?_
      first | refine on_aload_n (pc' := 20) rfl rfl rfl rfl ?_ | refine on_aload_nQ (pc' := 20) rfl rfl rfl rfl ?_
      refine on_iload_n (pc' := 21) rfl rfl rfl rfl ?_
      refine on_iload (pc' := 23) rfl rfl rfl ?_
      refine on_iadd (pc' := 24) rfl rfl ?_
      apply on_ialoadK (pc' := 25) (t := 0) rfl rfl
      · repeat (first | assumption | exact on_up_eq _ _ _ | refine (on_up_ne (by omega)).trans ?_)
      · rfl
      · first | assumption | exact on_lit _ | rfl
      · first | assumption | omega | decide
      rw [hp i (by omega)]
      refine on_i2l (pc' := 26) rfl rfl ?_
      refine on_iload (pc' := 28) rfl rfl rfl ?_
      refine on_lshl (pc' := 29) rfl rfl ?_
      refine on_lor (pc' := 30) rfl rfl ?_
      rw [eg]
      refine on_lstore_n (pc' := 31) rfl rfl rfl (by decide) ?_
      refine on_iinc (pc' := 34) rfl rfl rfl rfl ?_
      rw [eh]
      refine on_bipush (pc' := 36) (v := 26) rfl rfl lb_26 ?_
      refine on_iload (pc' := 38) rfl rfl rfl ?_
      refine on_iconst (pc' := 39) (v := 1) rfl rfl li_1 ?_
      refine on_iand (pc' := 40) rfl rfl ?_
      refine on_isub (pc' := 41) rfl rfl ?_
      rw [ew]
      refine on_istore (pc' := 43) rfl rfl (by decide) ?_
      refine on_iload (pc' := 45) rfl rfl rfl ?_
      refine on_iload (pc' := 47) rfl rfl rfl ?_
      refine on_icmp_lt (pc' := 50) (tgt := 87) rfl rfl rfl (fun cq => ?_) (fun cq => ?_)
      · have c1 : 8 * (i + 1) - cv_s L < cv_w L := (nI_ltI (by omega) (by omega)).mp cq
        refine on_iinc1 (pc' := 90) rfl rfl rfl ?_
        refine on_goto (tgt := 11) rfl rfl ?_
        exact on_relv (l := [(0, .ref o), (1, .ref b), (2, .int (nI at_)), (3, .long (lN (le_v p (i + 1) / 2 ^ cv_s L))), (5, .int (nI (8 * (i + 1) - cv_s L))), (6, .int (nI L)), (7, .int (nI (i + 1)))]) ⟨rfl, rfl, rfl, rfl, rfl, rfl, congrArg some (congrArg Value.int (nI_1 i)), trivial⟩ (ih (i + 1) L X (by omega) hL (by omega) (fun _ => by omega) hX)
      · have c1 : ¬ 8 * (i + 1) - cv_s L < cv_w L := fun z => cq ((nI_ltI (by omega) (by omega)).mpr z)
        refine on_iload (pc' := 52) rfl rfl rfl ?_
        refine on_bipush (pc' := 54) (v := 10) rfl rfl lb_10 ?_
        refine on_icmp_ge (pc' := 57) (tgt := 87) rfl rfl rfl (fun cq => ?_) (fun cq => ?_)
        · have c10 : 10 ≤ L := (nI_leI (a := 10) (by omega) (by omega)).mp cq
          refine on_iinc1 (pc' := 90) rfl rfl rfl ?_
          refine on_goto (tgt := 11) rfl rfl ?_
          exact on_relv (l := [(0, .ref o), (1, .ref b), (2, .int (nI at_)), (3, .long (lN (le_v p (i + 1) / 2 ^ cv_s L))), (5, .int (nI (8 * (i + 1) - cv_s L))), (6, .int (nI L)), (7, .int (nI (i + 1)))]) ⟨rfl, rfl, rfl, rfl, rfl, rfl, congrArg some (congrArg Value.int (nI_1 i)), trivial⟩ (ih (i + 1) L X (by omega) hL (by omega) (fun _ => by omega) hX)
        · have c10 : ¬ 10 ≤ L := fun z => cq ((nI_leI (a := 10) (by omega) (by omega)).mpr z)
          have hL2 : L < 10 ∧ 10 < 2 ^ 31 := by omega
          have el : lN (le_v p (i + 1) / 2 ^ cv_s L) &&& (sl_l 1 (nI (cv_w L)) - 1) = lN (le_v p 32 / 2 ^ cv_s L % 2 ^ cv_w L) := by
            rw [cv_msk _ (cv_w_or L), wb_mask (by omega) (by omega), ← cv_limb (le_v p 32) (s := cv_s L) (w := cv_w L) (e := 8 * (i + 1)) (by omega), le_v_mod (by omega) hp2]
          have eu : sl_u (lN (le_v p (i + 1) / 2 ^ cv_s L)) (nI (cv_w L)) = lN (le_v p (i + 1) / 2 ^ cv_s (L + 1)) := by
            show ((lN _).toUInt64 >>> ((nI _).toInt64.toUInt64 &&& Int64.toUInt64 63)).toInt64 = _
            rw [wb_shr (by omega) (by omega), Nat.div_div_eq_div_mul, ← Nat.pow_add, cv_s_s]
          have es : nI (8 * (i + 1) - cv_s L) - nI (cv_w L) = nI (8 * (i + 1) - cv_s (L + 1)) := by
            rw [pk_sub (by omega)]
            congr 1
            omega
          first | refine on_aload_n (pc' := 58) rfl rfl rfl rfl ?_ | refine on_aload_nQ (pc' := 58) rfl rfl rfl rfl ?_
          apply on_get (pc' := 61) rfl rfl fl_Curve_11
          · repeat (first | assumption | exact on_up_eq _ _ _ | refine (on_up_ne (by omega)).trans ?_)
          · rfl
          refine on_iload (pc' := 63) rfl rfl rfl ?_
          refine on_lload_n (pc' := 64) rfl rfl rfl rfl ?_
          refine on_lconst (pc' := 65) (v := 1) rfl rfl ll_1 ?_
          refine on_iload (pc' := 67) rfl rfl rfl ?_
          refine on_lshl (pc' := 68) rfl rfl ?_
          refine on_lconst (pc' := 69) (v := 1) rfl rfl ll_1 ?_
          refine on_lsub (pc' := 70) rfl rfl ?_
          refine on_land (pc' := 71) rfl rfl ?_
          rw [el]
          apply on_lastoreK (pc' := 72) (t := 1) rfl rfl
          · repeat (first | assumption | exact on_up_eq _ _ _ | refine (on_up_ne (by omega)).trans ?_)
          · rfl
          · first | assumption | exact on_lit _ | rfl
          · first | assumption | omega | decide
          rw [on_up_up]
          refine on_lload_n (pc' := 73) rfl rfl rfl rfl ?_
          refine on_iload (pc' := 75) rfl rfl rfl ?_
          refine on_lushr (pc' := 76) rfl rfl ?_
          rw [eu]
          refine on_lstore_n (pc' := 77) rfl rfl rfl (by decide) ?_
          refine on_iload (pc' := 79) rfl rfl rfl ?_
          refine on_iload (pc' := 81) rfl rfl rfl ?_
          refine on_isub (pc' := 82) rfl rfl ?_
          rw [es]
          refine on_istore (pc' := 84) rfl rfl (by decide) ?_
          refine on_iinc1 (pc' := 87) rfl rfl rfl ?_
          refine on_iinc1 (pc' := 90) rfl rfl rfl ?_
          refine on_goto (tgt := 11) rfl rfl ?_
          refine on_relv (l := [(0, .ref o), (1, .ref b), (2, .int (nI at_)), (3, .long (lN (le_v p (i + 1) / 2 ^ cv_s (L + 1)))), (5, .int (nI (8 * (i + 1) - cv_s (L + 1)))), (6, .int (nI (L + 1))), (7, .int (nI (i + 1)))]) ⟨rfl, rfl, rfl, rfl, rfl, congrArg some (congrArg Value.int (nI_1 L)), congrArg some (congrArg Value.int (nI_1 i)), trivial⟩ (ih (i + 1) (L + 1) _ (by omega) (by omega) (by omega) (fun z => ?_) (fun l hl => ?_))
          · have := h2 hL2.1
            have := cv_s_s (L + 1)
            have := cv_w_ge (L + 1)
            omega
          · by_cases e : l = L
            · subst e
              exact pk_uLs
            · rw [pk_uLn e]
              exact hX l (by omega)
set_option maxHeartbeats 4000000 in
theorem c_Curve_readPoint {X0 : Nat → Int64} (ho : h o = some (.inr (1, .ref (o + 1) :: fs))) (hx : h (o + 1) = some (on_al 1 10 X0)) (hb : h b = some (on_ai 0 n R)) (hat : at_ + 32 ≤ n ∧ n < 2 ^ 31) (hp : ∀ i, i < 32 → R (at_ + i) = nI (p i)) (hp2 : ∀ i, i < 32 → p i < 256) :
    on_Ct G M_Curve_readPoint [.ref o, .ref b, .int (nI at_)] h sz 0 0 (fun r h1 z => r = none ∧ z = sz ∧ ∃ X, cv_lm X (le_v p 32) ∧ h1 = on_up h (o + 1) (on_al 1 10 X)) := by
  refine on_Ct.of (by decide) v_Curve_readPoint (Nat.le_of_ble_eq_true rfl) ?_
  have := cu_rd_l (G := G) (sz := sz) (bc := 0) (bs := 0) (Q := fun r h1 z => r = none ∧ z = sz ∧ ∃ X, cv_lm X (le_v p 32) ∧ h1 = on_up h (o + 1) (on_al 1 10 X)) hx ho hb hat hp hp2 ?_ 32 0 0 X0 rfl (by omega) (by decide) (fun _ => by decide) (fun l hl => absurd hl (by omega))
  · rw [on_up_self hx, show le_v p 0 = 0 from rfl, show cv_s 0 = 0 from rfl, Nat.zero_div] at this
    refine on_lconst (pc' := 1) (v := 0) rfl rfl ll_0 ?_
    refine on_lstore_n (pc' := 2) rfl rfl rfl (by decide) ?_
    refine on_iconst (pc' := 3) (v := 0) rfl rfl li_0 ?_
    refine on_istore (pc' := 5) rfl rfl (by decide) ?_
    refine on_iconst (pc' := 6) (v := 0) rfl rfl li_0 ?_
    refine on_istore (pc' := 8) rfl rfl (by decide) ?_
    refine on_iconst (pc' := 9) (v := 0) rfl rfl li_0 ?_
    refine on_istore (pc' := 11) rfl rfl (by decide) ?_
    exact on_relv (l := [(0, .ref o), (1, .ref b), (2, .int (nI at_)), (3, .long (lN 0)), (5, .int (nI 0)), (6, .int (nI 0)), (7, .int (nI 0))]) ⟨rfl, rfl, rfl, rfl, rfl, rfl, rfl, trivial⟩ this
  · intro X hX
    refine on_vreturn rfl rfl ?_
    exact ⟨rfl, rfl, X, hX, rfl⟩
end RDP
