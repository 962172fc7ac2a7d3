theorem le_v_byte {p : Nat → Nat} {n j : Nat} (hj : j < n) (hp : ∀ i, i < n → p i < 256) : le_v p n / 2 ^ (8 * j) % 256 = p j := by
  have h1 := cv_limb (le_v p n) (s := 8 * j) (w := 8) (e := 8 * (j + 1)) (by omega)
  rw [le_v_mod (by omega) hp] at h1
  rw [show (256 : Nat) = 2 ^ 8 from rfl, ← h1]
  have h2 := le_v_div (p := p) (n := j) (s := 8 * j) (Nat.le_refl _)
  rw [h2, Nat.sub_self, Nat.pow_zero, Nat.mul_one, Nat.div_eq_of_lt (le_v_lt (fun i hi => hp i (by omega))), Nat.zero_add]
  exact Nat.mod_eq_of_lt (hp j hj)
theorem le_v_bit {p : Nat → Nat} {t : Nat} (ht : t < 256) (hp : ∀ i, i < 32 → p i < 256) : le_v p 32 / 2 ^ t % 2 = p (t / 8) / 2 ^ (t % 8) % 2 := by
  have h1 := le_v_byte (p := p) (n := 32) (j := t / 8) (by omega) hp
  have h2 := cv_limb (le_v p 32 / 2 ^ (8 * (t / 8))) (s := t % 8) (w := 1) (e := 8) (by omega)
  rw [show (2 : Nat) ^ 8 = 256 from rfl, h1, show (2 : Nat) ^ 1 = 2 from rfl] at h2
  rw [h2, Nat.div_div_eq_div_mul, ← Nat.pow_add, show 8 * (t / 8) + t % 8 = t by omega]
theorem nI_shr1 : ∀ s, s < 8 → ∀ a, a < 256 → sh_r (nI a) (nI s) &&& 1 = nI (a / 2 ^ s % 2) := by decide +kernel
theorem lN_or1 {v b : Nat} (hb : b < 2) (hv : v < 2 ^ 60) : sl_l (lN v) 1 ||| lN b = lN (v * 2 + b) := by
  show lN v <<< ((nI 1).toInt64 &&& 63) ||| lN b = _
  rw [wb_shl _ (by omega), wb_or (by omega) (by omega)]
  congr 1
  have := Nat.two_pow_add_eq_or_of_lt (i := 1) (b := b) (by omega) v
  rw [Nat.mul_comm v, ← this]
def fb_k (n : Nat) : Int32 := if n < 15 then nI (14 - n) else -1
theorem fb_k_s : ∀ n, n < 15 → fb_k n + Int32.ofInt (-1) = fb_k (n + 1) := by decide
theorem bit_in (y m : Nat) : y / 2 % 2 ^ m * 2 + y % 2 = y % 2 ^ (m + 1) := by
  rw [Nat.pow_succ, Nat.mul_comm (2 ^ m) 2, Nat.mod_mul]
  omega
/-- a number's limbs of fifteen bits -/
def mv_l (V k : Nat) : Nat := V / 2 ^ (15 * k) % 32768
theorem mv_of (V : Nat) : ∀ n, mv (fun k => (mv_l V k : Nat)) n = ((V % 2 ^ (15 * n) : Nat) : Int)
  | 0 => by
    show (0 : Int) = _
    rw [Nat.mul_zero, Nat.pow_zero, Nat.mod_one]
    rfl
  | n + 1 => by
    show mv (fun k => (mv_l V k : Nat)) n + ((mv_l V n : Nat) : Int) * 2 ^ (15 * n) = _
    rw [mv_of V n, show 15 * (n + 1) = 15 * n + 15 by omega, Nat.pow_add, Nat.mod_mul, show (2 : Nat) ^ 15 = 32768 from rfl]
    unfold mv_l
    rw [Int.natCast_add, Int.natCast_mul, Int.natCast_pow, Int.mul_comm]
    rfl
theorem mr_lm {X : Nat → Int64} {V : Nat} (h : ∀ k, k < 17 → X k = lN (mv_l V k)) : mr X ((V % 57896044618658097711785492504343953926634992332820282019728792003956564819968 : Nat) : Int) := by
  have hl : ∀ k, mv_l V k < 32768 := fun k => Nat.mod_lt _ (by decide)
  refine ⟨fun k => (mv_l V k : Nat), fun i hi => ?_, ⟨?_, fun i _ _ => ?_⟩, ?_⟩
  · have := hl i
    refine ⟨by rw [h i hi, pf_lI (by omega)], ?_⟩
    show ((mv_l V i : Nat) : Int).natAbs ≤ _
    omega
  · have := hl 0
    show -19 ≤ ((mv_l V 0 : Nat) : Int) ∧ ((mv_l V 0 : Nat) : Int) ≤ 32786
    omega
  · have := hl i
    show 0 ≤ ((mv_l V i : Nat) : Int) ∧ ((mv_l V i : Nat) : Int) ≤ 32767
    omega
  · rw [mv_of V 17]
    exact cg.rf _
section MFB
variable {G : on_G} {f b sz bc bs n : Nat} {h : on_H} {Q : Option Value → on_H → Nat → Prop} {R : Nat → Int32} {p : Nat → Nat}
set_option maxHeartbeats 4000000 in
theorem fb_in {k : Nat} (hk : k < 17) (hb : h b = some (on_ai 0 n R)) (hn : 32 ≤ n ∧ n < 2 ^ 31) (hp : ∀ i, i < 32 → R i = nI (p i)) (hp2 : ∀ i, i < 32 → p i < 256)
    (kk : on_E G M_M_fromBytes 55 (on_l [(0, .ref f), (1, .ref b), (2, .int (nI k)), (3, .long (lN (mv_l (le_v p 32) k)))]) [] h sz bc bs Q) :
    ∀ (m i : Nat), i + m = 15 → on_E G M_M_fromBytes 14 (on_l [(0, .ref f), (1, .ref b), (2, .int (nI k)), (3, .long (lN (le_v p 32 / 2 ^ (15 * k + (15 - i)) % 2 ^ i))), (5, .int (fb_k i))]) [] h sz bc bs Q := by
  have n8 : ¬ (8 : Int32) = 0 := by decide
  intro m
  induction m with
  | zero =>
    intro i hi
    obtain rfl : i = 15 := by omega
    refine on_iload (pc' := 16) rfl rfl rfl ?_
    refine on_if_lt (pc' := 19) (tgt := 55) rfl rfl rfl (fun cq => ?_) (fun cq => ?_)
    · exact on_relv (l := [(0, .ref f), (1, .ref b), (2, .int (nI k)), (3, .long (lN (mv_l (le_v p 32) k)))]) ⟨rfl, rfl, rfl, rfl, trivial⟩ kk
    · exact absurd (by decide) cq
  | succ m ih =>
    intro i hi
    have ek : fb_k i = nI (14 - i) := if_pos (by omega)
    have e1 : (15 : Int32) * nI k = nI (15 * k) := pk_mul 15 k
    have e2 : nI (15 * k) + nI (14 - i) = nI (15 * k + (14 - i)) := nI_add _ _
    have e3 : nI (15 * k + (14 - i)) / 8 = nI ((15 * k + (14 - i)) / 8) := pk_div (d := 8) (by omega) (by decide) (by decide)
    have e4 : i_rem (nI (15 * k + (14 - i))) 8 = nI ((15 * k + (14 - i)) % 8) := pk_rem (d := 8) (by omega) (by decide) (by decide)
    have h32 : (15 * k + (14 - i)) / 8 < n ∧ n < 2 ^ 31 := by omega
    have hb2 := hp2 ((15 * k + (14 - i)) / 8) (by omega)
    have e5 : sh_r (R ((15 * k + (14 - i)) / 8)) (nI ((15 * k + (14 - i)) % 8)) &&& 1 = nI (le_v p 32 / 2 ^ (15 * k + (14 - i)) % 2) := by
      rw [hp _ (by omega), nI_shr1 _ (Nat.mod_lt _ (by decide)) _ hb2, le_v_bit (by omega) hp2]
    have hbl : le_v p 32 / 2 ^ (15 * k + (14 - i)) % 2 < 2 := Nat.mod_lt _ (by decide)
    have hvl : le_v p 32 / 2 ^ (15 * k + (15 - i)) % 2 ^ i < 2 ^ 60 := Nat.lt_of_lt_of_le (Nat.mod_lt _ (Nat.two_pow_pos i)) (Nat.pow_le_pow_right (by decide) (by omega))
    have e6 : sl_l (lN (le_v p 32 / 2 ^ (15 * k + (15 - i)) % 2 ^ i)) 1 ||| (nI (le_v p 32 / 2 ^ (15 * k + (14 - i)) % 2)).toInt64 = lN (le_v p 32 / 2 ^ (15 * k + (15 - (i + 1))) % 2 ^ (i + 1)) := by
      rw [nI_l (by omega), lN_or1 hbl hvl, ← bit_in, Nat.div_div_eq_div_mul, ← Nat.pow_succ, show 15 * k + (15 - i) = 15 * k + (15 - (i + 1)) + 1 by omega, show 14 - i = 15 - (i + 1) by omega]
    refine on_iload (pc' := 16) rfl rfl rfl ?_
    refine on_if_lt (pc' := 19) (tgt := 55) rfl rfl rfl (fun cq => ?_) (fun cq => ?_)
    · rw [ek] at cq
      exact absurd cq (nI_pos (by omega))
    · rw [ek]
      refine on_bipush (pc' := 21) (v := 15) rfl rfl lb_15 ?_
      refine on_iload_n (pc' := 22) rfl rfl rfl rfl ?_
      refine on_imul (pc' := 23) rfl rfl ?_
      rw [e1]
      refine on_iload (pc' := 25) rfl rfl rfl ?_
      refine on_iadd (pc' := 26) rfl rfl ?_
      rw [e2]
      refine on_istore (pc' := 28) rfl rfl (by decide) ?_
      refine on_lload_n (pc' := 29) rfl rfl rfl rfl ?_
      refine on_iconst (pc' := 30) (v := 1) rfl rfl li_1 ?_
      refine on_lshl (pc' := 31) rfl rfl ?_
      first | refine on_aload_n (pc' := 32) rfl rfl rfl rfl ?_ | refine on_aload_nQ (pc' := 32) rfl rfl rfl rfl ?_
      refine on_iload (pc' := 34) rfl rfl rfl ?_
      refine on_bipush (pc' := 36) (v := 8) rfl rfl lb_8 ?_
      refine on_idiv (pc' := 37) rfl rfl (by first | assumption | decide) ?_
      rw [e3]
      apply on_ialoadK (pc' := 38) (t := 0) rfl rfl
      · repeat (first | assumption | exact on_up_eq _ _ _ | refine (on_up_ne (by omega)).trans ?_)
      · rfl
      · first | assumption | exact on_lit _ | rfl
      · first | assumption | omega | decide
      refine on_iload (pc' := 40) rfl rfl rfl ?_
      refine on_bipush (pc' := 42) (v := 8) rfl rfl lb_8 ?_
      refine on_irem (pc' := 43) rfl rfl (by first | assumption | decide) ?_
      rw [e4]
      refine on_ishr (pc' := 44) rfl rfl ?_
      refine on_iconst (pc' := 45) (v := 1) rfl rfl li_1 ?_
      refine on_iand (pc' := 46) rfl rfl ?_
      rw [e5]
      refine on_i2l (pc' := 47) rfl rfl ?_
      refine on_lor (pc' := 48) rfl rfl ?_
      rw [e6]
      refine on_lstore_n (pc' := 49) rfl rfl rfl (by decide) ?_
      refine on_iinc (pc' := 52) rfl rfl rfl rfl ?_
      refine on_goto (tgt := 14) rfl rfl ?_
      exact on_relv (l := [(0, .ref f), (1, .ref b), (2, .int (nI k)), (3, .long (lN (le_v p 32 / 2 ^ (15 * k + (15 - (i + 1))) % 2 ^ (i + 1)))), (5, .int (fb_k (i + 1)))]) ⟨rfl, rfl, rfl, rfl, congrArg some (congrArg Value.int (by rw [← ek]; exact fb_k_s i (by omega))), trivial⟩ (ih (i + 1) (by omega))
set_option maxHeartbeats 4000000 in
theorem fb_out (hfb : f ≠ b) (hb : h b = some (on_ai 0 n R)) (hn : 32 ≤ n ∧ n < 2 ^ 31) (hp : ∀ i, i < 32 → R i = nI (p i)) (hp2 : ∀ i, i < 32 → p i < 256)
    (kk : ∀ X : Nat → Int64, (∀ k, k < 17 → X k = lN (mv_l (le_v p 32) k)) → on_E G M_M_fromBytes 65 (on_l []) [] (on_up h f (on_al 1 17 X)) sz bc bs Q) :
    ∀ (m i : Nat) (X : Nat → Int64), i + m = 17 → (∀ k, k < i → X k = lN (mv_l (le_v p 32) k)) → on_E G M_M_fromBytes 2 (on_l [(0, .ref f), (1, .ref b), (2, .int (nI i))]) [] (on_up h f (on_al 1 17 X)) sz bc bs Q := by
  intro m
  induction m with
  | zero =>
    intro i X hi hX
    obtain rfl : i = 17 := by omega
    refine on_iload_n (pc' := 3) rfl rfl rfl rfl ?_
    refine on_bipush (pc' := 5) (v := 17) rfl rfl lb_17 ?_
    refine on_icmp_ge (pc' := 8) (tgt := 65) rfl rfl rfl (fun cq => ?_) (fun cq => ?_)
    · exact on_relv (l := []) trivial (kk X hX)
    · exact absurd (nI_le (a := 17) (by omega) (by omega)) cq
  | succ m ih =>
    intro i X hi hX
    have hi2 : i < 17 ∧ 17 < 2 ^ 31 := by omega
    refine on_iload_n (pc' := 3) rfl rfl rfl rfl ?_
    refine on_bipush (pc' := 5) (v := 17) rfl rfl lb_17 ?_
    refine on_icmp_ge (pc' := 8) (tgt := 65) rfl rfl rfl (fun cq => ?_) (fun cq => ?_)
    · exact absurd cq (nI_ge (b := 17) (by omega) (by omega))
    · refine on_lconst (pc' := 9) (v := 0) rfl rfl ll_0 ?_
      refine on_lstore_n (pc' := 10) rfl rfl rfl (by decide) ?_
      refine on_bipush (pc' := 12) (v := 14) rfl rfl lb_14 ?_
      refine on_istore (pc' := 14) rfl rfl (by decide) ?_
      have := fb_in (G := G) (f := f) (b := b) (h := on_up h f (on_al 1 17 X)) (sz := sz) (bc := bc) (bs := bs) (Q := Q) (k := i) (p := p) hi2.1 ((on_up_ne (Ne.symm hfb)).trans hb) hn hp hp2 ?_ 15 0 rfl
      · rw [Nat.pow_zero, Nat.mod_one] at this
        exact on_relv (l := [(0, .ref f), (1, .ref b), (2, .int (nI i)), (3, .long (lN 0)), (5, .int (fb_k 0))]) ⟨rfl, rfl, rfl, rfl, rfl, trivial⟩ this
      · first | refine on_aload_n (pc' := 56) rfl rfl rfl rfl ?_ | refine on_aload_nQ (pc' := 56) rfl rfl rfl rfl ?_
        refine on_iload_n (pc' := 57) rfl rfl rfl rfl ?_
        refine on_lload_n (pc' := 58) rfl rfl rfl rfl ?_
        apply on_lastoreK (pc' := 59) (t := 1) rfl rfl
        · repeat (first | assumption | exact on_up_eq _ _ _ | refine (on_up_ne (by omega)).trans ?_)
        · rfl
        · first | assumption | exact on_lit _ | rfl
        · first | assumption | omega | decide
        refine on_iinc1 (pc' := 62) rfl rfl rfl ?_
        refine on_goto (tgt := 2) rfl rfl ?_
        rw [on_up_up]
        refine on_relv (l := [(0, .ref f), (1, .ref b), (2, .int (nI (i + 1)))]) ⟨rfl, rfl, congrArg some (congrArg Value.int (nI_1 i)), trivial⟩ (ih (i + 1) _ (by omega) (fun k hk => ?_))
        by_cases e : k = i
        · subst e; exact pk_uLs
        · rw [pk_uLn e]; exact hX k (by omega)
/-- fromBytes -/
theorem c_M_fromBytes {F : Nat → Int64} (hf : h f = some (on_al 1 17 F)) (hb : h b = some (on_ai 0 n R)) (hn : 32 ≤ n ∧ n < 2 ^ 31) (hp : ∀ i, i < 32 → R i = nI (p i)) (hp2 : ∀ i, i < 32 → p i < 256) :
    on_Ct G M_M_fromBytes [.ref f, .ref b] h sz 0 0 (fun r h1 z => r = none ∧ z = sz ∧ ∃ X, h1 = on_up h f (on_al 1 17 X) ∧ mr X ((le_v p 32 % 57896044618658097711785492504343953926634992332820282019728792003956564819968 : Nat) : Int)) := by
  have hfb : f ≠ b := fun e => by rw [e, hb] at hf; cases hf
  refine on_Ct.of (by decide) v_M_fromBytes (Nat.le_of_ble_eq_true rfl) ?_
  refine on_iconst (pc' := 1) (v := 0) rfl rfl li_0 ?_
  refine on_istore_n (pc' := 2) rfl rfl rfl (by decide) ?_
  have := fb_out (G := G) (sz := sz) (bc := 0) (bs := 0) (Q := fun r h1 z => r = none ∧ z = sz ∧ ∃ X, h1 = on_up h f (on_al 1 17 X) ∧ mr X ((le_v p 32 % 57896044618658097711785492504343953926634992332820282019728792003956564819968 : Nat) : Int)) hfb hb hn hp hp2 ?_ 17 0 F rfl (fun j hj => absurd hj (by omega))
  · rw [on_up_self hf] at this
    exact on_relv (l := [(0, .ref f), (1, .ref b), (2, .int (nI 0))]) ⟨rfl, rfl, rfl, trivial⟩ this
  · intro X hX
    refine on_vreturn rfl rfl ?_
    exact ⟨rfl, rfl, X, rfl, mr_lm hX⟩
end MFB
