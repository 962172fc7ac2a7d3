/-! a payload covered; one layer -/
/-- a row of n bytes x; a row of length n, whatever it holds -/
def rB (h : on_H) (a n : Nat) (x : Nat → Nat) : Prop := ∃ f, h a = some (on_ai 0 n f) ∧ on_by f x n
def rW (h : on_H) (a n : Nat) : Prop := ∃ f, h a = some (on_ai 0 n f)
theorem rB.w {h : on_H} {a n : Nat} {x : Nat → Nat} (k : rB h a n x) : rW h a n := by
  obtain ⟨f, e, -⟩ := k
  exact ⟨f, e⟩
theorem rB.keep {h h2 : on_H} {a n : Nat} {x : Nat → Nat} (k : rB h a n x) (e : h2 a = h a) : rB h2 a n x := by
  obtain ⟨f, e1, e2⟩ := k
  exact ⟨f, e.trans e1, e2⟩
theorem rW.keep {h h2 : on_H} {a n : Nat} (k : rW h a n) (e : h2 a = h a) : rW h2 a n := by
  obtain ⟨f, e1⟩ := k
  exact ⟨f, e.trans e1⟩
theorem rB.to {h : on_H} {a n : Nat} {x y : Nat → Nat} (k : rB h a n x) (e : ∀ i, i < n → y i = x i) : rB h a n y := by
  obtain ⟨f, e1, e2⟩ := k
  exact ⟨f, e1, fun i hi => by rw [e i hi]; exact e2 i hi⟩
/-- the payload covered from place pos of the stream on -/
def cv_p (K : Nat → Nat) (pos : Nat) (x : Nat → Nat) : Nat → Nat := fun i => x i ^^^ cc_ks K (pos + i)
def cv_pi (K : Nat → Nat) (pos : Nat) (x : Nat → Nat) (i : Nat) : Nat → Nat := fun j => if j < i then x j ^^^ cc_ks K (pos + j) else x j
theorem cc_ks_lt (K : Nat → Nat) (s : Nat) : cc_ks K s < 256 := cc_by_lt _ _
section MCV
variable {G : on_G} {o q sz bc bs pos : Nat} {x3 : Int32 × Int32 × Int32} {h : on_H} {Q : Option Value → on_H → Nat → Prop} {K x : Nat → Nat} {R : Nat → Int32}
/-- what is known of the block: nothing, or its number -/
def cw_k (K : Nat → Nat) (kv : Int64) (F : Nat → Int32) : Prop := kv = -1 ∨ ∃ c, c < 2 ^ 31 ∧ kv = lN c ∧ ∀ j, j < 16 → F j = cc_r (cc_in K c) 10 j + cc_in K c j
set_option maxHeartbeats 4000000 in
theorem mcv_l (ho : h o = some (.inr (17, mo_f o x3.1 x3.2.1 x3.2.2))) (hq : h q = some (on_ai 0 32 R)) (hqo : q ≠ o + 25) (hqo1 : q ≠ o + 27) (hqo2 : q ≠ o + 28) (hK : on_by R K 32) (hpos : pos + 135 < 2 ^ 36) (hx : ∀ i, i < 135 → x i < 256)
    (k : ∀ F B P : Nat → Int32, on_by P (cv_p K pos x) 135 → on_E G M_M_cover 97 (on_l []) [] (on_up (on_up (on_up h (o + 28) (on_ai 0 16 B)) (o + 27) (on_ai 0 16 F)) (o + 25) (on_ai 0 135 P)) sz bc bs Q) :
    ∀ (m i : Nat) (kv : Int64) (F B P : Nat → Int32), i + m = 135 → cw_k K kv F → on_by P (cv_pi K pos x i) 135 → on_E G M_M_cover 8 (on_l [(0, .ref o), (1, .ref q), (2, .long (lN pos)), (4, .long kv), (6, .int (nI i))]) [] (on_up (on_up (on_up h (o + 28) (on_ai 0 16 B)) (o + 27) (on_ai 0 16 F)) (o + 25) (on_ai 0 135 P)) sz bc bs Q := by
  have n64 : ¬ (64 : Int64) = 0 := by decide
  have n4 : ¬ (4 : Int32) = 0 := by decide
  intro m
  induction m with
  | zero =>
    intro i kv F B P hi hk hP
    obtain rfl : i = 135 := by omega
    refine on_iload (pc' := 10) rfl rfl rfl ?_
    refine on_sipush (pc' := 13) (v := 135) rfl rfl ls_135 ?_
    refine on_icmp_ge (pc' := 16) (tgt := 97) rfl rfl rfl (fun cq => ?_) (fun cq => ?_)
    · exact on_relv (l := []) trivial (k F B P (fun j hj => by have := hP j hj; unfold cv_pi at this; rw [if_pos hj] at this; exact this))
    · exact absurd (nI_le (a := 135) (by omega) (by omega)) cq
  | succ m ih =>
    intro i kv F B P hi hk hP
    have hi2 : i < 135 ∧ 135 < 2 ^ 31 := by omega
    have e1 : lN pos + (nI i).toInt64 = lN (pos + i) := by rw [nI_l (by omega), lN_add]
    have e2 : lN (pos + i) / 64 = lN ((pos + i) / 64) := pk_lDiv (b := 64) (by omega) (by decide) (by decide)
    have e3 : (l_rem (lN (pos + i)) 64).toInt32 = nI ((pos + i) % 64) := by
      rw [show l_rem (lN (pos + i)) 64 = lN ((pos + i) % 64) from pk_lRem (b := 64) (by omega) (by decide) (by decide), lN_i]
    have e4 : nI ((pos + i) % 64) / 4 = nI ((pos + i) % 64 / 4) := pk_div (d := 4) (by omega) (by decide) (by decide)
    have e5 : i_rem (nI ((pos + i) % 64)) 4 = nI ((pos + i) % 64 % 4) := pk_rem (d := 4) (by omega) (by decide) (by decide)
    have e6 : nI ((pos + i) % 64 % 4) * 8 = nI ((pos + i) % 64 % 4 * 8) := pk_mul _ 8
    have h16 : (pos + i) % 64 / 4 < 16 ∧ 16 < 2 ^ 31 := by omega
    have hp := hP i hi2.1
    have hxi : cv_pi K pos x i i = x i := if_neg (by omega)
    rw [hxi] at hp
    -- with the block at hand
    have tail : ∀ (F B : Nat → Int32), (∀ j, j < 16 → F j = cc_r (cc_in K ((pos + i) / 64)) 10 j + cc_in K ((pos + i) / 64) j) → on_E G M_M_cover 51 (on_l [(0, .ref o), (1, .ref q), (2, .long (lN pos)), (4, .long (lN ((pos + i) / 64))), (6, .int (nI i)), (7, .long (lN (pos + i)))]) [] (on_up (on_up (on_up h (o + 28) (on_ai 0 16 B)) (o + 27) (on_ai 0 16 F)) (o + 25) (on_ai 0 135 P)) sz bc bs Q := by
      intro F B hF
      have eb : sh_u (F ((pos + i) % 64 / 4)) (nI ((pos + i) % 64 % 4 * 8)) &&& 255 = nI (cc_ks K (pos + i)) := by
        rw [hF _ h16.1, pk_and _ 8 rfl, sh_u_nat _ (by omega)]
        unfold cc_ks cc_by
        rw [Nat.mul_comm 8]
      refine on_lload (pc' := 53) rfl rfl rfl ?_
      refine on_ldc2 (pc' := 56) rfl rfl ld_M_234 ?_
      refine on_lrem (pc' := 57) rfl rfl (by first | assumption | decide) ?_
      refine on_l2i (pc' := 58) rfl rfl ?_
      rw [e3]
      refine on_istore (pc' := 60) rfl rfl (by decide) ?_
      first | refine on_aload_n (pc' := 61) rfl rfl rfl rfl ?_ | refine on_aload_nQ (pc' := 61) rfl rfl rfl rfl ?_
      first | apply on_get (pc' := 64) rfl rfl fl_M_76 | apply on_getN (pc' := 64) rfl rfl fl_M_76
      · repeat (first | assumption | exact on_up_eq _ _ _ | refine (on_up_ne (by omega)).trans ?_)
      · rfl
      refine on_iload (pc' := 66) rfl rfl rfl ?_
      first | refine on_dup2_11 (pc' := 67) rfl rfl rfl rfl ?_ | refine on_dup2_2 (pc' := 67) rfl rfl rfl ?_
      apply on_ialoadK (pc' := 68) (t := 0) rfl rfl
      · repeat (first | assumption | exact on_up_eq _ _ _ | refine (on_up_ne (by omega)).trans ?_)
      · rfl
      · first | assumption | exact on_lit _ | rfl
      · first | assumption | omega | decide
      rw [hp.1]
      first | refine on_aload_n (pc' := 69) rfl rfl rfl rfl ?_ | refine on_aload_nQ (pc' := 69) rfl rfl rfl rfl ?_
      first | apply on_get (pc' := 72) rfl rfl fl_M_82 | apply on_getN (pc' := 72) rfl rfl fl_M_82
      · repeat (first | assumption | exact on_up_eq _ _ _ | refine (on_up_ne (by omega)).trans ?_)
      · rfl
      refine on_iload (pc' := 74) rfl rfl rfl ?_
      refine on_iconst (pc' := 75) (v := 4) rfl rfl li_4 ?_
      refine on_idiv (pc' := 76) rfl rfl (by first | assumption | decide) ?_
      rw [e4]
      apply on_ialoadK (pc' := 77) (t := 0) rfl rfl
      · repeat (first | assumption | exact on_up_eq _ _ _ | refine (on_up_ne (by omega)).trans ?_)
      · rfl
      · first | assumption | exact on_lit _ | rfl
      · first | assumption | omega | decide
      refine on_iload (pc' := 79) rfl rfl rfl ?_
      refine on_iconst (pc' := 80) (v := 4) rfl rfl li_4 ?_
      refine on_irem (pc' := 81) rfl rfl (by first | assumption | decide) ?_
      rw [e5]
      refine on_bipush (pc' := 83) (v := 8) rfl rfl lb_8 ?_
      refine on_imul (pc' := 84) rfl rfl ?_
      rw [e6]
      refine on_iushr (pc' := 85) rfl rfl ?_
      refine on_sipush (pc' := 88) (v := 255) rfl rfl ls_255 ?_
      refine on_iand (pc' := 89) rfl rfl ?_
      rw [eb]
      refine on_ixor (pc' := 90) rfl rfl ?_
      rw [nI_xor]
      apply on_iastoreK (pc' := 91) (t := 0) rfl rfl
      · repeat (first | assumption | exact on_up_eq _ _ _ | refine (on_up_ne (by omega)).trans ?_)
      · rfl
      · first | assumption | exact on_lit _ | rfl
      · first | assumption | omega | decide
      refine on_iinc1 (pc' := 94) rfl rfl rfl ?_
      refine on_goto (tgt := 8) rfl rfl ?_
      rw [on_up_up]
      refine on_relv (l := [(0, .ref o), (1, .ref q), (2, .long (lN pos)), (4, .long (lN ((pos + i) / 64))), (6, .int (nI (i + 1)))]) ⟨rfl, rfl, rfl, rfl, congrArg some (congrArg Value.int (nI_1 i)), trivial⟩ (ih (i + 1) _ F B _ (by omega) (Or.inr ⟨_, by omega, rfl, hF⟩) (fun j hj => ?_))
      by_cases e : j = i
      · subst e
        rw [pk_us, show cv_pi K pos x (j + 1) j = x j ^^^ cc_ks K (pos + j) from if_pos (by omega)]
        exact ⟨rfl, xor_lt8 hp.2 (cc_ks_lt _ _)⟩
      · rw [pk_un e, show cv_pi K pos x (i + 1) j = cv_pi K pos x i j by
          unfold cv_pi
          by_cases e2 : j < i
          · rw [if_pos e2, if_pos (by omega)]
          · rw [if_neg e2, if_neg (by omega)]]
        exact hP j hj
    refine on_iload (pc' := 10) rfl rfl rfl ?_
    refine on_sipush (pc' := 13) (v := 135) rfl rfl ls_135 ?_
    refine on_icmp_ge (pc' := 16) (tgt := 97) rfl rfl rfl (fun cq => ?_) (fun cq => ?_)
    · exact absurd cq (nI_ge (b := 135) (by omega) (by omega))
    · refine on_lload_n (pc' := 17) rfl rfl rfl rfl ?_
      refine on_iload (pc' := 19) rfl rfl rfl ?_
      refine on_i2l (pc' := 20) rfl rfl ?_
      refine on_ladd (pc' := 21) rfl rfl ?_
      rw [e1]
      refine on_lstore (pc' := 23) rfl rfl (by decide) ?_
      refine on_lload (pc' := 25) rfl rfl rfl ?_
      refine on_ldc2 (pc' := 28) rfl rfl ld_M_234 ?_
      refine on_ldiv (pc' := 29) rfl rfl (by first | assumption | decide) ?_
      rw [e2]
      refine on_lload (pc' := 31) rfl rfl rfl ?_
      refine on_lcmp (pc' := 32) rfl rfl ?_
      refine on_if_eq (pc' := 35) (tgt := 51) rfl rfl rfl (fun cq => ?_) (fun cq => ?_)
      · have ek := (lg_cmp_eq _ _).mp cq
        rcases hk with rfl | ⟨c, hc, rfl, hF⟩
        · have e9 := congrArg Int64.toInt ek
          rw [pf_lI (by omega), show (-1 : Int64).toInt = -1 by decide] at e9
          omega
        · have ec : (pos + i) / 64 = c := by
            have := congrArg Int64.toInt ek
            rw [pf_lI (by omega), pf_lI (by omega)] at this
            omega
          subst ec
          exact on_relv (l := [(0, .ref o), (1, .ref q), (2, .long (lN pos)), (4, .long (lN ((pos + i) / 64))), (6, .int (nI i)), (7, .long (lN (pos + i)))]) ⟨rfl, rfl, rfl, rfl, rfl, rfl, trivial⟩ (tail F B hF)
      · refine on_lload (pc' := 37) rfl rfl rfl ?_
        refine on_ldc2 (pc' := 40) rfl rfl ld_M_234 ?_
        refine on_ldiv (pc' := 41) rfl rfl (by first | assumption | decide) ?_
        rw [e2]
        refine on_lstore (pc' := 43) rfl rfl (by decide) ?_
        first | refine on_aload_n (pc' := 44) rfl rfl rfl rfl ?_ | refine on_aload_nQ (pc' := 44) rfl rfl rfl rfl ?_
        first | refine on_aload_n (pc' := 45) rfl rfl rfl rfl ?_ | refine on_aload_nQ (pc' := 45) rfl rfl rfl rfl ?_
        refine on_lload (pc' := 47) rfl rfl rfl ?_
        refine on_l2i (pc' := 48) rfl rfl ?_
        rw [lN_i]
        refine on_callV (pc' := 51) (As := [.ref q, .int (nI ((pos + i) / 64))]) (rest := []) (b := o) rfl rfl cw_M_cover_236 ((on_up_ne (by omega)).trans ((on_up_ne (by omega)).trans ((on_up_ne (by omega)).trans ho))) rfl rfl (by decide) (Nat.zero_le _) (Nat.zero_le _) (c_M_streamBlock (K := K) (F0 := F) (B0 := B) ((on_up_ne (by omega)).trans ((on_up_ne (by omega)).trans ((on_up_ne (by omega)).trans ho))) ((on_up_ne (by omega)).trans (on_up_eq _ _ _)) ((on_up_ne (by omega)).trans ((on_up_ne (by omega)).trans (on_up_eq _ _ _))) ((on_up_ne hqo).trans ((on_up_ne hqo1).trans ((on_up_ne hqo2).trans hq))) hqo1 hqo2 (by decide) hK) ?_
        rintro r h1 z ⟨rfl, rfl, F2, B2, rfl, hF2⟩
        rw [on_up_comm (a := o + 25) (b := o + 28) (by omega), on_up_comm (a := o + 27) (b := o + 28) (by omega), on_up_up, on_up_comm (a := o + 25) (b := o + 27) (by omega), on_up_up]
        exact on_relv (l := [(0, .ref o), (1, .ref q), (2, .long (lN pos)), (4, .long (lN ((pos + i) / 64))), (6, .int (nI i)), (7, .long (lN (pos + i)))]) ⟨rfl, rfl, rfl, rfl, rfl, rfl, trivial⟩ (tail F2 B2 hF2)
set_option maxHeartbeats 4000000 in
/-- cover -/
theorem c_M_cover (ho : h o = some (.inr (17, mo_f o x3.1 x3.2.1 x3.2.2))) (hq : rB h q 32 K) (hqo : q < o + 25 ∨ o + 29 ≤ q) (hpos : pos + 135 < 2 ^ 36) (hx : rB h (o + 25) 135 x) (hF : rW h (o + 27) 16) (hB : rW h (o + 28) 16) :
    on_Ct G M_M_cover [.ref o, .ref q, .long (lN pos)] h sz 0 0 (fun r h1 z => r = none ∧ z = sz ∧ rB h1 (o + 25) 135 (cv_p K pos x) ∧ rW h1 (o + 27) 16 ∧ rW h1 (o + 28) 16 ∧ ∀ a, a ≠ o + 25 → a ≠ o + 27 → a ≠ o + 28 → h1 a = h a) := by
  obtain ⟨R, hq, hK⟩ := hq
  obtain ⟨P, hp, hP⟩ := hx
  obtain ⟨F, hF⟩ := hF
  obtain ⟨B, hB⟩ := hB
  refine on_Ct.of (by decide) v_M_cover (Nat.le_of_ble_eq_true rfl) ?_
  refine on_ldc2 (pc' := 3) rfl rfl ld_M_232 ?_
  refine on_lstore (pc' := 5) rfl rfl (by decide) ?_
  refine on_iconst (pc' := 6) (v := 0) rfl rfl li_0 ?_
  refine on_istore (pc' := 8) rfl rfl (by decide) ?_
  have z := mcv_l (G := G) (sz := sz) (bc := 0) (bs := 0) (pos := pos) (K := K) (x := x) (Q := fun r h1 z => r = none ∧ z = sz ∧ rB h1 (o + 25) 135 (cv_p K pos x) ∧ rW h1 (o + 27) 16 ∧ rW h1 (o + 28) 16 ∧ ∀ a, a ≠ o + 25 → a ≠ o + 27 → a ≠ o + 28 → h1 a = h a) ho hq (by omega) (by omega) (by omega) hK hpos (fun i hi => (hP i hi).2) ?_ 135 0 (-1) F B P rfl (Or.inl rfl) (fun j hj => by rw [show cv_pi K pos x 0 j = x j from if_neg (by omega)]; exact hP j hj)
  · rw [on_up_self hB, on_up_self hF, on_up_self hp] at z
    exact on_relv (l := [(0, .ref o), (1, .ref q), (2, .long (lN pos)), (4, .long (-1)), (6, .int (nI 0))]) ⟨rfl, rfl, rfl, rfl, rfl, trivial⟩ z
  intro F2 B2 P2 hP2
  refine on_vreturn rfl rfl ?_
  exact ⟨rfl, rfl, ⟨P2, on_up_eq _ _ _, hP2⟩, ⟨F2, (on_up_ne (by omega)).trans (on_up_eq _ _ _)⟩, ⟨B2, (on_up_ne (by omega)).trans ((on_up_ne (by omega)).trans (on_up_eq _ _ _))⟩, fun a h1 h2 h3 => (on_up_ne h1).trans ((on_up_ne h2).trans (on_up_ne h3))⟩
end MCV
/-! a layer: what both ends know of one hop -/
/-- one direction: the bytes hashed, the cipher's key, how much of its stream is used -/
abbrev aL : Type := List Nat × (Nat → Nat) × Nat
abbrev aL.ms (x : aL) : List Nat := x.1
abbrev aL.K (x : aL) : Nat → Nat := x.2.1
abbrev aL.pos (x : aL) : Nat := x.2.2
/-- the reference's layer at y -/
def ml_B (y : Nat) (f b : aL) (h : on_H) : Prop := h y = some (.inr (13, [.ref (y + 1), .ref (y + 4), .ref (y + 7), .ref (y + 8), .long (lN f.pos), .long (lN b.pos)])) ∧ rB h (y + 7) 32 f.K ∧ rB h (y + 8) 32 b.K
def ml_S (y : Nat) (f b : aL) (h : on_H) : Prop := ml_B y f b h ∧ ms_X (y + 1) f.ms h ∧ ms_X (y + 4) b.ms h
theorem ml_B.keep {y : Nat} {f b : aL} {h h2 : on_H} (k : ml_B y f b h) (e : ∀ a, a = y ∨ a = y + 7 ∨ a = y + 8 → h2 a = h a) : ml_B y f b h2 := ⟨(e _ (by omega)).trans k.1, k.2.1.keep (e _ (by omega)), k.2.2.keep (e _ (by omega))⟩
theorem ml_S.keep {y : Nat} {f b : aL} {h h2 : on_H} (k : ml_S y f b h) (e : ∀ a, y ≤ a → a < y + 9 → h2 a = h a) : ml_S y f b h2 := ⟨k.1.keep (fun a ha => e a (by omega) (by omega)), k.2.1.keep (fun a h1 h2 => e a (by omega) (by omega)), k.2.2.keep (fun a h1 h2 => e a (by omega) (by omega))⟩
section MLA
variable {G : on_G} {o y sz bc bs : Nat} {x3 : Int32 × Int32 × Int32} {h : on_H} {Q : Option Value → on_H → Nat → Prop} {x : Nat → Nat} {f b : aL}
set_option maxHeartbeats 4000000 in
theorem c_M_coverForwards (ho : h o = some (.inr (17, mo_f o x3.1 x3.2.1 x3.2.2))) (hL : ml_B y f b h) (hy : y + 9 ≤ o + 25 ∨ o + 29 ≤ y) (hpos : f.pos + 135 < 2 ^ 36) (hx : rB h (o + 25) 135 x) (hF : rW h (o + 27) 16) (hB : rW h (o + 28) 16) :
    on_Ct G M_M_coverForwards [.ref o, .ref y] h sz 0 0 (fun r h1 z => r = none ∧ z = sz ∧ rB h1 (o + 25) 135 (cv_p f.K f.pos x) ∧ rW h1 (o + 27) 16 ∧ rW h1 (o + 28) 16 ∧ ml_B y (f.ms, f.K, f.pos + 135) b h1 ∧ ∀ a, a ≠ o + 25 → a ≠ o + 27 → a ≠ o + 28 → a ≠ y → h1 a = h a) := by
  have l1 := hL.1
  refine on_Ct.of (by decide) v_M_coverForwards (Nat.le_of_ble_eq_true rfl) ?_
  first | refine on_aload_n (pc' := 1) rfl rfl rfl rfl ?_ | refine on_aload_nQ (pc' := 1) rfl rfl rfl rfl ?_
  first | refine on_aload_n (pc' := 2) rfl rfl rfl rfl ?_ | refine on_aload_nQ (pc' := 2) rfl rfl rfl rfl ?_
  first | apply on_get (pc' := 5) rfl rfl fl_M_239 | apply on_getN (pc' := 5) rfl rfl fl_M_239
  · repeat (first | assumption | exact on_up_eq _ _ _ | refine (on_up_ne (by omega)).trans ?_)
  · rfl
  first | refine on_aload_n (pc' := 6) rfl rfl rfl rfl ?_ | refine on_aload_nQ (pc' := 6) rfl rfl rfl rfl ?_
  first | apply on_get (pc' := 9) rfl rfl fl_M_244 | apply on_getN (pc' := 9) rfl rfl fl_M_244
  · repeat (first | assumption | exact on_up_eq _ _ _ | refine (on_up_ne (by omega)).trans ?_)
  · rfl
  refine on_callV (pc' := 12) (As := [.ref (y + 7), .long (lN f.pos)]) (rest := []) (b := o) rfl rfl cw_M_coverForwards_248 ho rfl rfl (by decide) (Nat.zero_le _) (Nat.zero_le _) (c_M_cover ho hL.2.1 (by omega) hpos hx hF hB) ?_
  rintro r h1 z ⟨rfl, rfl, P1, F1, B1, t1⟩
  clear l1
  have L1 := hL.keep (h2 := h1) (fun a ha => t1 a (by omega) (by omega) (by omega))
  have l1 := L1.1
  first | refine on_aload_n (pc' := 13) rfl rfl rfl rfl ?_ | refine on_aload_nQ (pc' := 13) rfl rfl rfl rfl ?_
  refine on_dup (pc' := 14) rfl rfl rfl ?_
  first | apply on_get (pc' := 17) rfl rfl fl_M_244 | apply on_getN (pc' := 17) rfl rfl fl_M_244
  · repeat (first | assumption | exact on_up_eq _ _ _ | refine (on_up_ne (by omega)).trans ?_)
  · rfl
  refine on_ldc2 (pc' := 20) rfl rfl ld_M_252 ?_
  refine on_ladd (pc' := 21) rfl rfl ?_
  rw [show (135 : Int64) = lN 135 from rfl, lN_add]
  first | apply on_put (pc' := 24) rfl rfl fp_M_244 | apply on_putN (pc' := 24) rfl rfl fp_M_244
  · repeat (first | assumption | exact on_up_eq _ _ _ | refine (on_up_ne (by omega)).trans ?_)
  · first | rfl | assumption
  · first | rfl | assumption
  · exact Nat.le_of_ble_eq_true rfl
  refine on_vreturn rfl rfl ?_
  exact ⟨rfl, rfl, P1.keep (on_up_ne (by omega)), F1.keep (on_up_ne (by omega)), B1.keep (on_up_ne (by omega)), ⟨on_up_eq _ _ _, L1.2.1.keep (on_up_ne (by omega)), L1.2.2.keep (on_up_ne (by omega))⟩, fun a h1 h2 h3 h4 => (on_up_ne h4).trans (t1 a h1 h2 h3)⟩
set_option maxHeartbeats 4000000 in
theorem c_M_coverBackwards (ho : h o = some (.inr (17, mo_f o x3.1 x3.2.1 x3.2.2))) (hL : ml_B y f b h) (hy : y + 9 ≤ o + 25 ∨ o + 29 ≤ y) (hpos : b.pos + 135 < 2 ^ 36) (hx : rB h (o + 25) 135 x) (hF : rW h (o + 27) 16) (hB : rW h (o + 28) 16) :
    on_Ct G M_M_coverBackwards [.ref o, .ref y] h sz 0 0 (fun r h1 z => r = none ∧ z = sz ∧ rB h1 (o + 25) 135 (cv_p b.K b.pos x) ∧ rW h1 (o + 27) 16 ∧ rW h1 (o + 28) 16 ∧ ml_B y f (b.ms, b.K, b.pos + 135) h1 ∧ ∀ a, a ≠ o + 25 → a ≠ o + 27 → a ≠ o + 28 → a ≠ y → h1 a = h a) := by
  have l1 := hL.1
  refine on_Ct.of (by decide) v_M_coverBackwards (Nat.le_of_ble_eq_true rfl) ?_
  first | refine on_aload_n (pc' := 1) rfl rfl rfl rfl ?_ | refine on_aload_nQ (pc' := 1) rfl rfl rfl rfl ?_
  first | refine on_aload_n (pc' := 2) rfl rfl rfl rfl ?_ | refine on_aload_nQ (pc' := 2) rfl rfl rfl rfl ?_
  first | apply on_get (pc' := 5) rfl rfl fl_M_254 | apply on_getN (pc' := 5) rfl rfl fl_M_254
  · repeat (first | assumption | exact on_up_eq _ _ _ | refine (on_up_ne (by omega)).trans ?_)
  · rfl
  first | refine on_aload_n (pc' := 6) rfl rfl rfl rfl ?_ | refine on_aload_nQ (pc' := 6) rfl rfl rfl rfl ?_
  first | apply on_get (pc' := 9) rfl rfl fl_M_257 | apply on_getN (pc' := 9) rfl rfl fl_M_257
  · repeat (first | assumption | exact on_up_eq _ _ _ | refine (on_up_ne (by omega)).trans ?_)
  · rfl
  refine on_callV (pc' := 12) (As := [.ref (y + 8), .long (lN b.pos)]) (rest := []) (b := o) rfl rfl cw_M_coverBackwards_248 ho rfl rfl (by decide) (Nat.zero_le _) (Nat.zero_le _) (c_M_cover ho hL.2.2 (by omega) hpos hx hF hB) ?_
  rintro r h1 z ⟨rfl, rfl, P1, F1, B1, t1⟩
  clear l1
  have L1 := hL.keep (h2 := h1) (fun a ha => t1 a (by omega) (by omega) (by omega))
  have l1 := L1.1
  first | refine on_aload_n (pc' := 13) rfl rfl rfl rfl ?_ | refine on_aload_nQ (pc' := 13) rfl rfl rfl rfl ?_
  refine on_dup (pc' := 14) rfl rfl rfl ?_
  first | apply on_get (pc' := 17) rfl rfl fl_M_257 | apply on_getN (pc' := 17) rfl rfl fl_M_257
  · repeat (first | assumption | exact on_up_eq _ _ _ | refine (on_up_ne (by omega)).trans ?_)
  · rfl
  refine on_ldc2 (pc' := 20) rfl rfl ld_M_252 ?_
  refine on_ladd (pc' := 21) rfl rfl ?_
  rw [show (135 : Int64) = lN 135 from rfl, lN_add]
  first | apply on_put (pc' := 24) rfl rfl fp_M_257 | apply on_putN (pc' := 24) rfl rfl fp_M_257
  · repeat (first | assumption | exact on_up_eq _ _ _ | refine (on_up_ne (by omega)).trans ?_)
  · first | rfl | assumption
  · first | rfl | assumption
  · exact Nat.le_of_ble_eq_true rfl
  refine on_vreturn rfl rfl ?_
  exact ⟨rfl, rfl, P1.keep (on_up_ne (by omega)), F1.keep (on_up_ne (by omega)), B1.keep (on_up_ne (by omega)), ⟨on_up_eq _ _ _, L1.2.1.keep (on_up_ne (by omega)), L1.2.2.keep (on_up_ne (by omega))⟩, fun a h1 h2 h3 h4 => (on_up_ne h4).trans (t1 a h1 h2 h3)⟩
end MLA
