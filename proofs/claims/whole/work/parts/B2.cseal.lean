/-! Circuit: sealAll, peel -/
/-- the lanes of a circuit: forward i at la i, backward i at la i + 8 -/
def ls_S (c tr np : Nat) (la : Nat → Nat) (hp : Nat) (f : Nat → aL × aL) (h : on_H) : Prop := (∃ F, h (c + 5) = some (on_aq 6 np F) ∧ ∀ i, i < hp → F i = some (la i)) ∧ (∃ B, h (c + 6) = some (on_aq 6 np B) ∧ ∀ i, i < hp → B i = some (la i + 8)) ∧ ∀ i, i < hp → la_A (la i) tr (f i).1 h ∧ la_A (la i + 8) tr (f i).2 h
/-- where they lie -/
def ls_D (c : Nat) (la : Nat → Nat) (hp : Nat) : Prop := ∀ i, i < hp → c + 7 ≤ la i ∧ ∀ j, j < i → la j + 16 ≤ la i
theorem ls_D.ne {c hp i j : Nat} {la : Nat → Nat} (D : ls_D c la hp) (hi : i < hp) (hj : j < hp) (h : i ≠ j) : la i + 16 ≤ la j ∨ la j + 16 ≤ la i := by
  rcases Nat.lt_or_ge i j with z | z
  · exact Or.inl ((D j hj).2 i z)
  · exact Or.inr ((D i hi).2 j (by omega))
theorem ls_S.keep {c tr np hp : Nat} {la : Nat → Nat} {f : Nat → aL × aL} {h h2 : on_H} (k : ls_S c tr np la hp f h) (e5 : h2 (c + 5) = h (c + 5)) (e6 : h2 (c + 6) = h (c + 6)) (e : ∀ i, i < hp → ∀ a, la i ≤ a → a < la i + 16 → h2 a = h a) : ls_S c tr np la hp f h2 := by
  obtain ⟨⟨F, f1, f2⟩, ⟨B, b1, b2⟩, k3⟩ := k
  exact ⟨⟨F, e5.trans f1, f2⟩, ⟨B, e6.trans b1, b2⟩, fun i hi => ⟨(k3 i hi).1.keep (fun a a1 a2 => e i hi a (by omega) (by omega)), (k3 i hi).2.keep (fun a a1 a2 => e i hi a (by omega) (by omega))⟩⟩
theorem ls_S.set {c tr np hp k : Nat} {la : Nat → Nat} {f : Nat → aL × aL} {l : aL × aL} {h h2 : on_H} (K : ls_S c tr np la hp f h) (D : ls_D c la hp) (hk : k < hp) (k1 : la_A (la k) tr l.1 h2) (k2 : la_A (la k + 8) tr l.2 h2) (e5 : h2 (c + 5) = h (c + 5)) (e6 : h2 (c + 6) = h (c + 6)) (e : ∀ i, i < hp → i ≠ k → ∀ a, la i ≤ a → a < la i + 16 → h2 a = h a) : ls_S c tr np la hp (fu f k l) h2 := by
  obtain ⟨⟨F, f1, f2⟩, ⟨B, b1, b2⟩, k3⟩ := K
  refine ⟨⟨F, e5.trans f1, f2⟩, ⟨B, e6.trans b1, b2⟩, fun i hi => ?_⟩
  by_cases z : i = k
  · subst z
    rw [fu_s]
    exact ⟨k1, k2⟩
  · rw [fu_n z]
    exact ⟨(k3 i hi).1.keep (fun a a1 a2 => e i hi z a (by omega) (by omega)), (k3 i hi).2.keep (fun a a1 a2 => e i hi z a (by omega) (by omega))⟩
theorem ce_pp {y : aB} {p p2 : Nat → Nat} : ce_p (ce_p y p) p2 = ce_p y p2 := funext fun i => by
  unfold ce_p
  by_cases z : i < 5
  · rw [if_pos z, if_pos z, if_pos z]
  · rw [if_neg z, if_neg z]
theorem ce_pd {y : aB} {p : Nat → Nat} : (fun j => ce_p y p (5 + j)) = p := funext fun j => by
  unfold ce_p
  rw [if_neg (by omega), show 5 + j - 5 = j by omega]
theorem im1 (x : Int32) : x + Int32.ofInt (-1) = x - 1 := by rw [show Int32.ofInt (-1) = -(1 : Int32) by decide, ← Int32.sub_eq_add_neg]
section CSL
variable {G : on_G} {c cl hs u n np hp sz bc bs : Nat} {num ph sc : Int32} {la : Nat → Nat} {h : on_H} {Q : Option Value → on_H → Nat → Prop} {cc : Nat → aB} {to : Nat → Nat} {pl : Nat → Bool} {y : aB}
set_option maxHeartbeats 8000000 in
/-- the layers, from the last hop on -/
theorem cly_l (D : ls_D c la hp) (huc : u + 8 ≤ c) (hnp : hp ≤ np ∧ np < 2 ^ 31)
    (hC : cr_O c cl hs num ph (nI hp) sc h) (o1 : h u = some (.inr (6, [.ref (u + 1), .ref (u + 6), .ref (u + 7), .int (nI 1)]))) (o2 : h (u + 1) = some (on_aq 3 4 (ob_f u))) :
    ∀ (k : Nat) (f : Nat → aL × aL) (p : Nat → Nat) (h1 : on_H), k ≤ hp →
    (kk : ∀ h2, ls_S c (hs + 4) np la hp (c_cv f k p).1 h2 → rB h2 (u + 2) 140 (ce_p y (c_cv f k p).2) → (∀ b, b ≠ u + 2 → (∀ i, i < hp → b < la i ∨ la i + 8 ≤ b) → h2 b = h b) → on_E G M_Circuit_sealAll 78 (on_l [(0, .ref (c + 1)), (1, .ref u), (2, .int (nI 0))]) [] h2 sz bc bs Q) →
    ls_S c (hs + 4) np la hp f h1 → rB h1 (u + 2) 140 (ce_p y p) → (∀ b, b ≠ u + 2 → (∀ i, i < hp → b < la i ∨ la i + 8 ≤ b) → h1 b = h b) →
    on_E G M_Circuit_sealAll 53 (on_l [(0, .ref (c + 1)), (1, .ref u), (2, .int (nI 0)), (3, .int (nI k - 1))]) [] h1 sz bc bs Q := by
  have off : ∀ b, b < c + 7 → ∀ i, i < hp → b < la i ∨ la i + 8 ≤ b := fun b hb i hi => Or.inl (by have := (D i hi).1; omega)
  intro k
  induction k with
  | zero =>
    intro f p h1 hk kk L1 R1 t1
    refine on_iload_n (pc' := 54) rfl rfl rfl rfl ?_
    refine on_if_lt (pc' := 57) (tgt := 78) rfl rfl rfl (fun cq => ?_) (fun cq => ?_)
    · exact on_relv (l := [(0, .ref (c + 1)), (1, .ref u), (2, .int (nI 0))]) ⟨rfl, rfl, rfl, trivial⟩ (kk h1 L1 R1 t1)
    · exact absurd (by decide) cq
  | succ k ih =>
    intro f p h1 hk kk L1 R1 t1
    have c1 : h1 (c + 1) = some (.inr (9, [.ref cl, .int num, .ref c, .ref hs, .ref (c + 5), .ref (c + 6), .ref (c + 2), .ref (c + 3), .ref (c + 4), .int ph, .int (nI hp), .int sc])) := (t1 _ (by omega) (off _ (by omega))).trans hC
    have p1 := (t1 u (by omega) (off _ (by omega))).trans o1
    have p2 := (t1 (u + 1) (by omega) (off _ (by omega))).trans o2
    obtain ⟨⟨F, f1, f2⟩, -, k3⟩ := id L1
    obtain ⟨X, x1, X'⟩ := id R1
    have kn : k < np ∧ np < 2 ^ 31 := by omega
    have k4 : (0 : Nat) < 4 ∧ 4 < 2 ^ 31 := by decide
    have ek : nI (k + 1) - 1 = nI k := pk_sub (a := k + 1) (b := 1) (by omega)
    have dk := (D k (by omega)).1
    rw [ek]
    refine on_iload_n (pc' := 54) rfl rfl rfl rfl ?_
    refine on_if_lt (pc' := 57) (tgt := 78) rfl rfl rfl (fun cq => ?_) (fun cq => ?_)
    · exact absurd cq (nI_pos (by omega))
    · clear cq
      first | refine on_aload_n (pc' := 58) rfl rfl rfl rfl ?_ | refine on_aload_nQ (pc' := 58) rfl rfl rfl rfl ?_
      first | apply on_get (pc' := 61) rfl rfl fl_Circuit_45 | apply on_getN (pc' := 61) rfl rfl fl_Circuit_45
      · repeat (first | assumption | exact on_up_eq _ _ _ | refine (on_up_ne (by omega)).trans ?_)
      · rfl
      refine on_iload_n (pc' := 62) rfl rfl rfl rfl ?_
      apply on_aaloadK (pc' := 63) rfl rfl
      · repeat (first | assumption | exact on_up_eq _ _ _ | refine (on_up_ne (by omega)).trans ?_)
      · rfl
      · first | assumption | exact on_lit _ | rfl
      · first | assumption | omega | decide
      rw [f2 k (by omega)]
      show on_E G M_Circuit_sealAll 63 _ [.ref (la k)] _ _ _ _ _
      first | refine on_aload_n (pc' := 64) rfl rfl rfl rfl ?_ | refine on_aload_nQ (pc' := 64) rfl rfl rfl rfl ?_
      first | apply on_get (pc' := 67) rfl rfl fl_Circuit_107 | apply on_getN (pc' := 67) rfl rfl fl_Circuit_107
      · repeat (first | assumption | exact on_up_eq _ _ _ | refine (on_up_ne (by omega)).trans ?_)
      · rfl
      refine on_iload_n (pc' := 68) rfl rfl rfl rfl ?_
      apply on_aaloadA (pc' := 69) (k := 0) rfl rfl
      · repeat (first | assumption | exact on_up_eq _ _ _ | refine (on_up_ne (by omega)).trans ?_)
      · rfl
      · rfl
      · exact k4
      show on_E G M_Circuit_sealAll 69 _ [.ref (u + 2), .ref (la k)] _ _ _ _ _
      obtain ⟨fs, ob⟩ := (k3 k (by omega)).1.ob
      refine on_callV (pc' := 72) (As := [.ref (u + 2)]) (rest := []) (b := la k) rfl rfl cw_Circuit_sealAll_115 (ob) rfl rfl (Nat.le_of_ble_eq_true rfl) (Nat.zero_le _) (Nat.zero_le _) (c_Lane_lay (k3 k (by omega)).1.2 x1 (by omega)) ?_
      rintro v h2 sz ⟨rfl, rfl, L2, q2, t2⟩
      have T2 : ∀ b, b ≠ u + 2 → (b < la k ∨ la k + 8 ≤ b) → h2 b = h1 b := fun b b1 b2 => t2 b b1 (by unfold ln_off; omega)
      have M2 : la_A (la k) (hs + 4) (cv_l (f k).1) h2 := ⟨(k3 k (by omega)).1.1.keep (fun b _ _ => t2 b (by omega) (by unfold ln_off; omega)), L2⟩
      have Q2 := ln_ce (x := ce_p y p) (K := (f k).1.K) (pos := (f k).1.pos) X' q2
      rw [ce_pd, ce_pp] at Q2
      have N2 := L1.set (h2 := h2) (k := k) (l := (cv_l (f k).1, (f k).2)) D (by omega) M2 ((k3 k (by omega)).2.keep (fun b _ _ => T2 b (by omega) (by omega))) (T2 _ (by omega) (by omega)) (T2 _ (by omega) (by omega)) (fun i hi z a a1 a2 => T2 a (by have := (D i hi).1; omega) (by have := D.ne hi (show k < hp by omega) z; omega))
      refine on_iinc (pc' := 75) (v := nI k - 1) rfl rfl rfl (im1 _) ?_
      refine on_goto (tgt := 53) rfl rfl ?_
      exact on_relv (l := [(0, .ref (c + 1)), (1, .ref u), (2, .int (nI 0)), (3, .int (nI k - 1))]) ⟨rfl, rfl, rfl, rfl, trivial⟩ (ih _ _ h2 (by omega) kk N2 Q2 (fun b b1 b2 => (T2 b b1 (b2 k (by omega))).trans (t1 b b1 b2)))
/-- what sealing makes of the lanes and of a cell -/
def cs_f (f : Nat → aL × aL) (hp : Nat) (x : aB) : Nat → aL × aL := fu f (hp - 1) (((f (hp - 1)).1.ms ++ sp_sl x 5 135, (f (hp - 1)).1.K, (f (hp - 1)).1.pos), (f (hp - 1)).2)
def cs_q (f : Nat → aL × aL) (hp : Nat) (x : aB) : (Nat → aL × aL) × (Nat → Nat) := c_cv (cs_f f hp x) hp (fun k => rc_s (f (hp - 1)).1.ms x (5 + k))
def cs_c (f : Nat → aL × aL) (hp : Nat) (x : aB) : aB := ce_p (rc_s (f (hp - 1)).1.ms x) (cs_q f hp x).2
set_option maxHeartbeats 8000000 in
/-- sealAll: one plain cell -/
theorem c_cseal1 {f : Nat → aL × aL} (D : ls_D c la hp) (huc : hs + 29 ≤ u ∧ u + 8 ≤ c) (hnp : 0 < hp ∧ hp ≤ np ∧ np < 2 ^ 31) (hC : cr_O c cl hs num ph (nI hp) sc h) (O : ob_S u 1 cc to pl h) (hpl : pl 0 = true) (L : ls_S c (hs + 4) np la hp f h) (T : sh_W (hs + 4) h) (hL : (f (hp - 1)).1.ms.length + 540 < 2 ^ 28) :
    on_Ct G M_Circuit_sealAll [.ref (c + 1), .ref u] h sz 0 0 (fun v h1 z => v = none ∧ z = sz ∧ ob_S u 1 (fu cc 0 (cs_c f hp (cc 0))) to pl h1 ∧ ls_S c (hs + 4) np la hp (cs_q f hp (cc 0)).1 h1 ∧ sh_W (hs + 4) h1 ∧ ∀ b, (b < u ∨ u + 8 ≤ b) → (b < hs + 4 ∨ hs + 7 ≤ b) → (∀ i, i < hp → b < la i ∨ la i + 8 ≤ b) → h1 b = h b) := by
  have c0 : h (c + 1) = some (.inr (9, [.ref cl, .int num, .ref c, .ref hs, .ref (c + 5), .ref (c + 6), .ref (c + 2), .ref (c + 3), .ref (c + 4), .int ph, .int (nI hp), .int sc])) := hC
  obtain ⟨o1, o2, o3, ⟨T0, o4, o4'⟩, ⟨P, o5, o5'⟩⟩ := id O
  have off : ∀ b, b < c + 7 → ∀ i, i < hp → b < la i ∨ la i + 8 ≤ b := fun b hb i hi => Or.inl (by have := (D i hi).1; omega)
  have k4 : (0 : Nat) < 4 ∧ 4 < 2 ^ 31 := by decide
  have P0 : P 0 = 1 := (o5' 0 (by decide)).trans (if_pos ⟨by decide, hpl⟩)
  obtain ⟨⟨F, f1, f2⟩, -, k3⟩ := id L
  obtain ⟨X, x1, X'⟩ := rB.ite (o3 0 (by decide)) (by decide)
  have kn : hp - 1 < np ∧ np < 2 ^ 31 := by omega
  have dk := (D (hp - 1) (by omega)).1
  have i0 : (0 : Int32) = nI 0 := rfl
  refine on_Ct.of (by decide) v_Circuit_sealAll (Nat.le_of_ble_eq_true rfl) ?_
  refine on_iconst (pc' := 1) (v := 0) rfl rfl li_0 ?_
  refine on_istore_n (pc' := 2) rfl rfl rfl (by decide) ?_
  refine on_relv (l := [(0, .ref (c + 1)), (1, .ref u), (2, .int (nI 0))]) ⟨rfl, rfl, rfl, trivial⟩ ?_
  refine on_iload_n (pc' := 3) rfl rfl rfl rfl ?_
  first | refine on_aload_n (pc' := 4) rfl rfl rfl rfl ?_ | refine on_aload_nQ (pc' := 4) rfl rfl rfl rfl ?_
  first | apply on_get (pc' := 7) rfl rfl fl_Circuit_97 | apply on_getN (pc' := 7) rfl rfl fl_Circuit_97
  · repeat (first | assumption | exact on_up_eq _ _ _ | refine (on_up_ne (by omega)).trans ?_)
  · rfl
  refine on_icmp_ge (pc' := 10) (tgt := 84) rfl rfl rfl (fun cq => ?_) (fun cq => ?_)
  · exact absurd cq (by decide)
  · clear cq
    first | refine on_aload_n (pc' := 11) rfl rfl rfl rfl ?_ | refine on_aload_nQ (pc' := 11) rfl rfl rfl rfl ?_
    first | apply on_get (pc' := 14) rfl rfl fl_Circuit_100 | apply on_getN (pc' := 14) rfl rfl fl_Circuit_100
    · repeat (first | assumption | exact on_up_eq _ _ _ | refine (on_up_ne (by omega)).trans ?_)
    · rfl
    refine on_iload_n (pc' := 15) rfl rfl rfl rfl ?_
    apply on_zaloadK (pc' := 16) (t := 2) rfl rfl
    · repeat (first | assumption | exact on_up_eq _ _ _ | refine (on_up_ne (by omega)).trans ?_)
    · rfl
    · first | assumption | exact on_lit _ | rfl
    · first | assumption | omega | decide
    rw [P0]
    refine on_if_eq (pc' := 19) (tgt := 78) rfl rfl rfl (fun cq => ?_) (fun cq => ?_)
    · exact absurd cq (by decide)
    · clear cq
      first | refine on_aload_n (pc' := 20) rfl rfl rfl rfl ?_ | refine on_aload_nQ (pc' := 20) rfl rfl rfl rfl ?_
      first | apply on_get (pc' := 23) rfl rfl fl_Circuit_104 | apply on_getN (pc' := 23) rfl rfl fl_Circuit_104
      · repeat (first | assumption | exact on_up_eq _ _ _ | refine (on_up_ne (by omega)).trans ?_)
      · rfl
      refine on_if_le (pc' := 26) (tgt := 78) rfl rfl rfl (fun cq => ?_) (fun cq => ?_)
      · exact absurd cq (Int32.not_le.mpr (nI_lt (a := 0) hnp.1 (by omega)))
      · clear cq
        first | refine on_aload_n (pc' := 27) rfl rfl rfl rfl ?_ | refine on_aload_nQ (pc' := 27) rfl rfl rfl rfl ?_
        first | apply on_get (pc' := 30) rfl rfl fl_Circuit_45 | apply on_getN (pc' := 30) rfl rfl fl_Circuit_45
        · repeat (first | assumption | exact on_up_eq _ _ _ | refine (on_up_ne (by omega)).trans ?_)
        · rfl
        first | refine on_aload_n (pc' := 31) rfl rfl rfl rfl ?_ | refine on_aload_nQ (pc' := 31) rfl rfl rfl rfl ?_
        first | apply on_get (pc' := 34) rfl rfl fl_Circuit_104 | apply on_getN (pc' := 34) rfl rfl fl_Circuit_104
        · repeat (first | assumption | exact on_up_eq _ _ _ | refine (on_up_ne (by omega)).trans ?_)
        · rfl
        refine on_iconst (pc' := 35) (v := 1) rfl rfl li_1 ?_
        refine on_isub (pc' := 36) rfl rfl ?_
        rw [show nI hp - 1 = nI (hp - 1) from pk_sub (a := hp) (b := 1) hnp.1]
        apply on_aaloadK (pc' := 37) rfl rfl
        · repeat (first | assumption | exact on_up_eq _ _ _ | refine (on_up_ne (by omega)).trans ?_)
        · rfl
        · first | assumption | exact on_lit _ | rfl
        · first | assumption | omega | decide
        rw [f2 (hp - 1) (by omega)]
        show on_E G M_Circuit_sealAll 37 _ [.ref (la (hp - 1))] _ _ _ _ _
        first | refine on_aload_n (pc' := 38) rfl rfl rfl rfl ?_ | refine on_aload_nQ (pc' := 38) rfl rfl rfl rfl ?_
        first | apply on_get (pc' := 41) rfl rfl fl_Circuit_107 | apply on_getN (pc' := 41) rfl rfl fl_Circuit_107
        · repeat (first | assumption | exact on_up_eq _ _ _ | refine (on_up_ne (by omega)).trans ?_)
        · rfl
        refine on_iload_n (pc' := 42) rfl rfl rfl rfl ?_
        apply on_aaloadA (pc' := 43) (k := 0) rfl rfl
        · repeat (first | assumption | exact on_up_eq _ _ _ | refine (on_up_ne (by omega)).trans ?_)
        · rfl
        · rfl
        · exact k4
        show on_E G M_Circuit_sealAll 43 _ [.ref (u + 2), .ref (la (hp - 1))] _ _ _ _ _
        obtain ⟨fs, ob⟩ := (k3 (hp - 1) (by omega)).1.ob
        refine on_callV (pc' := 46) (As := [.ref (u + 2)]) (rest := []) (b := la (hp - 1)) rfl rfl cw_Circuit_sealAll_111 (ob) rfl rfl (Nat.le_of_ble_eq_true rfl) (Nat.zero_le _) (Nat.zero_le _) (c_Lane_sign (k3 (hp - 1) (by omega)).1 T (by omega) (by omega) x1 (by omega) (by omega) X') ?_
        rintro v h2 sz ⟨rfl, rfl, S2, T2, R2, t2⟩
        have c2 := (t2 (c + 1) (by omega) (by omega) (by omega)).trans c0
        have N2 := L.set (h2 := h2) (k := hp - 1) (l := (((f (hp - 1)).1.ms ++ sp_sl (cc 0) 5 135, (f (hp - 1)).1.K, (f (hp - 1)).1.pos), (f (hp - 1)).2)) D (by omega) S2 ((k3 (hp - 1) (by omega)).2.keep (fun b _ _ => t2 b (by omega) (by omega) (by omega))) (t2 _ (by omega) (by omega) (by omega)) (t2 _ (by omega) (by omega) (by omega)) (fun i hi z a a1 a2 => t2 a (by have := (D i hi).1; omega) (by have := D.ne hi (show hp - 1 < hp by omega) z; omega) (by have := (D i hi).1; omega))
        have R3 : rB h2 (u + 2) 140 (ce_p (rc_s (f (hp - 1)).1.ms (cc 0)) (fun k => rc_s (f (hp - 1)).1.ms (cc 0) (5 + k))) := by
          refine rB.to (x := rc_s (f (hp - 1)).1.ms (cc 0)) R2 (fun i hi => ?_)
          unfold ce_p
          by_cases z : i < 5
          · rw [if_pos z]
          · rw [if_neg z]
            dsimp only
            rw [show 5 + (i - 5) = i by omega]
        first | refine on_aload_n (pc' := 47) rfl rfl rfl rfl ?_ | refine on_aload_nQ (pc' := 47) rfl rfl rfl rfl ?_
        first | apply on_get (pc' := 50) rfl rfl fl_Circuit_104 | apply on_getN (pc' := 50) rfl rfl fl_Circuit_104
        · repeat (first | assumption | exact on_up_eq _ _ _ | refine (on_up_ne (by omega)).trans ?_)
        · rfl
        refine on_iconst (pc' := 51) (v := 1) rfl rfl li_1 ?_
        refine on_isub (pc' := 52) rfl rfl ?_
        refine on_istore_n (pc' := 53) rfl rfl rfl (by decide) ?_
        refine on_relv (l := [(0, .ref (c + 1)), (1, .ref u), (2, .int (nI 0)), (3, .int (nI hp - 1))]) ⟨rfl, rfl, rfl, rfl, trivial⟩ (cly_l (h := h2) (y := rc_s (f (hp - 1)).1.ms (cc 0)) D huc.2 ⟨hnp.2.1, hnp.2.2⟩ c2 ((t2 u (by omega) (by omega) (by omega)).trans o1) ((t2 (u + 1) (by omega) (by omega) (by omega)).trans o2) hp _ _ h2 (Nat.le_refl _) (fun h3 L3 Q3 t3 => ?_) N2 R3 (fun _ _ _ => rfl))
        have p1 := (t3 u (by omega) (off _ (by omega))).trans ((t2 u (by omega) (by omega) (by omega)).trans o1)
        refine on_iinc1 (pc' := 81) rfl rfl rfl ?_
        refine on_goto (tgt := 2) rfl rfl ?_
        refine on_relv (l := [(0, .ref (c + 1)), (1, .ref u), (2, .int (nI 1))]) ⟨rfl, rfl, rfl, trivial⟩ ?_
        refine on_iload_n (pc' := 3) rfl rfl rfl rfl ?_
        first | refine on_aload_n (pc' := 4) rfl rfl rfl rfl ?_ | refine on_aload_nQ (pc' := 4) rfl rfl rfl rfl ?_
        first | apply on_get (pc' := 7) rfl rfl fl_Circuit_97 | apply on_getN (pc' := 7) rfl rfl fl_Circuit_97
        · repeat (first | assumption | exact on_up_eq _ _ _ | refine (on_up_ne (by omega)).trans ?_)
        · rfl
        refine on_icmp_ge (pc' := 10) (tgt := 84) rfl rfl rfl (fun cq => ?_) (fun cq => ?_)
        · refine on_vreturn rfl rfl ?_
          refine ⟨rfl, rfl, ?_, L3, T2.keep (fun b b1 b2 => t3 b (by omega) (off _ (by omega))), fun b b1 b2 b3 => (t3 b (by omega) b3).trans (t2 b (by omega) (b3 (hp - 1) (by omega)) (by omega))⟩
          exact O.row (k := 0) (by decide) (by decide) Q3 (fun a a1 a2 a3 => (t3 a a3 (off _ (by omega))).trans (t2 a a3 (by omega) (by omega)))
        · exact absurd (by decide) cq
/-- sealAll: nothing plain -/
theorem c_cseal0 (huc : u + 8 ≤ c) (hn : n ≤ 1) (hC : cr_O c cl hs num ph (nI hp) sc h) (O : ob_S u n cc to pl h) (hpl : n = 1 → pl 0 = false) :
    on_Ct G M_Circuit_sealAll [.ref (c + 1), .ref u] h sz 0 0 (fun v h1 z => v = none ∧ z = sz ∧ h1 = h) := by
  obtain ⟨o1, o2, o3, ⟨T0, o4, o4'⟩, ⟨P, o5, o5'⟩⟩ := id O
  have k4 : (0 : Nat) < 4 ∧ 4 < 2 ^ 31 := by decide
  refine on_Ct.of (by decide) v_Circuit_sealAll (Nat.le_of_ble_eq_true rfl) ?_
  refine on_iconst (pc' := 1) (v := 0) rfl rfl li_0 ?_
  refine on_istore_n (pc' := 2) rfl rfl rfl (by decide) ?_
  refine on_relv (l := [(0, .ref (c + 1)), (1, .ref u), (2, .int (nI 0))]) ⟨rfl, rfl, rfl, trivial⟩ ?_
  rcases (by omega : n = 0 ∨ n = 1) with rfl | rfl
  · refine on_iload_n (pc' := 3) rfl rfl rfl rfl ?_
    first | refine on_aload_n (pc' := 4) rfl rfl rfl rfl ?_ | refine on_aload_nQ (pc' := 4) rfl rfl rfl rfl ?_
    first | apply on_get (pc' := 7) rfl rfl fl_Circuit_97 | apply on_getN (pc' := 7) rfl rfl fl_Circuit_97
    · repeat (first | assumption | exact on_up_eq _ _ _ | refine (on_up_ne (by omega)).trans ?_)
    · rfl
    refine on_icmp_ge (pc' := 10) (tgt := 84) rfl rfl rfl (fun cq => ?_) (fun cq => ?_)
    · refine on_vreturn rfl rfl ?_
      exact ⟨rfl, rfl, rfl⟩
    · exact absurd (by decide) cq
  · have P0 : P 0 = 0 := (o5' 0 (by decide)).trans (if_neg (fun z => by rw [hpl rfl] at z; exact absurd z.2 (by decide)))
    refine on_iload_n (pc' := 3) rfl rfl rfl rfl ?_
    first | refine on_aload_n (pc' := 4) rfl rfl rfl rfl ?_ | refine on_aload_nQ (pc' := 4) rfl rfl rfl rfl ?_
    first | apply on_get (pc' := 7) rfl rfl fl_Circuit_97 | apply on_getN (pc' := 7) rfl rfl fl_Circuit_97
    · repeat (first | assumption | exact on_up_eq _ _ _ | refine (on_up_ne (by omega)).trans ?_)
    · rfl
    refine on_icmp_ge (pc' := 10) (tgt := 84) rfl rfl rfl (fun cq => ?_) (fun cq => ?_)
    · exact absurd cq (by decide)
    · clear cq
      first | refine on_aload_n (pc' := 11) rfl rfl rfl rfl ?_ | refine on_aload_nQ (pc' := 11) rfl rfl rfl rfl ?_
      first | apply on_get (pc' := 14) rfl rfl fl_Circuit_100 | apply on_getN (pc' := 14) rfl rfl fl_Circuit_100
      · repeat (first | assumption | exact on_up_eq _ _ _ | refine (on_up_ne (by omega)).trans ?_)
      · rfl
      refine on_iload_n (pc' := 15) rfl rfl rfl rfl ?_
      apply on_zaloadK (pc' := 16) (t := 2) rfl rfl
      · repeat (first | assumption | exact on_up_eq _ _ _ | refine (on_up_ne (by omega)).trans ?_)
      · rfl
      · first | assumption | exact on_lit _ | rfl
      · first | assumption | omega | decide
      rw [P0]
      refine on_if_eq (pc' := 19) (tgt := 78) rfl rfl rfl (fun cq => ?_) (fun cq => ?_)
      · refine on_iinc1 (pc' := 81) rfl rfl rfl ?_
        refine on_goto (tgt := 2) rfl rfl ?_
        refine on_relv (l := [(0, .ref (c + 1)), (1, .ref u), (2, .int (nI 1))]) ⟨rfl, rfl, rfl, trivial⟩ ?_
        refine on_iload_n (pc' := 3) rfl rfl rfl rfl ?_
        first | refine on_aload_n (pc' := 4) rfl rfl rfl rfl ?_ | refine on_aload_nQ (pc' := 4) rfl rfl rfl rfl ?_
        first | apply on_get (pc' := 7) rfl rfl fl_Circuit_97 | apply on_getN (pc' := 7) rfl rfl fl_Circuit_97
        · repeat (first | assumption | exact on_up_eq _ _ _ | refine (on_up_ne (by omega)).trans ?_)
        · rfl
        refine on_icmp_ge (pc' := 10) (tgt := 84) rfl rfl rfl (fun cq => ?_) (fun cq => ?_)
        · refine on_vreturn rfl rfl ?_
          exact ⟨rfl, rfl, rfl⟩
        · exact absurd (by decide) cq
      · exact absurd rfl cq
end CSL
