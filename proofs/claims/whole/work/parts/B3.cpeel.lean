/-! Circuit: peel -/
/-- what peel answers -/
def pe_v (hp : Nat) (k : Option Nat) : Int32 := if k = some (hp - 1) then 1 else 0
theorem rc_ex {ms : List Nat} {x : aB} : ce_p (rc_z x) (fun j => rc_z x (5 + j)) = rc_z x := funext fun i => by
  unfold ce_p
  by_cases z : i < 5
  · rw [if_pos z]
  · rw [if_neg z]
    dsimp only
    rw [show 5 + (i - 5) = i by omega]
section CPE
variable {G : on_G} {c cl hs u q np hp sz bc bs : Nat} {num ph sc : Int32} {la : Nat → Nat} {h : on_H} {Q : Option Value → on_H → Nat → Prop} {y : aB}
/-- the row behind peel: what c_pe says, with the digest's place empty where it was recognized -/
def pe_r (r : (Nat → aL × aL) × aB × Option Nat) : aB := match r.2.2 with | some _ => rc_z r.2.1 | none => r.2.1
set_option maxHeartbeats 8000000 in
theorem cpe_l (D : ls_D c la hp) (hd : hs + 29 ≤ q ∧ q < c) (hnp : hp ≤ np ∧ np < 2 ^ 31) (hC : cr_O c cl hs num ph (nI hp) sc h) :
    ∀ (m k : Nat) (f : Nat → aL × aL) (y : aB) (h1 : on_H), k + m = hp → (∀ i, i < hp → (f i).2.ms.length + 540 < 2 ^ 28) →
    (kk : ∀ h2, ls_S c (hs + 4) np la hp (c_pe f hp m k y).1 h2 → rB h2 q 140 (pe_r (c_pe f hp m k y)) → sh_W (hs + 4) h2 → (∀ b, b ≠ q → (b < hs + 4 ∨ hs + 7 ≤ b) → (∀ i, i < hp → b < la i + 8 ∨ la i + 16 ≤ b) → h2 b = h b) → Q (some (.int (pe_v hp (c_pe f hp m k y).2.2))) h2 sz) →
    ls_S c (hs + 4) np la hp f h1 → rB h1 q 140 y → sh_W (hs + 4) h1 → (∀ b, b ≠ q → (b < hs + 4 ∨ hs + 7 ≤ b) → (∀ i, i < hp → b < la i + 8 ∨ la i + 16 ≤ b) → h1 b = h b) →
    on_E G M_Circuit_peel 2 (on_l [(0, .ref (c + 1)), (1, .ref q), (2, .int (nI k))]) [] h1 sz bc bs Q := by
  have off : ∀ b, b < c + 7 → ∀ i, i < hp → b < la i + 8 ∨ la i + 16 ≤ b := fun b hb i hi => Or.inl (by have := (D i hi).1; omega)
  intro m
  induction m with
  | zero =>
    intro k f y h1 hk hL kk L1 R1 W1 t1
    obtain rfl : k = hp := by omega
    have c1 : h1 (c + 1) = some (.inr (9, [.ref cl, .int num, .ref c, .ref hs, .ref (c + 5), .ref (c + 6), .ref (c + 2), .ref (c + 3), .ref (c + 4), .int ph, .int (nI k), .int sc])) := (t1 _ (by omega) (by omega) (off _ (by omega))).trans hC
    refine on_iload_n (pc' := 3) rfl rfl rfl rfl ?_
    first | refine on_aload_n (pc' := 4) rfl rfl rfl rfl ?_ | refine on_aload_nQ (pc' := 4) rfl rfl rfl rfl ?_
    first | apply on_get (pc' := 7) rfl rfl fl_Circuit_104 | apply on_getN (pc' := 7) rfl rfl fl_Circuit_104
    · repeat (first | assumption | exact on_up_eq _ _ _ | refine (on_up_ne (by omega)).trans ?_)
    · rfl
    refine on_icmp_ge (pc' := 10) (tgt := 55) rfl rfl rfl (fun cq => ?_) (fun cq => ?_)
    · refine on_relv (l := []) trivial ?_
      refine on_iconst (pc' := 56) (v := 0) rfl rfl li_0 ?_
      refine on_zreturn rfl rfl ?_ ?_
      · first | rfl | assumption
      exact kk h1 L1 R1 W1 t1
    · exact absurd (nI_le (a := k) (Nat.le_refl _) (by omega)) cq
  | succ m ih =>
    intro k f y h1 hk hL kk L1 R1 W1 t1
    have c1 : h1 (c + 1) = some (.inr (9, [.ref cl, .int num, .ref c, .ref hs, .ref (c + 5), .ref (c + 6), .ref (c + 2), .ref (c + 3), .ref (c + 4), .int ph, .int (nI hp), .int sc])) := (t1 _ (by omega) (by omega) (off _ (by omega))).trans hC
    obtain ⟨-, ⟨B, b1, b2⟩, k3⟩ := id L1
    obtain ⟨X, x1, X'⟩ := id R1
    have kn : k < np ∧ np < 2 ^ 31 := by omega
    have dk := (D k (by omega)).1
    have kl := hL k (by omega)
    have ep : c_pe f hp (m + 1) k y = if rc_ok (f k).2.ms (ce_p y (cv_p (f k).2.K (f k).2.pos (fun j => y (5 + j)))) then (fu f k ((f k).1, rc_l (cv_l (f k).2) (ce_p y (cv_p (f k).2.K (f k).2.pos (fun j => y (5 + j))))), ce_p y (cv_p (f k).2.K (f k).2.pos (fun j => y (5 + j))), some k) else c_pe (fu f k ((f k).1, cv_l (f k).2)) hp m (k + 1) (ce_p y (cv_p (f k).2.K (f k).2.pos (fun j => y (5 + j)))) := rfl
    refine on_iload_n (pc' := 3) rfl rfl rfl rfl ?_
    first | refine on_aload_n (pc' := 4) rfl rfl rfl rfl ?_ | refine on_aload_nQ (pc' := 4) rfl rfl rfl rfl ?_
    first | apply on_get (pc' := 7) rfl rfl fl_Circuit_104 | apply on_getN (pc' := 7) rfl rfl fl_Circuit_104
    · repeat (first | assumption | exact on_up_eq _ _ _ | refine (on_up_ne (by omega)).trans ?_)
    · rfl
    refine on_icmp_ge (pc' := 10) (tgt := 55) rfl rfl rfl (fun cq => ?_) (fun cq => ?_)
    · exact absurd cq (nI_ge (b := hp) (by omega) (by omega))
    · clear cq
      first | refine on_aload_n (pc' := 11) rfl rfl rfl rfl ?_ | refine on_aload_nQ (pc' := 11) rfl rfl rfl rfl ?_
      first | apply on_get (pc' := 14) rfl rfl fl_Circuit_49 | apply on_getN (pc' := 14) rfl rfl fl_Circuit_49
      · repeat (first | assumption | exact on_up_eq _ _ _ | refine (on_up_ne (by omega)).trans ?_)
      · rfl
      refine on_iload_n (pc' := 15) rfl rfl rfl rfl ?_
      apply on_aaloadK (pc' := 16) rfl rfl
      · repeat (first | assumption | exact on_up_eq _ _ _ | refine (on_up_ne (by omega)).trans ?_)
      · rfl
      · first | assumption | exact on_lit _ | rfl
      · first | assumption | omega | decide
      rw [b2 k (by omega)]
      show on_E G M_Circuit_peel 16 _ [.ref (la k + 8)] _ _ _ _ _
      first | refine on_aload_n (pc' := 17) rfl rfl rfl rfl ?_ | refine on_aload_nQ (pc' := 17) rfl rfl rfl rfl ?_
      obtain ⟨fs, ob⟩ := (k3 k (by omega)).2.ob
      refine on_callV (pc' := 20) (As := [.ref q]) (rest := []) (b := la k + 8) rfl rfl cw_Circuit_peel_115 (ob) rfl rfl (Nat.le_of_ble_eq_true rfl) (Nat.zero_le _) (Nat.zero_le _) (c_Lane_lay (k3 k (by omega)).2.2 x1 (by omega)) ?_
      rintro v h2 sz ⟨rfl, rfl, L2, q2, t2⟩
      have T2 : ∀ b, b ≠ q → (b < la k + 8 ∨ la k + 16 ≤ b) → h2 b = h1 b := fun b b1 b2 => t2 b b1 (by unfold ln_off; omega)
      have M2 : la_A (la k + 8) (hs + 4) (cv_l (f k).2) h2 := ⟨(k3 k (by omega)).2.1.keep (fun b _ _ => t2 b (by omega) (by unfold ln_off; omega)), L2⟩
      obtain ⟨Y, y1, Y'⟩ := ln_ce (x := y) (K := (f k).2.K) (pos := (f k).2.pos) X' q2
      generalize ce_p y (cv_p (f k).2.K (f k).2.pos (fun j => y (5 + j))) = z at Y' ep
      have c2 := (T2 (c + 1) (by omega) (by omega)).trans c1
      have b12 := (T2 (c + 6) (by omega) (by omega)).trans b1
      obtain ⟨fs2, ob2⟩ := M2.ob
      first | refine on_aload_n (pc' := 21) rfl rfl rfl rfl ?_ | refine on_aload_nQ (pc' := 21) rfl rfl rfl rfl ?_
      first | apply on_get (pc' := 24) rfl rfl fl_Circuit_49 | apply on_getN (pc' := 24) rfl rfl fl_Circuit_49
      · repeat (first | assumption | exact on_up_eq _ _ _ | refine (on_up_ne (by omega)).trans ?_)
      · rfl
      refine on_iload_n (pc' := 25) rfl rfl rfl rfl ?_
      apply on_aaloadK (pc' := 26) rfl rfl
      · repeat (first | assumption | exact on_up_eq _ _ _ | refine (on_up_ne (by omega)).trans ?_)
      · rfl
      · first | assumption | exact on_lit _ | rfl
      · first | assumption | omega | decide
      rw [b2 k (by omega)]
      show on_E G M_Circuit_peel 26 _ [.ref (la k + 8)] _ _ _ _ _
      first | refine on_aload_n (pc' := 27) rfl rfl rfl rfl ?_ | refine on_aload_nQ (pc' := 27) rfl rfl rfl rfl ?_
      refine on_callV (pc' := 30) (As := [.ref q]) (rest := []) (b := la k + 8) rfl rfl cw_Circuit_peel_155 (ob2) rfl rfl (Nat.le_of_ble_eq_true rfl) (Nat.zero_le _) (Nat.zero_le _) (c_Lane_recognizes (ms := (f k).2.ms) (K := (f k).2.K) (pos := (f k).2.pos + 135) M2 (W1.keep (fun b _ _ => T2 b (by omega) (by omega))) (by omega) (by omega) y1 (by omega) (by omega) Y') ?_
      rintro v h3 sz ⟨rfl, rfl, L3, W3, Q3, t3⟩
      have T3 : ∀ b, b ≠ q → (b < la k + 8 ∨ la k + 16 ≤ b) → (b < hs + 4 ∨ hs + 7 ≤ b) → h3 b = h1 b := fun b b1 b2 b3 => (t3 b b1 (by omega) (by omega)).trans (T2 b b1 b2)
      have NN : ∀ l, la_A (la k + 8) (hs + 4) l h3 → ls_S c (hs + 4) np la hp (fu f k ((f k).1, l)) h3 := fun l hl => L1.set D (by omega) ((k3 k (by omega)).1.keep (fun b _ _ => T3 b (by omega) (by omega) (by omega))) hl (T3 _ (by omega) (by omega) (by omega)) (T3 _ (by omega) (by omega) (by omega)) (fun i hi z a a1 a2 => T3 a (by have := (D i hi).1; omega) (by have := D.ne hi (show k < hp by omega) z; omega) (by have := (D i hi).1; omega))
      have tt : ∀ b, b ≠ q → (b < hs + 4 ∨ hs + 7 ≤ b) → (∀ i, i < hp → b < la i + 8 ∨ la i + 16 ≤ b) → h3 b = h b := fun b b1 b2 b3 => (T3 b b1 (b3 k (by omega)) b2).trans (t1 b b1 b2 b3)
      by_cases ok : rc_ok (f k).2.ms z = true
      · rw [if_pos ok] at L3 Q3 ⊢
        rw [if_pos ok] at ep
        rw [ep] at kk
        have fin := kk h3 (NN _ L3) Q3 W3 tt
        have c3 := (T3 (c + 1) (by omega) (by omega) (by omega)).trans c1
        refine on_if_eq (pc' := 33) (tgt := 49) rfl rfl rfl (fun cq => ?_) (fun cq => ?_)
        · exact absurd cq (by decide)
        · clear cq
          refine on_iload_n (pc' := 34) rfl rfl rfl rfl ?_
          first | refine on_aload_n (pc' := 35) rfl rfl rfl rfl ?_ | refine on_aload_nQ (pc' := 35) rfl rfl rfl rfl ?_
          first | apply on_get (pc' := 38) rfl rfl fl_Circuit_104 | apply on_getN (pc' := 38) rfl rfl fl_Circuit_104
          · repeat (first | assumption | exact on_up_eq _ _ _ | refine (on_up_ne (by omega)).trans ?_)
          · rfl
          refine on_iconst (pc' := 39) (v := 1) rfl rfl li_1 ?_
          refine on_isub (pc' := 40) rfl rfl ?_
          rw [show nI hp - 1 = nI (hp - 1) from pk_sub (a := hp) (b := 1) (by omega)]
          refine on_icmp_ne (pc' := 43) (tgt := 47) rfl rfl rfl (fun cq => ?_) (fun cq => ?_)
          · have ne : ¬ (some k = some (hp - 1)) := fun z => cq (by rw [Option.some.inj z])
            rw [show pe_v hp (some k) = 0 from if_neg ne] at fin
            refine on_iconst (pc' := 48) (v := 0) rfl rfl li_0 ?_
            refine on_zreturn rfl rfl ?_ ?_
            · first | rfl | assumption
            exact fin
          · have eq : k = hp - 1 := (nI_eq (a := k) (b := hp - 1) (by omega) (by omega)).mp cq
            rw [show pe_v hp (some k) = 1 from if_pos (by rw [eq])] at fin
            refine on_iconst (pc' := 44) (v := 1) rfl rfl li_1 ?_
            refine on_goto (tgt := 48) rfl rfl ?_
            refine on_zreturn rfl rfl ?_ ?_
            · first | rfl | assumption
            exact fin
      · rw [if_neg ok] at L3 Q3 ⊢
        rw [if_neg ok] at ep
        rw [ep] at kk
        refine on_if_eq (pc' := 33) (tgt := 49) rfl rfl rfl (fun cq => ?_) (fun cq => ?_)
        · refine on_iinc1 (pc' := 52) rfl rfl rfl ?_
          refine on_goto (tgt := 2) rfl rfl ?_
          refine on_relv (l := [(0, .ref (c + 1)), (1, .ref q), (2, .int (nI (k + 1)))]) ⟨rfl, rfl, congrArg some (congrArg Value.int (nI_1 k)), trivial⟩ (ih (k + 1) _ z h3 (by omega) (fun i hi => ?_) kk (NN _ L3) Q3 W3 tt)
          by_cases e : i = k
          · subst e
            rw [fu_s]
            exact hL i hi
          · rw [fu_n e]
            exact hL i hi
        · exact absurd rfl cq
/-- peel -/
theorem c_peel {f : Nat → aL × aL} (D : ls_D c la hp) (hd : hs + 29 ≤ q ∧ q < c) (hnp : hp ≤ np ∧ np < 2 ^ 31) (hC : cr_O c cl hs num ph (nI hp) sc h) (hL : ∀ i, i < hp → (f i).2.ms.length + 540 < 2 ^ 28) (L : ls_S c (hs + 4) np la hp f h) (hq : rB h q 140 y) (T : sh_W (hs + 4) h) :
    on_Ct G M_Circuit_peel [.ref (c + 1), .ref q] h sz 0 0 (fun v h1 z => v = some (.int (pe_v hp (c_pe f hp hp 0 y).2.2)) ∧ z = sz ∧ ls_S c (hs + 4) np la hp (c_pe f hp hp 0 y).1 h1 ∧ rB h1 q 140 (pe_r (c_pe f hp hp 0 y)) ∧ sh_W (hs + 4) h1 ∧ ∀ b, b ≠ q → (b < hs + 4 ∨ hs + 7 ≤ b) → (∀ i, i < hp → b < la i + 8 ∨ la i + 16 ≤ b) → h1 b = h b) := by
  refine on_Ct.of (by decide) v_Circuit_peel (Nat.le_of_ble_eq_true rfl) ?_
  refine on_iconst (pc' := 1) (v := 0) rfl rfl li_0 ?_
  refine on_istore_n (pc' := 2) rfl rfl rfl (by decide) ?_
  exact on_relv (l := [(0, .ref (c + 1)), (1, .ref q), (2, .int (nI 0))]) ⟨rfl, rfl, rfl, trivial⟩ (cpe_l (h := h) D hd hnp hC hp 0 f y h (by omega) hL (fun h2 L2 R2 W2 t2 => ⟨rfl, rfl, L2, R2, W2, t2⟩) L hq T (fun _ _ _ _ => rfl))
end CPE
