/-! the reference's circuits: layers taken off -/
def pf_I (q : Option Nat) : Int32 := match q with | none => -1 | some i => nI i
theorem c_pe_lt {hp : Nat} : ∀ (m k : Nat) (f : Nat → aL × aL) (y : aB) (j : Nat), (c_pe f hp m k y).2.2 = some j → j < k + m
  | 0, _, _, _, _, e => nomatch e
  | m + 1, k, f, y, j, e => by
    have ep : c_pe f hp (m + 1) k y = if rc_ok (f k).2.ms (ce_p y (cv_p (f k).2.K (f k).2.pos (fun j => y (5 + j)))) then (fu f k ((f k).1, rc_l (cv_l (f k).2) (ce_p y (cv_p (f k).2.K (f k).2.pos (fun j => y (5 + j))))), ce_p y (cv_p (f k).2.K (f k).2.pos (fun j => y (5 + j))), some k) else c_pe (fu f k ((f k).1, cv_l (f k).2)) hp m (k + 1) (ce_p y (cv_p (f k).2.K (f k).2.pos (fun j => y (5 + j)))) := rfl
    by_cases ok : rc_ok (f k).2.ms (ce_p y (cv_p (f k).2.K (f k).2.pos (fun j => y (5 + j)))) = true
    · rw [ep, if_pos ok] at e
      cases e
      omega
    · rw [ep, if_neg ok] at e
      have := c_pe_lt m (k + 1) _ _ j e
      omega
section MPE
variable {G : on_G} {o c cl nr nk B sz bc bs : Nat} {x3 : Int32 × Int32 × Int32} {F : Nat → Option Nat} {rs : Nat → aR} {SD : Nat → Int64} {D0 : Nat → Int32} {lk lk2 : Nat → List aB} {q q2 : aC} {k k2 : aK} {h h1 : on_H} {Q : Option Value → on_H → Nat → Prop}
set_option maxHeartbeats 8000000 in
theorem mpl_l {hp : Nat} {X : (Nat → aL × aL) × aB × Option Nat} {fs : List Value} (hp3 : hp ≤ 3) (hco : c + 38 ≤ o ∨ o + 42 ≤ c) (hc : h c = some (.inr (16, fs))) (f4 : fs[4]? = some (.int (nI hp))) (f6 : fs[6]? = some (.ref (c + 2)))
    (kk : ∀ h2, mw o x3 h2 → rB h2 (o + 25) 135 (fun j => X.2.1 (5 + j)) → mq_L c hp X.1 h2 → (∀ b, (b < o + 11 ∨ o + 17 ≤ b) → b ≠ o + 18 → b ≠ o + 25 → b ≠ o + 27 → b ≠ o + 28 → (b < c + 11 ∨ c + 38 ≤ b) → h2 b = h b) → on_E G M_M_relayed2 59 (on_l [(0, .ref o), (1, .ref c), (2, .int (pf_I X.2.2))]) [] h2 sz bc bs Q) :
    ∀ (m k : Nat) (la : Nat → aL × aL) (y : aB) (h1 : on_H), k + m = hp → mw o x3 h1 → rB h1 (o + 25) 135 (fun j => y (5 + j)) → mq_L c hp la h1 → (∀ i, k ≤ i → i < hp → lz (la i).2 + 135 < 2 ^ 28) → c_pe la hp m k y = X → (∀ b, (b < o + 11 ∨ o + 17 ≤ b) → b ≠ o + 18 → b ≠ o + 25 → b ≠ o + 27 → b ≠ o + 28 → (b < c + 11 ∨ c + 38 ≤ b) → h1 b = h b) → on_E G M_M_relayed2 8 (on_l [(0, .ref o), (1, .ref c), (2, .int (-1)), (3, .int (nI k))]) [] h1 sz bc bs Q := by
  intro m
  induction m with
  | zero =>
    intro k la y h1 hk W hP hL hb eX t
    subst eX
    have ek : k = hp := by omega
    subst ek
    refine on_iload_n (pc' := 9) rfl rfl rfl rfl ?_
    refine on_aload_n (pc' := 10) rfl rfl rfl rfl ?_
    apply on_getN (pc' := 13) rfl rfl fl_M_486
    · exact (t c (by omega) (by omega) (by omega) (by omega) (by omega) (by omega)).trans hc
    · exact f4
    refine on_icmp_ge (pc' := 16) (tgt := 59) rfl rfl rfl (fun cq => ?_) (fun cq => ?_)
    · exact on_relv (l := [(0, .ref o), (1, .ref c), (2, .int (pf_I none))]) ⟨rfl, rfl, rfl, trivial⟩ (kk h1 W hP hL t)
    · exact absurd (nI_le (a := k) (Nat.le_refl _) (by omega)) cq
  | succ m ih =>
    intro k la y h1 hk W hP hL hb eX t
    have ep : c_pe la hp (m + 1) k y = if rc_ok (la k).2.ms (ce_p y (cv_p (la k).2.K (la k).2.pos (fun j => y (5 + j)))) then (fu la k ((la k).1, rc_l (cv_l (la k).2) (ce_p y (cv_p (la k).2.K (la k).2.pos (fun j => y (5 + j))))), ce_p y (cv_p (la k).2.K (la k).2.pos (fun j => y (5 + j))), some k) else c_pe (fu la k ((la k).1, cv_l (la k).2)) hp m (k + 1) (ce_p y (cv_p (la k).2.K (la k).2.pos (fun j => y (5 + j)))) := rfl
    rw [ep] at eX
    have o1 := W.ob.1
    have i1 : k < 3 ∧ 3 < 2 ^ 31 := by omega
    have l1 := hL.1
    have bz := hb k (Nat.le_refl _) (by omega)
    have z1 := lz_po (la k).2
    have z2 := lz_ms (la k).2
    obtain ⟨mb, m1, m2⟩ := hL.2.2 k (by omega)
    have c1 := (t c (by omega) (by omega) (by omega) (by omega) (by omega) (by omega)).trans hc
    refine on_iload_n (pc' := 9) rfl rfl rfl rfl ?_
    refine on_aload_n (pc' := 10) rfl rfl rfl rfl ?_
    apply on_getN (pc' := 13) rfl rfl fl_M_486
    · exact c1
    · exact f4
    refine on_icmp_ge (pc' := 16) (tgt := 59) rfl rfl rfl (fun cq => ?_) (fun cq => ?_)
    · exact absurd cq (nI_ge (b := hp) (by omega) (by omega))
    clear cq
    refine on_iload_n (pc' := 17) rfl rfl rfl rfl ?_
    refine on_iconst (pc' := 18) (v := (-1)) rfl rfl li_m1 ?_
    refine on_icmp_ne (pc' := 21) (tgt := 59) rfl rfl rfl (fun cq => ?_) (fun cq => ?_)
    · exact absurd rfl cq
    clear cq
    refine on_aload_n (pc' := 22) rfl rfl rfl rfl ?_
    refine on_aload_n (pc' := 23) rfl rfl rfl rfl ?_
    apply on_getN (pc' := 26) rfl rfl fl_M_478
    · exact c1
    · exact f6
    refine on_iload_n (pc' := 27) rfl rfl rfl rfl ?_
    apply on_aaloadK (pc' := 28) rfl rfl
    · repeat (first | assumption | exact on_up_eq _ _ _ | refine (on_up_ne (by omega)).trans ?_)
    · rfl
    · first | assumption | exact on_lit _ | rfl
    · first | assumption | omega | decide
    show on_E G M_M_relayed2 28 _ [.ref (c + 11 + 9 * k), .ref o] h1 sz _ _ _
    refine on_callV (pc' := 31) (As := [.ref (c + 11 + 9 * k)]) (rest := []) (b := o) rfl rfl cw_M_relayed2_407 (o1) rfl rfl (Nat.le_of_ble_eq_true rfl) (Nat.zero_le _) (Nat.zero_le _) (c_M_coverBackwards o1 mb (by omega) (by omega) hP W.bl W.be) ?_
    rintro v h2 sz ⟨rfl, rfl, P2, F2, B2, M2, t2⟩
    have ey : (fun j => ce_p y (cv_p (la k).2.K (la k).2.pos (fun j => y (5 + j))) (5 + j)) = cv_p (la k).2.K (la k).2.pos (fun j => y (5 + j)) := ce_p_pl
    rw [← ey] at P2
    generalize ce_p y (cv_p (la k).2.K (la k).2.pos (fun j => y (5 + j))) = y1 at *
    have W2 : mw o x3 h2 := W.upd (W.ob.keep (t2 _ (by omega) (by omega) (by omega) (by omega)) (t2 _ (by omega) (by omega) (by omega) (by omega))) (W.si.keep (fun a _ _ => t2 a (by omega) (by omega) (by omega) (by omega))) (W.st.keep (fun a _ _ => t2 a (by omega) (by omega) (by omega) (by omega))) (W.dg.keep (t2 _ (by omega) (by omega) (by omega) (by omega))) P2.w F2 B2 (fun a c1 c2 c3 c4 c5 c6 c7 _ => t2 a c5 c6 c7 (by omega))
    have o2 := W2.ob.1
    have c2 := (t2 c (by omega) (by omega) (by omega) (by omega)).trans c1
    have l2 := (t2 (c + 2) (by omega) (by omega) (by omega) (by omega)).trans l1
    have y2 := M2.1
    have mx : ms_X (c + 11 + 9 * k + 4) (la k).2.ms h2 := m2.keep (fun a _ _ => t2 a (by omega) (by omega) (by omega) (by omega))
    refine on_aload_n (pc' := 32) rfl rfl rfl rfl ?_
    refine on_aload_n (pc' := 33) rfl rfl rfl rfl ?_
    apply on_getN (pc' := 36) rfl rfl fl_M_478
    · exact c2
    · exact f6
    refine on_iload_n (pc' := 37) rfl rfl rfl rfl ?_
    apply on_aaloadK (pc' := 38) rfl rfl
    · repeat (first | assumption | exact on_up_eq _ _ _ | refine (on_up_ne (by omega)).trans ?_)
    · rfl
    · first | assumption | exact on_lit _ | rfl
    · first | assumption | omega | decide
    show on_E G M_M_relayed2 38 _ [.ref (c + 11 + 9 * k), .ref o] h2 sz _ _ _
    first | apply on_get (pc' := 41) rfl rfl fl_M_301 | apply on_getN (pc' := 41) rfl rfl fl_M_301
    · repeat (first | assumption | exact on_up_eq _ _ _ | refine (on_up_ne (by omega)).trans ?_)
    · rfl
    refine on_callV (pc' := 44) (As := [.ref (c + 11 + 9 * k + 4)]) (rest := []) (b := o) rfl rfl cw_M_relayed2_417 (o2) rfl rfl (Nat.le_of_ble_eq_true rfl) (Nat.zero_le _) (Nat.zero_le _) (c_M_recognizes W2.ob W2.si W2.st mx (by omega) P2 W2.dg (by omega)) ?_
    rintro v h3 sz ⟨rfl, rfl, O3, I3, T3, X3, D3, t3⟩
    have TT : ∀ b, (b < o + 11 ∨ o + 17 ≤ b) → b ≠ o + 18 → b ≠ o + 25 → b ≠ o + 27 → b ≠ o + 28 → (b < c + 11 + 9 * k ∨ c + 11 + 9 * k + 9 ≤ b) → h3 b = h1 b := fun b c1 c2 c3 c4 c5 c6 => (t3 b c1 c2 (by omega)).trans (t2 b c3 c4 c5 (by omega))
    have W3 : mw o x3 h3 := W2.upd O3 I3 T3 D3 (P2.w.keep (t3 _ (by omega) (by omega) (by omega))) (F2.keep (t3 _ (by omega) (by omega) (by omega))) (B2.keep (t3 _ (by omega) (by omega) (by omega))) (fun a c1 c2 c3 c4 c5 c6 c7 _ => t3 a c3 c4 (by omega))
    have P3 := P2.keep (t3 (o + 25) (by omega) (by omega) (by omega))
    have L3 : mq_L c hp (fu la k ((la k).1, (if rc_ok (la k).2.ms y1 then rc_m (la k).2.ms y1 else (la k).2.ms, (la k).2.K, (la k).2.pos + 135))) h3 := hL.set hp3 i1.1 ⟨M2.keep (fun a ha => t3 a (by omega) (by omega) (by omega)), m1.keep (fun a _ _ => (t3 a (by omega) (by omega) (by omega)).trans (t2 a (by omega) (by omega) (by omega) (by omega))), X3⟩ (TT _ (by omega) (by omega) (by omega) (by omega) (by omega) (by omega)) (fun b _ _ _ => TT b (by omega) (by omega) (by omega) (by omega) (by omega) (by omega))
    have T' : ∀ b, (b < o + 11 ∨ o + 17 ≤ b) → b ≠ o + 18 → b ≠ o + 25 → b ≠ o + 27 → b ≠ o + 28 → (b < c + 11 ∨ c + 38 ≤ b) → h3 b = h b := fun b c1 c2 c3 c4 c5 c6 => (TT b c1 c2 c3 c4 c5 (by omega)).trans (t b c1 c2 c3 c4 c5 c6)
    by_cases ok : rc_ok (la k).2.ms y1 = true
    · rw [if_pos ok] at L3 eX
      subst eX
      rw [if_pos ok]
      show on_E G M_M_relayed2 44 _ [.int 1] h3 sz _ _ _
      refine on_if_eq (pc' := 47) (tgt := 51) rfl rfl rfl (fun cq => ?_) (fun cq => ?_)
      · exact absurd cq (by decide)
      clear cq
      refine on_iload_n (pc' := 48) rfl rfl rfl rfl ?_
      refine on_goto (tgt := 52) rfl rfl ?_
      refine on_istore_n (pc' := 53) rfl rfl rfl (by decide) ?_
      refine on_iinc1 (pc' := 56) rfl rfl rfl ?_
      refine on_goto (tgt := 8) rfl rfl ?_
      rw [nI_1]
      refine on_iload_n (pc' := 9) rfl rfl rfl rfl ?_
      refine on_aload_n (pc' := 10) rfl rfl rfl rfl ?_
      apply on_getN (pc' := 13) rfl rfl fl_M_486
      · exact (T' c (by omega) (by omega) (by omega) (by omega) (by omega) (by omega)).trans hc
      · exact f4
      have fin : ∀ lv, lv 0 = some (.ref o) → lv 1 = some (.ref c) → lv 2 = some (.int (nI k)) → on_E G M_M_relayed2 59 lv [] h3 sz bc bs Q := fun lv l0 l1 l2 => on_relv (l := [(0, .ref o), (1, .ref c), (2, .int (pf_I (some k)))]) ⟨l0, l1, l2, trivial⟩ (kk h3 W3 P3 L3 T')
      refine on_icmp_ge (pc' := 16) (tgt := 59) rfl rfl rfl (fun cq => ?_) (fun cq => ?_)
      · exact fin _ rfl rfl rfl
      clear cq
      refine on_iload_n (pc' := 17) rfl rfl rfl rfl ?_
      refine on_iconst (pc' := 18) (v := (-1)) rfl rfl li_m1 ?_
      refine on_icmp_ne (pc' := 21) (tgt := 59) rfl rfl rfl (fun cq => ?_) (fun cq => ?_)
      · exact fin _ rfl rfl rfl
      · exact absurd cq ((by decide : ∀ f, f < 3 → ¬ nI f = -1) k i1.1)
    · rw [if_neg ok] at L3 eX
      rw [if_neg ok]
      show on_E G M_M_relayed2 44 _ [.int 0] h3 sz _ _ _
      refine on_if_eq (pc' := 47) (tgt := 51) rfl rfl rfl (fun cq => ?_) (fun cq => ?_)
      rotate_left
      · exact absurd rfl cq
      clear cq
      refine on_iconst (pc' := 52) (v := (-1)) rfl rfl li_m1 ?_
      refine on_istore_n (pc' := 53) rfl rfl rfl (by decide) ?_
      refine on_iinc1 (pc' := 56) rfl rfl rfl ?_
      refine on_goto (tgt := 8) rfl rfl ?_
      refine on_relv (l := [(0, .ref o), (1, .ref c), (2, .int (-1)), (3, .int (nI (k + 1)))]) ⟨rfl, rfl, rfl, congrArg some (congrArg Value.int (nI_1 k)), trivial⟩ (ih (k + 1) _ y1 h3 (by omega) W3 P3 L3 (fun i h1 h2 => ?_) eX T')
      rw [fu_n (by omega)]
      exact hb i (by omega) h2
end MPE
