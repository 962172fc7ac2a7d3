/-! the reference: a circuit more -/
theorem i_pa_t {nr : Nat} {x y z : Int32} (hn : nr ≤ 6) : i_pa nr x y z = true ↔ (p_i nr x).isSome = true ∧ (y = -1 ∨ (p_i nr y).isSome = true) ∧ (z = -1 ∨ (p_i nr z).isSome = true) ∧ ¬ (y = -1 ∧ ¬ z = -1) ∧ ¬ x = y ∧ ¬ x = z ∧ ¬ (y = z ∧ ¬ y = -1) := by
  have hx : (p_i nr x).isSome = true → ¬ x = -1 := fun h hw => by
    obtain ⟨q, hq⟩ := Option.isSome_iff_exists.mp h
    have := p_i_some (by omega) hq
    rw [hw] at this
    exact absurd this.2.symm ((by decide : ∀ j, j < 6 → ¬ nI j = -1) q (by omega))
  unfold i_pa i_pb i_pc
  simp only [Bool.and_eq_true, Bool.or_eq_true, Bool.not_eq_true', decide_eq_true_eq, Bool.and_eq_false_iff, decide_eq_false_iff_not]
  constructor
  · rintro ⟨⟨h1, h2⟩, h3, h4⟩
    refine ⟨h1, h3.imp_right And.left, h4.imp_right And.left, fun w => ?_, fun w => ?_, fun w => ?_, fun w => ?_⟩
    · rcases h2 with h2 | h2
      · exact h2 w.1
      · exact h2 w.2
    · rcases h3 with h3 | h3
      · exact hx h1 (w.trans h3)
      · exact h3.2 w.symm
    · rcases h4 with h4 | h4
      · exact hx h1 (w.trans h4)
      · exact h4.2.1 w.symm
    · rcases h4 with h4 | h4
      · exact w.2 (w.1.trans h4)
      · exact h4.2.2 w.1.symm
  · rintro ⟨h1, h2, h3, h4, h5, h6, h7⟩
    refine ⟨⟨h1, ?_⟩, h2.imp_right (fun u => ⟨u, fun v => h5 v.symm⟩), ?_⟩
    · by_cases w : y = -1
      · exact Or.inr (fun u => h4 ⟨w, u⟩)
      · exact Or.inl w
    · by_cases u : z = -1
      · exact Or.inl u
      · exact Or.inr ⟨h3.resolve_left u, fun v => h6 v.symm, fun v => h7 ⟨v.symm, fun q => u (v.trans q)⟩⟩
theorem p_i_c {n i : Nat} {x : Int32} (e : p_i n x = some i) : x.toNatClampNeg = i := by
  unfold p_i at e
  split at e
  · exact Option.some.inj e
  · exact nomatch e
theorem q_pa_P {nr : Nat} {x y z : Int32} {F : Nat → Int32} (hn : nr ≤ 6) (e : i_pa nr x y z = true) : ((q_pa x y z).length = if y = -1 then 1 else if z = -1 then 2 else 3) ∧ (∀ j, j < (q_pa x y z).length → upd (upd (upd F 0 x) 1 y) 2 z j = nI ((q_pa x y z).getD j 0)) ∧ x = nI ((q_pa x y z).getD 0 0) := by
  have nn : ∀ {w : Int32} {q : Nat}, p_i nr w = some q → w = nI w.toNatClampNeg := fun {w q} hq => by
    rw [p_i_c hq]
    exact (p_i_some (by omega) hq).2
  obtain ⟨i, hi, ⟨hy, hz⟩ | ⟨j, hj, hy, hz | ⟨m, hm, hz⟩⟩⟩ := i_pa_sp hn e
  · have eq : q_pa x y z = [x.toNatClampNeg] := if_pos hy
    rw [eq, if_pos hy]
    refine ⟨rfl, fun j hj => ?_, nn hi⟩
    obtain rfl : j = 0 := by have hj : j < 1 := hj; omega
    rw [pk_un (by decide), pk_un (by decide), pk_us]
    exact nn hi
  · have eq : q_pa x y z = [x.toNatClampNeg, y.toNatClampNeg] := (if_neg hy).trans (if_pos hz)
    rw [eq, if_neg hy, if_pos hz]
    refine ⟨rfl, fun q hq => ?_, nn hi⟩
    have hq : q < 2 := hq
    rcases (by omega : q = 0 ∨ q = 1) with rfl | rfl
    · rw [pk_un (by decide), pk_un (by decide), pk_us]
      exact nn hi
    · rw [pk_un (by decide), pk_us]
      exact nn hj
  · have eq : q_pa x y z = [x.toNatClampNeg, y.toNatClampNeg, z.toNatClampNeg] := (if_neg hy).trans (if_neg hz)
    rw [eq, if_neg hy, if_neg hz]
    refine ⟨rfl, fun q hq => ?_, nn hi⟩
    have hq : q < 3 := hq
    rcases (by omega : q = 0 ∨ q = 1 ∨ q = 2) with rfl | rfl | rfl
    · rw [pk_un (by decide), pk_un (by decide), pk_us]
      exact nn hi
    · rw [pk_un (by decide), pk_us]
      exact nn hj
    · rw [pk_us]
      exact nn hm
section MCI
variable {G : on_G} {o sz B bc bs c k : Nat} {RA CA : Nat → Nat} {a : aN} {h h1 : on_H} {cl x y z : Int32} {pa : List Nat} {Q : Option Value → on_H → Nat → Prop}
set_option maxHeartbeats 8000000 in
theorem mci_l {fs : List Value} (c0 : h c = some (.inr (16, fs))) (f6 : fs[6]? = some (.ref (c + 2)))
    (kk : ∀ (h2 : on_H) (bc bs : Nat), h2 (c + 2) = some (on_aq 12 3 (fun j => some (c + 11 + 9 * j))) → (∀ j, j < 3 → ml_W (c + 11 + 9 * j) h2) → (∀ b, b < c + 11 → b ≠ c + 2 → h2 b = h b) → on_E G M_M_circuit 210 (on_l [(0, .ref o), (1, .int cl), (2, .int x), (5, .ref c)]) [] h2 (c + 38) bc bs Q) :
    ∀ (m j bc bs : Nat) (h1 : on_H), j + m = 3 → 9 * m ≤ bc → 220 * m ≤ bs → (∃ F : Nat → Option Nat, h1 (c + 2) = some (on_aq 12 3 F) ∧ ∀ i, i < j → F i = some (c + 11 + 9 * i)) → (∀ i, i < j → ml_W (c + 11 + 9 * i) h1) → (∀ b, b < c + 11 → b ≠ c + 2 → h1 b = h b) → on_E G M_M_circuit 183 (on_l [(0, .ref o), (1, .int cl), (2, .int x), (5, .ref c), (6, .int (nI j))]) [] h1 (c + 11 + 9 * j) bc bs Q := by
  intro m
  induction m with
  | zero =>
    intro j bc bs h1 hj _ _ ⟨F, F1, F2⟩ E t
    obtain rfl : j = 3 := by omega
    refine on_iload (pc' := 185) rfl rfl rfl ?_
    refine on_iconst (pc' := 186) (v := 3) rfl rfl li_3 ?_
    refine on_icmp_ge (pc' := 189) (tgt := 210) rfl rfl rfl (fun cq => ?_) (fun cq => ?_)
    · refine on_reQ (g := fun j => some (c + 11 + 9 * j)) F1 F2 ?_
      exact on_relv (l := [(0, .ref o), (1, .int cl), (2, .int x), (5, .ref c)]) ⟨rfl, rfl, rfl, rfl, trivial⟩ (kk _ bc bs (on_up_eq _ _ _) (fun i hi => (E i hi).keep (fun b _ _ => on_up_ne (by omega))) (fun b b1 b2 => (on_up_ne b2).trans (t b b1 b2)))
    · exact absurd (by decide) cq
  | succ m ih =>
    intro j bc bs h1 hj hc hs ⟨F, F1, F2⟩ E t
    have i3 : j < 3 ∧ 3 < 2 ^ 31 := by omega
    have r1 := (t c (by omega) (by omega)).trans c0
    refine on_iload (pc' := 185) rfl rfl rfl ?_
    refine on_iconst (pc' := 186) (v := 3) rfl rfl li_3 ?_
    refine on_icmp_ge (pc' := 189) (tgt := 210) rfl rfl rfl (fun cq => ?_) (fun cq => ?_)
    · exact absurd cq (nI_ge (b := 3) i3.1 (by decide))
    clear cq
    first | refine on_aload (pc' := 191) rfl rfl rfl ?_ | refine on_aloadQ (pc' := 191) rfl rfl rfl ?_
    apply on_getN (pc' := 194) rfl rfl fl_M_478
    · exact r1
    · exact f6
    refine on_iload (pc' := 196) rfl rfl rfl ?_
    refine on_new (pc' := 199) (fs := [.null, .null, .null, .null, .long 0, .long 0]) rfl rfl nw_M_240 (by intro j hj; match j, hj with | 0, _ => rfl | 1, _ => rfl | 2, _ => rfl | 3, _ => rfl | 4, _ => rfl | 5, _ => rfl | j + 6, hj => exact absurd hj (by omega)) (by omega) (by omega) ?_
    refine on_dup (pc' := 200) rfl rfl rfl ?_
    first | refine on_callI (pc' := 203) (As := []) (rest := [.ref (c + 11 + 9 * j), .int (nI j), .ref (c + 2)]) (b := c + 11 + 9 * j) rfl rfl cw_M_circuit_482 rfl rfl (Nat.le_of_ble_eq_true rfl) (by omega) (by omega) (c_MLayer_init (on_up_eq _ _ _) rfl) ?_ | refine on_callIN (pc' := 203) (As := []) (rest := [.ref (c + 11 + 9 * j), .int (nI j), .ref (c + 2)]) (b := c + 11 + 9 * j) rfl rfl cw_M_circuit_482 rfl rfl (Nat.le_of_ble_eq_true rfl) (by omega) (by omega) (c_MLayer_init (on_up_eq _ _ _) rfl) ?_
    rintro v h2 z ⟨rfl, rfl, E2, t2⟩
    have T2 : ∀ b, b < c + 11 + 9 * j → h2 b = h1 b := fun b hb => (t2 b (by omega)).trans (on_up_ne (by omega))
    have F3 := (T2 (c + 2) (by omega)).trans F1
    obtain ⟨⟨d1, d2, y0⟩, -⟩ := id E2
    show on_E G M_M_circuit 203 _ [.ref (c + 11 + 9 * j), .int (nI j), .ref (c + 2)] h2 (c + 11 + 9 * j + 9) _ _ _
    apply on_aastoreK (pc' := 204) rfl rfl
    · repeat (first | assumption | exact on_up_eq _ _ _ | refine (on_up_ne (by omega)).trans ?_)
    rotate_left 2
    · repeat (first | assumption | exact on_up_eq _ _ _ | refine (on_up_ne (by omega)).trans ?_)
    rotate_right 2
    · rfl
    · rfl
    · first | assumption | exact on_lit _ | rfl
    · first | assumption | omega | decide
    refine on_iinc1 (pc' := 207) rfl rfl rfl ?_
    refine on_goto (tgt := 183) rfl rfl ?_
    rw [show c + 11 + 9 * j + 9 = c + 11 + 9 * (j + 1) by omega]
    have g4 : on_up h2 (c + 2) (on_aq 12 3 (va_up F j (some (c + 11 + 9 * j)))) (c + 2) = _ := on_up_eq _ _ _
    have gg : ∀ b, b ≠ c + 2 → on_up h2 (c + 2) (on_aq 12 3 (va_up F j (some (c + 11 + 9 * j)))) b = h2 b := fun b hb => on_up_ne hb
    generalize on_up h2 (c + 2) (on_aq 12 3 (va_up F j (some (c + 11 + 9 * j)))) = g at g4 gg ⊢
    refine on_relv (l := [(0, .ref o), (1, .int cl), (2, .int x), (5, .ref c), (6, .int (nI (j + 1)))]) ⟨rfl, rfl, rfl, rfl, congrArg some (congrArg Value.int (nI_1 j)), trivial⟩ (ih (j + 1) _ _ g (by omega) (by omega) (by omega) ⟨_, g4, fun i hi => ?_⟩ (fun i hi => ?_) (fun b b1 b2 => (gg b b2).trans ((T2 b (by omega)).trans (t b b1 b2))))
    · unfold va_up
      by_cases w : i = j
      · rw [w, if_pos rfl]
      · rw [if_neg w]
        exact F2 i (by omega)
    · by_cases w : i = j
      · rw [w]
        exact E2.keep (fun b _ _ => gg b (by omega))
      · exact (E i (by omega)).keep (fun b _ _ => (gg b (by omega)).trans (T2 b (by omega)))
/-- what the circuit's block holds before it is put among the others -/
def mci_B (o c k : Nat) (x y z : Int32) (nu : Nat) (ln : Int32) (NU : Nat → Int32) (h g : on_H) : Prop := g c = some (.inr (16, [.int (nI (8 + k)), .int (nI (nu + 1)), .ref (c + 1), .int ln, .int 0, .int 0, .ref (c + 2), .ref (c + 3), .int 0, .ref (c + 4), .ref (c + 5), .ref (c + 6), .ref (c + 7), .ref (c + 8), .ref (c + 9), .ref (c + 10)])) ∧ g (c + 1) = some (on_ai 0 3 (upd (upd (upd (fun _ => 0) 0 x) 1 y) 2 z)) ∧ rW g (c + 3) 32 ∧ (g (c + 4) = some (on_ai 0 4 (fun _ => 0)) ∧ g (c + 5) = some (on_ai 0 4 (fun _ => 0)) ∧ g (c + 6) = some (on_ai 0 4 (fun _ => 0)) ∧ g (c + 7) = some (on_ai 0 1600 (fun _ => 0)) ∧ g (c + 8) = some (on_ai 0 4 (fun _ => 0)) ∧ g (c + 9) = some (on_ai 0 8000 (fun _ => 0)) ∧ g (c + 10) = some (on_ai 0 4 (fun _ => 0))) ∧ g (o + 4) = some (on_ai 0 2 (upd NU k (nI (nu + 1)))) ∧ ∀ b, b < c → b ≠ o + 4 → g b = h b
theorem mci_B.keep {nu : Nat} {ln : Int32} {NU : Nat → Int32} {g g2 : on_H} (K : mci_B o c k x y z nu ln NU h g) (ho : o + 42 ≤ c) (e : ∀ b, b < c + 11 → b ≠ c + 2 → g2 b = g b) : mci_B o c k x y z nu ln NU h g2 := by
  obtain ⟨k1, k2, k3, ⟨k4, k5, k6, k7, k8, k9, k10⟩, k11, k12⟩ := K
  exact ⟨(e _ (by omega) (by omega)).trans k1, (e _ (by omega) (by omega)).trans k2, k3.keep (e _ (by omega) (by omega)), ⟨(e _ (by omega) (by omega)).trans k4, (e _ (by omega) (by omega)).trans k5, (e _ (by omega) (by omega)).trans k6, (e _ (by omega) (by omega)).trans k7, (e _ (by omega) (by omega)).trans k8, (e _ (by omega) (by omega)).trans k9, (e _ (by omega) (by omega)).trans k10⟩, (e _ (by omega) (by omega)).trans k11, fun b b1 b2 => (e b (by omega) (by omega)).trans (k12 b b1 b2)⟩
set_option maxHeartbeats 16000000 in
/-- the circuit is put among the others, begins, and its cell goes on its link -/
theorem mci_t {NU : Nat → Int32} {i : Nat} (X : mX o sz RA CA a h) (V : n_V B a) (hk : k < a.nk) (h6 : a.nc < 6) (hn : pa.getD 0 0 = i) (hi : i < a.nr) (hP : ∀ j, j < pa.length → upd (upd (upd (fun _ => 0) 0 (nI i)) 1 y) 2 z j = nI (pa.getD j 0)) (hNU : ∀ j, j < 2 → NU j = if j < a.nk then nI (a.k j).nu else 0)
    (K : mci_B o sz k (nI i) y z (a.k k).nu (nI pa.length) NU h h1) (L2 : h1 (sz + 2) = some (on_aq 12 3 (fun j => some (sz + 11 + 9 * j)))) (L3 : ∀ j, j < 3 → ml_W (sz + 11 + 9 * j) h1)
    (kk : ∀ h2, m_R o sz (sz + 38) RA CA a (n_lk (n_nw a k pa) (n_sd (8 + k) a.lk [(i, ce_k (nI ((a.k k).nu + 1)) 10 (of_b (a.r i).se (an_d (a.k k).se (a.k k).dr)) 68)])) h h2 → Q (some (.int (nI a.nc))) h2 (sz + 38)) :
    on_E G M_M_circuit 210 (on_l [(0, .ref o), (1, .int (nI (8 + k))), (2, .int (nI i)), (5, .ref sz)]) [] h1 (sz + 38) bc bs Q := by
  obtain ⟨⟨nr6, nk2, nc6⟩, v2, v3, v4, v5, v6, v7⟩ := id V
  obtain ⟨x1, x2, ⟨b1, ⟨SD, b2, b2'⟩, ⟨DR, b3, b3'⟩, ⟨NU0, b4, b4'⟩, b5⟩, x4, x5, x6⟩ := id X
  obtain ⟨k1, k2, k3, ⟨k4, k5, k6, k7, k8, k9, k10⟩, k11, k12⟩ := id K
  have so := x4.1
  have ri := x4.2.1 i hi
  have kd : k < 2 := by omega
  have W1 : mw o (nI a.nr, nI a.nk, nI a.nc) h1 := x1.keep (fun b _ _ _ => k12 b (by omega) (by omega))
  have o1 := W1.ob.1
  have c5 := (k12 (o + 5) (by omega) (by omega)).trans b5
  have i6 : a.nc < 6 ∧ 6 < 2 ^ 31 := ⟨h6, by decide⟩
  have ir : i < 6 ∧ 6 < 2 ^ 31 := by omega
  first | refine on_aload_n (pc' := 211) rfl rfl rfl rfl ?_ | refine on_aload_nQ (pc' := 211) rfl rfl rfl rfl ?_
  first | apply on_get (pc' := 214) rfl rfl fl_M_28 | apply on_getN (pc' := 214) rfl rfl fl_M_28
  · repeat (first | assumption | exact on_up_eq _ _ _ | refine (on_up_ne (by omega)).trans ?_)
  · rfl
  first | refine on_aload_n (pc' := 215) rfl rfl rfl rfl ?_ | refine on_aload_nQ (pc' := 215) rfl rfl rfl rfl ?_
  first | apply on_get (pc' := 218) rfl rfl fl_M_459 | apply on_getN (pc' := 218) rfl rfl fl_M_459
  · repeat (first | assumption | exact on_up_eq _ _ _ | refine (on_up_ne (by omega)).trans ?_)
  · rfl
  first | refine on_aload (pc' := 220) rfl rfl rfl ?_ | refine on_aloadQ (pc' := 220) rfl rfl rfl ?_
  apply on_aastoreK (pc' := 221) rfl rfl
  · repeat (first | assumption | exact on_up_eq _ _ _ | refine (on_up_ne (by omega)).trans ?_)
  rotate_left 2
  · repeat (first | assumption | exact on_up_eq _ _ _ | refine (on_up_ne (by omega)).trans ?_)
  rotate_right 2
  · rfl
  · rfl
  · first | assumption | exact on_lit _ | rfl
  · first | assumption | omega | decide
  first | refine on_aload_n (pc' := 222) rfl rfl rfl rfl ?_ | refine on_aload_nQ (pc' := 222) rfl rfl rfl rfl ?_
  refine on_dup (pc' := 223) rfl rfl rfl ?_
  first | apply on_get (pc' := 226) rfl rfl fl_M_459 | apply on_getN (pc' := 226) rfl rfl fl_M_459
  · repeat (first | assumption | exact on_up_eq _ _ _ | refine (on_up_ne (by omega)).trans ?_)
  · rfl
  refine on_iconst (pc' := 227) (v := 1) rfl rfl li_1 ?_
  refine on_iadd (pc' := 228) rfl rfl ?_
  rw [nI_1]
  first | apply on_put (pc' := 231) rfl rfl fp_M_459 | apply on_putN (pc' := 231) rfl rfl fp_M_459
  · repeat (first | assumption | exact on_up_eq _ _ _ | refine (on_up_ne (by omega)).trans ?_)
  · first | rfl | assumption
  · first | rfl | assumption
  · exact Nat.le_of_ble_eq_true rfl
  refine on_gen (P := fun g => g o = some (.inr (17, mo_f o (nI a.nr) (nI a.nk) (nI (a.nc + 1)))) ∧ g (o + 5) = some (on_aq 14 6 (rf (a.nc + 1) (fu CA a.nc sz))) ∧ ∀ b, b ≠ o → b ≠ o + 5 → g b = h1 b) ⟨on_up_eq _ _ _, ?_, fun b c1 c2 => (on_up_ne c1).trans (on_up_ne c2)⟩ (fun g hg => ?_)
  · rw [on_up_ne (by omega), on_up_eq, rf_up]
  obtain ⟨g0, g5, gg⟩ := hg
  have W2 : mw o (nI a.nr, nI a.nk, nI (a.nc + 1)) g := W1.cnt g0 (fun b _ _ => gg b (by omega) (by omega))
  have T2 : ∀ b, b < sz → b ≠ o → b ≠ o + 4 → b ≠ o + 5 → g b = h b := fun b c1 c2 c3 c4 => (gg b c2 c4).trans (k12 b c1 c3)
  have rr := (T2 (o + 1) (by omega) (by omega) (by omega) (by omega)).trans b1
  obtain ⟨n, ord, es, z1, z2⟩ := x5 i hi
  have z1 := z1.keep z2 (h2 := g) (fun b _ _ => T2 b (by omega) (by omega) (by omega) (by omega))
  have MI : mi_S (RA i) (a.r i).se g := ⟨⟨_, _, _, _, _, z1.1⟩, z1.2.2.1, z1.2.2.2.1⟩
  have c0 := (gg sz (by omega) (by omega)).trans k1
  first | refine on_aload_n (pc' := 232) rfl rfl rfl rfl ?_ | refine on_aload_nQ (pc' := 232) rfl rfl rfl rfl ?_
  first | refine on_aload (pc' := 234) rfl rfl rfl ?_ | refine on_aloadQ (pc' := 234) rfl rfl rfl ?_
  first | refine on_aload_n (pc' := 235) rfl rfl rfl rfl ?_ | refine on_aload_nQ (pc' := 235) rfl rfl rfl rfl ?_
  first | apply on_get (pc' := 238) rfl rfl fl_M_9 | apply on_getN (pc' := 238) rfl rfl fl_M_9
  · repeat (first | assumption | exact on_up_eq _ _ _ | refine (on_up_ne (by omega)).trans ?_)
  · rfl
  refine on_iload_n (pc' := 239) rfl rfl rfl rfl ?_
  apply on_aaloadK (pc' := 240) rfl rfl
  · repeat (first | assumption | exact on_up_eq _ _ _ | refine (on_up_ne (by omega)).trans ?_)
  · rfl
  · first | assumption | exact on_lit _ | rfl
  · first | assumption | omega | decide
  rw [rf_at hi]
  show on_E G M_M_circuit 240 _ [.ref (RA i), .ref sz, .ref o] g (sz + 38) _ _ _
  refine on_callV (pc' := 243) (As := [.ref sz, .ref (RA i)]) (rest := []) (b := o) rfl rfl cw_M_circuit_483 (g0) rfl rfl (Nat.le_of_ble_eq_true rfl) (Nat.zero_le _) (Nat.zero_le _) (c_M_begin2 (cl := k) (D := DR) (SD := SD) W2 c0 (k3.keep (gg _ (by omega) (by omega))) ((T2 (o + 2) (by omega) (by omega) (by omega) (by omega)).trans b2) ((T2 (o + 3) (by omega) (by omega) (by omega) (by omega)).trans b3) kd (by omega) MI (by omega) (by omega)) ?_
  rintro v h5 s5 ⟨rfl, rfl, W5, X5, S5, D5, t5⟩
  have sk : SD k = (a.k k).se := b2' k hk
  have dk : DR k = (a.k k).dr := (b3' k kd).trans (if_pos hk)
  rw [sk, dk] at X5 S5
  rw [dk] at D5
  have o5 := W5.ob.1
  have c5' := (t5 sz (by omega) (by omega) (by omega)).trans c0
  have ML : mk_L o a.lk h5 := x2.keep ((t5 _ (by omega) (by omega) (by omega)).trans (T2 _ (by omega) (by omega) (by omega) (by omega))) ((t5 _ (by omega) (by omega) (by omega)).trans (T2 _ (by omega) (by omega) (by omega) (by omega)))
  first | refine on_aload_n (pc' := 244) rfl rfl rfl rfl ?_ | refine on_aload_nQ (pc' := 244) rfl rfl rfl rfl ?_
  refine on_iload_n (pc' := 245) rfl rfl rfl rfl ?_
  refine on_iload_n (pc' := 246) rfl rfl rfl rfl ?_
  first | refine on_aload (pc' := 248) rfl rfl rfl ?_ | refine on_aloadQ (pc' := 248) rfl rfl rfl ?_
  first | apply on_get (pc' := 251) rfl rfl fl_M_469 | apply on_getN (pc' := 251) rfl rfl fl_M_469
  · repeat (first | assumption | exact on_up_eq _ _ _ | refine (on_up_ne (by omega)).trans ?_)
  · rfl
  refine on_bipush (pc' := 253) (v := 10) rfl rfl lb_10 ?_
  first | refine on_aload_n (pc' := 254) rfl rfl rfl rfl ?_ | refine on_aload_nQ (pc' := 254) rfl rfl rfl rfl ?_
  first | apply on_get (pc' := 257) rfl rfl fl_M_79 | apply on_getN (pc' := 257) rfl rfl fl_M_79
  · repeat (first | assumption | exact on_up_eq _ _ _ | refine (on_up_ne (by omega)).trans ?_)
  · rfl
  refine on_bipush (pc' := 259) (v := 68) rfl rfl lb_68 ?_
  refine on_callV (pc' := 262) (As := [.int (nI (8 + k)), .int (nI i), .int (nI ((a.k k).nu + 1)), .int (nI 10), .ref (o + 26), .int (nI 68)]) (rest := []) (b := o) rfl rfl cw_M_circuit_348 (o5) rfl rfl (Nat.le_of_ble_eq_true rfl) (Nat.zero_le _) (Nat.zero_le _) (c_M_lay (x := of_b (a.r i).se (an_d (a.k k).se (a.k k).dr)) (n := 68) (Lq := 68) o5 ML (by omega) (by omega) (by decide) W5.sk (by omega) (by omega) ⟨Nat.le_refl _, by decide⟩ (by decide) (fun f hf => by obtain ⟨f', h1', h2'⟩ := S5; rw [h1'] at hf; cases hf; exact h2')) ?_
  rintro v h6' s6' ⟨rfl, rfl, L6, t6⟩
  have o6 := (t6 o (by omega) (by omega)).trans o5
  first | refine on_aload_n (pc' := 263) rfl rfl rfl rfl ?_ | refine on_aload_nQ (pc' := 263) rfl rfl rfl rfl ?_
  first | apply on_get (pc' := 266) rfl rfl fl_M_459 | apply on_getN (pc' := 266) rfl rfl fl_M_459
  · repeat (first | assumption | exact on_up_eq _ _ _ | refine (on_up_ne (by omega)).trans ?_)
  · rfl
  refine on_iconst (pc' := 267) (v := 1) rfl rfl li_1 ?_
  refine on_isub (pc' := 268) rfl rfl ?_
  rw [show nI (a.nc + 1) - 1 = nI a.nc by rw [← nI_1]; exact Int32.add_sub_cancel _ _]
  refine on_ireturn rfl rfl ?_
  refine kk _ ⟨RA, fu CA a.nc sz, by omega, ⟨W5.keep (fun b _ _ _ => t6 b (by omega) (by omega)), L6, ⟨?_, ⟨SD, ?_, fun j hj => ?_⟩, ⟨_, (t6 _ (by omega) (by omega)).trans D5, fun j hj => ?_⟩, ⟨_, (t6 _ (by omega) (by omega)).trans ((t5 _ (by omega) (by omega) (by omega)).trans ((gg _ (by omega) (by omega)).trans k11)), fun j hj => ?_⟩, ?_⟩, ?_, fun j hj => ?_, fun j hj => ?_⟩, fun b c1 c2 => ?_, fun b c1 c2 => ?_⟩
  · exact (t6 _ (by omega) (by omega)).trans ((t5 _ (by omega) (by omega) (by omega)).trans rr)
  · exact (t6 _ (by omega) (by omega)).trans ((t5 _ (by omega) (by omega) (by omega)).trans ((T2 (o + 2) (by omega) (by omega) (by omega) (by omega)).trans b2))
  · show SD j = (fu a.k k ((a.k k).se, (a.k k).dr + 1, (a.k k).nu + 1) j).se
    by_cases w : j = k
    · rw [w, fu_s]
      exact sk
    · rw [fu_n w]
      exact b2' j hj
  · show upd DR k ((a.k k).dr + 1) j = if j < a.nk then (fu a.k k ((a.k k).se, (a.k k).dr + 1, (a.k k).nu + 1) j).dr else 0
    by_cases w : j = k
    · rw [w, fu_s, pk_us, if_pos hk]
    · rw [fu_n w, pk_un w]
      exact b3' j hj
  · show upd NU k (nI ((a.k k).nu + 1)) j = if j < a.nk then nI (fu a.k k ((a.k k).se, (a.k k).dr + 1, (a.k k).nu + 1) j).nu else 0
    by_cases w : j = k
    · rw [w, fu_s, pk_us, if_pos hk]
    · rw [fu_n w, pk_un w]
      exact hNU j hj
  · exact (t6 _ (by omega) (by omega)).trans ((t5 _ (by omega) (by omega) (by omega)).trans g5)
  · obtain ⟨d1, d2, d3, d4, d5, d6⟩ := x4
    have fi : ∀ i, i < a.nc + 1 → fu CA a.nc sz i = sz ∧ i = a.nc ∨ fu CA a.nc sz i = CA i ∧ i < a.nc := fun i hi => by
      by_cases w : i = a.nc
      · exact Or.inl ⟨by rw [w, fu_s], w⟩
      · exact Or.inr ⟨fu_n w, by omega⟩
    refine ⟨by omega, fun i hi => ?_, fun i hi => ?_, d4, fun i j hi hj ne => ?_, fun i j hi hj => ?_⟩
    · have := d2 i hi
      omega
    · rcases fi i hi with ⟨e, -⟩ | ⟨e, w⟩
      · rw [e]
        omega
      · have := d3 i w
        rw [e]
        omega
    · rcases fi i hi with ⟨e, w⟩ | ⟨e, w⟩
      · rcases fi j hj with ⟨e2, w2⟩ | ⟨e2, w2⟩
        · omega
        · have := d3 j w2
          rw [e, e2]
          omega
      · rcases fi j hj with ⟨e2, w2⟩ | ⟨e2, w2⟩
        · have := d3 i w
          rw [e, e2]
          omega
        · rw [e, e2]
          exact d5 i j w w2 ne
    · have := d2 i hi
      rcases fi j hj with ⟨e, w⟩ | ⟨e, w⟩
      · rw [e]
        omega
      · rw [e]
        exact d6 i j hi w
  · obtain ⟨n, ord, es, z1, z2⟩ := x5 j hj
    have rj := x4.2.1 j hj
    exact ⟨n, ord, es, z1.keep z2 (fun b _ _ => (t6 b (by omega) (by omega)).trans ((t5 b (by omega) (by omega) (by omega)).trans (T2 b (by omega) (by omega) (by omega) (by omega)))), z2⟩
  · show mq_S (fu CA a.nc sz j) (fu a.c a.nc (c_nw a k pa) j) h6' ∧ (fu a.c a.nc (c_nw a k pa) j).hp ≤ 3
    have hj : j < a.nc + 1 := hj
    by_cases w : j = a.nc
    · rw [w, fu_s, fu_s]
      have U : ∀ b, sz ≤ b → b ≠ sz + 3 → h6' b = h1 b := fun b c1 c2 => (t6 b (by omega) (by omega)).trans ((t5 b c2 (by omega) (by omega)).trans (gg b (by omega) (by omega)))
      refine ⟨⟨(U _ (by omega) (by omega)).trans k1, ⟨_, (U _ (by omega) (by omega)).trans k2, hP⟩, ⟨(U _ (by omega) (by omega)).trans L2, fun i hi => (L3 i hi).keep (fun b _ _ => U b (by omega) (by omega)), fun i hi => absurd hi (Nat.not_lt_zero i)⟩, X5.keep (t6 _ (by omega) (by omega)), ⟨_, _, _, _, _, _, _, ⟨(U _ (by omega) (by omega)).trans k4, (U _ (by omega) (by omega)).trans k5, (U _ (by omega) (by omega)).trans k6, (U _ (by omega) (by omega)).trans k7, (U _ (by omega) (by omega)).trans k8, (U _ (by omega) (by omega)).trans k9, (U _ (by omega) (by omega)).trans k10⟩, Nat.zero_le _, fun i hi => absurd hi (Nat.not_lt_zero i), fun i _ => ⟨rfl, rfl, Nat.zero_le _, rfl, Nat.zero_le _, fun j hj => absurd hj (Nat.not_lt_zero j), fun j hj => absurd hj (Nat.not_lt_zero j)⟩⟩⟩, Nat.zero_le _⟩
    · have cj := x4.2.2.1 j (by omega)
      rw [fu_n w, fu_n w]
      exact ⟨(x6 j (by omega)).1.keep (x6 j (by omega)).2 (fun b _ _ => (t6 b (by omega) (by omega)).trans ((t5 b (by omega) (by omega) (by omega)).trans (T2 b (by omega) (by omega) (by omega) (by omega)))), (x6 j (by omega)).2⟩
  · have ob : b < o ∨ o + 42 ≤ b := by
      rcases Nat.lt_or_ge b o with w | w
      · exact Or.inl w
      · rcases Nat.lt_or_ge b (o + 42) with u | u
        · exact absurd (Or.inl ⟨w, u⟩) c2
        · exact Or.inr u
    exact (t6 b (by omega) (by omega)).trans ((t5 b (by omega) (by omega) (by omega)).trans (T2 b (by omega) (by omega) (by omega) (by omega)))
  · rcases c2 with c2 | c2 | ⟨i, hi, c2⟩
    · exact Or.inl c2
    · exact Or.inr (Or.inl c2)
    · have hi : i < a.nc + 1 := hi
      by_cases w : i = a.nc
      · rw [w, fu_s] at c2
        omega
      · rw [fu_n w] at c2
        exact Or.inr (Or.inr ⟨i, by omega, c2⟩)
set_option maxHeartbeats 16000000 in
/-- the circuit is made -/
theorem mci_m {i : Nat} (X : mX o sz RA CA a h) (V : n_V B a) (hk : k < a.nk) (h6 : a.nc < 6) (hn : pa.getD 0 0 = i) (hi : i < a.nr) (hP : ∀ j, j < pa.length → upd (upd (upd (fun _ => 0) 0 (nI i)) 1 y) 2 z j = nI (pa.getD j 0)) (hl : pa.length = if y = -1 then 1 else if z = -1 then 2 else 3) (hb : 38 ≤ bc ∧ 10334 ≤ bs)
    (kk : ∀ h2, m_R o sz (sz + 38) RA CA a (n_lk (n_nw a k pa) (n_sd (8 + k) a.lk [(i, ce_k (nI ((a.k k).nu + 1)) 10 (of_b (a.r i).se (an_d (a.k k).se (a.k k).dr)) 68)])) h h2 → Q (some (.int (nI a.nc))) h2 (sz + 38)) :
    on_E G M_M_circuit 88 (on_l [(0, .ref o), (1, .int (nI (8 + k))), (2, .int (nI i)), (3, .int y), (4, .int z)]) [] h sz bc bs Q := by
  obtain ⟨⟨nr6, nk2, nc6⟩, v2, v3, v4, v5, v6, v7⟩ := id V
  obtain ⟨x1, x2, ⟨b1, ⟨SD, b2, b2'⟩, ⟨DR, b3, b3'⟩, ⟨NU, b4, b4'⟩, b5⟩, x4, x5, x6⟩ := id X
  have o1 := x1.ob.1
  have so := x4.1
  have kd : k < 2 := by omega
  have e8 : nI (8 + k) - 8 = nI k := (by decide : ∀ c, c < 2 → nI (8 + c) - 8 = nI c) k kd
  have i2 : k < 2 ∧ 2 < 2 ^ 31 := ⟨kd, by decide⟩
  have nk : NU k = nI (a.k k).nu := (b4' k kd).trans (if_pos hk)
  refine on_new (pc' := 91) (fs := [.int 0, .int 0, .null, .int 0, .int 0, .int 0, .null, .null, .int 0, .null, .null, .null, .null, .null, .null, .null]) rfl rfl nw_M_26 (by intro j hj; match j, hj with | 0, _ => rfl | 1, _ => rfl | 2, _ => rfl | 3, _ => rfl | 4, _ => rfl | 5, _ => rfl | 6, _ => rfl | 7, _ => rfl | 8, _ => rfl | 9, _ => rfl | 10, _ => rfl | 11, _ => rfl | 12, _ => rfl | 13, _ => rfl | 14, _ => rfl | 15, _ => rfl | j + 16, hj => exact absurd hj (by omega)) (by omega) (by omega) ?_
  refine on_dup (pc' := 92) rfl rfl rfl ?_
  first | refine on_callI (pc' := 95) (As := []) (rest := [.ref sz]) (b := sz) rfl rfl cw_M_circuit_468 rfl rfl (Nat.le_of_ble_eq_true rfl) (by omega) (by omega) (c_MCircuit_init (on_up_eq _ _ _) rfl) ?_ | refine on_callIN (pc' := 95) (As := []) (rest := [.ref sz]) (b := sz) rfl rfl cw_M_circuit_468 rfl rfl (Nat.le_of_ble_eq_true rfl) (by omega) (by omega) (c_MCircuit_init (on_up_eq _ _ _) rfl) ?_
  rintro v h1 s1 ⟨rfl, rfl, C0, C1, C2, C3, C4, C5, C6, C7, C8, C9, C10, t1⟩
  have T1 : ∀ b, b < sz → h1 b = h b := fun b hb => (t1 b (by omega)).trans (on_up_ne (by omega))
  have o2 := (T1 o (by omega)).trans o1
  have n2 := (T1 (o + 4) (by omega)).trans b4
  show on_E G M_M_circuit 95 _ [.ref sz] h1 (sz + 11) _ _ _
  first | refine on_astore (pc' := 97) rfl rfl (by decide) ?_ | refine on_astoreQ (pc' := 97) rfl rfl (by decide) ?_
  first | refine on_aload (pc' := 99) rfl rfl rfl ?_ | refine on_aloadQ (pc' := 99) rfl rfl rfl ?_
  refine on_iload_n (pc' := 100) rfl rfl rfl rfl ?_
  first | apply on_put (pc' := 103) rfl rfl fp_M_462 | apply on_putN (pc' := 103) rfl rfl fp_M_462
  · repeat (first | assumption | exact on_up_eq _ _ _ | refine (on_up_ne (by omega)).trans ?_)
  · first | rfl | assumption
  · first | rfl | assumption
  · exact Nat.le_of_ble_eq_true rfl
  first | refine on_aload_n (pc' := 104) rfl rfl rfl rfl ?_ | refine on_aload_nQ (pc' := 104) rfl rfl rfl rfl ?_
  first | apply on_get (pc' := 107) rfl rfl fl_M_23 | apply on_getN (pc' := 107) rfl rfl fl_M_23
  · repeat (first | assumption | exact on_up_eq _ _ _ | refine (on_up_ne (by omega)).trans ?_)
  · rfl
  refine on_iload_n (pc' := 108) rfl rfl rfl rfl ?_
  refine on_bipush (pc' := 110) (v := 8) rfl rfl lb_8 ?_
  refine on_isub (pc' := 111) rfl rfl ?_
  rw [e8]
  first | refine on_dup2_11 (pc' := 112) rfl rfl rfl rfl ?_ | refine on_dup2_2 (pc' := 112) rfl rfl rfl ?_
  apply on_ialoadK (pc' := 113) (t := 0) rfl rfl
  · repeat (first | assumption | exact on_up_eq _ _ _ | refine (on_up_ne (by omega)).trans ?_)
  · rfl
  · first | assumption | exact on_lit _ | rfl
  · first | assumption | omega | decide
  refine on_iconst (pc' := 114) (v := 1) rfl rfl li_1 ?_
  refine on_iadd (pc' := 115) rfl rfl ?_
  rw [show NU k + 1 = nI ((a.k k).nu + 1) by rw [nk, nI_1]]
  apply on_iastoreK (pc' := 116) (t := 0) rfl rfl
  · repeat (first | assumption | exact on_up_eq _ _ _ | refine (on_up_ne (by omega)).trans ?_)
  · rfl
  · first | assumption | exact on_lit _ | rfl
  · first | assumption | omega | decide
  first | refine on_aload (pc' := 118) rfl rfl rfl ?_ | refine on_aloadQ (pc' := 118) rfl rfl rfl ?_
  first | refine on_aload_n (pc' := 119) rfl rfl rfl rfl ?_ | refine on_aload_nQ (pc' := 119) rfl rfl rfl rfl ?_
  first | apply on_get (pc' := 122) rfl rfl fl_M_23 | apply on_getN (pc' := 122) rfl rfl fl_M_23
  · repeat (first | assumption | exact on_up_eq _ _ _ | refine (on_up_ne (by omega)).trans ?_)
  · rfl
  refine on_iload_n (pc' := 123) rfl rfl rfl rfl ?_
  refine on_bipush (pc' := 125) (v := 8) rfl rfl lb_8 ?_
  refine on_isub (pc' := 126) rfl rfl ?_
  rw [e8]
  apply on_ialoadK (pc' := 127) (t := 0) rfl rfl
  · repeat (first | assumption | exact on_up_eq _ _ _ | refine (on_up_ne (by omega)).trans ?_)
  · rfl
  · first | assumption | exact on_lit _ | rfl
  · first | assumption | omega | decide
  rw [pk_us]
  first | apply on_put (pc' := 130) rfl rfl fp_M_469 | apply on_putN (pc' := 130) rfl rfl fp_M_469
  · repeat (first | assumption | exact on_up_eq _ _ _ | refine (on_up_ne (by omega)).trans ?_)
  · first | rfl | assumption
  · first | rfl | assumption
  · exact Nat.le_of_ble_eq_true rfl
  first | refine on_aload (pc' := 132) rfl rfl rfl ?_ | refine on_aloadQ (pc' := 132) rfl rfl rfl ?_
  first | apply on_get (pc' := 135) rfl rfl fl_M_472 | apply on_getN (pc' := 135) rfl rfl fl_M_472
  · repeat (first | assumption | exact on_up_eq _ _ _ | refine (on_up_ne (by omega)).trans ?_)
  · rfl
  refine on_iconst (pc' := 136) (v := 0) rfl rfl li_0 ?_
  refine on_iload_n (pc' := 137) rfl rfl rfl rfl ?_
  apply on_iastoreK (pc' := 138) (t := 0) rfl rfl
  · repeat (first | assumption | exact on_up_eq _ _ _ | refine (on_up_ne (by omega)).trans ?_)
  · rfl
  · first | assumption | exact on_lit _ | rfl
  · first | assumption | omega | decide
  first | refine on_aload (pc' := 140) rfl rfl rfl ?_ | refine on_aloadQ (pc' := 140) rfl rfl rfl ?_
  first | apply on_get (pc' := 143) rfl rfl fl_M_472 | apply on_getN (pc' := 143) rfl rfl fl_M_472
  · repeat (first | assumption | exact on_up_eq _ _ _ | refine (on_up_ne (by omega)).trans ?_)
  · rfl
  refine on_iconst (pc' := 144) (v := 1) rfl rfl li_1 ?_
  refine on_iload_n (pc' := 145) rfl rfl rfl rfl ?_
  apply on_iastoreK (pc' := 146) (t := 0) rfl rfl
  · repeat (first | assumption | exact on_up_eq _ _ _ | refine (on_up_ne (by omega)).trans ?_)
  · rfl
  · first | assumption | exact on_lit _ | rfl
  · first | assumption | omega | decide
  first | refine on_aload (pc' := 148) rfl rfl rfl ?_ | refine on_aloadQ (pc' := 148) rfl rfl rfl ?_
  first | apply on_get (pc' := 151) rfl rfl fl_M_472 | apply on_getN (pc' := 151) rfl rfl fl_M_472
  · repeat (first | assumption | exact on_up_eq _ _ _ | refine (on_up_ne (by omega)).trans ?_)
  · rfl
  refine on_iconst (pc' := 152) (v := 2) rfl rfl li_2 ?_
  refine on_iload (pc' := 154) rfl rfl rfl ?_
  apply on_iastoreK (pc' := 155) (t := 0) rfl rfl
  · repeat (first | assumption | exact on_up_eq _ _ _ | refine (on_up_ne (by omega)).trans ?_)
  · rfl
  · first | assumption | exact on_lit _ | rfl
  · first | assumption | omega | decide
  refine on_gen (P := fun g => mci_B o sz k (nI i) y z (a.k k).nu 0 NU h g ∧ g (sz + 2) = some (on_aq 12 3 (fun _ => none))) ⟨⟨?_, ?_, ?_, ⟨?_, ?_, ?_, ?_, ?_, ?_, ?_⟩, ?_, fun b c1 c2 => ?_⟩, ?_⟩ (fun g K => ?_)
  · repeat (first | assumption | exact on_up_eq _ _ _ | refine (on_up_ne (by omega)).trans ?_)
  · repeat (first | assumption | exact on_up_eq _ _ _ | refine (on_up_ne (by omega)).trans ?_)
  · obtain ⟨F3, f3⟩ := C3
    refine ⟨F3, ?_⟩
    repeat (first | assumption | exact on_up_eq _ _ _ | refine (on_up_ne (by omega)).trans ?_)
  · repeat (first | assumption | exact on_up_eq _ _ _ | refine (on_up_ne (by omega)).trans ?_)
  · repeat (first | assumption | exact on_up_eq _ _ _ | refine (on_up_ne (by omega)).trans ?_)
  · repeat (first | assumption | exact on_up_eq _ _ _ | refine (on_up_ne (by omega)).trans ?_)
  · repeat (first | assumption | exact on_up_eq _ _ _ | refine (on_up_ne (by omega)).trans ?_)
  · repeat (first | assumption | exact on_up_eq _ _ _ | refine (on_up_ne (by omega)).trans ?_)
  · repeat (first | assumption | exact on_up_eq _ _ _ | refine (on_up_ne (by omega)).trans ?_)
  · repeat (first | assumption | exact on_up_eq _ _ _ | refine (on_up_ne (by omega)).trans ?_)
  · repeat (first | assumption | exact on_up_eq _ _ _ | refine (on_up_ne (by omega)).trans ?_)
  · refine Eq.trans (b := h1 b) ?_ (T1 b c1)
    repeat (first | assumption | exact on_up_eq _ _ _ | refine (on_up_ne (by omega)).trans ?_)
    all_goals rfl
  · repeat (first | assumption | exact on_up_eq _ _ _ | refine (on_up_ne (by omega)).trans ?_)
  obtain ⟨K, K2⟩ := K
  have c0 := K.1
  have fin : ∀ (n : Int32) (lv : on_V) (bc bs : Nat), 27 ≤ bc → 660 ≤ bs → n = nI pa.length → lv 0 = some (.ref o) → lv 1 = some (.int (nI (8 + k))) → lv 2 = some (.int (nI i)) → lv 5 = some (.ref sz) → on_E G M_M_circuit 177 lv [.int n, .ref sz] g (sz + 11) bc bs Q := fun n lv bc bs hc hs en l0 l1 l2 l5 => by
    subst en
    refine on_relv (l := [(0, .ref o), (1, .int (nI (8 + k))), (2, .int (nI i)), (5, .ref sz)]) ⟨l0, l1, l2, l5, trivial⟩ ?_
    first | apply on_put (pc' := 180) rfl rfl fp_M_475 | apply on_putN (pc' := 180) rfl rfl fp_M_475
    · repeat (first | assumption | exact on_up_eq _ _ _ | refine (on_up_ne (by omega)).trans ?_)
    · first | rfl | assumption
    · first | rfl | assumption
    · exact Nat.le_of_ble_eq_true rfl
    refine on_iconst (pc' := 181) (v := 0) rfl rfl li_0 ?_
    refine on_istore (pc' := 183) rfl rfl (by decide) ?_
    refine on_gen (P := fun g => mci_B o sz k (nI i) y z (a.k k).nu (nI pa.length) NU h g ∧ g (sz + 2) = some (on_aq 12 3 (fun _ => none))) ⟨⟨on_up_eq _ _ _, (on_up_ne (by omega)).trans K.2.1, K.2.2.1.keep (on_up_ne (by omega)), ⟨(on_up_ne (by omega)).trans K.2.2.2.1.1, (on_up_ne (by omega)).trans K.2.2.2.1.2.1, (on_up_ne (by omega)).trans K.2.2.2.1.2.2.1, (on_up_ne (by omega)).trans K.2.2.2.1.2.2.2.1, (on_up_ne (by omega)).trans K.2.2.2.1.2.2.2.2.1, (on_up_ne (by omega)).trans K.2.2.2.1.2.2.2.2.2.1, (on_up_ne (by omega)).trans K.2.2.2.1.2.2.2.2.2.2⟩, (on_up_ne (by omega)).trans K.2.2.2.2.1, fun b c1 c2 => (on_up_ne (by omega)).trans (K.2.2.2.2.2 b c1 c2)⟩, (on_up_ne (by omega)).trans K2⟩ (fun g1 H1 => ?_)
    refine on_relv (l := [(0, .ref o), (1, .int (nI (8 + k))), (2, .int (nI i)), (5, .ref sz), (6, .int (nI 0))]) ⟨rfl, rfl, rfl, rfl, rfl, trivial⟩ (mci_l H1.1.1 rfl (fun h2 bc bs e2 E t => ?_) 3 0 bc bs g1 rfl (by omega) (by omega) ⟨_, H1.2, fun i hi => absurd hi (Nat.not_lt_zero i)⟩ (fun i hi => absurd hi (Nat.not_lt_zero i)) (fun _ _ _ => rfl))
    exact mci_t X V hk h6 hn hi hP b4' (H1.1.keep so t) e2 E kk
  first | refine on_aload (pc' := 157) rfl rfl rfl ?_ | refine on_aloadQ (pc' := 157) rfl rfl rfl ?_
  refine on_iload_n (pc' := 158) rfl rfl rfl rfl ?_
  refine on_iconst (pc' := 159) (v := (-1)) rfl rfl li_m1 ?_
  refine on_icmp_ne (pc' := 162) (tgt := 166) rfl rfl rfl (fun cq => ?_) (fun cq => ?_)
  · have yn : ¬ y = -1 := cq
    clear cq
    rw [if_neg yn] at hl
    refine on_iload (pc' := 168) rfl rfl rfl ?_
    refine on_iconst (pc' := 169) (v := (-1)) rfl rfl li_m1 ?_
    refine on_icmp_ne (pc' := 172) (tgt := 176) rfl rfl rfl (fun cq => ?_) (fun cq => ?_)
    · have zn : ¬ z = -1 := cq
      clear cq
      rw [if_neg zn] at hl
      refine on_iconst (pc' := 177) (v := 3) rfl rfl li_3 ?_
      exact fin _ _ _ _ (by omega) (by omega) (by rw [hl]; rfl) rfl rfl rfl rfl
    · have zn : z = -1 := cq
      clear cq
      rw [if_pos zn] at hl
      refine on_iconst (pc' := 173) (v := 2) rfl rfl li_2 ?_
      refine on_goto (tgt := 177) rfl rfl ?_
      exact fin _ _ _ _ (by omega) (by omega) (by rw [hl]; rfl) rfl rfl rfl rfl
  · have yn : y = -1 := cq
    clear cq
    rw [if_pos yn] at hl
    refine on_iconst (pc' := 163) (v := 1) rfl rfl li_1 ?_
    refine on_goto (tgt := 177) rfl rfl ?_
    exact fin _ _ _ _ (by omega) (by omega) (by rw [hl]; rfl) rfl rfl rfl rfl
set_option maxHeartbeats 16000000 in
theorem c_M_circuit (X : mX o sz RA CA a h) (V : n_V B a) (hb : (q_circuit a cl x y z).2.nc = a.nc + 1 → 38 ≤ bc ∧ 10334 ≤ bs) : on_Ct G M_M_circuit [.ref o, .int cl, .int x, .int y, .int z] h sz bc bs (fun v h1 s => v = some (.int (q_circuit a cl x y z).1) ∧ m_R o sz s RA CA a (q_circuit a cl x y z).2 h h1) := by
  obtain ⟨⟨nr6, nk2, nc6⟩, v2, v3, v4, v5, v6, v7⟩ := id V
  have o1 := X.1.ob.1
  have no : ∀ lv bc bs, q_circuit a cl x y z = (-1, a) → on_E G M_M_circuit 86 lv [] h sz bc bs (fun v h1 s => v = some (.int (q_circuit a cl x y z).1) ∧ m_R o sz s RA CA a (q_circuit a cl x y z).2 h h1) := fun lv bc bs e => by
    refine on_iconst (pc' := 87) (v := (-1)) rfl rfl li_m1 ?_
    refine on_ireturn rfl rfl ?_
    rw [e]
    exact ⟨rfl, m_R.same X⟩
  refine on_Ct.of (by decide) v_M_circuit (Nat.le_of_ble_eq_true rfl) ?_
  first | refine on_aload_n (pc' := 1) rfl rfl rfl rfl ?_ | refine on_aload_nQ (pc' := 1) rfl rfl rfl rfl ?_
  refine on_iload_n (pc' := 2) rfl rfl rfl rfl ?_
  refine on_callV (pc' := 5) (As := [.int cl]) (rest := []) (b := o) rfl rfl cw_M_circuit_281 (o1) rfl rfl (Nat.le_of_ble_eq_true rfl) (Nat.zero_le _) (Nat.zero_le _) (c_M_isClient nk2 o1) ?_
  rintro v h sz ⟨rfl, rfl, rfl⟩
  cases e : p_i a.nk (cl - 8) with
  | none =>
    show on_E G M_M_circuit 5 _ [.int 0] h sz _ _ _
    refine on_if_eq (pc' := 8) (tgt := 86) rfl rfl rfl (fun cq => ?_) (fun cq => ?_)
    · refine no _ _ _ ?_
      unfold q_circuit
      rw [e]
    · exact absurd rfl cq
  | some k =>
    obtain ⟨hk, rfl⟩ := x8_k nk2 e
    have eq : q_circuit a (nI (8 + k)) x y z = if a.nc < 6 ∧ i_pa a.nr x y z = true then (nI a.nc, n_lk (n_nw a k (q_pa x y z)) (n_sd (8 + k) a.lk [((q_pa x y z).getD 0 0, ce_k (nI ((a.k k).nu + 1)) 10 (of_b (a.r ((q_pa x y z).getD 0 0)).se (an_d (a.k k).se (a.k k).dr)) 68)])) else (-1, a) := by
      unfold q_circuit
      rw [e]
    have nop : ∀ lv bc bs, ¬ ((p_i a.nr x).isSome = true ∧ (y = -1 ∨ (p_i a.nr y).isSome = true) ∧ (z = -1 ∨ (p_i a.nr z).isSome = true) ∧ ¬ (y = -1 ∧ ¬ z = -1) ∧ ¬ x = y ∧ ¬ x = z ∧ ¬ (y = z ∧ ¬ y = -1)) → on_E G M_M_circuit 86 lv [] h sz bc bs (fun v h1 s => v = some (.int (q_circuit a (nI (8 + k)) x y z).1) ∧ m_R o sz s RA CA a (q_circuit a (nI (8 + k)) x y z).2 h h1) := fun lv bc bs w => no lv bc bs (eq.trans (if_neg (fun u => w ((i_pa_t nr6).mp u.2))))
    show on_E G M_M_circuit 5 _ [.int 1] h sz _ _ _
    refine on_if_eq (pc' := 8) (tgt := 86) rfl rfl rfl (fun cq => ?_) (fun cq => ?_)
    · exact absurd cq (by decide)
    clear cq
    first | refine on_aload_n (pc' := 9) rfl rfl rfl rfl ?_ | refine on_aload_nQ (pc' := 9) rfl rfl rfl rfl ?_
    first | apply on_get (pc' := 12) rfl rfl fl_M_459 | apply on_getN (pc' := 12) rfl rfl fl_M_459
    · repeat (first | assumption | exact on_up_eq _ _ _ | refine (on_up_ne (by omega)).trans ?_)
    · rfl
    refine on_bipush (pc' := 14) (v := 6) rfl rfl lb_6 ?_
    refine on_icmp_eq (pc' := 17) (tgt := 86) rfl rfl rfl (fun cq => ?_) (fun cq => ?_)
    · have c6 : a.nc = 6 := (nI_eq (a := a.nc) (b := 6) (by omega) (by decide)).mp cq
      exact no _ _ _ (eq.trans (if_neg (fun w => by omega)))
    have c6 : a.nc < 6 := by
      rcases Nat.lt_or_ge a.nc 6 with w | w
      · exact w
      · exact absurd (by rw [show a.nc = 6 by omega]; rfl) cq
    clear cq
    have c88 : i_pa a.nr x y z = true → ∀ lv, lv 0 = some (.ref o) → lv 1 = some (.int (nI (8 + k))) → lv 2 = some (.int x) → lv 3 = some (.int y) → lv 4 = some (.int z) → on_E G M_M_circuit 88 lv [] h sz bc bs (fun v h1 s => v = some (.int (q_circuit a (nI (8 + k)) x y z).1) ∧ m_R o sz s RA CA a (q_circuit a (nI (8 + k)) x y z).2 h h1) := fun ep lv l0 l1 l2 l3 l4 => by
      rw [if_pos ⟨c6, ep⟩] at eq
      have hb1 := hb (by rw [eq]; rfl)
      rw [eq]
      obtain ⟨pl, pP, px⟩ := q_pa_P (F := fun _ => 0) nr6 ep
      have pr := q_pa_ok nr6 ep
      have p0 := pr.2 0 (by have := pr.1.1; omega)
      refine on_relv (l := [(0, .ref o), (1, .int (nI (8 + k))), (2, .int (nI ((q_pa x y z).getD 0 0))), (3, .int y), (4, .int z)]) ⟨l0, l1, l2.trans (congrArg (fun w => some (Value.int w)) px), l3, l4, trivial⟩ (mci_m X V hk c6 rfl p0 (fun j hj => ?_) pl hb1 (fun h2 R => ⟨rfl, R⟩))
      rw [← px]
      exact pP j hj
    cases e1 : (p_i a.nr x).isSome with
    | false =>
      first | refine on_aload_n (pc' := 18) rfl rfl rfl rfl ?_ | refine on_aload_nQ (pc' := 18) rfl rfl rfl rfl ?_
      refine on_iload_n (pc' := 19) rfl rfl rfl rfl ?_
      refine on_callV (pc' := 22) (As := [.int x]) (rest := []) (b := o) rfl rfl cw_M_circuit_278 (o1) rfl rfl (Nat.le_of_ble_eq_true rfl) (Nat.zero_le _) (Nat.zero_le _) (c_M_isRelay o1) ?_
      rintro v h sz ⟨rfl, rfl, rfl⟩
      rw [e1]
      show on_E G M_M_circuit 22 _ [.int 0] h sz _ _ _
      refine on_if_eq (pc' := 25) (tgt := 86) rfl rfl rfl (fun cq => ?_) (fun cq => ?_)
      · exact nop _ _ _ (fun w => by rw [e1] at w; exact nomatch w.1)
      · exact absurd rfl cq
    | true =>
      have c64 : (y = -1 ∨ (p_i a.nr y).isSome = true) → (z = -1 ∨ (p_i a.nr z).isSome = true) → ¬ (y = -1 ∧ ¬ z = -1) → ∀ lv, lv 0 = some (.ref o) → lv 1 = some (.int (nI (8 + k))) → lv 2 = some (.int x) → lv 3 = some (.int y) → lv 4 = some (.int z) → on_E G M_M_circuit 64 lv [] h sz bc bs (fun v h1 s => v = some (.int (q_circuit a (nI (8 + k)) x y z).1) ∧ m_R o sz s RA CA a (q_circuit a (nI (8 + k)) x y z).2 h h1) := fun hy hz hyz lv l0 l1 l2 l3 l4 => by
        refine on_relv (l := [(0, .ref o), (1, .int (nI (8 + k))), (2, .int x), (3, .int y), (4, .int z)]) ⟨l0, l1, l2, l3, l4, trivial⟩ ?_
        refine on_iload_n (pc' := 65) rfl rfl rfl rfl ?_
        refine on_iload_n (pc' := 66) rfl rfl rfl rfl ?_
        refine on_icmp_eq (pc' := 69) (tgt := 86) rfl rfl rfl (fun cq => ?_) (fun cq => ?_)
        · exact nop _ _ _ (fun w => w.2.2.2.2.1 cq)
        have w5 := cq
        clear cq
        refine on_iload_n (pc' := 70) rfl rfl rfl rfl ?_
        refine on_iload (pc' := 72) rfl rfl rfl ?_
        refine on_icmp_eq (pc' := 75) (tgt := 86) rfl rfl rfl (fun cq => ?_) (fun cq => ?_)
        · exact nop _ _ _ (fun w => w.2.2.2.2.2.1 cq)
        have w6 := cq
        clear cq
        refine on_iload_n (pc' := 76) rfl rfl rfl rfl ?_
        refine on_iload (pc' := 78) rfl rfl rfl ?_
        refine on_icmp_ne (pc' := 81) (tgt := 88) rfl rfl rfl (fun cq => ?_) (fun cq => ?_)
        · exact c88 ((i_pa_t nr6).mpr ⟨e1, hy, hz, hyz, w5, w6, fun w => cq w.1⟩) _ rfl rfl rfl rfl rfl
        have w7 := cq
        clear cq
        refine on_iload_n (pc' := 82) rfl rfl rfl rfl ?_
        refine on_iconst (pc' := 83) (v := (-1)) rfl rfl li_m1 ?_
        refine on_icmp_eq (pc' := 86) (tgt := 88) rfl rfl rfl (fun cq => ?_) (fun cq => ?_)
        · exact c88 ((i_pa_t nr6).mpr ⟨e1, hy, hz, hyz, w5, w6, fun w => w.2 cq⟩) _ rfl rfl rfl rfl rfl
        · exact nop _ _ _ (fun w => w.2.2.2.2.2.2 ⟨w7, cq⟩)
      have c53 : (y = -1 ∨ (p_i a.nr y).isSome = true) → (z = -1 ∨ (p_i a.nr z).isSome = true) → ∀ lv, lv 0 = some (.ref o) → lv 1 = some (.int (nI (8 + k))) → lv 2 = some (.int x) → lv 3 = some (.int y) → lv 4 = some (.int z) → on_E G M_M_circuit 53 lv [] h sz bc bs (fun v h1 s => v = some (.int (q_circuit a (nI (8 + k)) x y z).1) ∧ m_R o sz s RA CA a (q_circuit a (nI (8 + k)) x y z).2 h h1) := fun hy hz lv l0 l1 l2 l3 l4 => by
        refine on_relv (l := [(0, .ref o), (1, .int (nI (8 + k))), (2, .int x), (3, .int y), (4, .int z)]) ⟨l0, l1, l2, l3, l4, trivial⟩ ?_
        refine on_iload_n (pc' := 54) rfl rfl rfl rfl ?_
        refine on_iconst (pc' := 55) (v := (-1)) rfl rfl li_m1 ?_
        refine on_icmp_ne (pc' := 58) (tgt := 64) rfl rfl rfl (fun cq => ?_) (fun cq => ?_)
        · exact c64 hy hz (fun w => cq w.1) _ rfl rfl rfl rfl rfl
        have w5 : y = -1 := cq
        clear cq
        refine on_iload (pc' := 60) rfl rfl rfl ?_
        refine on_iconst (pc' := 61) (v := (-1)) rfl rfl li_m1 ?_
        refine on_icmp_ne (pc' := 64) (tgt := 86) rfl rfl rfl (fun cq => ?_) (fun cq => ?_)
        · exact nop _ _ _ (fun w => w.2.2.2.1 ⟨w5, cq⟩)
        · exact c64 hy hz (fun w => w.2 cq) _ rfl rfl rfl rfl rfl
      have c38 : (y = -1 ∨ (p_i a.nr y).isSome = true) → ∀ lv, lv 0 = some (.ref o) → lv 1 = some (.int (nI (8 + k))) → lv 2 = some (.int x) → lv 3 = some (.int y) → lv 4 = some (.int z) → on_E G M_M_circuit 38 lv [] h sz bc bs (fun v h1 s => v = some (.int (q_circuit a (nI (8 + k)) x y z).1) ∧ m_R o sz s RA CA a (q_circuit a (nI (8 + k)) x y z).2 h h1) := fun hy lv l0 l1 l2 l3 l4 => by
        refine on_relv (l := [(0, .ref o), (1, .int (nI (8 + k))), (2, .int x), (3, .int y), (4, .int z)]) ⟨l0, l1, l2, l3, l4, trivial⟩ ?_
        refine on_iload (pc' := 40) rfl rfl rfl ?_
        refine on_iconst (pc' := 41) (v := (-1)) rfl rfl li_m1 ?_
        refine on_icmp_eq (pc' := 44) (tgt := 53) rfl rfl rfl (fun cq => ?_) (fun cq => ?_)
        · exact c53 hy (Or.inl cq) _ rfl rfl rfl rfl rfl
        have w5 : ¬ z = -1 := cq
        clear cq
        cases e2 : (p_i a.nr z).isSome with
        | false =>
          first | refine on_aload_n (pc' := 45) rfl rfl rfl rfl ?_ | refine on_aload_nQ (pc' := 45) rfl rfl rfl rfl ?_
          refine on_iload (pc' := 47) rfl rfl rfl ?_
          refine on_callV (pc' := 50) (As := [.int z]) (rest := []) (b := o) rfl rfl cw_M_circuit_278 (o1) rfl rfl (Nat.le_of_ble_eq_true rfl) (Nat.zero_le _) (Nat.zero_le _) (c_M_isRelay o1) ?_
          rintro v h sz ⟨rfl, rfl, rfl⟩
          rw [e2]
          show on_E G M_M_circuit 50 _ [.int 0] h sz _ _ _
          refine on_if_eq (pc' := 53) (tgt := 86) rfl rfl rfl (fun cq => ?_) (fun cq => ?_)
          · exact nop _ _ _ (fun w => by
              rcases w.2.2.1 with u | u
              · exact w5 u
              · rw [e2] at u
                exact nomatch u)
          · exact absurd rfl cq
        | true =>
          first | refine on_aload_n (pc' := 45) rfl rfl rfl rfl ?_ | refine on_aload_nQ (pc' := 45) rfl rfl rfl rfl ?_
          refine on_iload (pc' := 47) rfl rfl rfl ?_
          refine on_callV (pc' := 50) (As := [.int z]) (rest := []) (b := o) rfl rfl cw_M_circuit_278 (o1) rfl rfl (Nat.le_of_ble_eq_true rfl) (Nat.zero_le _) (Nat.zero_le _) (c_M_isRelay o1) ?_
          rintro v h sz ⟨rfl, rfl, rfl⟩
          rw [e2]
          show on_E G M_M_circuit 50 _ [.int 1] h sz _ _ _
          refine on_if_eq (pc' := 53) (tgt := 86) rfl rfl rfl (fun cq => ?_) (fun cq => ?_)
          · exact absurd cq (by decide)
          · exact c53 hy (Or.inr e2) _ rfl rfl rfl rfl rfl
      first | refine on_aload_n (pc' := 18) rfl rfl rfl rfl ?_ | refine on_aload_nQ (pc' := 18) rfl rfl rfl rfl ?_
      refine on_iload_n (pc' := 19) rfl rfl rfl rfl ?_
      refine on_callV (pc' := 22) (As := [.int x]) (rest := []) (b := o) rfl rfl cw_M_circuit_278 (o1) rfl rfl (Nat.le_of_ble_eq_true rfl) (Nat.zero_le _) (Nat.zero_le _) (c_M_isRelay o1) ?_
      rintro v h sz ⟨rfl, rfl, rfl⟩
      rw [e1]
      show on_E G M_M_circuit 22 _ [.int 1] h sz _ _ _
      refine on_if_eq (pc' := 25) (tgt := 86) rfl rfl rfl (fun cq => ?_) (fun cq => ?_)
      · exact absurd cq (by decide)
      clear cq
      refine on_iload_n (pc' := 26) rfl rfl rfl rfl ?_
      refine on_iconst (pc' := 27) (v := (-1)) rfl rfl li_m1 ?_
      refine on_icmp_eq (pc' := 30) (tgt := 38) rfl rfl rfl (fun cq => ?_) (fun cq => ?_)
      · exact c38 (Or.inl cq) _ rfl rfl rfl rfl rfl
      have w5 : ¬ y = -1 := cq
      clear cq
      cases e2 : (p_i a.nr y).isSome with
      | false =>
        first | refine on_aload_n (pc' := 31) rfl rfl rfl rfl ?_ | refine on_aload_nQ (pc' := 31) rfl rfl rfl rfl ?_
        refine on_iload_n (pc' := 32) rfl rfl rfl rfl ?_
        refine on_callV (pc' := 35) (As := [.int y]) (rest := []) (b := o) rfl rfl cw_M_circuit_278 (o1) rfl rfl (Nat.le_of_ble_eq_true rfl) (Nat.zero_le _) (Nat.zero_le _) (c_M_isRelay o1) ?_
        rintro v h sz ⟨rfl, rfl, rfl⟩
        rw [e2]
        show on_E G M_M_circuit 35 _ [.int 0] h sz _ _ _
        refine on_if_eq (pc' := 38) (tgt := 86) rfl rfl rfl (fun cq => ?_) (fun cq => ?_)
        · exact nop _ _ _ (fun w => by
            rcases w.2.1 with u | u
            · exact w5 u
            · rw [e2] at u
              exact nomatch u)
        · exact absurd rfl cq
      | true =>
        first | refine on_aload_n (pc' := 31) rfl rfl rfl rfl ?_ | refine on_aload_nQ (pc' := 31) rfl rfl rfl rfl ?_
        refine on_iload_n (pc' := 32) rfl rfl rfl rfl ?_
        refine on_callV (pc' := 35) (As := [.int y]) (rest := []) (b := o) rfl rfl cw_M_circuit_278 (o1) rfl rfl (Nat.le_of_ble_eq_true rfl) (Nat.zero_le _) (Nat.zero_le _) (c_M_isRelay o1) ?_
        rintro v h sz ⟨rfl, rfl, rfl⟩
        rw [e2]
        show on_E G M_M_circuit 35 _ [.int 1] h sz _ _ _
        refine on_if_eq (pc' := 38) (tgt := 86) rfl rfl rfl (fun cq => ?_) (fun cq => ?_)
        · exact absurd cq (by decide)
        · exact c38 (Or.inr e2) _ rfl rfl rfl rfl rfl
end MCI
