/-! the reference's circuits -/
/-- the rows of the streams -/
def mq_T (st : List aT) (IS WI CA WT WC GT GC : Nat → Int32) : Prop := st.length ≤ 4 ∧ (∀ i, i < st.length → IS i = nI (st.getD i t0).ph ∧ (st.getD i t0).ph ≤ 2 ∧ WI i = (st.getD i t0).wi) ∧ ∀ i, i < 4 → CA i = (st.getD i t0).ca ∧ WC i = nI (st.getD i t0).wa.length ∧ (st.getD i t0).wa.length ≤ 400 ∧ GC i = nI (st.getD i t0).go.length ∧ (st.getD i t0).go.length ≤ 2000 ∧ (∀ j, j < (st.getD i t0).wa.length → WT (400 * i + j) = nI ((st.getD i t0).wa.getD j 0) ∧ (st.getD i t0).wa.getD j 0 < 256) ∧ (∀ j, j < (st.getD i t0).go.length → GT (2000 * i + j) = nI ((st.getD i t0).go.getD j 0) ∧ (st.getD i t0).go.getD j 0 < 256)
def mq_R (c : Nat) (st : List aT) (h : on_H) : Prop := ∃ IS WI CA WT WC GT GC : Nat → Int32, (h (c + 4) = some (on_ai 0 4 IS) ∧ h (c + 5) = some (on_ai 0 4 WI) ∧ h (c + 6) = some (on_ai 0 4 CA) ∧ h (c + 7) = some (on_ai 0 1600 WT) ∧ h (c + 8) = some (on_ai 0 4 WC) ∧ h (c + 9) = some (on_ai 0 8000 GT) ∧ h (c + 10) = some (on_ai 0 4 GC)) ∧ mq_T st IS WI CA WT WC GT GC
def mq_P (c : Nat) (pa : List Nat) (h : on_H) : Prop := ∃ P : Nat → Int32, h (c + 1) = some (on_ai 0 3 P) ∧ ∀ j, j < pa.length → P j = nI (pa.getD j 0)
def mq_L (c hp : Nat) (la : Nat → aL × aL) (h : on_H) : Prop := h (c + 2) = some (on_aq 12 3 (fun i => some (c + 11 + 9 * i))) ∧ (∀ i, i < 3 → ml_W (c + 11 + 9 * i) h) ∧ ∀ i, i < hp → ml_S (c + 11 + 9 * i) (la i).1 (la i).2 h
def mq_O (c : Nat) (q : aC) (h : on_H) : Prop := h c = some (.inr (16, [.int (nI (8 + q.cl)), .int (nI q.nu), .ref (c + 1), .int (nI q.pa.length), .int (nI q.hp), .int (nI q.ph), .ref (c + 2), .ref (c + 3), .int (nI q.st.length), .ref (c + 4), .ref (c + 5), .ref (c + 6), .ref (c + 7), .ref (c + 8), .ref (c + 9), .ref (c + 10)]))
def mq_S (c : Nat) (q : aC) (h : on_H) : Prop := mq_O c q h ∧ mq_P c q.pa h ∧ mq_L c q.hp q.la h ∧ rB h (c + 3) 32 q.x ∧ mq_R c q.st h
theorem mq_P.keep {c : Nat} {pa : List Nat} {h h2 : on_H} (k : mq_P c pa h) (e : h2 (c + 1) = h (c + 1)) : mq_P c pa h2 := by
  obtain ⟨P, p1, p2⟩ := k
  exact ⟨P, e.trans p1, p2⟩
theorem mq_R.keep {c : Nat} {st : List aT} {h h2 : on_H} (k : mq_R c st h) (e : ∀ b, c + 4 ≤ b → b < c + 11 → h2 b = h b) : mq_R c st h2 := by
  obtain ⟨IS, WI, CA, WT, WC, GT, GC, ⟨k1, k2, k3, k4, k5, k6, k7⟩, T⟩ := k
  exact ⟨IS, WI, CA, WT, WC, GT, GC, ⟨(e _ (by omega) (by omega)).trans k1, (e _ (by omega) (by omega)).trans k2, (e _ (by omega) (by omega)).trans k3, (e _ (by omega) (by omega)).trans k4, (e _ (by omega) (by omega)).trans k5, (e _ (by omega) (by omega)).trans k6, (e _ (by omega) (by omega)).trans k7⟩, T⟩
theorem mq_L.keep {c hp : Nat} {la : Nat → aL × aL} {h h2 : on_H} (k : mq_L c hp la h) (hp3 : hp ≤ 3) (e : h2 (c + 2) = h (c + 2)) (e2 : ∀ b, c + 11 ≤ b → b < c + 38 → h2 b = h b) : mq_L c hp la h2 :=
  ⟨e.trans k.1, fun i hi => (k.2.1 i hi).keep (fun a _ _ => e2 a (by omega) (by omega)), fun i hi => (k.2.2 i hi).keep (fun a _ _ => e2 a (by omega) (by omega))⟩
theorem mq_S.keep {c : Nat} {q : aC} {h h2 : on_H} (k : mq_S c q h) (hp3 : q.hp ≤ 3) (e : ∀ b, c ≤ b → b < c + 38 → h2 b = h b) : mq_S c q h2 :=
  ⟨(e _ (by omega) (by omega)).trans k.1, k.2.1.keep (e _ (by omega) (by omega)), k.2.2.1.keep hp3 (e _ (by omega) (by omega)) (fun b _ _ => e b (by omega) (by omega)), k.2.2.2.1.keep (e _ (by omega) (by omega)), k.2.2.2.2.keep (fun b _ _ => e b (by omega) (by omega))⟩
/-- one layer is another -/
theorem mq_L.set {c hp i0 : Nat} {la : Nat → aL × aL} {f b : aL} {h h2 : on_H} (k : mq_L c hp la h) (hp3 : hp ≤ 3) (hi : i0 < 3) (E : ml_S (c + 11 + 9 * i0) f b h2) (e : h2 (c + 2) = h (c + 2)) (e2 : ∀ b, c + 11 ≤ b → b < c + 38 → (b < c + 11 + 9 * i0 ∨ c + 11 + 9 * i0 + 9 ≤ b) → h2 b = h b) : mq_L c hp (fu la i0 (f, b)) h2 := by
  refine ⟨e.trans k.1, fun i h3 => ?_, fun i h3 => ?_⟩
  · by_cases z : i = i0
    · rw [z]
      exact E.w
    · exact (k.2.1 i h3).keep (fun a _ _ => e2 a (by omega) (by omega) (by omega))
  · by_cases z : i = i0
    · rw [z, fu_s]
      exact E
    · rw [fu_n z]
      exact (k.2.2 i h3).keep (fun a _ _ => e2 a (by omega) (by omega) (by omega))
/-- who a relay is -/
def mi_S (R : Nat) (se : Int64) (h : on_H) : Prop := (∃ a1 a2 a3 a4 a5 : Int32, h R = some (.inr (15, [.long se, .int a1, .ref (R + 1), .ref (R + 2), .ref (R + 3), .int a2, .int a3, .ref (R + 4), .int a4, .ref (R + 5), .int a5]))) ∧ rB h (R + 2) 32 (fun i => rs_i se (4 + i)) ∧ ∃ F, h (R + 3) = some (on_ai 0 32 F) ∧ on_by F (rs_i se) 4
theorem mi_S.keep {R : Nat} {se : Int64} {h h2 : on_H} (k : mi_S R se h) (e : ∀ b, R ≤ b → b < R + 6 → h2 b = h b) : mi_S R se h2 := by
  obtain ⟨⟨a1, a2, a3, a4, a5, k1⟩, k2, F, k3, k4⟩ := k
  exact ⟨⟨a1, a2, a3, a4, a5, (e _ (by omega) (by omega)).trans k1⟩, k2.keep (e _ (by omega) (by omega)), F, (e _ (by omega) (by omega)).trans k3, k4⟩
/-- the reference around one circuit -/
def mC (o c cl nr : Nat) (x3 : Int32 × Int32 × Int32) (F : Nat → Option Nat) (rs : Nat → aR) (SD : Nat → Int64) (D0 : Nat → Int32) (lk : Nat → List aB) (q : aC) (k : aK) (h : on_H) : Prop := mw o x3 h ∧ mk_L o lk h ∧ mq_S c q h ∧ (c + 38 ≤ o ∨ o + 42 ≤ c) ∧ h (o + 1) = some (on_aq 13 6 F) ∧ (∀ i, i < nr → ∃ R, F i = some R ∧ mi_S R (rs i).se h ∧ (R + 174 ≤ o ∨ o + 42 ≤ R) ∧ (R + 174 ≤ c ∨ c + 38 ≤ R)) ∧ (h (o + 2) = some (on_al 1 2 SD) ∧ SD cl = k.se) ∧ h (o + 3) = some (on_ai 0 2 (upd D0 cl k.dr)) ∧ q.cl = cl ∧ cl < 2 ∧ q.hp ≤ 3
def mf_C (o c : Nat) (h h1 : on_H) : Prop := ∀ b, (b < o ∨ o + 42 ≤ b ∨ o < b ∧ b < o + 6 ∧ b ≠ o + 3) → (b < c ∨ c + 38 ≤ b) → h1 b = h b
theorem mf_C.trans {o c : Nat} {h h1 h2 : on_H} (a : mf_C o c h h1) (b : mf_C o c h1 h2) : mf_C o c h h2 := fun d c1 c2 => (b d c1 c2).trans (a d c1 c2)
def mZ (o c cl nr : Nat) (x3 : Int32 × Int32 × Int32) (F : Nat → Option Nat) (rs : Nat → aR) (SD : Nat → Int64) (D0 : Nat → Int32) (lk : Nat → List aB) (p : aC × aK × aO) (h h1 : on_H) : Prop := mC o c cl nr x3 F rs SD D0 (n_sd (8 + cl) lk p.2.2) p.1 p.2.1 h1 ∧ mf_C o c h h1
section MQC
variable {G : on_G} {o c cl nr sz bc bs : Nat} {x3 : Int32 × Int32 × Int32} {F : Nat → Option Nat} {rs : Nat → aR} {SD : Nat → Int64} {D0 : Nat → Int32} {lk lk2 : Nat → List aB} {q q2 : aC} {k k2 : aK} {h h1 : on_H} {Q : Option Value → on_H → Nat → Prop}
/-- a step of the circuit -/
theorem mC.chg (K : mC o c cl nr x3 F rs SD D0 lk q k h) (W : mw o x3 h1) (L : mk_L o lk2 h1) (C : mq_S c q2 h1) (D : h1 (o + 3) = some (on_ai 0 2 (upd D0 cl k2.dr))) (e1 : k2.se = k.se) (e2 : q2.cl = q.cl) (hp : q2.hp ≤ 3) (t : ∀ b, (b < o ∨ o + 42 ≤ b ∨ o < b ∧ b < o + 6 ∧ b ≠ o + 3) → (b < c ∨ c + 38 ≤ b) → h1 b = h b) : mC o c cl nr x3 F rs SD D0 lk2 q2 k2 h1 ∧ mf_C o c h h1 := by
  obtain ⟨k1, k2, k3, k4, k5, k6, k7, k8, k9, k10, k11⟩ := K
  refine ⟨⟨W, L, C, k4, (t _ (by omega) (by omega)).trans k5, fun i hi => ?_, ⟨(t _ (by omega) (by omega)).trans k7.1, k7.2.trans e1.symm⟩, D, e2.trans k9, k10, hp⟩, t⟩
  obtain ⟨R, r1, r2, r3, r4⟩ := k6 i hi
  exact ⟨R, r1, r2.keep (fun b _ _ => t b (by omega) (by omega)), r3, r4⟩
/-- only links have changed -/
theorem mC.lnk (K : mC o c cl nr x3 F rs SD D0 lk q k h) (L : mk_L o lk2 h1) (t : ∀ b, b ≠ o + 6 → b ≠ o + 7 → h1 b = h b) : mC o c cl nr x3 F rs SD D0 lk2 q k h1 ∧ mf_C o c h h1 :=
  K.chg (K.1.keep (fun a _ _ _ => t a (by omega) (by omega))) L (K.2.2.1.keep K.2.2.2.2.2.2.2.2.2.2 (fun b _ _ => t b (by have := K.2.2.2.1; omega) (by have := K.2.2.2.1; omega))) ((t _ (by omega) (by omega)).trans K.2.2.2.2.2.2.2.1) rfl rfl K.2.2.2.2.2.2.2.2.2.2 (fun b _ _ => t b (by omega) (by omega))
/-- a working row has changed -/
theorem mC.wrk {a : Nat} (K : mC o c cl nr x3 F rs SD D0 lk q k h) (ha : o + 18 ≤ a ∧ a < o + 29 ∨ a = o + 41) (hr : rW h1 a (mw_n (a - o))) (t : ∀ b, b ≠ a → h1 b = h b) : mC o c cl nr x3 F rs SD D0 lk q k h1 ∧ mf_C o c h h1 :=
  K.chg (K.1.row (fun _ _ => hr) (by omega) t) (K.2.1.keep (t _ (by omega)) (t _ (by omega))) (K.2.2.1.keep K.2.2.2.2.2.2.2.2.2.2 (fun b _ _ => t b (by have := K.2.2.2.1; omega))) ((t _ (by omega)).trans K.2.2.2.2.2.2.2.1) rfl rfl K.2.2.2.2.2.2.2.2.2.2 (fun b _ _ => t b (by omega))
theorem go_D {st : List aT} {i : Nat} : (st.map (fun t => ((2, t.wi, t.ca, t.wa, t.go) : aT))).getD i t0 = if i < st.length then (2, (st.getD i t0).wi, (st.getD i t0).ca, (st.getD i t0).wa, (st.getD i t0).go) else t0 := by
  rw [List.getD_eq_getElem?_getD, List.getElem?_map]
  by_cases z : i < st.length
  · rw [if_pos z, List.getD_eq_getElem?_getD, List.getElem?_eq_getElem z]
    rfl
  · rw [if_neg z, List.getElem?_eq_none (by omega)]
    rfl
theorem mq_T.go {st : List aT} {IS IS2 WI CA WT WC GT GC : Nat → Int32} (T : mq_T st IS WI CA WT WC GT GC) (e : ∀ i, i < st.length → IS2 i = 2) : mq_T (st.map (fun t => ((2, t.wi, t.ca, t.wa, t.go) : aT))) IS2 WI CA WT WC GT GC := by
  obtain ⟨l4, a, b⟩ := T
  have len : (st.map (fun t => ((2, t.wi, t.ca, t.wa, t.go) : aT))).length = st.length := List.length_map _
  refine ⟨by rw [len]; exact l4, fun i hi => ?_, fun i hi => ?_⟩
  · rw [len] at hi
    rw [go_D, if_pos hi]
    exact ⟨e i hi, Nat.le_refl _, (a i hi).2.2⟩
  · rw [go_D]
    by_cases z : i < st.length
    · rw [if_pos z]
      exact b i hi
    · have := b i hi
      have d : st.getD i t0 = t0 := by rw [List.getD_eq_getElem?_getD, List.getElem?_eq_none (by omega)]; rfl
      rw [d] at this
      rw [if_neg z]
      exact this
set_option maxHeartbeats 4000000 in
theorem mgn_l {n : Nat} {fs : List Value} (hn : n ≤ 4) (hc : h c = some (.inr (16, fs))) (f8 : fs[8]? = some (.int (nI n))) (f9 : fs[9]? = some (.ref (c + 4)))
    (kk : ∀ IS : Nat → Int32, (∀ i, i < n → IS i = 2) → on_E G M_M_gone 28 (on_l []) [] (on_up h (c + 4) (on_ai 0 4 IS)) sz bc bs Q) :
    ∀ (m j : Nat) (IS : Nat → Int32), j + m = n → (∀ i, i < j → IS i = 2) → on_E G M_M_gone 7 (on_l [(1, .ref c), (2, .int (nI j))]) [] (on_up h (c + 4) (on_ai 0 4 IS)) sz bc bs Q := by
  intro m
  induction m with
  | zero =>
    intro j IS hj hI
    have ej : j = n := by omega
    subst ej
    refine on_iload_n (pc' := 8) rfl rfl rfl rfl ?_
    refine on_aload_n (pc' := 9) rfl rfl rfl rfl ?_
    apply on_getN (pc' := 12) rfl rfl fl_M_492
    · exact (on_up_ne (by omega)).trans hc
    · exact f8
    refine on_icmp_ge (pc' := 15) (tgt := 28) rfl rfl rfl (fun cq => ?_) (fun cq => ?_)
    · exact on_relv (l := []) trivial (kk IS hI)
    · exact absurd (nI_le (a := j) (Nat.le_refl _) (by omega)) cq
  | succ m ih =>
    intro j IS hj hI
    have i1 : j < 4 ∧ 4 < 2 ^ 31 := by omega
    refine on_iload_n (pc' := 8) rfl rfl rfl rfl ?_
    refine on_aload_n (pc' := 9) rfl rfl rfl rfl ?_
    apply on_getN (pc' := 12) rfl rfl fl_M_492
    · exact (on_up_ne (by omega)).trans hc
    · exact f8
    refine on_icmp_ge (pc' := 15) (tgt := 28) rfl rfl rfl (fun cq => ?_) (fun cq => ?_)
    · exact absurd cq (nI_ge (b := n) (by omega) (by omega))
    · clear cq
      refine on_aload_n (pc' := 16) rfl rfl rfl rfl ?_
      apply on_getN (pc' := 19) rfl rfl fl_M_493
      · exact (on_up_ne (by omega)).trans hc
      · exact f9
      refine on_iload_n (pc' := 20) rfl rfl rfl rfl ?_
      refine on_iconst (pc' := 21) (v := 2) rfl rfl li_2 ?_
      apply on_iastoreK (pc' := 22) (t := 0) rfl rfl
      · repeat (first | assumption | exact on_up_eq _ _ _ | refine (on_up_ne (by omega)).trans ?_)
      · rfl
      · first | assumption | exact on_lit _ | rfl
      · first | assumption | omega | decide
      refine on_iinc1 (pc' := 25) rfl rfl rfl ?_
      refine on_goto (tgt := 7) rfl rfl ?_
      rw [on_up_up]
      refine on_relv (l := [(1, .ref c), (2, .int (nI (j + 1)))]) ⟨rfl, congrArg some (congrArg Value.int (nI_1 j)), trivial⟩ (ih (j + 1) _ (by omega) (fun i hi => ?_))
      by_cases z : i = j
      · rw [z, pk_us]
      · rw [pk_un z]
        exact hI i (by omega)
set_option maxHeartbeats 4000000 in
/-- gone -/
theorem c_M_gone (C : mq_S c q h) (hp : q.hp ≤ 3) : on_Ct G M_M_gone [.ref o, .ref c] h sz 0 0 (fun v h1 z => v = none ∧ z = sz ∧ mq_S c (c_go q) h1 ∧ ∀ b, b ≠ c → b ≠ c + 4 → h1 b = h b) := by
  obtain ⟨c0, c1, c2, c3, ⟨IS, WI, CA, WT, WC, GT, GC, ⟨r1, r2, r3, r4, r5, r6, r7⟩, T⟩⟩ := id C
  have c0 : h c = some (.inr (16, [.int (nI (8 + q.cl)), .int (nI q.nu), .ref (c + 1), .int (nI q.pa.length), .int (nI q.hp), .int (nI q.ph), .ref (c + 2), .ref (c + 3), .int (nI q.st.length), .ref (c + 4), .ref (c + 5), .ref (c + 6), .ref (c + 7), .ref (c + 8), .ref (c + 9), .ref (c + 10)])) := c0
  refine on_Ct.of (by decide) v_M_gone (Nat.le_of_ble_eq_true rfl) ?_
  first | refine on_aload_n (pc' := 1) rfl rfl rfl rfl ?_ | refine on_aload_nQ (pc' := 1) rfl rfl rfl rfl ?_
  refine on_iconst (pc' := 2) (v := 2) rfl rfl li_2 ?_
  first | apply on_put (pc' := 5) rfl rfl fp_M_489 | apply on_putN (pc' := 5) rfl rfl fp_M_489
  · repeat (first | assumption | exact on_up_eq _ _ _ | refine (on_up_ne (by omega)).trans ?_)
  · first | rfl | assumption
  · first | rfl | assumption
  · exact Nat.le_of_ble_eq_true rfl
  refine on_iconst (pc' := 6) (v := 0) rfl rfl li_0 ?_
  refine on_istore_n (pc' := 7) rfl rfl rfl (by decide) ?_
  have g0 : on_up h c (.inr (16, [.int (nI (8 + q.cl)), .int (nI q.nu), .ref (c + 1), .int (nI q.pa.length), .int (nI q.hp), .int 2, .ref (c + 2), .ref (c + 3), .int (nI q.st.length), .ref (c + 4), .ref (c + 5), .ref (c + 6), .ref (c + 7), .ref (c + 8), .ref (c + 9), .ref (c + 10)])) c = _ := on_up_eq _ _ _
  have t0' : ∀ b, b ≠ c → on_up h c (.inr (16, [.int (nI (8 + q.cl)), .int (nI q.nu), .ref (c + 1), .int (nI q.pa.length), .int (nI q.hp), .int 2, .ref (c + 2), .ref (c + 3), .int (nI q.st.length), .ref (c + 4), .ref (c + 5), .ref (c + 6), .ref (c + 7), .ref (c + 8), .ref (c + 9), .ref (c + 10)])) b = h b := fun b hb => on_up_ne hb
  show on_E G M_M_gone 7 _ [] (on_up h c (.inr (16, [.int (nI (8 + q.cl)), .int (nI q.nu), .ref (c + 1), .int (nI q.pa.length), .int (nI q.hp), .int 2, .ref (c + 2), .ref (c + 3), .int (nI q.st.length), .ref (c + 4), .ref (c + 5), .ref (c + 6), .ref (c + 7), .ref (c + 8), .ref (c + 9), .ref (c + 10)]))) sz _ _ _
  generalize on_up h c (.inr (16, [.int (nI (8 + q.cl)), .int (nI q.nu), .ref (c + 1), .int (nI q.pa.length), .int (nI q.hp), .int 2, .ref (c + 2), .ref (c + 3), .int (nI q.st.length), .ref (c + 4), .ref (c + 5), .ref (c + 6), .ref (c + 7), .ref (c + 8), .ref (c + 9), .ref (c + 10)])) = g at g0 t0' ⊢
  have is0 := (t0' (c + 4) (by omega)).trans r1
  have eh : on_up g (c + 4) (on_ai 0 4 IS) = g := funext fun b => by
    by_cases w : b = c + 4
    · rw [w, on_up_eq, is0]
    · exact on_up_ne w
  refine on_relv (l := [(1, .ref c), (2, .int (nI 0))]) ⟨rfl, rfl, trivial⟩ ?_
  rw [← eh]
  refine mgn_l T.1 g0 rfl rfl (fun IS2 hI2 => ?_) q.st.length 0 IS (Nat.zero_add _) (fun i hi => absurd hi (Nat.not_lt_zero i))
  refine on_vreturn rfl rfl ?_
  have tt : ∀ b, b ≠ c → b ≠ c + 4 → on_up g (c + 4) (on_ai 0 4 IS2) b = h b := fun b b1 b2 => (on_up_ne b2).trans (t0' b b1)
  refine ⟨rfl, rfl, ⟨?_, c1.keep (tt _ (by omega) (by omega)), c2.keep hp (tt _ (by omega) (by omega)) (fun b _ _ => tt b (by omega) (by omega)), c3.keep (tt _ (by omega) (by omega)), ⟨IS2, WI, CA, WT, WC, GT, GC, ⟨on_up_eq _ _ _, (tt _ (by omega) (by omega)).trans r2, (tt _ (by omega) (by omega)).trans r3, (tt _ (by omega) (by omega)).trans r4, (tt _ (by omega) (by omega)).trans r5, (tt _ (by omega) (by omega)).trans r6, (tt _ (by omega) (by omega)).trans r7⟩, T.go hI2⟩⟩, tt⟩
  have len : (q.st.map (fun t => ((2, t.wi, t.ca, t.wa, t.go) : aT))).length = q.st.length := List.length_map _
  show on_up g (c + 4) (on_ai 0 4 IS2) c = some (.inr (16, [.int (nI (8 + q.cl)), .int (nI q.nu), .ref (c + 1), .int (nI q.pa.length), .int (nI q.hp), .int (nI 2), .ref (c + 2), .ref (c + 3), .int (nI (q.st.map (fun t => ((2, t.wi, t.ca, t.wa, t.go) : aT))).length), .ref (c + 4), .ref (c + 5), .ref (c + 6), .ref (c + 7), .ref (c + 8), .ref (c + 9), .ref (c + 10)]))
  rw [len]
  exact (on_up_ne (by omega)).trans g0
set_option maxHeartbeats 4000000 in
/-- destroyed -/
theorem c_M_destroyed (K : mC o c cl nr x3 F rs SD D0 lk q k h) (hpa : 0 < q.pa.length) (hp0 : q.pa.getD 0 0 < 10) : on_Ct G M_M_destroyed [.ref o, .ref c] h sz 0 0 (fun v h1 z => v = none ∧ z = sz ∧ mZ o c cl nr x3 F rs SD D0 lk ((c_ds q).1, k, (c_ds q).2) h h1) := by
  obtain ⟨W, L, C, k4, k5, k6, k7, k8, k9, k10, k11⟩ := id K
  have o1 := W.ob.1
  have c0 : h c = some (.inr (16, [.int (nI (8 + q.cl)), .int (nI q.nu), .ref (c + 1), .int (nI q.pa.length), .int (nI q.hp), .int (nI q.ph), .ref (c + 2), .ref (c + 3), .int (nI q.st.length), .ref (c + 4), .ref (c + 5), .ref (c + 6), .ref (c + 7), .ref (c + 8), .ref (c + 9), .ref (c + 10)])) := C.1
  obtain ⟨P, p1, p2⟩ := C.2.1
  refine on_Ct.of (by decide) v_M_destroyed (Nat.le_of_ble_eq_true rfl) ?_
  first | refine on_aload_n (pc' := 1) rfl rfl rfl rfl ?_ | refine on_aload_nQ (pc' := 1) rfl rfl rfl rfl ?_
  first | refine on_aload_n (pc' := 2) rfl rfl rfl rfl ?_ | refine on_aload_nQ (pc' := 2) rfl rfl rfl rfl ?_
  first | apply on_get (pc' := 5) rfl rfl fl_M_462 | apply on_getN (pc' := 5) rfl rfl fl_M_462
  · repeat (first | assumption | exact on_up_eq _ _ _ | refine (on_up_ne (by omega)).trans ?_)
  · rfl
  first | refine on_aload_n (pc' := 6) rfl rfl rfl rfl ?_ | refine on_aload_nQ (pc' := 6) rfl rfl rfl rfl ?_
  first | apply on_get (pc' := 9) rfl rfl fl_M_472 | apply on_getN (pc' := 9) rfl rfl fl_M_472
  · repeat (first | assumption | exact on_up_eq _ _ _ | refine (on_up_ne (by omega)).trans ?_)
  · rfl
  refine on_iconst (pc' := 10) (v := 0) rfl rfl li_0 ?_
  apply on_ialoadK (pc' := 11) (t := 0) (k := 0) rfl rfl
  · repeat (first | assumption | exact on_up_eq _ _ _ | refine (on_up_ne (by omega)).trans ?_)
  · rfl
  · first | assumption | exact on_lit _ | rfl
  · first | assumption | omega | decide
  rw [p2 0 hpa, k9]
  first | refine on_aload_n (pc' := 12) rfl rfl rfl rfl ?_ | refine on_aload_nQ (pc' := 12) rfl rfl rfl rfl ?_
  first | apply on_get (pc' := 15) rfl rfl fl_M_469 | apply on_getN (pc' := 15) rfl rfl fl_M_469
  · repeat (first | assumption | exact on_up_eq _ _ _ | refine (on_up_ne (by omega)).trans ?_)
  · rfl
  refine on_iconst (pc' := 16) (v := 4) rfl rfl li_4 ?_
  first | refine on_aload_n (pc' := 17) rfl rfl rfl rfl ?_ | refine on_aload_nQ (pc' := 17) rfl rfl rfl rfl ?_
  first | apply on_get (pc' := 20) rfl rfl fl_M_73 | apply on_getN (pc' := 20) rfl rfl fl_M_73
  · repeat (first | assumption | exact on_up_eq _ _ _ | refine (on_up_ne (by omega)).trans ?_)
  · rfl
  refine on_iconst (pc' := 21) (v := 0) rfl rfl li_0 ?_
  refine on_callV (pc' := 24) (As := [.int (nI (8 + cl)), .int (nI (q.pa.getD 0 0)), .int (nI q.nu), .int (nI 4), .ref (o + 24), .int (nI 0)]) (rest := []) (b := o) rfl rfl cw_M_destroyed_348 (o1) rfl rfl (Nat.le_of_ble_eq_true rfl) (Nat.zero_le _) (Nat.zero_le _) (c_M_lay (x := fun _ => 0) (n := 0) o1 L (by omega) hp0 (by decide) W.ce (by omega) (by omega) ⟨Nat.zero_le _, by decide⟩ (Nat.zero_le _) (fun f _ i hi => absurd hi (Nat.not_lt_zero i))) ?_
  rintro v h2 z ⟨rfl, rfl, L2, t2⟩
  obtain ⟨K2, f2⟩ := K.lnk L2 t2
  have o2 := K2.1.ob.1
  first | refine on_aload_n (pc' := 25) rfl rfl rfl rfl ?_ | refine on_aload_nQ (pc' := 25) rfl rfl rfl rfl ?_
  first | refine on_aload_n (pc' := 26) rfl rfl rfl rfl ?_ | refine on_aload_nQ (pc' := 26) rfl rfl rfl rfl ?_
  refine on_callV (pc' := 29) (As := [.ref c]) (rest := []) (b := o) rfl rfl cw_M_destroyed_496 (o2) rfl rfl (Nat.le_of_ble_eq_true rfl) (Nat.zero_le _) (Nat.zero_le _) (c_M_gone K2.2.2.1 k11) ?_
  rintro v h3 z ⟨rfl, rfl, C3, t3⟩
  refine on_vreturn rfl rfl ?_
  obtain ⟨K3, f3⟩ := K2.chg (h1 := h3) (q2 := c_go q) (k2 := k) (K2.1.keep (fun a _ _ _ => t3 a (by omega) (by omega))) (K2.2.1.keep (t3 _ (by omega) (by omega)) (t3 _ (by omega) (by omega))) C3 ((t3 _ (by omega) (by omega)).trans K2.2.2.2.2.2.2.2.1) rfl rfl k11 (fun b _ _ => t3 b (by omega) (by omega))
  exact ⟨rfl, rfl, K3, f2.trans f3⟩
end MQC
