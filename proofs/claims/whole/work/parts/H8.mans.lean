/-! the reference's circuits: an answer -/
theorem rs_k4 (se : Int64) : (fun i => rs_i se (4 + i)) = rs_k se := funext fun i => by
  unfold rs_i
  rw [if_neg (by omega), show 4 + i - 4 = i by omega]
section MAN
variable {G : on_G} {o c cl nr nk B sz bc bs : Nat} {x3 : Int32 × Int32 × Int32} {F : Nat → Option Nat} {rs : Nat → aR} {SD : Nat → Int64} {D0 : Nat → Int32} {lk lk2 : Nat → List aB} {q q2 : aC} {k k2 : aK} {h h1 : on_H} {Q : Option Value → on_H → Nat → Prop} {b : Nat → Nat}
theorem c_M_curveD {s y : Nat} {k p : Nat → Nat} (W : mw o x3 h) (hs : rB h s 32 k) (hso : s < o + 29 ∨ o + 41 ≤ s) (hb : rB h y 32 p) :
    on_Ct G M_M_curve [.ref o, .ref s, .ref y, .ref (o + 41)] h sz 0 0 (fun r h1 z => r = none ∧ z = sz ∧ mw o x3 h1 ∧ (∃ D, h1 (o + 41) = some (on_ai 0 124 D) ∧ on_by D (nb (cv_x k p)) 32) ∧ ∀ a, a ≠ o + 41 → (a < o + 29 ∨ o + 41 ≤ a) → h1 a = h a) := by
  obtain ⟨R, q1⟩ := W.da
  obtain ⟨c, C⟩ := W.li
  obtain ⟨F, f1, f2⟩ := hs
  obtain ⟨P, p1, p2⟩ := hb
  refine on_Ct.to (c_M_curve C f1 hso (by decide) (fun i hi => (f2 i hi).1) (fun i hi => (f2 i hi).2) p1 (by decide) (fun i hi => (p2 i hi).1) (fun i hi => (p2 i hi).2) q1 (by decide) (by omega)) ?_
  rintro r h1 z ⟨e1, e2, C1, r1, t⟩
  refine ⟨e1, e2, W.lim (q := o + 41) C1 (fun h2 h3 => ?_) (by omega) t, ⟨_, r1, fun i hi => ⟨?_, nb_lt _ _⟩⟩, t⟩
  · rw [show o + 41 - o = 41 by omega]; exact ⟨_, r1⟩
  · have := wr_in (R := R) (rat := 0) (V := cv_x k p) hi
    rw [Nat.zero_add] at this
    exact this
set_option maxHeartbeats 4000000 in
theorem man_1 {R : Nat} {S : Nat → Int32} (ho : h o = some (.inr (17, mo_f o x3.1 x3.2.1 x3.2.2))) (hs : h (o + 26) = some (on_ai 0 68 S))
    (kk : ∀ T : Nat → Int32, (∀ i, i < 32 → T i = S i) → on_E G M_M_answered 41 (on_l [(0, .ref o), (1, .ref c), (2, .ref R)]) [] (on_up h (o + 21) (on_ai 0 32 T)) sz bc bs Q) :
    ∀ (m j : Nat) (T : Nat → Int32), j + m = 32 → (∀ i, i < j → T i = S i) → on_E G M_M_answered 17 (on_l [(0, .ref o), (1, .ref c), (2, .ref R), (3, .int (nI j))]) [] (on_up h (o + 21) (on_ai 0 32 T)) sz bc bs Q := by
  intro m
  induction m with
  | zero =>
    intro j T hj hT
    obtain rfl : j = 32 := by omega
    refine on_iload_n (pc' := 18) rfl rfl rfl rfl ?_
    refine on_bipush (pc' := 20) (v := 32) rfl rfl lb_32 ?_
    refine on_icmp_ge (pc' := 23) (tgt := 41) rfl rfl rfl (fun cq => ?_) (fun cq => ?_)
    · exact on_relv (l := [(0, .ref o), (1, .ref c), (2, .ref R)]) ⟨rfl, rfl, rfl, trivial⟩ (kk T hT)
    · exact absurd (by decide) cq
  | succ m ih =>
    intro j T hj hT
    have i1 : j < 32 ∧ 32 < 2 ^ 31 := by omega
    have i2 : j < 68 ∧ 68 < 2 ^ 31 := by omega
    refine on_iload_n (pc' := 18) rfl rfl rfl rfl ?_
    refine on_bipush (pc' := 20) (v := 32) rfl rfl lb_32 ?_
    refine on_icmp_ge (pc' := 23) (tgt := 41) rfl rfl rfl (fun cq => ?_) (fun cq => ?_)
    · exact absurd cq (nI_ge (b := 32) i1.1 (by decide))
    · clear cq
      first | refine on_aload_n (pc' := 24) rfl rfl rfl rfl ?_ | refine on_aload_nQ (pc' := 24) rfl rfl rfl rfl ?_
      first | apply on_get (pc' := 27) rfl rfl fl_M_64 | apply on_getN (pc' := 27) rfl rfl fl_M_64
      · repeat (first | assumption | exact on_up_eq _ _ _ | refine (on_up_ne (by omega)).trans ?_)
      · rfl
      refine on_iload_n (pc' := 28) rfl rfl rfl rfl ?_
      first | refine on_aload_n (pc' := 29) rfl rfl rfl rfl ?_ | refine on_aload_nQ (pc' := 29) rfl rfl rfl rfl ?_
      first | apply on_get (pc' := 32) rfl rfl fl_M_79 | apply on_getN (pc' := 32) rfl rfl fl_M_79
      · repeat (first | assumption | exact on_up_eq _ _ _ | refine (on_up_ne (by omega)).trans ?_)
      · rfl
      refine on_iload_n (pc' := 33) rfl rfl rfl rfl ?_
      apply on_ialoadK (pc' := 34) (t := 0) rfl rfl
      · repeat (first | assumption | exact on_up_eq _ _ _ | refine (on_up_ne (by omega)).trans ?_)
      · rfl
      · first | assumption | exact on_lit _ | rfl
      · first | assumption | omega | decide
      apply on_iastoreK (pc' := 35) (t := 0) rfl rfl
      · repeat (first | assumption | exact on_up_eq _ _ _ | refine (on_up_ne (by omega)).trans ?_)
      · rfl
      · first | assumption | exact on_lit _ | rfl
      · first | assumption | omega | decide
      refine on_iinc1 (pc' := 38) rfl rfl rfl ?_
      refine on_goto (tgt := 17) rfl rfl ?_
      rw [on_up_up]
      refine on_relv (l := [(0, .ref o), (1, .ref c), (2, .ref R), (3, .int (nI (j + 1)))]) ⟨rfl, rfl, rfl, congrArg some (congrArg Value.int (nI_1 j)), trivial⟩ (ih (j + 1) _ (by omega) (fun i hi => ?_))
      by_cases z : i = j
      · rw [z, pk_us]
      · rw [pk_un (by omega)]
        exact hT i (by omega)
set_option maxHeartbeats 4000000 in
theorem man_2 {Y S : Nat → Int32} {f : Nat → Nat} (ho : h o = some (.inr (17, mo_f o x3.1 x3.2.1 x3.2.2))) (hs : h (o + 26) = some (on_ai 0 68 S)) (hS : on_by S b 64) (hy : h (o + 23) = some (on_ai 0 32 Y)) (hY : on_by Y f 32)
    (kk : ∀ w : Bool, (w = true ↔ ∀ i, i < 32 → f i = b (32 + i)) → on_E G M_M_answered 185 (on_l [(0, .ref o), (1, .ref c), (4, .int (nI 172)), (5, .int (bI w))]) [] h sz bc bs Q) :
    ∀ (m j : Nat) (w : Bool), j + m = 32 → (w = true ↔ ∀ i, i < j → f i = b (32 + i)) → on_E G M_M_answered 140 (on_l [(0, .ref o), (1, .ref c), (4, .int (nI 172)), (5, .int (bI w)), (6, .int (nI j))]) [] h sz bc bs Q := by
  intro m
  induction m with
  | zero =>
    intro j w hj hw
    obtain rfl : j = 32 := by omega
    refine on_iload (pc' := 142) rfl rfl rfl ?_
    refine on_bipush (pc' := 144) (v := 32) rfl rfl lb_32 ?_
    refine on_icmp_ge (pc' := 147) (tgt := 185) rfl rfl rfl (fun cq => ?_) (fun cq => ?_)
    · exact on_relv (l := [(0, .ref o), (1, .ref c), (4, .int (nI 172)), (5, .int (bI w))]) ⟨rfl, rfl, rfl, rfl, trivial⟩ (kk w hw)
    · exact absurd (by decide) cq
  | succ m ih =>
    intro j w hj hw
    have i1 : 32 + j < 68 ∧ 68 < 2 ^ 31 := by omega
    have i2 : j < 32 ∧ 32 < 2 ^ 31 := by omega
    have back : ∀ (lv : Nat → Option Value) (b2 : Bool), lv 0 = some (.ref o) → lv 1 = some (.ref c) → lv 4 = some (.int (nI 172)) → lv 6 = some (.int (nI j)) → (b2 = true ↔ ∀ i, i < j + 1 → f i = b (32 + i)) → on_E G M_M_answered 177 lv [.int (bI b2)] h sz bc bs Q := fun lv b2 l0 l1 l2 l3 hb2 => by
      refine on_relv (l := [(0, .ref o), (1, .ref c), (4, .int (nI 172)), (6, .int (nI j))]) ⟨l0, l1, l2, l3, trivial⟩ ?_
      refine on_istore (pc' := 179) rfl rfl (by decide) ?_
      refine on_iinc1 (pc' := 182) rfl rfl rfl ?_
      refine on_goto (tgt := 140) rfl rfl ?_
      exact on_relv (l := [(0, .ref o), (1, .ref c), (4, .int (nI 172)), (5, .int (bI b2)), (6, .int (nI (j + 1)))]) ⟨rfl, rfl, rfl, rfl, congrArg some (congrArg Value.int (nI_1 j)), trivial⟩ (ih (j + 1) b2 (by omega) hb2)
    refine on_iload (pc' := 142) rfl rfl rfl ?_
    refine on_bipush (pc' := 144) (v := 32) rfl rfl lb_32 ?_
    refine on_icmp_ge (pc' := 147) (tgt := 185) rfl rfl rfl (fun cq => ?_) (fun cq => ?_)
    · exact absurd cq (nI_ge (b := 32) i2.1 (by decide))
    · clear cq
      refine on_iload (pc' := 149) rfl rfl rfl ?_
      refine on_if_eq (pc' := 152) (tgt := 176) rfl rfl rfl (fun cq => ?_) (fun cq => ?_)
      · refine on_iconst (pc' := 177) (v := 0) rfl rfl li_0 ?_
        refine back _ false rfl rfl rfl rfl ⟨fun w => (nomatch w), fun w2 => ?_⟩
        rw [bI_eq.mp cq] at hw
        exact hw.mpr (fun i hi => w2 i (by omega))
      · have hb1 := hw.mp (bI_ne.mp cq)
        clear cq
        first | refine on_aload_n (pc' := 153) rfl rfl rfl rfl ?_ | refine on_aload_nQ (pc' := 153) rfl rfl rfl rfl ?_
        first | apply on_get (pc' := 156) rfl rfl fl_M_70 | apply on_getN (pc' := 156) rfl rfl fl_M_70
        · repeat (first | assumption | exact on_up_eq _ _ _ | refine (on_up_ne (by omega)).trans ?_)
        · rfl
        refine on_iload (pc' := 158) rfl rfl rfl ?_
        apply on_ialoadK (pc' := 159) (t := 0) rfl rfl
        · repeat (first | assumption | exact on_up_eq _ _ _ | refine (on_up_ne (by omega)).trans ?_)
        · rfl
        · first | assumption | exact on_lit _ | rfl
        · first | assumption | omega | decide
        first | refine on_aload_n (pc' := 160) rfl rfl rfl rfl ?_ | refine on_aload_nQ (pc' := 160) rfl rfl rfl rfl ?_
        first | apply on_get (pc' := 163) rfl rfl fl_M_79 | apply on_getN (pc' := 163) rfl rfl fl_M_79
        · repeat (first | assumption | exact on_up_eq _ _ _ | refine (on_up_ne (by omega)).trans ?_)
        · rfl
        refine on_bipush (pc' := 165) (v := 32) rfl rfl lb_32 ?_
        refine on_iload (pc' := 167) rfl rfl rfl ?_
        refine on_iadd (pc' := 168) rfl rfl ?_
        rw [show (32 : Int32) + nI j = nI (32 + j) from nI_add 32 j]
        apply on_ialoadK (pc' := 169) (t := 0) rfl rfl
        · repeat (first | assumption | exact on_up_eq _ _ _ | refine (on_up_ne (by omega)).trans ?_)
        · rfl
        · first | assumption | exact on_lit _ | rfl
        · first | assumption | omega | decide
        rw [(hY j i2.1).1, (hS (32 + j) (by omega)).1]
        have e1 := (hY j i2.1).2
        have e2 := (hS (32 + j) (by omega)).2
        refine on_icmp_ne (pc' := 172) (tgt := 176) rfl rfl rfl (fun cq => ?_) (fun cq => ?_)
        · refine on_iconst (pc' := 177) (v := 0) rfl rfl li_0 ?_
          refine back _ false rfl rfl rfl rfl ⟨fun w => (nomatch w), fun w2 => ?_⟩
          exact absurd (congrArg nI (w2 j (by omega))) cq
        · have eq := nI_inj32 (Nat.lt_trans e1 (by decide)) (Nat.lt_trans e2 (by decide)) cq
          refine on_iconst (pc' := 173) (v := 1) rfl rfl li_1 ?_
          refine on_goto (tgt := 177) rfl rfl ?_
          refine back _ true rfl rfl rfl rfl ⟨fun _ i hi => ?_, fun _ => rfl⟩
          by_cases z : i = j
          · rw [z]
            exact eq
          · exact hb1 i (by omega)
set_option maxHeartbeats 4000000 in
theorem man_3 {S D1 : Nat → Int32} (ho : h o = some (.inr (17, mo_f o x3.1 x3.2.1 x3.2.2))) (hs : h (o + 26) = some (on_ai 0 68 S))
    (kk : ∀ D : Nat → Int32, D 0 = D1 0 → (∀ i, i < 68 → D (1 + i) = S i) → on_E G M_M_answered 304 (on_l [(0, .ref o), (1, .ref c)]) [] (on_up h (o + 41) (on_ai 0 124 D)) sz bc bs Q) :
    ∀ (m j : Nat) (D : Nat → Int32), j + m = 68 → D 0 = D1 0 → (∀ i, i < j → D (1 + i) = S i) → on_E G M_M_answered 275 (on_l [(0, .ref o), (1, .ref c), (6, .int (nI j))]) [] (on_up h (o + 41) (on_ai 0 124 D)) sz bc bs Q := by
  intro m
  induction m with
  | zero =>
    intro j D hj h0 hD
    obtain rfl : j = 68 := by omega
    refine on_iload (pc' := 277) rfl rfl rfl ?_
    refine on_bipush (pc' := 279) (v := 68) rfl rfl lb_68 ?_
    refine on_icmp_ge (pc' := 282) (tgt := 304) rfl rfl rfl (fun cq => ?_) (fun cq => ?_)
    · exact on_relv (l := [(0, .ref o), (1, .ref c)]) ⟨rfl, rfl, trivial⟩ (kk D h0 hD)
    · exact absurd (by decide) cq
  | succ m ih =>
    intro j D hj h0 hD
    have i1 : 1 + j < 124 ∧ 124 < 2 ^ 31 := by omega
    have i2 : j < 68 ∧ 68 < 2 ^ 31 := by omega
    refine on_iload (pc' := 277) rfl rfl rfl ?_
    refine on_bipush (pc' := 279) (v := 68) rfl rfl lb_68 ?_
    refine on_icmp_ge (pc' := 282) (tgt := 304) rfl rfl rfl (fun cq => ?_) (fun cq => ?_)
    · exact absurd cq (nI_ge (b := 68) i2.1 (by decide))
    · clear cq
      first | refine on_aload_n (pc' := 283) rfl rfl rfl rfl ?_ | refine on_aload_nQ (pc' := 283) rfl rfl rfl rfl ?_
      first | apply on_get (pc' := 286) rfl rfl fl_M_124 | apply on_getN (pc' := 286) rfl rfl fl_M_124
      · repeat (first | assumption | exact on_up_eq _ _ _ | refine (on_up_ne (by omega)).trans ?_)
      · rfl
      refine on_iconst (pc' := 287) (v := 1) rfl rfl li_1 ?_
      refine on_iload (pc' := 289) rfl rfl rfl ?_
      refine on_iadd (pc' := 290) rfl rfl ?_
      rw [show (1 : Int32) + nI j = nI (1 + j) from nI_add 1 j]
      first | refine on_aload_n (pc' := 291) rfl rfl rfl rfl ?_ | refine on_aload_nQ (pc' := 291) rfl rfl rfl rfl ?_
      first | apply on_get (pc' := 294) rfl rfl fl_M_79 | apply on_getN (pc' := 294) rfl rfl fl_M_79
      · repeat (first | assumption | exact on_up_eq _ _ _ | refine (on_up_ne (by omega)).trans ?_)
      · rfl
      refine on_iload (pc' := 296) rfl rfl rfl ?_
      apply on_ialoadK (pc' := 297) (t := 0) rfl rfl
      · repeat (first | assumption | exact on_up_eq _ _ _ | refine (on_up_ne (by omega)).trans ?_)
      · rfl
      · first | assumption | exact on_lit _ | rfl
      · first | assumption | omega | decide
      apply on_iastoreK (pc' := 298) (t := 0) rfl rfl
      · repeat (first | assumption | exact on_up_eq _ _ _ | refine (on_up_ne (by omega)).trans ?_)
      · rfl
      · first | assumption | exact on_lit _ | rfl
      · first | assumption | omega | decide
      refine on_iinc1 (pc' := 301) rfl rfl rfl ?_
      refine on_goto (tgt := 275) rfl rfl ?_
      rw [on_up_up]
      refine on_relv (l := [(0, .ref o), (1, .ref c), (6, .int (nI (j + 1)))]) ⟨rfl, rfl, congrArg some (congrArg Value.int (nI_1 j)), trivial⟩ (ih (j + 1) _ (by omega) ?_ (fun i hi => ?_))
      · rw [pk_un (by omega)]
        exact h0
      · by_cases z : i = j
        · rw [z, pk_us]
        · rw [pk_un (by omega)]
          exact hD i (by omega)
set_option maxHeartbeats 16000000 in
/-- answered -/
theorem c_M_answered {S : Nat → Int32} (K : mC o c cl nr x3 F rs SD D0 lk q k h) (hlz : ∀ j, j < q.hp → lz (q.la j).1 ≤ B) (hB : B + 700 < 2 ^ 28) (hhp : q.hp < q.pa.length) (hpl : q.pa.length ≤ 3) (hpa : ∀ j, j < q.pa.length → q.pa.getD j 0 < nr) (hnr : nr ≤ 6) (hs : h (o + 26) = some (on_ai 0 68 S)) (hS : on_by S b 64) :
    on_Ct G M_M_answered [.ref o, .ref c] h sz 0 0 (fun v h1 z => v = none ∧ z = sz ∧ mZ o c cl nr x3 F rs SD D0 lk (c_an rs q k b) h h1) := by
  obtain ⟨W, KL, C, k4, k5, k6, k7, k8, k9, k10, k11⟩ := id K
  have o1 := W.ob.1
  have c0 : h c = some (.inr (16, [.int (nI (8 + q.cl)), .int (nI q.nu), .ref (c + 1), .int (nI q.pa.length), .int (nI q.hp), .int (nI q.ph), .ref (c + 2), .ref (c + 3), .int (nI q.st.length), .ref (c + 4), .ref (c + 5), .ref (c + 6), .ref (c + 7), .ref (c + 8), .ref (c + 9), .ref (c + 10)])) := C.1
  obtain ⟨P, p1, p2⟩ := id C.2.1
  have i1 : q.hp < 3 ∧ 3 < 2 ^ 31 := by omega
  have r6 := hpa q.hp hhp
  have i2 : q.pa.getD q.hp 0 < 6 ∧ 6 < 2 ^ 31 := by omega
  obtain ⟨R, eR, M, hRo, hRc⟩ := k6 _ r6
  have pa0 : q.pa.getD 0 0 < 10 := by have := hpa 0 (by omega); omega
  refine on_Ct.of (by decide) v_M_answered (Nat.le_of_ble_eq_true rfl) ?_
  first | refine on_aload_n (pc' := 1) rfl rfl rfl rfl ?_ | refine on_aload_nQ (pc' := 1) rfl rfl rfl rfl ?_
  first | apply on_get (pc' := 4) rfl rfl fl_M_9 | apply on_getN (pc' := 4) rfl rfl fl_M_9
  · repeat (first | assumption | exact on_up_eq _ _ _ | refine (on_up_ne (by omega)).trans ?_)
  · rfl
  first | refine on_aload_n (pc' := 5) rfl rfl rfl rfl ?_ | refine on_aload_nQ (pc' := 5) rfl rfl rfl rfl ?_
  first | apply on_get (pc' := 8) rfl rfl fl_M_472 | apply on_getN (pc' := 8) rfl rfl fl_M_472
  · repeat (first | assumption | exact on_up_eq _ _ _ | refine (on_up_ne (by omega)).trans ?_)
  · rfl
  first | refine on_aload_n (pc' := 9) rfl rfl rfl rfl ?_ | refine on_aload_nQ (pc' := 9) rfl rfl rfl rfl ?_
  first | apply on_get (pc' := 12) rfl rfl fl_M_486 | apply on_getN (pc' := 12) rfl rfl fl_M_486
  · repeat (first | assumption | exact on_up_eq _ _ _ | refine (on_up_ne (by omega)).trans ?_)
  · rfl
  apply on_ialoadK (pc' := 13) (t := 0) rfl rfl
  · repeat (first | assumption | exact on_up_eq _ _ _ | refine (on_up_ne (by omega)).trans ?_)
  · rfl
  · first | assumption | exact on_lit _ | rfl
  · first | assumption | omega | decide
  rw [p2 q.hp hhp]
  apply on_aaloadK (pc' := 14) rfl rfl
  · repeat (first | assumption | exact on_up_eq _ _ _ | refine (on_up_ne (by omega)).trans ?_)
  · rfl
  · first | assumption | exact on_lit _ | rfl
  · first | assumption | omega | decide
  rw [eR]
  show on_E G M_M_answered 14 _ [.ref R] h sz _ _ _
  first | refine on_astore_n (pc' := 15) rfl rfl rfl (by decide) ?_ | refine on_astore_nQ (pc' := 15) rfl rfl rfl (by decide) ?_
  refine on_iconst (pc' := 16) (v := 0) rfl rfl li_0 ?_
  refine on_istore_n (pc' := 17) rfl rfl rfl (by decide) ?_
  obtain ⟨T0, tt0⟩ := W.pt
  have eh : on_up h (o + 21) (on_ai 0 32 T0) = h := funext fun b => by
    by_cases w : b = o + 21
    · rw [w, on_up_eq, tt0]
    · exact on_up_ne w
  have goal := man_1 (G := G) (sz := sz) (bc := 0) (bs := 0) (c := c) (R := R) (Q := fun v h1 z => v = none ∧ z = sz ∧ mZ o c cl nr x3 F rs SD D0 lk (c_an rs q k b) h h1) o1 hs (fun T hT => ?_) 32 0 T0 rfl (fun i hi => absurd hi (Nat.not_lt_zero i))
  · rw [eh] at goal
    exact on_relv (l := [(0, .ref o), (1, .ref c), (2, .ref R), (3, .int (nI 0))]) ⟨rfl, rfl, rfl, rfl, trivial⟩ goal
  clear eh
  have t1 : ∀ a, a ≠ o + 21 → on_up h (o + 21) (on_ai 0 32 T) a = h a := fun a ha => on_up_ne ha
  obtain ⟨K1, f1⟩ := K.wrk (a := o + 21) (h1 := on_up h (o + 21) (on_ai 0 32 T)) (by omega) (by rw [show o + 21 - o = 21 by omega]; exact ⟨T, on_up_eq _ _ _⟩) t1
  have q1 : on_up h (o + 21) (on_ai 0 32 T) (o + 21) = some (on_ai 0 32 T) := on_up_eq _ _ _
  generalize on_up h (o + 21) (on_ai 0 32 T) = g1 at t1 K1 f1 q1 ⊢
  have B1 : rB g1 (o + 21) 32 b := ⟨T, q1, fun i hi => by rw [hT i hi]; exact hS i (by omega)⟩
  have o2 := K1.1.ob.1
  have c1 := (t1 c (by omega)).trans c0
  have X1 := K1.2.2.1.2.2.2.1
  first | refine on_aload_n (pc' := 42) rfl rfl rfl rfl ?_ | refine on_aload_nQ (pc' := 42) rfl rfl rfl rfl ?_
  first | refine on_aload_n (pc' := 43) rfl rfl rfl rfl ?_ | refine on_aload_nQ (pc' := 43) rfl rfl rfl rfl ?_
  first | apply on_get (pc' := 46) rfl rfl fl_M_465 | apply on_getN (pc' := 46) rfl rfl fl_M_465
  · repeat (first | assumption | exact on_up_eq _ _ _ | refine (on_up_ne (by omega)).trans ?_)
  · rfl
  first | refine on_aload_n (pc' := 47) rfl rfl rfl rfl ?_ | refine on_aload_nQ (pc' := 47) rfl rfl rfl rfl ?_
  first | apply on_get (pc' := 50) rfl rfl fl_M_64 | apply on_getN (pc' := 50) rfl rfl fl_M_64
  · repeat (first | assumption | exact on_up_eq _ _ _ | refine (on_up_ne (by omega)).trans ?_)
  · rfl
  first | refine on_aload_n (pc' := 51) rfl rfl rfl rfl ?_ | refine on_aload_nQ (pc' := 51) rfl rfl rfl rfl ?_
  first | apply on_get (pc' := 54) rfl rfl fl_M_67 | apply on_getN (pc' := 54) rfl rfl fl_M_67
  · repeat (first | assumption | exact on_up_eq _ _ _ | refine (on_up_ne (by omega)).trans ?_)
  · rfl
  refine on_callV (pc' := 57) (As := [.ref (c + 3), .ref (o + 21), .ref (o + 22)]) (rest := []) (b := o) rfl rfl cw_M_answered_320 (o2) rfl rfl (Nat.le_of_ble_eq_true rfl) (Nat.zero_le _) (Nat.zero_le _) (c_M_curveW K1.1 X1 (by omega) B1 K1.1.r1 (by omega)) ?_
  rintro v g2 sz ⟨rfl, rfl, W2, A2, t2⟩
  have o3 := W2.ob.1
  have X2 := X1.keep (t2 _ (by omega) (by omega))
  have c2 := (t2 c (by omega) (by omega)).trans c1
  have M2 := M.keep (h2 := g2) (fun a _ _ => (t2 a (by omega) (by omega)).trans (t1 a (by omega)))
  obtain ⟨⟨b1, b2, b3, b4, b5, m0⟩, KY2, -⟩ := id M2
  first | refine on_aload_n (pc' := 58) rfl rfl rfl rfl ?_ | refine on_aload_nQ (pc' := 58) rfl rfl rfl rfl ?_
  first | refine on_aload_n (pc' := 59) rfl rfl rfl rfl ?_ | refine on_aload_nQ (pc' := 59) rfl rfl rfl rfl ?_
  first | apply on_get (pc' := 62) rfl rfl fl_M_465 | apply on_getN (pc' := 62) rfl rfl fl_M_465
  · repeat (first | assumption | exact on_up_eq _ _ _ | refine (on_up_ne (by omega)).trans ?_)
  · rfl
  first | refine on_aload_n (pc' := 63) rfl rfl rfl rfl ?_ | refine on_aload_nQ (pc' := 63) rfl rfl rfl rfl ?_
  first | apply on_get (pc' := 66) rfl rfl fl_M_284 | apply on_getN (pc' := 66) rfl rfl fl_M_284
  · repeat (first | assumption | exact on_up_eq _ _ _ | refine (on_up_ne (by omega)).trans ?_)
  · rfl
  first | refine on_aload_n (pc' := 67) rfl rfl rfl rfl ?_ | refine on_aload_nQ (pc' := 67) rfl rfl rfl rfl ?_
  first | apply on_get (pc' := 70) rfl rfl fl_M_70 | apply on_getN (pc' := 70) rfl rfl fl_M_70
  · repeat (first | assumption | exact on_up_eq _ _ _ | refine (on_up_ne (by omega)).trans ?_)
  · rfl
  refine on_callV (pc' := 73) (As := [.ref (c + 3), .ref (R + 2), .ref (o + 23)]) (rest := []) (b := o) rfl rfl cw_M_answered_320 (o3) rfl rfl (Nat.le_of_ble_eq_true rfl) (Nat.zero_le _) (Nat.zero_le _) (c_M_curveW W2 X2 (by omega) KY2 W2.r2 (by omega)) ?_
  rintro v g3 sz ⟨rfl, rfl, W3, A3, t3⟩
  have o4 := W3.ob.1
  first | refine on_aload_n (pc' := 74) rfl rfl rfl rfl ?_ | refine on_aload_nQ (pc' := 74) rfl rfl rfl rfl ?_
  refine on_callV (pc' := 77) (As := []) (rest := []) (b := o) rfl rfl cw_M_answered_317 (o4) rfl rfl (Nat.le_of_ble_eq_true rfl) (Nat.zero_le _) (Nat.zero_le _) (c_M_baseW W3) ?_
  rintro v g4 sz ⟨rfl, rfl, W4, B4, t4⟩
  have o5 := W4.ob.1
  have X4 := (X2.keep (t3 _ (by omega) (by omega))).keep (t4 _ (by omega))
  have c4 := (t4 c (by omega)).trans ((t3 c (by omega) (by omega)).trans c2)
  first | refine on_aload_n (pc' := 78) rfl rfl rfl rfl ?_ | refine on_aload_nQ (pc' := 78) rfl rfl rfl rfl ?_
  first | apply on_get (pc' := 81) rfl rfl fl_M_124 | apply on_getN (pc' := 81) rfl rfl fl_M_124
  · repeat (first | assumption | exact on_up_eq _ _ _ | refine (on_up_ne (by omega)).trans ?_)
  · rfl
  first | refine on_astore_n (pc' := 82) rfl rfl rfl (by decide) ?_ | refine on_astore_nQ (pc' := 82) rfl rfl rfl (by decide) ?_
  first | refine on_aload_n (pc' := 83) rfl rfl rfl rfl ?_ | refine on_aload_nQ (pc' := 83) rfl rfl rfl rfl ?_
  first | refine on_aload_n (pc' := 84) rfl rfl rfl rfl ?_ | refine on_aload_nQ (pc' := 84) rfl rfl rfl rfl ?_
  first | apply on_get (pc' := 87) rfl rfl fl_M_465 | apply on_getN (pc' := 87) rfl rfl fl_M_465
  · repeat (first | assumption | exact on_up_eq _ _ _ | refine (on_up_ne (by omega)).trans ?_)
  · rfl
  first | refine on_aload_n (pc' := 88) rfl rfl rfl rfl ?_ | refine on_aload_nQ (pc' := 88) rfl rfl rfl rfl ?_
  first | apply on_get (pc' := 91) rfl rfl fl_M_64 | apply on_getN (pc' := 91) rfl rfl fl_M_64
  · repeat (first | assumption | exact on_up_eq _ _ _ | refine (on_up_ne (by omega)).trans ?_)
  · rfl
  first | refine on_aload_n (pc' := 92) rfl rfl rfl rfl ?_ | refine on_aload_nQ (pc' := 92) rfl rfl rfl rfl ?_
  refine on_callV (pc' := 95) (As := [.ref (c + 3), .ref (o + 21), .ref (o + 41)]) (rest := []) (b := o) rfl rfl cw_M_answered_320 (o5) rfl rfl (Nat.le_of_ble_eq_true rfl) (Nat.zero_le _) (Nat.zero_le _) (c_M_curveD W4 X4 (by omega) B4) ?_
  rintro v g5 sz ⟨rfl, rfl, W5, ⟨D5, d5, D5'⟩, t5⟩
  have o6 := W5.ob.1
  have T5 : ∀ a, (a < o + 21 ∨ o + 24 ≤ a) → (a < o + 29 ∨ o + 42 ≤ a) → g5 a = h a := fun a a1 a2 => (t5 a (by omega) (by omega)).trans ((t4 a (by omega)).trans ((t3 a (by omega) (by omega)).trans ((t2 a (by omega) (by omega)).trans (t1 a (by omega)))))
  obtain ⟨R1, e1, b1'⟩ := ((A2.keep (t3 (o + 22) (by omega) (by omega))).keep (t4 _ (by omega))).keep (t5 _ (by omega) (by omega))
  obtain ⟨R2, e2, b2'⟩ := (A3.keep (t4 (o + 23) (by omega))).keep (t5 _ (by omega) (by omega))
  obtain ⟨⟨b1, b2, b3, b4, b5, m5⟩, ⟨KY, ky1, ky2⟩, MK, mk1, mk2⟩ := M.keep (h2 := g5) (fun a _ _ => T5 a (by omega) (by omega))
  have s5 := (T5 (o + 26) (by omega) (by omega)).trans hs
  have c5 := (T5 c (by omega) (by omega)).trans c0
  obtain ⟨TX, tx5⟩ := W5.tx
  first | refine on_aload_n (pc' := 96) rfl rfl rfl rfl ?_ | refine on_aload_nQ (pc' := 96) rfl rfl rfl rfl ?_
  first | refine on_aload_n (pc' := 97) rfl rfl rfl rfl ?_ | refine on_aload_nQ (pc' := 97) rfl rfl rfl rfl ?_
  first | apply on_get (pc' := 100) rfl rfl fl_M_67 | apply on_getN (pc' := 100) rfl rfl fl_M_67
  · repeat (first | assumption | exact on_up_eq _ _ _ | refine (on_up_ne (by omega)).trans ?_)
  · rfl
  first | refine on_aload_n (pc' := 101) rfl rfl rfl rfl ?_ | refine on_aload_nQ (pc' := 101) rfl rfl rfl rfl ?_
  first | apply on_get (pc' := 104) rfl rfl fl_M_70 | apply on_getN (pc' := 104) rfl rfl fl_M_70
  · repeat (first | assumption | exact on_up_eq _ _ _ | refine (on_up_ne (by omega)).trans ?_)
  · rfl
  first | refine on_aload_n (pc' := 105) rfl rfl rfl rfl ?_ | refine on_aload_nQ (pc' := 105) rfl rfl rfl rfl ?_
  first | refine on_aload_n (pc' := 106) rfl rfl rfl rfl ?_ | refine on_aload_nQ (pc' := 106) rfl rfl rfl rfl ?_
  refine on_iconst (pc' := 107) (v := 0) rfl rfl li_0 ?_
  first | refine on_aload_n (pc' := 108) rfl rfl rfl rfl ?_ | refine on_aload_nQ (pc' := 108) rfl rfl rfl rfl ?_
  first | apply on_get (pc' := 111) rfl rfl fl_M_79 | apply on_getN (pc' := 111) rfl rfl fl_M_79
  · repeat (first | assumption | exact on_up_eq _ _ _ | refine (on_up_ne (by omega)).trans ?_)
  · rfl
  refine on_iconst (pc' := 112) (v := 0) rfl rfl li_0 ?_
  refine on_callV (pc' := 115) (As := [.ref (o + 22), .ref (o + 23), .ref R, .ref (o + 41), .int (nI 0), .ref (o + 26), .int (nI 0)]) (rest := []) (b := o) rfl rfl cw_M_answered_391 (o6) rfl rfl (Nat.le_of_ble_eq_true rfl) (Nat.zero_le _) (Nat.zero_le _) (c_M_secretText (k := rs_k (rs (q.pa.getD q.hp 0)).se) (m := rs_m (rs (q.pa.getD q.hp 0)).se) (x := nb (cv_x q.x bs_p)) (y := b) o6 tx5 e1 e2 m5 rfl rfl ky1 mk1 d5 s5 (by omega) (by omega) (by omega) (by omega) (by omega) (by omega) ⟨by decide, by decide⟩ ⟨by decide, by decide⟩ b1' b2' (by rw [← rs_k4]; exact ky2) (fun i hi => by have := mk2 i hi; unfold rs_i at this; rw [if_pos hi] at this; exact this) (fun j hj => by rw [Nat.zero_add]; exact (D5' j hj).1) (fun j hj => (D5' j hj).2) (fun j hj => by rw [Nat.zero_add]; exact (hS j (by omega)).1) (fun j hj => (hS j (by omega)).2)) ?_
  rintro v h9 sz ⟨rfl, rfl, TX9, rfl, tb9⟩
  have t9 : ∀ a, a ≠ o + 20 → on_up g5 (o + 20) (on_ai 0 256 TX9) a = g5 a := fun a ha => on_up_ne ha
  have tx9 : on_up g5 (o + 20) (on_ai 0 256 TX9) (o + 20) = some (on_ai 0 256 TX9) := on_up_eq _ _ _
  have W9 : mw o x3 (on_up g5 (o + 20) (on_ai 0 256 TX9)) := W5.row (q := o + 20) (fun _ _ => by rw [show o + 20 - o = 20 by omega]; exact ⟨TX9, on_up_eq _ _ _⟩) (by omega) t9
  generalize on_up g5 (o + 20) (on_ai 0 256 TX9) = g6 at t9 tx9 W9 ⊢
  rw [rs_k4] at tb9
  have tb9 : on_by TX9 (is_t (rs (q.pa.getD q.hp 0)).se q.x b) 172 := tb9
  have o9 := W9.ob.1
  refine on_istore (pc' := 117) rfl rfl (by decide) ?_
  first | refine on_aload_n (pc' := 118) rfl rfl rfl rfl ?_ | refine on_aload_nQ (pc' := 118) rfl rfl rfl rfl ?_
  refine on_iconst (pc' := 119) (v := 4) rfl rfl li_4 ?_
  refine on_callV (pc' := 122) (As := [.int (nI 4)]) (rest := []) (b := o) rfl rfl cw_M_answered_288 (o9) rfl rfl (Nat.le_of_ble_eq_true rfl) (Nat.zero_le _) (Nat.zero_le _) (c_M_keyNameW W9 (by decide)) ?_
  rintro v g7 sz ⟨rfl, rfl, W10, ⟨TK, tk1, tk2⟩, t10⟩
  have o10 := W10.ob.1
  first | refine on_aload_n (pc' := 123) rfl rfl rfl rfl ?_ | refine on_aload_nQ (pc' := 123) rfl rfl rfl rfl ?_
  refine on_bipush (pc' := 125) (v := 9) rfl rfl lb_9 ?_
  refine on_iload (pc' := 127) rfl rfl rfl ?_
  first | refine on_aload_n (pc' := 128) rfl rfl rfl rfl ?_ | refine on_aload_nQ (pc' := 128) rfl rfl rfl rfl ?_
  first | apply on_get (pc' := 131) rfl rfl fl_M_70 | apply on_getN (pc' := 131) rfl rfl fl_M_70
  · repeat (first | assumption | exact on_up_eq _ _ _ | refine (on_up_ne (by omega)).trans ?_)
  · rfl
  refine on_callV (pc' := 134) (As := [.int (nI 9), .int (nI 172), .ref (o + 23)]) (rest := []) (b := o) rfl rfl cw_M_answered_291 (o10) rfl rfl (Nat.le_of_ble_eq_true rfl) (Nat.zero_le _) (Nat.zero_le _) (c_M_macW W10 tk1 (by decide) tk2 ((t10 _ (by omega)).trans tx9) (by decide) tb9 W10.r2 (by omega)) ?_
  rintro v g8 sz ⟨rfl, rfl, W11, ⟨M11, m11, m11'⟩, t11⟩
  have o11 := W11.ob.1
  have T8 : ∀ a, (a < o + 8 ∨ o + 42 ≤ a ∨ a = o + 26) → g8 a = h a := fun a a1 => (t11 a (by omega) (by omega)).trans ((t10 a (by omega)).trans ((t9 a (by omega)).trans (T5 a (by omega) (by omega))))
  have s8 := (T8 (o + 26) (by omega)).trans hs
  have tx11 := (t11 (o + 20) (by omega) (by omega)).trans ((t10 _ (by omega)).trans tx9)
  obtain ⟨K8, f8⟩ := K.chg (h1 := g8) (lk2 := lk) (q2 := q) (k2 := k) W11 (KL.keep (T8 _ (by omega)) (T8 _ (by omega))) (C.keep k11 (fun a _ _ => T8 a (by omega))) ((T8 _ (by omega)).trans k8) rfl rfl k11 (fun a a1 a2 => T8 a (by omega))
  clear t1 t2 t3 t4 t5 t9 t10 t11 c1 c2 c4 c5 K1 f1 m0 W2 W3 W4 W5 W9 W10
  refine on_iconst (pc' := 135) (v := 1) rfl rfl li_1 ?_
  refine on_istore (pc' := 137) rfl rfl (by decide) ?_
  refine on_iconst (pc' := 138) (v := 0) rfl rfl li_0 ?_
  refine on_istore (pc' := 140) rfl rfl (by decide) ?_
  refine on_relv (l := [(0, .ref o), (1, .ref c), (4, .int (nI 172)), (5, .int (bI true)), (6, .int (nI 0))]) ⟨rfl, rfl, rfl, rfl, rfl, trivial⟩ ?_
  refine man_2 o11 s8 hS m11 m11' (fun w hw => ?_) 32 0 true rfl ⟨fun _ i hi => absurd hi (Nat.not_lt_zero i), fun _ => rfl⟩
  have hw : w = true ↔ is_ok (rs (q.pa.getD q.hp 0)).se q.x b (fun j => b (32 + j)) 32 = true := hw.trans (is_ok_iff _ _ _ _ 32).symm
  refine on_iload (pc' := 187) rfl rfl rfl ?_
  refine on_if_ne (pc' := 190) (tgt := 196) rfl rfl rfl (fun cq => ?_) (fun cq => ?_)
  rotate_left
  · have wf := bI_eq.mp cq
    clear cq
    have an : c_an rs q k b = ((c_ds q).1, k, (c_ds q).2) := by
      unfold c_an
      dsimp only
      rw [if_neg (fun z => by rw [wf] at hw; exact (nomatch hw.mpr z))]
    first | refine on_aload_n (pc' := 191) rfl rfl rfl rfl ?_ | refine on_aload_nQ (pc' := 191) rfl rfl rfl rfl ?_
    first | refine on_aload_n (pc' := 192) rfl rfl rfl rfl ?_ | refine on_aload_nQ (pc' := 192) rfl rfl rfl rfl ?_
    refine on_callV (pc' := 195) (As := [.ref c]) (rest := []) (b := o) rfl rfl cw_M_answered_500 (o11) rfl rfl (Nat.le_of_ble_eq_true rfl) (Nat.zero_le _) (Nat.zero_le _) (c_M_destroyed K8 (by omega) pa0) ?_
    rintro v g9 sz ⟨rfl, rfl, Z9⟩
    refine on_vreturn rfl rfl ?_
    rw [an]
    exact ⟨rfl, rfl, Z9.1, f8.trans Z9.2⟩
  · have wt := hw.mp (bI_ne.mp cq)
    clear cq
    have c8 := (T8 c (by omega)).trans c0
    obtain ⟨l0, l1, l2⟩ := id K8.2.2.1.2.2.1
    have lW := l1 q.hp i1.1
    first | refine on_aload_n (pc' := 197) rfl rfl rfl rfl ?_ | refine on_aload_nQ (pc' := 197) rfl rfl rfl rfl ?_
    refine on_iload (pc' := 199) rfl rfl rfl ?_
    first | refine on_aload_n (pc' := 200) rfl rfl rfl rfl ?_ | refine on_aload_nQ (pc' := 200) rfl rfl rfl rfl ?_
    first | apply on_get (pc' := 203) rfl rfl fl_M_478 | apply on_getN (pc' := 203) rfl rfl fl_M_478
    · repeat (first | assumption | exact on_up_eq _ _ _ | refine (on_up_ne (by omega)).trans ?_)
    · rfl
    first | refine on_aload_n (pc' := 204) rfl rfl rfl rfl ?_ | refine on_aload_nQ (pc' := 204) rfl rfl rfl rfl ?_
    first | apply on_get (pc' := 207) rfl rfl fl_M_486 | apply on_getN (pc' := 207) rfl rfl fl_M_486
    · repeat (first | assumption | exact on_up_eq _ _ _ | refine (on_up_ne (by omega)).trans ?_)
    · rfl
    apply on_aaloadK (pc' := 208) rfl rfl
    · repeat (first | assumption | exact on_up_eq _ _ _ | refine (on_up_ne (by omega)).trans ?_)
    · rfl
    · first | assumption | exact on_lit _ | rfl
    · first | assumption | omega | decide
    show on_E G M_M_answered 208 _ [.ref (c + 11 + 9 * q.hp), .int (nI 172), .ref o] g8 sz _ _ _
    refine on_callV (pc' := 211) (As := [.int (nI 172), .ref (c + 11 + 9 * q.hp)]) (rest := []) (b := o) rfl rfl cw_M_answered_399 (o11) rfl rfl (Nat.le_of_ble_eq_true rfl) (Nat.zero_le _) (Nat.zero_le _) (c_M_keys W11 tx11 tb9 lW (by omega)) ?_
    rintro v g9 sz ⟨rfl, rfl, W12, ml9, t12⟩
    generalize etx : is_t (rs (q.pa.getD q.hp 0)).se q.x b = tx at *
    have T9 : ∀ a, (a < c + 11 + 9 * q.hp ∨ c + 11 + 9 * q.hp + 9 ≤ a) → (a < o + 8 ∨ o + 42 ≤ a ∨ a = o + 26) → g9 a = h a := fun a a1 a2 => (t12 a a1 (by omega)).trans (T8 a a2)
    have c9 := (T9 c (by omega) (by omega)).trans c0
    have o12 := W12.ob.1
    first | refine on_aload_n (pc' := 212) rfl rfl rfl rfl ?_ | refine on_aload_nQ (pc' := 212) rfl rfl rfl rfl ?_
    refine on_dup (pc' := 213) rfl rfl rfl ?_
    first | apply on_get (pc' := 216) rfl rfl fl_M_486 | apply on_getN (pc' := 216) rfl rfl fl_M_486
    · repeat (first | assumption | exact on_up_eq _ _ _ | refine (on_up_ne (by omega)).trans ?_)
    · rfl
    refine on_iconst (pc' := 217) (v := 1) rfl rfl li_1 ?_
    refine on_iadd (pc' := 218) rfl rfl ?_
    rw [nI_1]
    first | apply on_put (pc' := 221) rfl rfl fp_M_486 | apply on_putN (pc' := 221) rfl rfl fp_M_486
    · repeat (first | assumption | exact on_up_eq _ _ _ | refine (on_up_ne (by omega)).trans ?_)
    · first | rfl | assumption
    · first | rfl | assumption
    · exact Nat.le_of_ble_eq_true rfl
    have t10 : ∀ a, a ≠ c → on_up g9 c (.inr (16, [.int (nI (8 + q.cl)), .int (nI q.nu), .ref (c + 1), .int (nI q.pa.length), .int (nI (q.hp + 1)), .int (nI q.ph), .ref (c + 2), .ref (c + 3), .int (nI q.st.length), .ref (c + 4), .ref (c + 5), .ref (c + 6), .ref (c + 7), .ref (c + 8), .ref (c + 9), .ref (c + 10)])) a = g9 a := fun a ha => on_up_ne ha
    have c10 : on_up g9 c (.inr (16, [.int (nI (8 + q.cl)), .int (nI q.nu), .ref (c + 1), .int (nI q.pa.length), .int (nI (q.hp + 1)), .int (nI q.ph), .ref (c + 2), .ref (c + 3), .int (nI q.st.length), .ref (c + 4), .ref (c + 5), .ref (c + 6), .ref (c + 7), .ref (c + 8), .ref (c + 9), .ref (c + 10)])) c = _ := on_up_eq _ _ _
    show on_E G M_M_answered 221 _ [] (on_up g9 c (.inr (16, [.int (nI (8 + q.cl)), .int (nI q.nu), .ref (c + 1), .int (nI q.pa.length), .int (nI (q.hp + 1)), .int (nI q.ph), .ref (c + 2), .ref (c + 3), .int (nI q.st.length), .ref (c + 4), .ref (c + 5), .ref (c + 6), .ref (c + 7), .ref (c + 8), .ref (c + 9), .ref (c + 10)]))) sz _ _ _
    generalize on_up g9 c (.inr (16, [.int (nI (8 + q.cl)), .int (nI q.nu), .ref (c + 1), .int (nI q.pa.length), .int (nI (q.hp + 1)), .int (nI q.ph), .ref (c + 2), .ref (c + 3), .int (nI q.st.length), .ref (c + 4), .ref (c + 5), .ref (c + 6), .ref (c + 7), .ref (c + 8), .ref (c + 9), .ref (c + 10)])) = g10 at t10 c10 ⊢
    have T10 : ∀ a, a ≠ c → (a < c + 11 + 9 * q.hp ∨ c + 11 + 9 * q.hp + 9 ≤ a) → (a < o + 8 ∨ o + 42 ≤ a ∨ a = o + 26) → g10 a = h a := fun a a0 a1 a2 => (t10 a a0).trans (T9 a a1 a2)
    have L9 := C.2.2.1.set (h2 := g10) k11 i1.1 (ml9.keep (fun a _ _ => t10 a (by omega))) (T10 _ (by omega) (by omega) (by omega)) (fun a _ _ _ => T10 a (by omega) (by omega) (by omega))
    have L10 : mq_L c (q.hp + 1) (fu q.la q.hp (ks_f tx, ks_b tx)) g10 := ⟨L9.1, L9.2.1, fun i hi => by
      by_cases z : i = q.hp
      · rw [z, fu_s]
        exact ml9.keep (fun a _ _ => t10 a (by omega))
      · exact L9.2.2 i (by omega)⟩
    have C10 : mq_S c (q.cl, q.nu, q.pa, q.hp + 1, q.ph, fu q.la q.hp (ks_f tx, ks_b tx), q.x, q.st) g10 := ⟨c10, C.2.1.keep (T10 _ (by omega) (by omega) (by omega)), L10, C.2.2.2.1.keep (T10 _ (by omega) (by omega) (by omega)), C.2.2.2.2.keep (fun a _ _ => T10 a (by omega) (by omega) (by omega))⟩
    have W10 : mw o x3 g10 := W12.keep (fun a _ _ _ => t10 a (by omega))
    obtain ⟨K10, f10⟩ := K.chg (h1 := g10) (lk2 := lk) (k2 := k) W10 (KL.keep (T10 _ (by omega) (by omega) (by omega)) (T10 _ (by omega) (by omega) (by omega))) C10 ((T10 _ (by omega) (by omega) (by omega)).trans k8) rfl rfl (by show q.hp + 1 ≤ 3; omega) (fun a a1 a2 => T10 a (by omega) (by omega) (by omega))
    have o13 := W10.ob.1
    have an : c_an rs q k b = if q.hp + 1 = q.pa.length then ((q.cl, q.nu, q.pa, q.hp + 1, 1, fu q.la q.hp (ks_f tx, ks_b tx), q.x, q.st), k, []) else ((c_fo (q.cl, q.nu, q.pa, q.hp + 1, q.ph, fu q.la q.hp (ks_f tx, ks_b tx), an_d k.se k.dr, q.st) 14 0 69 (fun j => if j = 0 then q.pa.getD (q.hp + 1) 0 else of_b (rs (q.pa.getD (q.hp + 1) 0)).se (an_d k.se k.dr) (j - 1))).1, (k.se, k.dr + 1, k.nu), [(c_fo (q.cl, q.nu, q.pa, q.hp + 1, q.ph, fu q.la q.hp (ks_f tx, ks_b tx), an_d k.se k.dr, q.st) 14 0 69 (fun j => if j = 0 then q.pa.getD (q.hp + 1) 0 else of_b (rs (q.pa.getD (q.hp + 1) 0)).se (an_d k.se k.dr) (j - 1))).2]) := by
      unfold c_an
      dsimp only
      rw [if_pos wt, etx]
      rfl
    rw [an]
    first | refine on_aload_n (pc' := 222) rfl rfl rfl rfl ?_ | refine on_aload_nQ (pc' := 222) rfl rfl rfl rfl ?_
    first | apply on_get (pc' := 225) rfl rfl fl_M_486 | apply on_getN (pc' := 225) rfl rfl fl_M_486
    · repeat (first | assumption | exact on_up_eq _ _ _ | refine (on_up_ne (by omega)).trans ?_)
    · rfl
    first | refine on_aload_n (pc' := 226) rfl rfl rfl rfl ?_ | refine on_aload_nQ (pc' := 226) rfl rfl rfl rfl ?_
    first | apply on_get (pc' := 229) rfl rfl fl_M_475 | apply on_getN (pc' := 229) rfl rfl fl_M_475
    · repeat (first | assumption | exact on_up_eq _ _ _ | refine (on_up_ne (by omega)).trans ?_)
    · rfl
    refine on_icmp_ne (pc' := 232) (tgt := 238) rfl rfl rfl (fun cq => ?_) (fun cq => ?_)
    · rename_i cq0
      have nel : ¬ q.hp + 1 = q.pa.length := fun w => cq (by rw [w])
      clear cq
      rw [if_neg nel]
      have lt : q.hp + 1 < q.pa.length := by omega
      have r7 := hpa _ lt
      have i3 : q.hp + 1 < 3 ∧ 3 < 2 ^ 31 := by omega
      have i4 : q.pa.getD (q.hp + 1) 0 < 6 ∧ 6 < 2 ^ 31 := by omega
      obtain ⟨RR, eRR, MM, hRRo, hRRc⟩ := K10.2.2.2.2.2.1 _ r7
      have k510 := K10.2.2.2.2.1
      have p10 := (T10 (c + 1) (by omega) (by omega) (by omega)).trans p1
      first | refine on_aload_n (pc' := 239) rfl rfl rfl rfl ?_ | refine on_aload_nQ (pc' := 239) rfl rfl rfl rfl ?_
      first | refine on_aload_n (pc' := 240) rfl rfl rfl rfl ?_ | refine on_aload_nQ (pc' := 240) rfl rfl rfl rfl ?_
      first | refine on_aload_n (pc' := 241) rfl rfl rfl rfl ?_ | refine on_aload_nQ (pc' := 241) rfl rfl rfl rfl ?_
      first | apply on_get (pc' := 244) rfl rfl fl_M_9 | apply on_getN (pc' := 244) rfl rfl fl_M_9
      · repeat (first | assumption | exact on_up_eq _ _ _ | refine (on_up_ne (by omega)).trans ?_)
      · rfl
      first | refine on_aload_n (pc' := 245) rfl rfl rfl rfl ?_ | refine on_aload_nQ (pc' := 245) rfl rfl rfl rfl ?_
      first | apply on_get (pc' := 248) rfl rfl fl_M_472 | apply on_getN (pc' := 248) rfl rfl fl_M_472
      · repeat (first | assumption | exact on_up_eq _ _ _ | refine (on_up_ne (by omega)).trans ?_)
      · rfl
      first | refine on_aload_n (pc' := 249) rfl rfl rfl rfl ?_ | refine on_aload_nQ (pc' := 249) rfl rfl rfl rfl ?_
      first | apply on_get (pc' := 252) rfl rfl fl_M_486 | apply on_getN (pc' := 252) rfl rfl fl_M_486
      · repeat (first | assumption | exact on_up_eq _ _ _ | refine (on_up_ne (by omega)).trans ?_)
      · rfl
      apply on_ialoadK (pc' := 253) (t := 0) rfl rfl
      · repeat (first | assumption | exact on_up_eq _ _ _ | refine (on_up_ne (by omega)).trans ?_)
      · rfl
      · first | assumption | exact on_lit _ | rfl
      · first | assumption | omega | decide
      rw [p2 (q.hp + 1) lt]
      apply on_aaloadK (pc' := 254) rfl rfl
      · repeat (first | assumption | exact on_up_eq _ _ _ | refine (on_up_ne (by omega)).trans ?_)
      · rfl
      · first | assumption | exact on_lit _ | rfl
      · first | assumption | omega | decide
      rw [eRR]
      show on_E G M_M_answered 254 _ [.ref RR, .ref c, .ref o] g10 sz _ _ _
      refine on_callV (pc' := 257) (As := [.ref c, .ref RR]) (rest := []) (b := o) rfl rfl cw_M_answered_483 (o13) rfl rfl (Nat.le_of_ble_eq_true rfl) (Nat.zero_le _) (Nat.zero_le _) (c_M_begin2 (cl := q.cl) W10 c10 C10.2.2.2.1.w K10.2.2.2.2.2.2.1.1 K10.2.2.2.2.2.2.2.1 (by omega) k4 MM hRRo hRRc) ?_
      rintro v g11 sz ⟨rfl, rfl, W13, X13, ⟨S13, s13, S13'⟩, d13, t13⟩
      rw [k9, K10.2.2.2.2.2.2.1.2, pk_us] at X13 S13'
      rw [k9, pk_us] at d13
      have d13 : g11 (o + 3) = some (on_ai 0 2 (upd D0 cl (k.dr + 1))) := by
        rw [d13]
        refine congrArg some (congrArg (on_ai 0 2) (funext fun i => ?_))
        by_cases z : i = cl
        · rw [z, pk_us, pk_us]
        · rw [pk_un z, pk_un z, pk_un z]
      have U13 : ∀ a, c ≤ a → a < c + 38 → a ≠ c + 3 → g11 a = g10 a := fun a a1 a2 a3 => t13 a a3 (by omega) (by omega)
      have C13 : mq_S c (q.cl, q.nu, q.pa, q.hp + 1, q.ph, fu q.la q.hp (ks_f tx, ks_b tx), an_d k.se k.dr, q.st) g11 := ⟨(U13 _ (by omega) (by omega) (by omega)).trans c10, C10.2.1.keep (U13 _ (by omega) (by omega) (by omega)), L10.keep (by omega) (U13 _ (by omega) (by omega) (by omega)) (fun a _ _ => U13 a (by omega) (by omega) (by omega)), X13, C10.2.2.2.2.keep (fun a _ _ => U13 a (by omega) (by omega) (by omega))⟩
      obtain ⟨K13, f13⟩ := K10.chg (h1 := g11) (lk2 := lk) (k2 := (k.se, k.dr + 1, k.nu)) W13 (K10.2.1.keep (t13 _ (by omega) (by omega) (by omega)) (t13 _ (by omega) (by omega) (by omega))) C13 d13 rfl rfl (by show q.hp + 1 ≤ 3; omega) (fun a a1 a2 => t13 a (by omega) (by omega) (by omega))
      have o14 := W13.ob.1
      obtain ⟨DD, dd⟩ := W13.da
      have c13 := (U13 c (by omega) (by omega) (by omega)).trans c10
      have p13 := (U13 (c + 1) (by omega) (by omega) (by omega)).trans p10
      first | refine on_aload_n (pc' := 258) rfl rfl rfl rfl ?_ | refine on_aload_nQ (pc' := 258) rfl rfl rfl rfl ?_
      first | apply on_get (pc' := 261) rfl rfl fl_M_124 | apply on_getN (pc' := 261) rfl rfl fl_M_124
      · repeat (first | assumption | exact on_up_eq _ _ _ | refine (on_up_ne (by omega)).trans ?_)
      · rfl
      refine on_iconst (pc' := 262) (v := 0) rfl rfl li_0 ?_
      first | refine on_aload_n (pc' := 263) rfl rfl rfl rfl ?_ | refine on_aload_nQ (pc' := 263) rfl rfl rfl rfl ?_
      first | apply on_get (pc' := 266) rfl rfl fl_M_472 | apply on_getN (pc' := 266) rfl rfl fl_M_472
      · repeat (first | assumption | exact on_up_eq _ _ _ | refine (on_up_ne (by omega)).trans ?_)
      · rfl
      first | refine on_aload_n (pc' := 267) rfl rfl rfl rfl ?_ | refine on_aload_nQ (pc' := 267) rfl rfl rfl rfl ?_
      first | apply on_get (pc' := 270) rfl rfl fl_M_486 | apply on_getN (pc' := 270) rfl rfl fl_M_486
      · repeat (first | assumption | exact on_up_eq _ _ _ | refine (on_up_ne (by omega)).trans ?_)
      · rfl
      apply on_ialoadK (pc' := 271) (t := 0) rfl rfl
      · repeat (first | assumption | exact on_up_eq _ _ _ | refine (on_up_ne (by omega)).trans ?_)
      · rfl
      · first | assumption | exact on_lit _ | rfl
      · first | assumption | omega | decide
      rw [p2 (q.hp + 1) lt]
      apply on_iastoreK (pc' := 272) (t := 0) rfl rfl
      · repeat (first | assumption | exact on_up_eq _ _ _ | refine (on_up_ne (by omega)).trans ?_)
      · rfl
      · first | assumption | exact on_lit _ | rfl
      · first | assumption | omega | decide
      refine on_iconst (pc' := 273) (v := 0) rfl rfl li_0 ?_
      refine on_istore (pc' := 275) rfl rfl (by decide) ?_
      refine on_relv (l := [(0, .ref o), (1, .ref c), (6, .int (nI 0))]) ⟨rfl, rfl, rfl, trivial⟩ ?_
      refine man_3 (D1 := upd DD 0 (nI (q.pa.getD (q.hp + 1) 0))) o14 s13 (fun D h0 hD => ?_) 68 0 _ rfl rfl (fun i hi => absurd hi (Nat.not_lt_zero i))
      rw [pk_us] at h0
      have t14 : ∀ a, a ≠ o + 41 → on_up g11 (o + 41) (on_ai 0 124 D) a = g11 a := fun a ha => on_up_ne ha
      have d14 : on_up g11 (o + 41) (on_ai 0 124 D) (o + 41) = some (on_ai 0 124 D) := on_up_eq _ _ _
      obtain ⟨K14, f14⟩ := K13.wrk (a := o + 41) (h1 := on_up g11 (o + 41) (on_ai 0 124 D)) (by omega) (by rw [show o + 41 - o = 41 by omega]; exact ⟨D, on_up_eq _ _ _⟩) t14
      generalize on_up g11 (o + 41) (on_ai 0 124 D) = g12 at t14 d14 K14 f14 ⊢
      have o15 := K14.1.ob.1
      first | refine on_aload_n (pc' := 305) rfl rfl rfl rfl ?_ | refine on_aload_nQ (pc' := 305) rfl rfl rfl rfl ?_
      first | refine on_aload_n (pc' := 306) rfl rfl rfl rfl ?_ | refine on_aload_nQ (pc' := 306) rfl rfl rfl rfl ?_
      refine on_bipush (pc' := 308) (v := 14) rfl rfl lb_14 ?_
      refine on_iconst (pc' := 309) (v := 0) rfl rfl li_0 ?_
      refine on_bipush (pc' := 311) (v := 69) rfl rfl lb_69 ?_
      first | refine on_aload_n (pc' := 312) rfl rfl rfl rfl ?_ | refine on_aload_nQ (pc' := 312) rfl rfl rfl rfl ?_
      first | apply on_get (pc' := 315) rfl rfl fl_M_124 | apply on_getN (pc' := 315) rfl rfl fl_M_124
      · repeat (first | assumption | exact on_up_eq _ _ _ | refine (on_up_ne (by omega)).trans ?_)
      · rfl
      refine on_callV (pc' := 318) (As := [.ref c, .int (nI 14), .int (nI 0), .int (nI 69), .ref (o + 41)]) (rest := []) (b := o) rfl rfl cw_M_answered_503 (o15) rfl rfl (Nat.le_of_ble_eq_true rfl) (Nat.zero_le _) (Nat.zero_le _) (c_M_forth (B := B + 540) (d := fun j => if j = 0 then q.pa.getD (q.hp + 1) 0 else of_b (rs (q.pa.getD (q.hp + 1) 0)).se (an_d k.se k.dr) (j - 1)) K14 ?hl (by omega) (Nat.succ_pos _) (by show 0 < q.pa.length; omega) pa0 (by decide) (by decide) ⟨D, d14⟩ (by omega) (by decide) ⟨by decide, by decide⟩ ?hd) ?_
      case hl =>
        intro j hj
        have hj : j < q.hp + 1 := hj
        show lz (fu q.la q.hp (ks_f tx, ks_b tx) j).1 ≤ B + 540
        by_cases z : j = q.hp
        · rw [z, fu_s]
          have : lz (ks_f tx) ≤ 32 := by
            unfold lz ks_f
            show max (sp_sl _ 0 32).length 0 ≤ 32
            rw [sp_sl_len]
            decide
          show lz (ks_f tx) ≤ B + 540
          omega
        · rw [fu_n z]
          have := hlz j (by omega)
          omega
      case hd =>
        intro f hf i hi
        cases d14.symm.trans hf
        by_cases z : i = 0
        · rw [z]
          dsimp only
          rw [if_pos rfl, h0]
          exact ⟨rfl, by omega⟩
        · dsimp only
          rw [if_neg z]
          have := hD (i - 1) (by omega)
          rw [show 1 + (i - 1) = i by omega] at this
          rw [this]
          exact S13' (i - 1) (by omega)
      rintro v g13 sz ⟨rfl, rfl, Z15, t15⟩
      refine on_vreturn rfl rfl ?_
      exact ⟨rfl, rfl, Z15, (((f10.trans f13).trans f14).trans (fun a a1 a2 => t15 a (by omega) (by omega) (by omega) (by omega) (by omega) (by omega) (by omega) (by omega)))⟩
    · have el : q.hp + 1 = q.pa.length := (nI_eq (by omega) (by omega)).mp cq
      clear cq
      rw [if_pos el]
      first | refine on_aload_n (pc' := 233) rfl rfl rfl rfl ?_ | refine on_aload_nQ (pc' := 233) rfl rfl rfl rfl ?_
      refine on_iconst (pc' := 234) (v := 1) rfl rfl li_1 ?_
      first | apply on_put (pc' := 237) rfl rfl fp_M_489 | apply on_putN (pc' := 237) rfl rfl fp_M_489
      · repeat (first | assumption | exact on_up_eq _ _ _ | refine (on_up_ne (by omega)).trans ?_)
      · first | rfl | assumption
      · first | rfl | assumption
      · exact Nat.le_of_ble_eq_true rfl
      refine on_vreturn rfl rfl ?_
      have t11 : ∀ a, a ≠ c → on_up g10 c (.inr (16, [.int (nI (8 + q.cl)), .int (nI q.nu), .ref (c + 1), .int (nI q.pa.length), .int (nI (q.hp + 1)), .int 1, .ref (c + 2), .ref (c + 3), .int (nI q.st.length), .ref (c + 4), .ref (c + 5), .ref (c + 6), .ref (c + 7), .ref (c + 8), .ref (c + 9), .ref (c + 10)])) a = g10 a := fun a ha => on_up_ne ha
      refine ⟨rfl, rfl, ?_⟩
      obtain ⟨K11, f11⟩ := K10.chg (h1 := on_up g10 c (.inr (16, [.int (nI (8 + q.cl)), .int (nI q.nu), .ref (c + 1), .int (nI q.pa.length), .int (nI (q.hp + 1)), .int 1, .ref (c + 2), .ref (c + 3), .int (nI q.st.length), .ref (c + 4), .ref (c + 5), .ref (c + 6), .ref (c + 7), .ref (c + 8), .ref (c + 9), .ref (c + 10)]))) (lk2 := lk) (q2 := (q.cl, q.nu, q.pa, q.hp + 1, 1, fu q.la q.hp (ks_f tx, ks_b tx), q.x, q.st)) (k2 := k) (W10.keep (fun a _ _ _ => t11 a (by omega))) (K10.2.1.keep (t11 _ (by omega)) (t11 _ (by omega))) ⟨on_up_eq _ _ _, C10.2.1.keep (t11 _ (by omega)), L10.keep (by omega) (t11 _ (by omega)) (fun a _ _ => t11 a (by omega)), C10.2.2.2.1.keep (t11 _ (by omega)), C10.2.2.2.2.keep (fun a _ _ => t11 a (by omega))⟩ ((t11 _ (by omega)).trans K10.2.2.2.2.2.2.2.1) rfl rfl (by show q.hp + 1 ≤ 3; omega) (fun a a1 a2 => t11 a (by omega))
      exact ⟨K11, f10.trans f11⟩
end MAN
