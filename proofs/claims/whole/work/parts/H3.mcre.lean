/-! the reference: CREATE at a relay -/
theorem r_me_iff {r : aR} {x : aB} : r_me r x = true ↔ ∀ i, i < 36 → x (5 + i) = rs_i r.se i := by
  unfold r_me
  rw [List.all_eq_true]
  constructor
  · intro h i hi
    exact of_decide_eq_true (h i (List.mem_range.mpr hi))
  · intro h i hi
    exact decide_eq_true (h i (List.mem_range.mp hi))
section MCR
variable {G : on_G} {o R self n nr nk B fr s sz bc bs : Nat} {num : Int32} {x3 : Int32 × Int32 × Int32} {F : Nat → Option Nat} {lk : Nat → List aB} {r : aR} {e : aE} {ord es : Nat → Nat} {h h1 : on_H} {Q : Option Value → on_H → Nat → Prop} {x : aB}
/-- a new entry -/
theorem mR.new {dr : Int32} (K : mR o R self x3 F lk r n ord es h) (hn : n < 12) (hs : s < 12) (he : r.en s = none) (W1 : mw o x3 h1) (L1 : mk_L o lk h1) (hR : h1 R = some (.inr (15, [.long r.se, .int dr, .ref (R + 1), .ref (R + 2), .ref (R + 3), .int (nI r.we), .int (nI r.nx), .ref (R + 4), .int (nI (n + 1)), .ref (R + 5), .int (nI r.ke.length)]))) (E2 : me_S (es n) e h1) (t : ∀ b, (b < o ∨ o + 42 ≤ b ∨ o < b ∧ b < o + 6) → b ≠ R → (b < es n ∨ es n + 14 ≤ b) → h1 b = h b) : mR o R self x3 F lk (r.se, dr, r.we, r.nx, fu r.en s (some e), r.ke) (n + 1) (fu ord n s) es h1 ∧ mf_R o R h h1 := by
  obtain ⟨W, KL, K3, I, k5, k6, k7, k8⟩ := K
  obtain ⟨i1, i2, i3, i4, i5, i6⟩ := id I
  obtain ⟨a1, a2, a3, ⟨F4, a4, a4'⟩, ⟨a5, a6, a7⟩, a8⟩ := K3
  have at0 := I.at hn
  have tR : ∀ b, R < b → b < R + 6 → h1 b = h b := fun b c1 c2 => t b (by omega) (by omega) (by omega)
  have ns : ∀ k, k < n → ord k ≠ s := fun k hk w => by
    obtain ⟨x, x1, -⟩ := a6 k hk
    rw [w, he] at x1
    cases x1
  refine ⟨⟨W1, L1, ⟨hR, a2.keep (tR _ (by omega) (by omega)), a3.keep (tR _ (by omega) (by omega)), ⟨F4, (tR _ (by omega) (by omega)).trans a4, a4'⟩, ⟨(tR _ (by omega) (by omega)).trans a5, fun j hj => ?_, fun j hj hj2 => ?_⟩, a8.keep (tR _ (by omega) (by omega))⟩, ⟨by omega, i2, i3, fun j k hj hk w => ?_, fun q x hx => ?_, fun k hk => ?_⟩, (t _ (by omega) (by omega) (by omega)).trans k5, k6, k7, k8⟩, fun b c1 c2 => t b (by omega) (by omega) (by omega)⟩
  · by_cases z : j = n
    · rw [z, fu_s]
      exact ⟨e, fu_s, E2⟩
    · obtain ⟨x, e1, e3⟩ := a6 j (by omega)
      have atj := I.at (show j < 12 by omega)
      have ap := I.apart (show j < 12 by omega) hn z
      rw [fu_n z]
      exact ⟨x, (fu_n (ns j (by omega))).trans e1, e3.keep (fun b c1 c2 => t b (by omega) (by omega) (by omega))⟩
  · have atj := I.at hj2
    have ap := I.apart hj2 hn (by omega)
    exact (a7 j (by omega) hj2).keep (fun b c1 c2 => t b (by omega) (by omega) (by omega))
  · by_cases z1 : j = n
    · by_cases z2 : k = n
      · omega
      · rw [z1, fu_s, fu_n z2] at w
        exact absurd w.symm (ns k (by omega))
    · by_cases z2 : k = n
      · rw [z2, fu_s, fu_n z1] at w
        exact absurd w (ns j (by omega))
      · rw [fu_n z1, fu_n z2] at w
        exact i4 j k (by omega) (by omega) w
  · by_cases z : q = s
    · exact ⟨n, by omega, fu_s.trans z.symm⟩
    · have hx : fu r.en s (some e) q = some x := hx
      rw [fu_n z] at hx
      obtain ⟨k, k1, k2⟩ := i5 q x hx
      exact ⟨k, by omega, (fu_n (by omega)).trans k2⟩
  · by_cases z : k = n
    · rw [z, fu_s]
      exact hs
    · rw [fu_n z]
      exact i6 k (by omega)
set_option maxHeartbeats 4000000 in
theorem mcr_1 {X M : Nat → Int32} {fs : List Value} (ho : h o = some (.inr (17, mo_f o x3.1 x3.2.1 x3.2.2))) (hx : h (o + 24) = some (on_ai 0 140 X)) (hX : on_by X x 140) (hR : h R = some (.inr (15, [.long r.se, .int r.dr, .ref (R + 1), .ref (R + 2), .ref (R + 3), .int (nI r.we), .int (nI r.nx), .ref (R + 4), .int (nI n), .ref (R + 5), .int (nI r.ke.length)]))) (hM : h (R + 3) = some (on_ai 0 32 M)) (hM2 : on_by M (rs_i r.se) 4)
    (kk : ∀ b : Bool, (b = true ↔ ∀ i, i < 4 → x (5 + i) = rs_i r.se i) → on_E G M_M_created 58 (on_l [(0, .ref o), (1, .int (nI self)), (2, .int (nI fr)), (3, .int num), (4, .ref R), (5, .int (bI b))]) [] h sz bc bs Q) :
    ∀ (m j : Nat) (b : Bool), j + m = 4 → (b = true ↔ ∀ i, i < j → x (5 + i) = rs_i r.se i) → on_E G M_M_created 14 (on_l [(0, .ref o), (1, .int (nI self)), (2, .int (nI fr)), (3, .int num), (4, .ref R), (5, .int (bI b)), (6, .int (nI j))]) [] h sz bc bs Q := by
  intro m
  induction m with
  | zero =>
    intro j b hj hb
    obtain rfl : j = 4 := by omega
    refine on_iload (pc' := 16) rfl rfl rfl ?_
    refine on_iconst (pc' := 17) (v := 4) rfl rfl li_4 ?_
    refine on_icmp_ge (pc' := 20) (tgt := 58) rfl rfl rfl (fun cq => ?_) (fun cq => ?_)
    · exact on_relv (l := [(0, .ref o), (1, .int (nI self)), (2, .int (nI fr)), (3, .int num), (4, .ref R), (5, .int (bI b))]) ⟨rfl, rfl, rfl, rfl, rfl, rfl, trivial⟩ (kk b hb)
    · exact absurd (by decide) cq
  | succ m ih =>
    intro j b hj hb
    have i1 : 5 + j < 140 ∧ 140 < 2 ^ 31 := by omega
    have i2 : j < 32 ∧ 32 < 2 ^ 31 := by omega
    have back : ∀ (lv : Nat → Option Value) (b2 : Bool), lv 0 = some (.ref o) → lv 1 = some (.int (nI self)) → lv 2 = some (.int (nI fr)) → lv 3 = some (.int num) → lv 4 = some (.ref R) → lv 6 = some (.int (nI j)) → (b2 = true ↔ ∀ i, i < j + 1 → x (5 + i) = rs_i r.se i) → on_E G M_M_created 50 lv [.int (bI b2)] h sz bc bs Q := fun lv b2 l0 l1 l2 l3 l4 l6 hb2 => by
      refine on_relv (l := [(0, .ref o), (1, .int (nI self)), (2, .int (nI fr)), (3, .int num), (4, .ref R), (6, .int (nI j))]) ⟨l0, l1, l2, l3, l4, l6, trivial⟩ ?_
      refine on_istore (pc' := 52) rfl rfl (by decide) ?_
      refine on_iinc1 (pc' := 55) rfl rfl rfl ?_
      refine on_goto (tgt := 14) rfl rfl ?_
      exact on_relv (l := [(0, .ref o), (1, .int (nI self)), (2, .int (nI fr)), (3, .int num), (4, .ref R), (5, .int (bI b2)), (6, .int (nI (j + 1)))]) ⟨rfl, rfl, rfl, rfl, rfl, rfl, congrArg some (congrArg Value.int (nI_1 j)), trivial⟩ (ih (j + 1) b2 (by omega) hb2)
    refine on_iload (pc' := 16) rfl rfl rfl ?_
    refine on_iconst (pc' := 17) (v := 4) rfl rfl li_4 ?_
    refine on_icmp_ge (pc' := 20) (tgt := 58) rfl rfl rfl (fun cq => ?_) (fun cq => ?_)
    · exact absurd cq (nI_ge (b := 4) (by omega) (by decide))
    · clear cq
      refine on_iload (pc' := 22) rfl rfl rfl ?_
      refine on_if_eq (pc' := 25) (tgt := 49) rfl rfl rfl (fun cq => ?_) (fun cq => ?_)
      · refine on_iconst (pc' := 50) (v := 0) rfl rfl li_0 ?_
        refine back _ false rfl rfl rfl rfl rfl rfl ⟨fun w => (nomatch w), fun w => ?_⟩
        rw [bI_eq.mp cq] at hb
        exact hb.mpr (fun i hi => w i (by omega))
      · have hb1 := hb.mp (bI_ne.mp cq)
        clear cq
        first | refine on_aload_n (pc' := 26) rfl rfl rfl rfl ?_ | refine on_aload_nQ (pc' := 26) rfl rfl rfl rfl ?_
        first | apply on_get (pc' := 29) rfl rfl fl_M_73 | apply on_getN (pc' := 29) rfl rfl fl_M_73
        · repeat (first | assumption | exact on_up_eq _ _ _ | refine (on_up_ne (by omega)).trans ?_)
        · rfl
        refine on_iconst (pc' := 30) (v := 5) rfl rfl li_5 ?_
        refine on_iload (pc' := 32) rfl rfl rfl ?_
        refine on_iadd (pc' := 33) rfl rfl ?_
        rw [show (5 : Int32) + nI j = nI (5 + j) from nI_add 5 j]
        apply on_ialoadK (pc' := 34) (t := 0) rfl rfl
        · repeat (first | assumption | exact on_up_eq _ _ _ | refine (on_up_ne (by omega)).trans ?_)
        · rfl
        · first | assumption | exact on_lit _ | rfl
        · first | assumption | omega | decide
        first | refine on_aload (pc' := 36) rfl rfl rfl ?_ | refine on_aloadQ (pc' := 36) rfl rfl rfl ?_
        first | apply on_get (pc' := 39) rfl rfl fl_M_285 | apply on_getN (pc' := 39) rfl rfl fl_M_285
        · repeat (first | assumption | exact on_up_eq _ _ _ | refine (on_up_ne (by omega)).trans ?_)
        · rfl
        refine on_iload (pc' := 41) rfl rfl rfl ?_
        apply on_ialoadK (pc' := 42) (t := 0) rfl rfl
        · repeat (first | assumption | exact on_up_eq _ _ _ | refine (on_up_ne (by omega)).trans ?_)
        · rfl
        · first | assumption | exact on_lit _ | rfl
        · first | assumption | omega | decide
        rw [(hX (5 + j) i1.1).1, (hM2 j (by omega)).1]
        have e1 := (hX (5 + j) i1.1).2
        have e2 := (hM2 j (by omega)).2
        refine on_icmp_ne (pc' := 45) (tgt := 49) rfl rfl rfl (fun cq => ?_) (fun cq => ?_)
        · refine on_iconst (pc' := 50) (v := 0) rfl rfl li_0 ?_
          refine back _ false rfl rfl rfl rfl rfl rfl ⟨fun w => (nomatch w), fun w => ?_⟩
          exact absurd (congrArg nI (w j (by omega))) cq
        · have eq := nI_inj32 (Nat.lt_trans e1 (by decide)) (Nat.lt_trans e2 (by decide)) cq
          refine on_iconst (pc' := 46) (v := 1) rfl rfl li_1 ?_
          refine on_goto (tgt := 50) rfl rfl ?_
          refine back _ true rfl rfl rfl rfl rfl rfl ⟨fun _ i hi => ?_, fun _ => rfl⟩
          by_cases z : i = j
          · rw [z]
            exact eq
          · exact hb1 i (by omega)
set_option maxHeartbeats 4000000 in
theorem mcr_2 {X M : Nat → Int32} (ho : h o = some (.inr (17, mo_f o x3.1 x3.2.1 x3.2.2))) (hx : h (o + 24) = some (on_ai 0 140 X)) (hX : on_by X x 140) (hR : h R = some (.inr (15, [.long r.se, .int r.dr, .ref (R + 1), .ref (R + 2), .ref (R + 3), .int (nI r.we), .int (nI r.nx), .ref (R + 4), .int (nI n), .ref (R + 5), .int (nI r.ke.length)]))) (hM : h (R + 2) = some (on_ai 0 32 M)) (hM2 : on_by M (fun i => rs_i r.se (4 + i)) 32)
    (kk : ∀ b : Bool, (b = true ↔ ∀ i, i < 36 → x (5 + i) = rs_i r.se i) → on_E G M_M_created 107 (on_l [(0, .ref o), (1, .int (nI self)), (2, .int (nI fr)), (3, .int num), (4, .ref R), (5, .int (bI b))]) [] h sz bc bs Q) :
    ∀ (m j : Nat) (b : Bool), j + m = 32 → (b = true ↔ ∀ i, i < 4 + j → x (5 + i) = rs_i r.se i) → on_E G M_M_created 61 (on_l [(0, .ref o), (1, .int (nI self)), (2, .int (nI fr)), (3, .int num), (4, .ref R), (5, .int (bI b)), (6, .int (nI j))]) [] h sz bc bs Q := by
  intro m
  induction m with
  | zero =>
    intro j b hj hb
    obtain rfl : j = 32 := by omega
    refine on_iload (pc' := 63) rfl rfl rfl ?_
    refine on_bipush (pc' := 65) (v := 32) rfl rfl lb_32 ?_
    refine on_icmp_ge (pc' := 68) (tgt := 107) rfl rfl rfl (fun cq => ?_) (fun cq => ?_)
    · exact on_relv (l := [(0, .ref o), (1, .int (nI self)), (2, .int (nI fr)), (3, .int num), (4, .ref R), (5, .int (bI b))]) ⟨rfl, rfl, rfl, rfl, rfl, rfl, trivial⟩ (kk b hb)
    · exact absurd (by decide) cq
  | succ m ih =>
    intro j b hj hb
    have i1 : 9 + j < 140 ∧ 140 < 2 ^ 31 := by omega
    have i2 : j < 32 ∧ 32 < 2 ^ 31 := by omega
    have back : ∀ (lv : Nat → Option Value) (b2 : Bool), lv 0 = some (.ref o) → lv 1 = some (.int (nI self)) → lv 2 = some (.int (nI fr)) → lv 3 = some (.int num) → lv 4 = some (.ref R) → lv 6 = some (.int (nI j)) → (b2 = true ↔ ∀ i, i < 4 + (j + 1) → x (5 + i) = rs_i r.se i) → on_E G M_M_created 99 lv [.int (bI b2)] h sz bc bs Q := fun lv b2 l0 l1 l2 l3 l4 l6 hb2 => by
      refine on_relv (l := [(0, .ref o), (1, .int (nI self)), (2, .int (nI fr)), (3, .int num), (4, .ref R), (6, .int (nI j))]) ⟨l0, l1, l2, l3, l4, l6, trivial⟩ ?_
      refine on_istore (pc' := 101) rfl rfl (by decide) ?_
      refine on_iinc1 (pc' := 104) rfl rfl rfl ?_
      refine on_goto (tgt := 61) rfl rfl ?_
      exact on_relv (l := [(0, .ref o), (1, .int (nI self)), (2, .int (nI fr)), (3, .int num), (4, .ref R), (5, .int (bI b2)), (6, .int (nI (j + 1)))]) ⟨rfl, rfl, rfl, rfl, rfl, rfl, congrArg some (congrArg Value.int (nI_1 j)), trivial⟩ (ih (j + 1) b2 (by omega) hb2)
    refine on_iload (pc' := 63) rfl rfl rfl ?_
    refine on_bipush (pc' := 65) (v := 32) rfl rfl lb_32 ?_
    refine on_icmp_ge (pc' := 68) (tgt := 107) rfl rfl rfl (fun cq => ?_) (fun cq => ?_)
    · exact absurd cq (nI_ge (b := 32) (by omega) (by decide))
    · clear cq
      refine on_iload (pc' := 70) rfl rfl rfl ?_
      refine on_if_eq (pc' := 73) (tgt := 98) rfl rfl rfl (fun cq => ?_) (fun cq => ?_)
      · refine on_iconst (pc' := 99) (v := 0) rfl rfl li_0 ?_
        refine back _ false rfl rfl rfl rfl rfl rfl ⟨fun w => (nomatch w), fun w => ?_⟩
        rw [bI_eq.mp cq] at hb
        exact hb.mpr (fun i hi => w i (by omega))
      · have hb1 := hb.mp (bI_ne.mp cq)
        clear cq
        first | refine on_aload_n (pc' := 74) rfl rfl rfl rfl ?_ | refine on_aload_nQ (pc' := 74) rfl rfl rfl rfl ?_
        first | apply on_get (pc' := 77) rfl rfl fl_M_73 | apply on_getN (pc' := 77) rfl rfl fl_M_73
        · repeat (first | assumption | exact on_up_eq _ _ _ | refine (on_up_ne (by omega)).trans ?_)
        · rfl
        refine on_bipush (pc' := 79) (v := 9) rfl rfl lb_9 ?_
        refine on_iload (pc' := 81) rfl rfl rfl ?_
        refine on_iadd (pc' := 82) rfl rfl ?_
        rw [show (9 : Int32) + nI j = nI (9 + j) from nI_add 9 j]
        apply on_ialoadK (pc' := 83) (t := 0) rfl rfl
        · repeat (first | assumption | exact on_up_eq _ _ _ | refine (on_up_ne (by omega)).trans ?_)
        · rfl
        · first | assumption | exact on_lit _ | rfl
        · first | assumption | omega | decide
        first | refine on_aload (pc' := 85) rfl rfl rfl ?_ | refine on_aloadQ (pc' := 85) rfl rfl rfl ?_
        first | apply on_get (pc' := 88) rfl rfl fl_M_284 | apply on_getN (pc' := 88) rfl rfl fl_M_284
        · repeat (first | assumption | exact on_up_eq _ _ _ | refine (on_up_ne (by omega)).trans ?_)
        · rfl
        refine on_iload (pc' := 90) rfl rfl rfl ?_
        apply on_ialoadK (pc' := 91) (t := 0) rfl rfl
        · repeat (first | assumption | exact on_up_eq _ _ _ | refine (on_up_ne (by omega)).trans ?_)
        · rfl
        · first | assumption | exact on_lit _ | rfl
        · first | assumption | omega | decide
        have e1 := (hX (9 + j) i1.1).2
        have e2 : rs_i r.se (4 + j) < 256 := (hM2 j i2.1).2
        rw [(hX (9 + j) i1.1).1, show M j = nI (rs_i r.se (4 + j)) from (hM2 j i2.1).1]
        refine on_icmp_ne (pc' := 94) (tgt := 98) rfl rfl rfl (fun cq => ?_) (fun cq => ?_)
        · refine on_iconst (pc' := 99) (v := 0) rfl rfl li_0 ?_
          refine back _ false rfl rfl rfl rfl rfl rfl ⟨fun w => (nomatch w), fun w => ?_⟩
          have := w (4 + j) (by omega)
          rw [show 5 + (4 + j) = 9 + j by omega] at this
          exact absurd (congrArg nI this) cq
        · have eq := nI_inj32 (Nat.lt_trans e1 (by decide)) (Nat.lt_trans e2 (by decide)) cq
          refine on_iconst (pc' := 95) (v := 1) rfl rfl li_1 ?_
          refine on_goto (tgt := 99) rfl rfl ?_
          refine back _ true rfl rfl rfl rfl rfl rfl ⟨fun _ i hi => ?_, fun _ => rfl⟩
          by_cases z : i = 4 + j
          · rw [z, show 5 + (4 + j) = 9 + j by omega]
            exact eq
          · exact hb1 i (by omega)
set_option maxHeartbeats 4000000 in
/-- Y into the payload, X into the point -/
theorem mcr_3 {X Y : Nat → Int32} {y : Nat} (ho : h o = some (.inr (17, mo_f o x3.1 x3.2.1 x3.2.2))) (hx : h (o + 24) = some (on_ai 0 140 X)) (hy : h (o + 22) = some (on_ai 0 32 Y))
    (kk : ∀ P T : Nat → Int32, (∀ i, i < 32 → P i = Y i) → (∀ i, i < 32 → T i = X (41 + i)) → on_E G M_M_created 301 (on_l [(0, .ref o), (1, .int (nI self)), (2, .int (nI fr)), (3, .int num), (4, .ref R), (6, .ref y), (7, .ref (o + 25))]) [] (on_up (on_up h (o + 25) (on_ai 0 135 P)) (o + 21) (on_ai 0 32 T)) sz bc bs Q) :
    ∀ (m k : Nat) (P T : Nat → Int32), k + m = 32 → (∀ i, i < k → P i = Y i) → (∀ i, i < k → T i = X (41 + i)) → on_E G M_M_created 259 (on_l [(0, .ref o), (1, .int (nI self)), (2, .int (nI fr)), (3, .int num), (4, .ref R), (6, .ref y), (7, .ref (o + 25)), (8, .int (nI k))]) [] (on_up (on_up h (o + 25) (on_ai 0 135 P)) (o + 21) (on_ai 0 32 T)) sz bc bs Q := by
  intro m
  induction m with
  | zero =>
    intro k P T hk hP hT
    obtain rfl : k = 32 := by omega
    refine on_iload (pc' := 261) rfl rfl rfl ?_
    refine on_bipush (pc' := 263) (v := 32) rfl rfl lb_32 ?_
    refine on_icmp_ge (pc' := 266) (tgt := 301) rfl rfl rfl (fun cq => ?_) (fun cq => ?_)
    · exact on_relv (l := [(0, .ref o), (1, .int (nI self)), (2, .int (nI fr)), (3, .int num), (4, .ref R), (6, .ref y), (7, .ref (o + 25))]) ⟨rfl, rfl, rfl, rfl, rfl, rfl, rfl, trivial⟩ (kk P T hP hT)
    · exact absurd (by decide) cq
  | succ m ih =>
    intro k P T hk hP hT
    have i1 : k < 135 ∧ 135 < 2 ^ 31 := by omega
    have i2 : k < 32 ∧ 32 < 2 ^ 31 := by omega
    have i3 : 41 + k < 140 ∧ 140 < 2 ^ 31 := by omega
    have q1 : on_up (on_up h (o + 25) (on_ai 0 135 P)) (o + 21) (on_ai 0 32 T) (o + 25) = some (on_ai 0 135 P) := (on_up_ne (by omega)).trans (on_up_eq _ _ _)
    refine on_iload (pc' := 261) rfl rfl rfl ?_
    refine on_bipush (pc' := 263) (v := 32) rfl rfl lb_32 ?_
    refine on_icmp_ge (pc' := 266) (tgt := 301) rfl rfl rfl (fun cq => ?_) (fun cq => ?_)
    · exact absurd cq (nI_ge (b := 32) i2.1 (by decide))
    · clear cq
      first | refine on_aload (pc' := 268) rfl rfl rfl ?_ | refine on_aloadQ (pc' := 268) rfl rfl rfl ?_
      refine on_iload (pc' := 270) rfl rfl rfl ?_
      first | refine on_aload_n (pc' := 271) rfl rfl rfl rfl ?_ | refine on_aload_nQ (pc' := 271) rfl rfl rfl rfl ?_
      first | apply on_get (pc' := 274) rfl rfl fl_M_67 | apply on_getN (pc' := 274) rfl rfl fl_M_67
      · repeat (first | assumption | exact on_up_eq _ _ _ | refine (on_up_ne (by omega)).trans ?_)
      · rfl
      refine on_iload (pc' := 276) rfl rfl rfl ?_
      apply on_ialoadK (pc' := 277) (t := 0) rfl rfl
      · repeat (first | assumption | exact on_up_eq _ _ _ | refine (on_up_ne (by omega)).trans ?_)
      · rfl
      · first | assumption | exact on_lit _ | rfl
      · first | assumption | omega | decide
      apply on_iastoreK (pc' := 278) (t := 0) rfl rfl
      · repeat (first | assumption | exact on_up_eq _ _ _ | refine (on_up_ne (by omega)).trans ?_)
      · rfl
      · first | assumption | exact on_lit _ | rfl
      · first | assumption | omega | decide
      first | refine on_aload_n (pc' := 279) rfl rfl rfl rfl ?_ | refine on_aload_nQ (pc' := 279) rfl rfl rfl rfl ?_
      first | apply on_get (pc' := 282) rfl rfl fl_M_64 | apply on_getN (pc' := 282) rfl rfl fl_M_64
      · repeat (first | assumption | exact on_up_eq _ _ _ | refine (on_up_ne (by omega)).trans ?_)
      · rfl
      refine on_iload (pc' := 284) rfl rfl rfl ?_
      first | refine on_aload_n (pc' := 285) rfl rfl rfl rfl ?_ | refine on_aload_nQ (pc' := 285) rfl rfl rfl rfl ?_
      first | apply on_get (pc' := 288) rfl rfl fl_M_73 | apply on_getN (pc' := 288) rfl rfl fl_M_73
      · repeat (first | assumption | exact on_up_eq _ _ _ | refine (on_up_ne (by omega)).trans ?_)
      · rfl
      refine on_bipush (pc' := 290) (v := 41) rfl rfl lb_41 ?_
      refine on_iload (pc' := 292) rfl rfl rfl ?_
      refine on_iadd (pc' := 293) rfl rfl ?_
      rw [show (41 : Int32) + nI k = nI (41 + k) from nI_add 41 k]
      apply on_ialoadK (pc' := 294) (t := 0) rfl rfl
      · repeat (first | assumption | exact on_up_eq _ _ _ | refine (on_up_ne (by omega)).trans ?_)
      · rfl
      · first | assumption | exact on_lit _ | rfl
      · first | assumption | omega | decide
      apply on_iastoreK (pc' := 295) (t := 0) rfl rfl
      · repeat (first | assumption | exact on_up_eq _ _ _ | refine (on_up_ne (by omega)).trans ?_)
      · rfl
      · first | assumption | exact on_lit _ | rfl
      · first | assumption | omega | decide
      refine on_iinc1 (pc' := 298) rfl rfl rfl ?_
      refine on_goto (tgt := 259) rfl rfl ?_
      have eh : on_up (on_up (on_up (on_up h (o + 25) (on_ai 0 135 P)) (o + 21) (on_ai 0 32 T)) (o + 25) (on_ai 0 135 (upd P k (Y k)))) (o + 21) (on_ai 0 32 (upd T k (X (41 + k)))) = on_up (on_up h (o + 25) (on_ai 0 135 (upd P k (Y k)))) (o + 21) (on_ai 0 32 (upd T k (X (41 + k)))) := funext fun b => by
        by_cases z : b = o + 21
        · rw [z, on_up_eq, on_up_eq]
        · rw [on_up_ne z, on_up_ne z]
          by_cases w : b = o + 25
          · rw [w, on_up_eq, on_up_eq]
          · rw [on_up_ne w, on_up_ne z, on_up_ne w, on_up_ne w]
      refine on_relv (l := [(0, .ref o), (1, .int (nI self)), (2, .int (nI fr)), (3, .int num), (4, .ref R), (6, .ref y), (7, .ref (o + 25)), (8, .int (nI (k + 1)))]) ⟨rfl, rfl, rfl, rfl, rfl, rfl, rfl, congrArg some (congrArg Value.int (nI_1 k)), trivial⟩ ?_
      rw [eh]
      refine ih (k + 1) _ _ (by omega) (fun i hi => ?_) (fun i hi => ?_)
      · by_cases z : i = k
        · rw [z, pk_us]
        · rw [pk_un z]
          exact hP i (by omega)
      · by_cases z : i = k
        · rw [z, pk_us]
        · rw [pk_un z]
          exact hT i (by omega)
set_option maxHeartbeats 4000000 in
/-- the proof into the payload -/
theorem mcr_4 {P0 Y : Nat → Int32} {y : Nat} (ho : h o = some (.inr (17, mo_f o x3.1 x3.2.1 x3.2.2))) (hy : h (o + 23) = some (on_ai 0 32 Y))
    (kk : ∀ P : Nat → Int32, (∀ i, i < 32 → P (32 + i) = Y i) → (∀ i, i < 32 → P i = P0 i) → on_E G M_M_created 407 (on_l [(0, .ref o), (1, .int (nI self)), (2, .int (nI fr)), (3, .int num), (6, .ref y), (7, .ref (o + 25)), (8, .int (nI 172))]) [] (on_up h (o + 25) (on_ai 0 135 P)) sz bc bs Q) :
    ∀ (m k : Nat) (P : Nat → Int32), k + m = 32 → (∀ i, i < k → P (32 + i) = Y i) → (∀ i, i < 32 → P i = P0 i) → on_E G M_M_created 379 (on_l [(0, .ref o), (1, .int (nI self)), (2, .int (nI fr)), (3, .int num), (6, .ref y), (7, .ref (o + 25)), (8, .int (nI 172)), (9, .int (nI k))]) [] (on_up h (o + 25) (on_ai 0 135 P)) sz bc bs Q := by
  intro m
  induction m with
  | zero =>
    intro k P hk hP hT
    obtain rfl : k = 32 := by omega
    refine on_iload (pc' := 381) rfl rfl rfl ?_
    refine on_bipush (pc' := 383) (v := 32) rfl rfl lb_32 ?_
    refine on_icmp_ge (pc' := 386) (tgt := 407) rfl rfl rfl (fun cq => ?_) (fun cq => ?_)
    · exact on_relv (l := [(0, .ref o), (1, .int (nI self)), (2, .int (nI fr)), (3, .int num), (6, .ref y), (7, .ref (o + 25)), (8, .int (nI 172))]) ⟨rfl, rfl, rfl, rfl, rfl, rfl, rfl, trivial⟩ (kk P hP hT)
    · exact absurd (by decide) cq
  | succ m ih =>
    intro k P hk hP hT
    have i1 : 32 + k < 135 ∧ 135 < 2 ^ 31 := by omega
    have i2 : k < 32 ∧ 32 < 2 ^ 31 := by omega
    refine on_iload (pc' := 381) rfl rfl rfl ?_
    refine on_bipush (pc' := 383) (v := 32) rfl rfl lb_32 ?_
    refine on_icmp_ge (pc' := 386) (tgt := 407) rfl rfl rfl (fun cq => ?_) (fun cq => ?_)
    · exact absurd cq (nI_ge (b := 32) i2.1 (by decide))
    · clear cq
      first | refine on_aload (pc' := 388) rfl rfl rfl ?_ | refine on_aloadQ (pc' := 388) rfl rfl rfl ?_
      refine on_bipush (pc' := 390) (v := 32) rfl rfl lb_32 ?_
      refine on_iload (pc' := 392) rfl rfl rfl ?_
      refine on_iadd (pc' := 393) rfl rfl ?_
      rw [show (32 : Int32) + nI k = nI (32 + k) from nI_add 32 k]
      first | refine on_aload_n (pc' := 394) rfl rfl rfl rfl ?_ | refine on_aload_nQ (pc' := 394) rfl rfl rfl rfl ?_
      first | apply on_get (pc' := 397) rfl rfl fl_M_70 | apply on_getN (pc' := 397) rfl rfl fl_M_70
      · repeat (first | assumption | exact on_up_eq _ _ _ | refine (on_up_ne (by omega)).trans ?_)
      · rfl
      refine on_iload (pc' := 399) rfl rfl rfl ?_
      apply on_ialoadK (pc' := 400) (t := 0) rfl rfl
      · repeat (first | assumption | exact on_up_eq _ _ _ | refine (on_up_ne (by omega)).trans ?_)
      · rfl
      · first | assumption | exact on_lit _ | rfl
      · first | assumption | omega | decide
      apply on_iastoreK (pc' := 401) (t := 0) rfl rfl
      · repeat (first | assumption | exact on_up_eq _ _ _ | refine (on_up_ne (by omega)).trans ?_)
      · rfl
      · first | assumption | exact on_lit _ | rfl
      · first | assumption | omega | decide
      refine on_iinc1 (pc' := 404) rfl rfl rfl ?_
      refine on_goto (tgt := 379) rfl rfl ?_
      rw [on_up_up]
      refine on_relv (l := [(0, .ref o), (1, .int (nI self)), (2, .int (nI fr)), (3, .int num), (6, .ref y), (7, .ref (o + 25)), (8, .int (nI 172)), (9, .int (nI (k + 1)))]) ⟨rfl, rfl, rfl, rfl, rfl, rfl, rfl, congrArg some (congrArg Value.int (nI_1 k)), trivial⟩ ?_
      refine ih (k + 1) _ (by omega) (fun i hi => ?_) (fun i hi => ?_)
      · by_cases z : i = k
        · rw [z, pk_us]
        · rw [pk_un (by omega)]
          exact hP i (by omega)
      · rw [pk_un (by omega)]
        exact hT i hi
end MCR
