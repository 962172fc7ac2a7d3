/-! the reference's circuits: what the last hop sent -/
theorem cs_D {q : aC} {i : Nat} {t : aT} (hi : i < q.st.length) : (cs_s q i t).st.getD i t0 = t := by
  show (q.st.set i t).getD i t0 = t
  rw [getD_set hi, if_pos rfl]
theorem cs_cs {q : aC} {i : Nat} {t u : aT} : cs_s (cs_s q i t) i u = cs_s q i u := by
  unfold cs_s
  rw [List.set_set]
section MDX
variable {G : on_G} {o c cl nr nk B i n sz bc bs : Nat} {x3 : Int32 × Int32 × Int32} {F : Nat → Option Nat} {rs : Nat → aR} {SD : Nat → Int64} {D0 : Nat → Int32} {lk lk2 : Nat → List aB} {q q2 : aC} {k k2 : aK} {h h1 : on_H} {Q : Option Value → on_H → Nat → Prop} {y : aB} {d : Nat → Nat} {lv : on_V} {st : List Value}
theorem sw_mr2 {v : Nat} (hv : v < 256) (k15 : v = 15 → on_E G M_M_relayed2 184 lv st h sz bc bs Q) (k4 : v = 4 → on_E G M_M_relayed2 244 lv st h sz bc bs Q) (k2 : v = 2 → on_E G M_M_relayed2 270 lv st h sz bc bs Q) (k3 : v = 3 → on_E G M_M_relayed2 424 lv st h sz bc bs Q) (k5 : v = 5 → on_E G M_M_relayed2 440 lv st h sz bc bs Q) (kd : ¬ v = 15 → ¬ v = 4 → ¬ v = 2 → ¬ v = 3 → ¬ v = 5 → on_E G M_M_relayed2 470 lv st h sz bc bs Q) : on_E G M_M_relayed2 115 lv (.int (nI v) :: st) h sz bc bs Q := by
  by_cases c15 : v = 15
  · subst c15
    exact on_tableIn rfl (by decide) (by decide) rfl rfl (k15 rfl)
  by_cases c4 : v = 4
  · subst c4
    exact on_tableIn rfl (by decide) (by decide) rfl rfl (k4 rfl)
  by_cases c2 : v = 2
  · subst c2
    exact on_tableIn rfl (by decide) (by decide) rfl rfl (k2 rfl)
  by_cases c3 : v = 3
  · subst c3
    exact on_tableIn rfl (by decide) (by decide) rfl rfl (k3 rfl)
  by_cases c5 : v = 5
  · subst c5
    exact on_tableIn rfl (by decide) (by decide) rfl rfl (k5 rfl)
  have kx := kd c15 c4 c2 c3 c5
  rcases (by omega : v = 6 ∨ v = 7 ∨ v = 8 ∨ v = 9 ∨ v = 10 ∨ v = 11 ∨ v = 12 ∨ v = 13 ∨ v = 14 ∨ v < 2 ∨ 15 < v) with z | z | z | z | z | z | z | z | z | z
  iterate 9
    · subst z
      exact on_tableIn rfl (by decide) (by decide) rfl rfl kx
  · exact on_tableOut rfl (by rw [nI_ti v hv]; omega) rfl kx
set_option maxHeartbeats 4000000 in
theorem mr2_s {P : Nat → Int32} (ho : h o = some (.inr (17, mo_f o x3.1 x3.2.1 x3.2.2))) (hp : h (o + 25) = some (on_ai 0 135 P))
    (kk : ∀ S : Nat → Int32, (∀ i, i < 64 → S i = P (11 + i)) → on_E G M_M_relayed2 236 (on_l [(0, .ref o), (1, .ref c)]) [] (on_up h (o + 26) (on_ai 0 68 S)) sz bc bs Q) :
    ∀ (m j : Nat) (S : Nat → Int32), j + m = 64 → (∀ i, i < j → S i = P (11 + i)) → on_E G M_M_relayed2 206 (on_l [(0, .ref o), (1, .ref c), (6, .int (nI j))]) [] (on_up h (o + 26) (on_ai 0 68 S)) sz bc bs Q := by
  intro m
  induction m with
  | zero =>
    intro j S hj hS
    obtain rfl : j = 64 := by omega
    refine on_iload (pc' := 208) rfl rfl rfl ?_
    refine on_bipush (pc' := 210) (v := 64) rfl rfl lb_64 ?_
    refine on_icmp_ge (pc' := 213) (tgt := 236) rfl rfl rfl (fun cq => ?_) (fun cq => ?_)
    · exact on_relv (l := [(0, .ref o), (1, .ref c)]) ⟨rfl, rfl, trivial⟩ (kk S hS)
    · exact absurd (by decide) cq
  | succ m ih =>
    intro j S hj hS
    have i1 : j < 68 ∧ 68 < 2 ^ 31 := by omega
    have i2 : 11 + j < 135 ∧ 135 < 2 ^ 31 := by omega
    refine on_iload (pc' := 208) rfl rfl rfl ?_
    refine on_bipush (pc' := 210) (v := 64) rfl rfl lb_64 ?_
    refine on_icmp_ge (pc' := 213) (tgt := 236) rfl rfl rfl (fun cq => ?_) (fun cq => ?_)
    · exact absurd cq (nI_ge (b := 64) (by omega) (by decide))
    · clear cq
      first | refine on_aload_n (pc' := 214) rfl rfl rfl rfl ?_ | refine on_aload_nQ (pc' := 214) rfl rfl rfl rfl ?_
      first | apply on_get (pc' := 217) rfl rfl fl_M_79 | apply on_getN (pc' := 217) rfl rfl fl_M_79
      · repeat (first | assumption | exact on_up_eq _ _ _ | refine (on_up_ne (by omega)).trans ?_)
      · rfl
      refine on_iload (pc' := 219) rfl rfl rfl ?_
      first | refine on_aload_n (pc' := 220) rfl rfl rfl rfl ?_ | refine on_aload_nQ (pc' := 220) rfl rfl rfl rfl ?_
      first | apply on_get (pc' := 223) rfl rfl fl_M_76 | apply on_getN (pc' := 223) rfl rfl fl_M_76
      · repeat (first | assumption | exact on_up_eq _ _ _ | refine (on_up_ne (by omega)).trans ?_)
      · rfl
      refine on_bipush (pc' := 225) (v := 11) rfl rfl lb_11 ?_
      refine on_iload (pc' := 227) rfl rfl rfl ?_
      refine on_iadd (pc' := 228) rfl rfl ?_
      rw [show (11 : Int32) + nI j = nI (11 + j) from nI_add 11 j]
      apply on_ialoadK (pc' := 229) (t := 0) rfl rfl
      · repeat (first | assumption | exact on_up_eq _ _ _ | refine (on_up_ne (by omega)).trans ?_)
      · rfl
      · first | assumption | exact on_lit _ | rfl
      · first | assumption | omega | decide
      apply on_iastoreK (pc' := 230) (t := 0) rfl rfl
      · repeat (first | assumption | exact on_up_eq _ _ _ | refine (on_up_ne (by omega)).trans ?_)
      · rfl
      · first | assumption | exact on_lit _ | rfl
      · first | assumption | omega | decide
      refine on_iinc1 (pc' := 233) rfl rfl rfl ?_
      refine on_goto (tgt := 206) rfl rfl ?_
      rw [on_up_up]
      refine on_relv (l := [(0, .ref o), (1, .ref c), (6, .int (nI (j + 1)))]) ⟨rfl, rfl, congrArg some (congrArg Value.int (nI_1 j)), trivial⟩ (ih (j + 1) _ (by omega) (fun i hi => ?_))
      by_cases z : i = j
      · rw [z, pk_us]
      · rw [pk_un (by omega)]
        exact hS i (by omega)
set_option maxHeartbeats 4000000 in
theorem mr2_d {P : Nat → Int32} (hn : n ≤ 124) (ho : h o = some (.inr (17, mo_f o x3.1 x3.2.1 x3.2.2))) (hp : h (o + 25) = some (on_ai 0 135 P))
    (kk : ∀ S : Nat → Int32, (∀ i, i < n → S i = P (11 + i)) → on_E G M_M_relayed2 318 (on_l [(0, .ref o), (1, .ref c), (3, .int (nI n)), (4, .int (nI i))]) [] (on_up h (o + 41) (on_ai 0 124 S)) sz bc bs Q) :
    ∀ (m j : Nat) (S : Nat → Int32), j + m = n → (∀ i, i < j → S i = P (11 + i)) → on_E G M_M_relayed2 289 (on_l [(0, .ref o), (1, .ref c), (3, .int (nI n)), (4, .int (nI i)), (6, .int (nI j))]) [] (on_up h (o + 41) (on_ai 0 124 S)) sz bc bs Q := by
  intro m
  induction m with
  | zero =>
    intro j S hj hS
    have ej : j = n := by omega
    subst ej
    refine on_iload (pc' := 291) rfl rfl rfl ?_
    refine on_iload_n (pc' := 292) rfl rfl rfl rfl ?_
    refine on_icmp_ge (pc' := 295) (tgt := 318) rfl rfl rfl (fun cq => ?_) (fun cq => ?_)
    · exact on_relv (l := [(0, .ref o), (1, .ref c), (3, .int (nI j)), (4, .int (nI i))]) ⟨rfl, rfl, rfl, rfl, trivial⟩ (kk S hS)
    · exact absurd (nI_le (a := j) (Nat.le_refl _) (by omega)) cq
  | succ m ih =>
    intro j S hj hS
    have i1 : j < 124 ∧ 124 < 2 ^ 31 := by omega
    have i2 : 11 + j < 135 ∧ 135 < 2 ^ 31 := by omega
    refine on_iload (pc' := 291) rfl rfl rfl ?_
    refine on_iload_n (pc' := 292) rfl rfl rfl rfl ?_
    refine on_icmp_ge (pc' := 295) (tgt := 318) rfl rfl rfl (fun cq => ?_) (fun cq => ?_)
    · exact absurd cq (nI_ge (b := n) (by omega) (by omega))
    · clear cq
      first | refine on_aload_n (pc' := 296) rfl rfl rfl rfl ?_ | refine on_aload_nQ (pc' := 296) rfl rfl rfl rfl ?_
      first | apply on_get (pc' := 299) rfl rfl fl_M_124 | apply on_getN (pc' := 299) rfl rfl fl_M_124
      · repeat (first | assumption | exact on_up_eq _ _ _ | refine (on_up_ne (by omega)).trans ?_)
      · rfl
      refine on_iload (pc' := 301) rfl rfl rfl ?_
      first | refine on_aload_n (pc' := 302) rfl rfl rfl rfl ?_ | refine on_aload_nQ (pc' := 302) rfl rfl rfl rfl ?_
      first | apply on_get (pc' := 305) rfl rfl fl_M_76 | apply on_getN (pc' := 305) rfl rfl fl_M_76
      · repeat (first | assumption | exact on_up_eq _ _ _ | refine (on_up_ne (by omega)).trans ?_)
      · rfl
      refine on_bipush (pc' := 307) (v := 11) rfl rfl lb_11 ?_
      refine on_iload (pc' := 309) rfl rfl rfl ?_
      refine on_iadd (pc' := 310) rfl rfl ?_
      rw [show (11 : Int32) + nI j = nI (11 + j) from nI_add 11 j]
      apply on_ialoadK (pc' := 311) (t := 0) rfl rfl
      · repeat (first | assumption | exact on_up_eq _ _ _ | refine (on_up_ne (by omega)).trans ?_)
      · rfl
      · first | assumption | exact on_lit _ | rfl
      · first | assumption | omega | decide
      apply on_iastoreK (pc' := 312) (t := 0) rfl rfl
      · repeat (first | assumption | exact on_up_eq _ _ _ | refine (on_up_ne (by omega)).trans ?_)
      · rfl
      · first | assumption | exact on_lit _ | rfl
      · first | assumption | omega | decide
      refine on_iinc1 (pc' := 315) rfl rfl rfl ?_
      refine on_goto (tgt := 289) rfl rfl ?_
      rw [on_up_up]
      refine on_relv (l := [(0, .ref o), (1, .ref c), (3, .int (nI n)), (4, .int (nI i)), (6, .int (nI (j + 1)))]) ⟨rfl, rfl, rfl, rfl, congrArg some (congrArg Value.int (nI_1 j)), trivial⟩ (ih (j + 1) _ (by omega) (fun i hi => ?_))
      by_cases z : i = j
      · rw [z, pk_us]
      · rw [pk_un (by omega)]
        exact hS i (by omega)
set_option maxHeartbeats 8000000 in
/-- bytes got -/
theorem mgt_l {D : Nat → Int32} {t : aT} (hn : n ≤ 124) (hi : i < q.st.length) (hD : on_by D d n)
    (kk : ∀ h2, mC o c cl nr x3 F rs SD D0 lk (cs_s q i (t.ph, t.wi, t.ca, t.wa, ke_a t.go d n)) k h2 → mf_C o c h h2 → on_E G M_M_relayed2 421 (on_l []) [] h2 sz bc bs Q) :
    ∀ (m j : Nat) (h1 : on_H), j + m = n → t.go.length + j ≤ 2000 → h1 (o + 41) = some (on_ai 0 124 D) → mC o c cl nr x3 F rs SD D0 lk (cs_s q i (t.ph, t.wi, t.ca, t.wa, ke_a t.go d j)) k h1 → mf_C o c h h1 → on_E G M_M_relayed2 359 (on_l [(0, .ref o), (1, .ref c), (3, .int (nI n)), (4, .int (nI i)), (6, .int (nI j))]) [] h1 sz bc bs Q := by
  intro m
  induction m with
  | zero =>
    intro j h1 hj hl d1 K f1
    have ej : j = n := by omega
    subst ej
    refine on_iload (pc' := 361) rfl rfl rfl ?_
    refine on_iload_n (pc' := 362) rfl rfl rfl rfl ?_
    refine on_icmp_ge (pc' := 365) (tgt := 421) rfl rfl rfl (fun cq => ?_) (fun cq => ?_)
    · exact on_relv (l := []) trivial (kk h1 K f1)
    · exact absurd (nI_le (a := j) (Nat.le_refl _) (by omega)) cq
  | succ m ih =>
    intro j h1 hj hl d1 K f1
    have i1 : j < 124 ∧ 124 < 2 ^ 31 := by omega
    have el : (ke_a t.go d j).length = t.go.length + j := by rw [ke_len, Nat.min_eq_left (by omega)]
    have o1 := K.1.ob.1
    have k4 := K.2.2.2.1
    have c0 : h1 c = some (.inr (16, [.int (nI (8 + q.cl)), .int (nI q.nu), .ref (c + 1), .int (nI q.pa.length), .int (nI q.hp), .int (nI q.ph), .ref (c + 2), .ref (c + 3), .int (nI (cs_s q i (t.ph, t.wi, t.ca, t.wa, ke_a t.go d j)).st.length), .ref (c + 4), .ref (c + 5), .ref (c + 6), .ref (c + 7), .ref (c + 8), .ref (c + 9), .ref (c + 10)])) := K.2.2.1.1
    obtain ⟨IS, WI, CA, WT, WC, GT, GC, ⟨r1, r2, r3, r4, r5, r6, r7⟩, T⟩ := K.2.2.1.2.2.2.2
    have hs : i < (cs_s q i (t.ph, t.wi, t.ca, t.wa, ke_a t.go d j)).st.length := by
      show i < (q.st.set i _).length
      rw [List.length_set]
      exact hi
    have s4 := T.1
    have i2 : i < 4 ∧ 4 < 2 ^ 31 := by omega
    have gc := (T.2.2 i i2.1).2.2.2.1
    rw [cs_D hi] at gc
    have gc : GC i = nI (ke_a t.go d j).length := gc
    rw [el] at gc
    refine on_iload (pc' := 361) rfl rfl rfl ?_
    refine on_iload_n (pc' := 362) rfl rfl rfl rfl ?_
    refine on_icmp_ge (pc' := 365) (tgt := 421) rfl rfl rfl (fun cq => ?_) (fun cq => ?_)
    · exact absurd cq (nI_ge (b := n) (by omega) (by omega))
    · clear cq
      first | refine on_aload_n (pc' := 366) rfl rfl rfl rfl ?_ | refine on_aload_nQ (pc' := 366) rfl rfl rfl rfl ?_
      first | apply on_get (pc' := 369) rfl rfl fl_M_513 | apply on_getN (pc' := 369) rfl rfl fl_M_513
      · repeat (first | assumption | exact on_up_eq _ _ _ | refine (on_up_ne (by omega)).trans ?_)
      · rfl
      refine on_iload (pc' := 371) rfl rfl rfl ?_
      apply on_ialoadK (pc' := 372) (t := 0) rfl rfl
      · repeat (first | assumption | exact on_up_eq _ _ _ | refine (on_up_ne (by omega)).trans ?_)
      · rfl
      · first | assumption | exact on_lit _ | rfl
      · first | assumption | omega | decide
      rw [gc]
      refine on_sipush (pc' := 375) (v := 2000) rfl rfl ls_2000 ?_
      refine on_icmp_ge (pc' := 378) (tgt := 421) rfl rfl rfl (fun cq => ?_) (fun cq => ?_)
      · have full : 2000 ≤ t.go.length + j := by
          rcases Nat.lt_or_ge (t.go.length + j) 2000 with z | z
          · exact absurd cq (nI_ge (b := 2000) z (by decide))
          · exact z
        refine on_relv (l := []) trivial (kk h1 ?_ f1)
        rw [ke_full full (by omega)]
        exact K
      · have lt : t.go.length + j < 2000 := by
          rcases Nat.lt_or_ge (t.go.length + j) 2000 with z | z
          · exact z
          · exact absurd (nI_le (a := 2000) z (by omega)) cq
        clear cq
        have i3 : 2000 * i + (t.go.length + j) < 8000 ∧ 8000 < 2 ^ 31 := by omega
        first | refine on_aload_n (pc' := 379) rfl rfl rfl rfl ?_ | refine on_aload_nQ (pc' := 379) rfl rfl rfl rfl ?_
        first | apply on_get (pc' := 382) rfl rfl fl_M_516 | apply on_getN (pc' := 382) rfl rfl fl_M_516
        · repeat (first | assumption | exact on_up_eq _ _ _ | refine (on_up_ne (by omega)).trans ?_)
        · rfl
        refine on_sipush (pc' := 385) (v := 2000) rfl rfl ls_2000 ?_
        refine on_iload (pc' := 387) rfl rfl rfl ?_
        refine on_imul (pc' := 388) rfl rfl ?_
        first | refine on_aload_n (pc' := 389) rfl rfl rfl rfl ?_ | refine on_aload_nQ (pc' := 389) rfl rfl rfl rfl ?_
        first | apply on_get (pc' := 392) rfl rfl fl_M_513 | apply on_getN (pc' := 392) rfl rfl fl_M_513
        · repeat (first | assumption | exact on_up_eq _ _ _ | refine (on_up_ne (by omega)).trans ?_)
        · rfl
        refine on_iload (pc' := 394) rfl rfl rfl ?_
        apply on_ialoadK (pc' := 395) (t := 0) rfl rfl
        · repeat (first | assumption | exact on_up_eq _ _ _ | refine (on_up_ne (by omega)).trans ?_)
        · rfl
        · first | assumption | exact on_lit _ | rfl
        · first | assumption | omega | decide
        rw [gc, show (2000 : Int32) * nI i = nI (2000 * i) from pk_mul 2000 i]
        refine on_iadd (pc' := 396) rfl rfl ?_
        rw [nI_add]
        first | refine on_aload_n (pc' := 397) rfl rfl rfl rfl ?_ | refine on_aload_nQ (pc' := 397) rfl rfl rfl rfl ?_
        first | apply on_get (pc' := 400) rfl rfl fl_M_124 | apply on_getN (pc' := 400) rfl rfl fl_M_124
        · repeat (first | assumption | exact on_up_eq _ _ _ | refine (on_up_ne (by omega)).trans ?_)
        · rfl
        refine on_iload (pc' := 402) rfl rfl rfl ?_
        apply on_ialoadK (pc' := 403) (t := 0) rfl rfl
        · repeat (first | assumption | exact on_up_eq _ _ _ | refine (on_up_ne (by omega)).trans ?_)
        · rfl
        · first | assumption | exact on_lit _ | rfl
        · first | assumption | omega | decide
        apply on_iastoreK (pc' := 404) (t := 0) rfl rfl
        · repeat (first | assumption | exact on_up_eq _ _ _ | refine (on_up_ne (by omega)).trans ?_)
        · rfl
        · first | assumption | exact on_lit _ | rfl
        · first | assumption | omega | decide
        first | refine on_aload_n (pc' := 405) rfl rfl rfl rfl ?_ | refine on_aload_nQ (pc' := 405) rfl rfl rfl rfl ?_
        first | apply on_get (pc' := 408) rfl rfl fl_M_513 | apply on_getN (pc' := 408) rfl rfl fl_M_513
        · repeat (first | assumption | exact on_up_eq _ _ _ | refine (on_up_ne (by omega)).trans ?_)
        · rfl
        refine on_iload (pc' := 410) rfl rfl rfl ?_
        first | refine on_dup2_11 (pc' := 411) rfl rfl rfl rfl ?_ | refine on_dup2_2 (pc' := 411) rfl rfl rfl ?_
        apply on_ialoadK (pc' := 412) (t := 0) rfl rfl
        · repeat (first | assumption | exact on_up_eq _ _ _ | refine (on_up_ne (by omega)).trans ?_)
        · rfl
        · first | assumption | exact on_lit _ | rfl
        · first | assumption | omega | decide
        rw [gc]
        refine on_iconst (pc' := 413) (v := 1) rfl rfl li_1 ?_
        refine on_iadd (pc' := 414) rfl rfl ?_
        rw [nI_1]
        apply on_iastoreK (pc' := 415) (t := 0) rfl rfl
        · repeat (first | assumption | exact on_up_eq _ _ _ | refine (on_up_ne (by omega)).trans ?_)
        · rfl
        · first | assumption | exact on_lit _ | rfl
        · first | assumption | omega | decide
        obtain ⟨K2, f2⟩ := K.sgo (i := i) (n := t.go.length + j) (b := d j) (v := D j) hs r6 r7 (by rw [cs_D hi]; exact el.symm) lt (hD j (by omega)).1 (hD j (by omega)).2 rfl
        rw [cs_D hi, cs_cs] at K2
        have d2 := (f2 (o + 41))
        have d2 : on_up (on_up h1 (c + 9) (on_ai 0 8000 (upd GT (2000 * i + (t.go.length + j)) (D j)))) (c + 10) (on_ai 0 4 (upd GC i (nI (t.go.length + j + 1)))) (o + 41) = some (on_ai 0 124 D) := (on_up_ne (by omega)).trans ((on_up_ne (by omega)).trans d1)
        generalize on_up (on_up h1 (c + 9) (on_ai 0 8000 (upd GT (2000 * i + (t.go.length + j)) (D j)))) (c + 10) (on_ai 0 4 (upd GC i (nI (t.go.length + j + 1)))) = h2 at K2 f2 d2 ⊢
        refine on_iinc1 (pc' := 418) rfl rfl rfl ?_
        refine on_goto (tgt := 359) rfl rfl ?_
        refine on_relv (l := [(0, .ref o), (1, .ref c), (3, .int (nI n)), (4, .int (nI i)), (6, .int (nI (j + 1)))]) ⟨rfl, rfl, rfl, rfl, congrArg some (congrArg Value.int (nI_1 j)), trivial⟩ (ih (j + 1) h2 (by omega) (by omega) d2 ?_ (f1.trans f2))
        rw [ke_step lt]
        exact K2
set_option maxHeartbeats 32000000 in
theorem mr2_do (K : mC o c cl nr x3 F rs SD D0 lk q k h) (hlz : ∀ j, j < q.hp → lz (q.la j).1 ≤ B) (hB : B + 700 < 2 ^ 28) (hpl : 1 ≤ q.pa.length ∧ q.pa.length ≤ 3) (hpa : ∀ j, j < q.pa.length → q.pa.getD j 0 < nr) (hnr : nr ≤ 6) (hp0 : 0 < q.hp) (hph : q.ph ≤ 2) (h0 : q.ph = 0 → q.hp < q.pa.length) (hP : rB h (o + 25) 135 (fun j => y (5 + j))) (hn : y 14 * 256 + y 15 ≤ 124)
    (kk : ∀ h1, mZ o c cl nr x3 F rs SD D0 lk (c_do rs q k y) h h1 → Q none h1 sz) : on_E G M_M_relayed2 75 (on_l [(0, .ref o), (1, .ref c)]) [] h sz 0 0 Q := by
  obtain ⟨W, KL, C, k4, k5, k6, k7, k8, k9, k10, k11⟩ := id K
  have o1 := W.ob.1
  have c0 : h c = some (.inr (16, [.int (nI (8 + q.cl)), .int (nI q.nu), .ref (c + 1), .int (nI q.pa.length), .int (nI q.hp), .int (nI q.ph), .ref (c + 2), .ref (c + 3), .int (nI q.st.length), .ref (c + 4), .ref (c + 5), .ref (c + 6), .ref (c + 7), .ref (c + 8), .ref (c + 9), .ref (c + 10)])) := C.1
  obtain ⟨P, p1, P'⟩ := id hP
  have y5 : P 0 = nI (y 5) ∧ y 5 < 256 := P' 0 (by decide)
  have y8 : y 8 < 256 := (P' 3 (by decide)).2
  have y9 : y 9 < 256 := (P' 4 (by decide)).2
  have pa0 : q.pa.getD 0 0 < 10 := by have := hpa 0 (by omega); omega
  obtain ⟨IS, WI, CA, WT, WC, GT, GC, ⟨r1, r2, r3, r4, r5, r6, r7⟩, T⟩ := id C.2.2.2.2
  have l4 := T.1
  have fin : ∀ lv h1, mZ o c cl nr x3 F rs SD D0 lk (c_do rs q k y) h h1 → on_E G M_M_relayed2 475 lv [] h1 sz 0 0 Q := fun lv h1 Z => by
    refine on_vreturn rfl rfl ?_
    exact kk h1 Z
  have same : ∀ lv, c_do rs q k y = (q, k, []) → on_E G M_M_relayed2 475 lv [] h sz 0 0 Q := fun lv z => fin lv h (by rw [z]; exact ⟨K, fun _ _ _ => rfl⟩)
  first | refine on_aload_n (pc' := 76) rfl rfl rfl rfl ?_ | refine on_aload_nQ (pc' := 76) rfl rfl rfl rfl ?_
  refine on_callV (pc' := 79) (As := []) (rest := []) (b := o) rfl rfl cw_M_relayed2_267 (o1) rfl rfl (Nat.le_of_ble_eq_true rfl) (Nat.zero_le _) (Nat.zero_le _) (c_M_lengthOf o1 hP) ?_
  rintro v h sz ⟨rfl, rfl, rfl⟩
  refine on_istore_n (pc' := 80) rfl rfl rfl (by decide) ?_
  first | refine on_aload_n (pc' := 81) rfl rfl rfl rfl ?_ | refine on_aload_nQ (pc' := 81) rfl rfl rfl rfl ?_
  refine on_callV (pc' := 84) (As := []) (rest := []) (b := o) rfl rfl cw_M_relayed2_431 (o1) rfl rfl (Nat.le_of_ble_eq_true rfl) (Nat.zero_le _) (Nat.zero_le _) (c_M_streamOf o1 hP) ?_
  rintro v h sz ⟨rfl, rfl, rfl⟩
  refine on_iconst (pc' := 85) (v := 1) rfl rfl li_1 ?_
  refine on_isub (pc' := 86) rfl rfl ?_
  refine on_istore (pc' := 88) rfl rfl (by decide) ?_
  obtain ⟨n, en⟩ : ∃ n, y 14 * 256 + y 15 = n := ⟨_, rfl⟩
  obtain ⟨s, es⟩ : ∃ s, y 8 * 256 + y 9 = s := ⟨_, rfl⟩
  rw [en] at hn
  refine on_relv (l := [(0, .ref o), (1, .ref c), (3, .int (nI n)), (4, .int (nI s - 1))]) ⟨rfl, rfl, congrArg (fun z => some (Value.int (nI z))) en, congrArg (fun z => some (Value.int (nI z - 1))) es, trivial⟩ ?_
  have hs : s < 65536 := by omega
  have cont : ∀ (lv : on_V) (v : Bool), lv 0 = some (.ref o) → lv 1 = some (.ref c) → lv 3 = some (.int (nI n)) → lv 4 = some (.int (nI s - 1)) → (v = true ↔ 1 ≤ s ∧ s ≤ q.st.length) → on_E G M_M_relayed2 107 lv [.int (bI v)] h sz 0 0 Q := fun lv v l0 l1 l3 l4' hv => by
    refine on_relv (l := [(0, .ref o), (1, .ref c), (3, .int (nI n)), (4, .int (nI s - 1))]) ⟨l0, l1, l3, l4', trivial⟩ ?_
    refine on_istore (pc' := 109) rfl rfl (by decide) ?_
    first | refine on_aload_n (pc' := 110) rfl rfl rfl rfl ?_ | refine on_aload_nQ (pc' := 110) rfl rfl rfl rfl ?_
    first | apply on_get (pc' := 113) rfl rfl fl_M_76 | apply on_getN (pc' := 113) rfl rfl fl_M_76
    · repeat (first | assumption | exact on_up_eq _ _ _ | refine (on_up_ne (by omega)).trans ?_)
    · rfl
    refine on_iconst (pc' := 114) (v := 0) rfl rfl li_0 ?_
    apply on_ialoadK (pc' := 115) (t := 0) (k := 0) rfl rfl
    · repeat (first | assumption | exact on_up_eq _ _ _ | refine (on_up_ne (by omega)).trans ?_)
    · rfl
    · first | assumption | exact on_lit _ | rfl
    · first | assumption | omega | decide
    rw [y5.1]
    have bad : ¬ (1 ≤ s ∧ s ≤ q.st.length) → v = false := fun z => by
      cases v with
      | false => rfl
      | true => exact absurd (hv.mp rfl) z
    refine sw_mr2 y5.2 (fun e => ?_) (fun e => ?_) (fun e => ?_) (fun e => ?_) (fun e => ?_) (fun n15 n4 n2 n3 n5 => ?_)
    · have dd : c_do rs q k y = if n = 64 ∧ q.ph = 0 then c_an rs q k (fun j => y (16 + j)) else ((c_ds q).1, k, (c_ds q).2) := by
        unfold c_do
        dsimp only
        rw [if_pos e, en]
      have des : ∀ lv, lv 0 = some (.ref o) → lv 1 = some (.ref c) → ¬ (n = 64 ∧ q.ph = 0) → on_E G M_M_relayed2 197 lv [] h sz 0 0 Q := fun lv l0 l1 z => by
        rw [if_neg z] at dd
        refine on_relv (l := [(0, .ref o), (1, .ref c)]) ⟨l0, l1, trivial⟩ ?_
        first | refine on_aload_n (pc' := 198) rfl rfl rfl rfl ?_ | refine on_aload_nQ (pc' := 198) rfl rfl rfl rfl ?_
        first | refine on_aload_n (pc' := 199) rfl rfl rfl rfl ?_ | refine on_aload_nQ (pc' := 199) rfl rfl rfl rfl ?_
        refine on_callV (pc' := 202) (As := [.ref c]) (rest := []) (b := o) rfl rfl cw_M_relayed2_500 (o1) rfl rfl (Nat.le_of_ble_eq_true rfl) (Nat.zero_le _) (Nat.zero_le _) (c_M_destroyed K (by omega) pa0) ?_
        rintro v h1 sz ⟨rfl, rfl, Z⟩
        refine on_vreturn rfl rfl ?_
        exact kk h1 (by rw [dd]; exact Z)
      refine on_iload_n (pc' := 185) rfl rfl rfl rfl ?_
      refine on_bipush (pc' := 187) (v := 64) rfl rfl lb_64 ?_
      refine on_icmp_ne (pc' := 190) (tgt := 197) rfl rfl rfl (fun cq => ?_) (fun cq => ?_)
      · exact des _ rfl rfl (fun z => cq (by rw [z.1]; rfl))
      · have n64 : n = 64 := (nI_eq (a := n) (b := 64) (by omega) (by decide)).mp cq
        clear cq
        first | refine on_aload_n (pc' := 191) rfl rfl rfl rfl ?_ | refine on_aload_nQ (pc' := 191) rfl rfl rfl rfl ?_
        first | apply on_get (pc' := 194) rfl rfl fl_M_489 | apply on_getN (pc' := 194) rfl rfl fl_M_489
        · repeat (first | assumption | exact on_up_eq _ _ _ | refine (on_up_ne (by omega)).trans ?_)
        · rfl
        refine on_if_eq (pc' := 197) (tgt := 203) rfl rfl rfl (fun cq => ?_) (fun cq => ?_)
        rotate_left
        · exact des _ rfl rfl (fun z => cq (by rw [z.2]; rfl))
        · have p0 : q.ph = 0 := (nI_eq (a := q.ph) (b := 0) (by omega) (by decide)).mp cq
          clear cq
          rw [if_pos ⟨n64, p0⟩] at dd
          refine on_iconst (pc' := 204) (v := 0) rfl rfl li_0 ?_
          refine on_istore (pc' := 206) rfl rfl (by decide) ?_
          obtain ⟨S0, s0'⟩ := W.sk
          have eh : on_up h (o + 26) (on_ai 0 68 S0) = h := funext fun b => by
            by_cases w : b = o + 26
            · rw [w, on_up_eq, s0']
            · exact on_up_ne w
          refine on_relv (l := [(0, .ref o), (1, .ref c), (6, .int (nI 0))]) ⟨rfl, rfl, rfl, trivial⟩ ?_
          rw [← eh]
          refine mr2_s o1 p1 (fun S hS => ?_) 64 0 S0 rfl (fun i hi => absurd hi (Nat.not_lt_zero i))
          clear eh
          have t2 : ∀ b, b ≠ o + 26 → on_up h (o + 26) (on_ai 0 68 S) b = h b := fun b hb => on_up_ne hb
          have s2 : on_up h (o + 26) (on_ai 0 68 S) (o + 26) = some (on_ai 0 68 S) := on_up_eq _ _ _
          obtain ⟨K2, f2⟩ := K.wrk (a := o + 26) (h1 := on_up h (o + 26) (on_ai 0 68 S)) (by omega) (by rw [show o + 26 - o = 26 by omega]; exact ⟨S, on_up_eq _ _ _⟩) t2
          generalize on_up h (o + 26) (on_ai 0 68 S) = g2 at t2 s2 K2 f2 ⊢
          have o2 := K2.1.ob.1
          first | refine on_aload_n (pc' := 237) rfl rfl rfl rfl ?_ | refine on_aload_nQ (pc' := 237) rfl rfl rfl rfl ?_
          first | refine on_aload_n (pc' := 238) rfl rfl rfl rfl ?_ | refine on_aload_nQ (pc' := 238) rfl rfl rfl rfl ?_
          refine on_callV (pc' := 241) (As := [.ref c]) (rest := []) (b := o) rfl rfl cw_M_relayed2_507 (o2) rfl rfl (Nat.le_of_ble_eq_true rfl) (Nat.zero_le _) (Nat.zero_le _) (c_M_answered (b := fun j => y (16 + j)) K2 hlz hB (h0 p0) hpl.2 hpa hnr s2 (fun i hi => by rw [hS i hi]; have := P' (11 + i) (by omega); dsimp only at this; rw [show 5 + (11 + i) = 16 + i by omega] at this; exact this)) ?_
          rintro v h1 sz ⟨rfl, rfl, Z⟩
          refine on_goto (tgt := 475) rfl rfl ?_
          exact fin _ h1 (by rw [dd]; exact ⟨Z.1, f2.trans Z.2⟩)
    · have dd : c_do rs q k y = ((if 1 ≤ s ∧ s ≤ q.st.length ∧ (q.st.getD (s - 1) t0).ph = 0 then cs_s q (s - 1) (1, (q.st.getD (s - 1) t0).wi, (q.st.getD (s - 1) t0).ca, (q.st.getD (s - 1) t0).wa, (q.st.getD (s - 1) t0).go) else q), k, []) := by
        unfold c_do
        dsimp only
        rw [if_neg (by omega), if_pos e, es]
        rfl
      refine on_iload (pc' := 246) rfl rfl rfl ?_
      refine on_if_eq (pc' := 249) (tgt := 475) rfl rfl rfl (fun cq => ?_) (fun cq => ?_)
      · have vf := bI_eq.mp cq
        refine same _ ?_
        rw [dd, if_neg (fun z => by have := hv.mpr ⟨z.1, z.2.1⟩; rw [vf] at this; exact (nomatch this))]
      · have ⟨s1, s2⟩ := hv.mp (bI_ne.mp cq)
        clear cq
        have es1 : nI s - 1 = nI (s - 1) := by
          have := nI_pred (s - 1)
          rw [show s - 1 + 1 = s by omega] at this
          exact this
        have i1 : s - 1 < 4 ∧ 4 < 2 ^ 31 := by omega
        have it := T.2.1 (s - 1) (by omega)
        refine on_relv (l := [(0, .ref o), (1, .ref c), (3, .int (nI n)), (4, .int (nI (s - 1)))]) ⟨rfl, rfl, rfl, congrArg some (congrArg Value.int es1), trivial⟩ ?_
        first | refine on_aload_n (pc' := 250) rfl rfl rfl rfl ?_ | refine on_aload_nQ (pc' := 250) rfl rfl rfl rfl ?_
        first | apply on_get (pc' := 253) rfl rfl fl_M_493 | apply on_getN (pc' := 253) rfl rfl fl_M_493
        · repeat (first | assumption | exact on_up_eq _ _ _ | refine (on_up_ne (by omega)).trans ?_)
        · rfl
        refine on_iload (pc' := 255) rfl rfl rfl ?_
        apply on_ialoadK (pc' := 256) (t := 0) rfl rfl
        · repeat (first | assumption | exact on_up_eq _ _ _ | refine (on_up_ne (by omega)).trans ?_)
        · rfl
        · first | assumption | exact on_lit _ | rfl
        · first | assumption | omega | decide
        rw [it.1]
        refine on_if_ne (pc' := 259) (tgt := 475) rfl rfl rfl (fun cq => ?_) (fun cq => ?_)
        · refine same _ ?_
          rw [dd, if_neg (fun z => cq (by rw [z.2.2]; rfl))]
        · have p0 : (q.st.getD (s - 1) t0).ph = 0 := (nI_eq (b := 0) (by omega) (by decide)).mp cq
          clear cq
          first | refine on_aload_n (pc' := 260) rfl rfl rfl rfl ?_ | refine on_aload_nQ (pc' := 260) rfl rfl rfl rfl ?_
          first | apply on_get (pc' := 263) rfl rfl fl_M_493 | apply on_getN (pc' := 263) rfl rfl fl_M_493
          · repeat (first | assumption | exact on_up_eq _ _ _ | refine (on_up_ne (by omega)).trans ?_)
          · rfl
          refine on_iload (pc' := 265) rfl rfl rfl ?_
          refine on_iconst (pc' := 266) (v := 1) rfl rfl li_1 ?_
          apply on_iastoreK (pc' := 267) (t := 0) rfl rfl
          · repeat (first | assumption | exact on_up_eq _ _ _ | refine (on_up_ne (by omega)).trans ?_)
          · rfl
          · first | assumption | exact on_lit _ | rfl
          · first | assumption | omega | decide
          refine on_goto (tgt := 475) rfl rfl ?_
          obtain ⟨K2, f2⟩ := K.sis (i := s - 1) (v := 1) (by omega) r1 (by decide) rfl
          refine fin _ _ ?_
          rw [dd, if_pos ⟨s1, s2, p0⟩]
          exact ⟨K2, f2⟩
    · have dd : c_do rs q k y = (if 1 ≤ s ∧ s ≤ q.st.length ∧ (q.st.getD (s - 1) t0).ph = 1 then (if i_rem ((q.st.getD (s - 1) t0).ca + 1) 2 = 0 then ((c_fo (cs_s q (s - 1) ((q.st.getD (s - 1) t0).ph, (q.st.getD (s - 1) t0).wi, (q.st.getD (s - 1) t0).ca + 1, (q.st.getD (s - 1) t0).wa, ke_a (q.st.getD (s - 1) t0).go (fun j => y (16 + j)) n)) 5 s 0 (fun _ => 0)).1, k, [(c_fo (cs_s q (s - 1) ((q.st.getD (s - 1) t0).ph, (q.st.getD (s - 1) t0).wi, (q.st.getD (s - 1) t0).ca + 1, (q.st.getD (s - 1) t0).wa, ke_a (q.st.getD (s - 1) t0).go (fun j => y (16 + j)) n)) 5 s 0 (fun _ => 0)).2]) else (cs_s q (s - 1) ((q.st.getD (s - 1) t0).ph, (q.st.getD (s - 1) t0).wi, (q.st.getD (s - 1) t0).ca + 1, (q.st.getD (s - 1) t0).wa, ke_a (q.st.getD (s - 1) t0).go (fun j => y (16 + j)) n), k, [])) else (q, k, [])) := by
        unfold c_do
        dsimp only
        rw [if_neg (by omega), if_neg (by omega), if_pos e, es, en]
        rfl
      refine on_iload (pc' := 272) rfl rfl rfl ?_
      refine on_if_eq (pc' := 275) (tgt := 475) rfl rfl rfl (fun cq => ?_) (fun cq => ?_)
      · have vf := bI_eq.mp cq
        refine same _ ?_
        rw [dd, if_neg (fun z => by have := hv.mpr ⟨z.1, z.2.1⟩; rw [vf] at this; exact (nomatch this))]
      · have ⟨s1, s2⟩ := hv.mp (bI_ne.mp cq)
        clear cq
        have es1 : nI s - 1 = nI (s - 1) := by
          have := nI_pred (s - 1)
          rw [show s - 1 + 1 = s by omega] at this
          exact this
        have i1 : s - 1 < 4 ∧ 4 < 2 ^ 31 := by omega
        have it := T.2.1 (s - 1) (by omega)
        have hi : s - 1 < q.st.length := by omega
        refine on_relv (l := [(0, .ref o), (1, .ref c), (3, .int (nI n)), (4, .int (nI (s - 1)))]) ⟨rfl, rfl, rfl, congrArg some (congrArg Value.int es1), trivial⟩ ?_
        first | refine on_aload_n (pc' := 276) rfl rfl rfl rfl ?_ | refine on_aload_nQ (pc' := 276) rfl rfl rfl rfl ?_
        first | apply on_get (pc' := 279) rfl rfl fl_M_493 | apply on_getN (pc' := 279) rfl rfl fl_M_493
        · repeat (first | assumption | exact on_up_eq _ _ _ | refine (on_up_ne (by omega)).trans ?_)
        · rfl
        refine on_iload (pc' := 281) rfl rfl rfl ?_
        apply on_ialoadK (pc' := 282) (t := 0) rfl rfl
        · repeat (first | assumption | exact on_up_eq _ _ _ | refine (on_up_ne (by omega)).trans ?_)
        · rfl
        · first | assumption | exact on_lit _ | rfl
        · first | assumption | omega | decide
        rw [it.1]
        refine on_iconst (pc' := 283) (v := 1) rfl rfl li_1 ?_
        refine on_icmp_ne (pc' := 286) (tgt := 475) rfl rfl rfl (fun cq => ?_) (fun cq => ?_)
        · refine same _ ?_
          rw [dd, if_neg (fun z => cq (by rw [z.2.2]; rfl))]
        · have p0 : (q.st.getD (s - 1) t0).ph = 1 := (nI_eq (b := 1) (by omega) (by decide)).mp cq
          clear cq
          rw [if_pos ⟨s1, s2, p0⟩] at dd
          generalize et : q.st.getD (s - 1) t0 = t at dd
          have T4 := T.2.2 (s - 1) i1.1
          rw [et] at T4
          refine on_iconst (pc' := 287) (v := 0) rfl rfl li_0 ?_
          refine on_istore (pc' := 289) rfl rfl (by decide) ?_
          obtain ⟨S0, s0'⟩ := W.da
          have eh : on_up h (o + 41) (on_ai 0 124 S0) = h := funext fun b => by
            by_cases w : b = o + 41
            · rw [w, on_up_eq, s0']
            · exact on_up_ne w
          refine on_relv (l := [(0, .ref o), (1, .ref c), (3, .int (nI n)), (4, .int (nI (s - 1))), (6, .int (nI 0))]) ⟨rfl, rfl, rfl, rfl, rfl, trivial⟩ ?_
          rw [← eh]
          refine mr2_d hn o1 p1 (fun S hS => ?_) n 0 S0 (by omega) (fun i hi => absurd hi (Nat.not_lt_zero i))
          clear eh
          have t2 : ∀ b, b ≠ o + 41 → on_up h (o + 41) (on_ai 0 124 S) b = h b := fun b hb => on_up_ne hb
          have d2 : on_up h (o + 41) (on_ai 0 124 S) (o + 41) = some (on_ai 0 124 S) := on_up_eq _ _ _
          obtain ⟨K2, f2⟩ := K.wrk (a := o + 41) (h1 := on_up h (o + 41) (on_ai 0 124 S)) (by omega) (by rw [show o + 41 - o = 41 by omega]; exact ⟨S, on_up_eq _ _ _⟩) t2
          generalize on_up h (o + 41) (on_ai 0 124 S) = g2 at t2 d2 K2 f2 ⊢
          have hD : on_by S (fun j => y (16 + j)) n := fun i hi => by
            rw [hS i hi]
            have := P' (11 + i) (by omega)
            dsimp only at this
            rw [show 5 + (11 + i) = 16 + i by omega] at this
            exact this
          have c2 := (t2 c (by omega)).trans c0
          have ca2 := (t2 (c + 6) (by omega)).trans r3
          first | refine on_aload_n (pc' := 319) rfl rfl rfl rfl ?_ | refine on_aload_nQ (pc' := 319) rfl rfl rfl rfl ?_
          first | apply on_get (pc' := 322) rfl rfl fl_M_512 | apply on_getN (pc' := 322) rfl rfl fl_M_512
          · repeat (first | assumption | exact on_up_eq _ _ _ | refine (on_up_ne (by omega)).trans ?_)
          · rfl
          refine on_iload (pc' := 324) rfl rfl rfl ?_
          first | refine on_dup2_11 (pc' := 325) rfl rfl rfl rfl ?_ | refine on_dup2_2 (pc' := 325) rfl rfl rfl ?_
          apply on_ialoadK (pc' := 326) (t := 0) rfl rfl
          · repeat (first | assumption | exact on_up_eq _ _ _ | refine (on_up_ne (by omega)).trans ?_)
          · rfl
          · first | assumption | exact on_lit _ | rfl
          · first | assumption | omega | decide
          refine on_iconst (pc' := 327) (v := 1) rfl rfl li_1 ?_
          refine on_iadd (pc' := 328) rfl rfl ?_
          apply on_iastoreK (pc' := 329) (t := 0) rfl rfl
          · repeat (first | assumption | exact on_up_eq _ _ _ | refine (on_up_ne (by omega)).trans ?_)
          · rfl
          · first | assumption | exact on_lit _ | rfl
          · first | assumption | omega | decide
          obtain ⟨K3, f3⟩ := K2.sca (i := s - 1) (v := CA (s - 1) + 1) hi ca2 rfl
          rw [et, T4.1] at K3
          have c3 : on_up g2 (c + 6) (on_ai 0 4 (upd CA (s - 1) (t.ca + 1))) c = _ := (on_up_ne (by omega)).trans c2
          have d3 : on_up g2 (c + 6) (on_ai 0 4 (upd CA (s - 1) (t.ca + 1))) (o + 41) = _ := (on_up_ne (by omega)).trans d2
          have ca3 : on_up g2 (c + 6) (on_ai 0 4 (upd CA (s - 1) (t.ca + 1))) (c + 6) = _ := on_up_eq _ _ _
          rw [T4.1] at f3 ⊢
          generalize on_up g2 (c + 6) (on_ai 0 4 (upd CA (s - 1) (t.ca + 1))) = g3 at K3 f3 c3 d3 ca3 ⊢
          have o3 := K3.1.ob.1
          first | refine on_aload_n (pc' := 330) rfl rfl rfl rfl ?_ | refine on_aload_nQ (pc' := 330) rfl rfl rfl rfl ?_
          first | apply on_get (pc' := 333) rfl rfl fl_M_512 | apply on_getN (pc' := 333) rfl rfl fl_M_512
          · repeat (first | assumption | exact on_up_eq _ _ _ | refine (on_up_ne (by omega)).trans ?_)
          · rfl
          refine on_iload (pc' := 335) rfl rfl rfl ?_
          apply on_ialoadK (pc' := 336) (t := 0) rfl rfl
          · repeat (first | assumption | exact on_up_eq _ _ _ | refine (on_up_ne (by omega)).trans ?_)
          · rfl
          · first | assumption | exact on_lit _ | rfl
          · first | assumption | omega | decide
          rw [pk_us]
          have ne2 : ¬ (2 : Int32) = 0 := by decide
          have got : ∀ (lv : on_V) (qq : aC) (LK : Nat → List aB) (g : on_H), lv 0 = some (.ref o) → lv 1 = some (.ref c) → lv 3 = some (.int (nI n)) → lv 4 = some (.int (nI (s - 1))) → s - 1 < qq.st.length → g (o + 41) = some (on_ai 0 124 S) → mC o c cl nr x3 F rs SD D0 LK (cs_s qq (s - 1) (t.ph, t.wi, t.ca + 1, t.wa, t.go)) k g → mf_C o c h g → c_do rs q k y = (cs_s qq (s - 1) (t.ph, t.wi, t.ca + 1, t.wa, ke_a t.go (fun j => y (16 + j)) n), k, (c_do rs q k y).2.2) → n_sd (8 + cl) lk (c_do rs q k y).2.2 = LK → on_E G M_M_relayed2 356 lv [] g sz 0 0 Q := fun lv qq LK g l0 l1 l3 l4 hqq dg Kg fg e1 e2 => by
            refine on_relv (l := [(0, .ref o), (1, .ref c), (3, .int (nI n)), (4, .int (nI (s - 1)))]) ⟨l0, l1, l3, l4, trivial⟩ ?_
            refine on_iconst (pc' := 357) (v := 0) rfl rfl li_0 ?_
            refine on_istore (pc' := 359) rfl rfl (by decide) ?_
            refine on_relv (l := [(0, .ref o), (1, .ref c), (3, .int (nI n)), (4, .int (nI (s - 1))), (6, .int (nI 0))]) ⟨rfl, rfl, rfl, rfl, rfl, trivial⟩ ?_
            refine mgt_l (h := h) (q := qq) (t := (t.ph, t.wi, t.ca + 1, t.wa, t.go)) (d := fun j => y (16 + j)) hn hqq hD (fun h2 K5 f5 => ?_) n 0 g (by omega) T4.2.2.2.2.1 dg (by rw [show (ke_a (aT.go (t.ph, t.wi, t.ca + 1, t.wa, t.go)) (fun j => y (16 + j)) 0) = t.go from ke_zero]; exact Kg) fg
            refine on_goto (tgt := 475) rfl rfl ?_
            refine fin _ h2 ?_
            rw [e1]
            refine ⟨?_, f5⟩
            show mC o c cl nr x3 F rs SD D0 (n_sd (8 + cl) lk (c_do rs q k y).2.2) _ k h2
            rw [e2]
            exact K5
          refine on_iconst (pc' := 337) (v := 2) rfl rfl li_2 ?_
          refine on_irem (pc' := 338) rfl rfl (by first | assumption | decide) ?_
          refine on_if_ne (pc' := 341) (tgt := 356) rfl rfl rfl (fun cq => ?_) (fun cq => ?_)
          · rw [if_neg cq] at dd
            exact got _ q lk g3 rfl rfl rfl rfl hi d3 K3 (f2.trans f3) (by rw [dd]) (by rw [dd]; rfl)
          · rw [if_pos cq] at dd
            clear cq
            have e6 : nI (s - 1) + 1 = nI s := by
              rw [nI_1, show s - 1 + 1 = s by omega]
            first | refine on_aload_n (pc' := 342) rfl rfl rfl rfl ?_ | refine on_aload_nQ (pc' := 342) rfl rfl rfl rfl ?_
            first | refine on_aload_n (pc' := 343) rfl rfl rfl rfl ?_ | refine on_aload_nQ (pc' := 343) rfl rfl rfl rfl ?_
            refine on_iconst (pc' := 344) (v := 5) rfl rfl li_5 ?_
            refine on_iload (pc' := 346) rfl rfl rfl ?_
            refine on_iconst (pc' := 347) (v := 1) rfl rfl li_1 ?_
            refine on_iadd (pc' := 348) rfl rfl ?_
            rw [e6]
            refine on_iconst (pc' := 349) (v := 0) rfl rfl li_0 ?_
            first | refine on_aload_n (pc' := 350) rfl rfl rfl rfl ?_ | refine on_aload_nQ (pc' := 350) rfl rfl rfl rfl ?_
            first | apply on_get (pc' := 353) rfl rfl fl_M_79 | apply on_getN (pc' := 353) rfl rfl fl_M_79
            · repeat (first | assumption | exact on_up_eq _ _ _ | refine (on_up_ne (by omega)).trans ?_)
            · rfl
            refine on_callV (pc' := 356) (As := [.ref c, .int (nI 5), .int (nI s), .int (nI 0), .ref (o + 26)]) (rest := []) (b := o) rfl rfl cw_M_relayed2_503 (o3) rfl rfl (Nat.le_of_ble_eq_true rfl) (Nat.zero_le _) (Nat.zero_le _) (c_M_forth (B := B) (d := fun _ => 0) K3 hlz (by omega) hp0 (by show 0 < q.pa.length; omega) pa0 (by decide) hs K3.1.sk (by omega) (by decide) ⟨by decide, by decide⟩ (fun f _ i hi => absurd hi (Nat.not_lt_zero i))) ?_
            rintro v g4 sz ⟨rfl, rfl, K4, t4⟩
            refine got _ (c_la q (c_fo (cs_s q (s - 1) (t.ph, t.wi, t.ca + 1, t.wa, t.go)) 5 s 0 (fun _ => 0)).1.la) _ g4 rfl rfl rfl rfl hi ((t4 _ (by omega) (by omega) (by omega) (by omega) (by omega) (by omega) (by omega) (by omega)).trans d3) K4 ((f2.trans f3).trans (fun b c1 c2 => t4 b (by omega) (by omega) (by omega) (by omega) (by omega) (by omega) (by omega) (by omega))) (by rw [dd]; rfl) (by rw [dd]; rfl)
    · have dd : c_do rs q k y = ((if 1 ≤ s ∧ s ≤ q.st.length then cs_s q (s - 1) (2, (q.st.getD (s - 1) t0).wi, (q.st.getD (s - 1) t0).ca, (q.st.getD (s - 1) t0).wa, (q.st.getD (s - 1) t0).go) else q), k, []) := by
        unfold c_do
        dsimp only
        rw [if_neg (by omega), if_neg (by omega), if_neg (by omega), if_pos e, es]
        rfl
      refine on_iload (pc' := 426) rfl rfl rfl ?_
      refine on_if_eq (pc' := 429) (tgt := 475) rfl rfl rfl (fun cq => ?_) (fun cq => ?_)
      · have vf := bI_eq.mp cq
        refine same _ ?_
        rw [dd, if_neg (fun z => by have := hv.mpr z; rw [vf] at this; exact (nomatch this))]
      · have ⟨s1, s2⟩ := hv.mp (bI_ne.mp cq)
        clear cq
        have es1 : nI s - 1 = nI (s - 1) := by
          have := nI_pred (s - 1)
          rw [show s - 1 + 1 = s by omega] at this
          exact this
        have i1 : s - 1 < 4 ∧ 4 < 2 ^ 31 := by omega
        refine on_relv (l := [(0, .ref o), (1, .ref c), (3, .int (nI n)), (4, .int (nI (s - 1)))]) ⟨rfl, rfl, rfl, congrArg some (congrArg Value.int es1), trivial⟩ ?_
        first | refine on_aload_n (pc' := 430) rfl rfl rfl rfl ?_ | refine on_aload_nQ (pc' := 430) rfl rfl rfl rfl ?_
        first | apply on_get (pc' := 433) rfl rfl fl_M_493 | apply on_getN (pc' := 433) rfl rfl fl_M_493
        · repeat (first | assumption | exact on_up_eq _ _ _ | refine (on_up_ne (by omega)).trans ?_)
        · rfl
        refine on_iload (pc' := 435) rfl rfl rfl ?_
        refine on_iconst (pc' := 436) (v := 2) rfl rfl li_2 ?_
        apply on_iastoreK (pc' := 437) (t := 0) rfl rfl
        · repeat (first | assumption | exact on_up_eq _ _ _ | refine (on_up_ne (by omega)).trans ?_)
        · rfl
        · first | assumption | exact on_lit _ | rfl
        · first | assumption | omega | decide
        refine on_goto (tgt := 475) rfl rfl ?_
        obtain ⟨K2, f2⟩ := K.sis (i := s - 1) (v := 2) (by omega) r1 (by decide) rfl
        refine fin _ _ ?_
        rw [dd, if_pos ⟨s1, s2⟩]
        exact ⟨K2, f2⟩
    · have dd : c_do rs q k y = ((if 1 ≤ s ∧ s ≤ q.st.length ∧ (q.st.getD (s - 1) t0).ph ≠ 2 then cs_s q (s - 1) ((q.st.getD (s - 1) t0).ph, (q.st.getD (s - 1) t0).wi + 2, (q.st.getD (s - 1) t0).ca, (q.st.getD (s - 1) t0).wa, (q.st.getD (s - 1) t0).go) else q), k, []) := by
        unfold c_do
        dsimp only
        rw [if_neg (by omega), if_neg (by omega), if_neg (by omega), if_neg (by omega), if_pos e, es]
        rfl
      refine on_iload (pc' := 442) rfl rfl rfl ?_
      refine on_if_eq (pc' := 445) (tgt := 475) rfl rfl rfl (fun cq => ?_) (fun cq => ?_)
      · have vf := bI_eq.mp cq
        refine same _ ?_
        rw [dd, if_neg (fun z => by have := hv.mpr ⟨z.1, z.2.1⟩; rw [vf] at this; exact (nomatch this))]
      · have ⟨s1, s2⟩ := hv.mp (bI_ne.mp cq)
        clear cq
        have es1 : nI s - 1 = nI (s - 1) := by
          have := nI_pred (s - 1)
          rw [show s - 1 + 1 = s by omega] at this
          exact this
        have i1 : s - 1 < 4 ∧ 4 < 2 ^ 31 := by omega
        have it := T.2.1 (s - 1) (by omega)
        refine on_relv (l := [(0, .ref o), (1, .ref c), (3, .int (nI n)), (4, .int (nI (s - 1)))]) ⟨rfl, rfl, rfl, congrArg some (congrArg Value.int es1), trivial⟩ ?_
        first | refine on_aload_n (pc' := 446) rfl rfl rfl rfl ?_ | refine on_aload_nQ (pc' := 446) rfl rfl rfl rfl ?_
        first | apply on_get (pc' := 449) rfl rfl fl_M_493 | apply on_getN (pc' := 449) rfl rfl fl_M_493
        · repeat (first | assumption | exact on_up_eq _ _ _ | refine (on_up_ne (by omega)).trans ?_)
        · rfl
        refine on_iload (pc' := 451) rfl rfl rfl ?_
        apply on_ialoadK (pc' := 452) (t := 0) rfl rfl
        · repeat (first | assumption | exact on_up_eq _ _ _ | refine (on_up_ne (by omega)).trans ?_)
        · rfl
        · first | assumption | exact on_lit _ | rfl
        · first | assumption | omega | decide
        rw [it.1]
        refine on_iconst (pc' := 453) (v := 2) rfl rfl li_2 ?_
        refine on_icmp_eq (pc' := 456) (tgt := 475) rfl rfl rfl (fun cq => ?_) (fun cq => ?_)
        · refine same _ ?_
          rw [dd, if_neg (fun z => z.2.2 ((nI_eq (b := 2) (by omega) (by decide)).mp cq))]
        · have p0 : (q.st.getD (s - 1) t0).ph ≠ 2 := fun z => cq (by rw [z]; rfl)
          clear cq
          first | refine on_aload_n (pc' := 457) rfl rfl rfl rfl ?_ | refine on_aload_nQ (pc' := 457) rfl rfl rfl rfl ?_
          first | apply on_get (pc' := 460) rfl rfl fl_M_519 | apply on_getN (pc' := 460) rfl rfl fl_M_519
          · repeat (first | assumption | exact on_up_eq _ _ _ | refine (on_up_ne (by omega)).trans ?_)
          · rfl
          refine on_iload (pc' := 462) rfl rfl rfl ?_
          first | refine on_dup2_11 (pc' := 463) rfl rfl rfl rfl ?_ | refine on_dup2_2 (pc' := 463) rfl rfl rfl ?_
          apply on_ialoadK (pc' := 464) (t := 0) rfl rfl
          · repeat (first | assumption | exact on_up_eq _ _ _ | refine (on_up_ne (by omega)).trans ?_)
          · rfl
          · first | assumption | exact on_lit _ | rfl
          · first | assumption | omega | decide
          refine on_iconst (pc' := 465) (v := 2) rfl rfl li_2 ?_
          refine on_iadd (pc' := 466) rfl rfl ?_
          apply on_iastoreK (pc' := 467) (t := 0) rfl rfl
          · repeat (first | assumption | exact on_up_eq _ _ _ | refine (on_up_ne (by omega)).trans ?_)
          · rfl
          · first | assumption | exact on_lit _ | rfl
          · first | assumption | omega | decide
          refine on_goto (tgt := 475) rfl rfl ?_
          obtain ⟨K2, f2⟩ := K.swi (i := s - 1) (v := WI (s - 1) + 2) (by omega) r2 rfl
          refine fin _ _ ?_
          rw [dd, if_pos ⟨s1, s2, p0⟩]
          rw [it.2.2] at K2 f2 ⊢
          exact ⟨K2, f2⟩
    · have dd : c_do rs q k y = ((c_ds q).1, k, (c_ds q).2) := by
        unfold c_do
        dsimp only
        rw [if_neg n15, if_neg n4, if_neg n2, if_neg n3, if_neg n5]
      first | refine on_aload_n (pc' := 471) rfl rfl rfl rfl ?_ | refine on_aload_nQ (pc' := 471) rfl rfl rfl rfl ?_
      first | refine on_aload_n (pc' := 472) rfl rfl rfl rfl ?_ | refine on_aload_nQ (pc' := 472) rfl rfl rfl rfl ?_
      refine on_callV (pc' := 475) (As := [.ref c]) (rest := []) (b := o) rfl rfl cw_M_relayed2_500 (o1) rfl rfl (Nat.le_of_ble_eq_true rfl) (Nat.zero_le _) (Nat.zero_le _) (c_M_destroyed K (by omega) pa0) ?_
      rintro v h1 sz ⟨rfl, rfl, Z⟩
      exact fin _ h1 (by rw [dd]; exact Z)
  refine on_iload (pc' := 90) rfl rfl rfl ?_
  refine on_if_lt (pc' := 93) (tgt := 106) rfl rfl rfl (fun cq => ?_) (fun cq => ?_)
  · refine on_iconst (pc' := 107) (v := 0) rfl rfl li_0 ?_
    refine cont _ false rfl rfl rfl rfl ⟨fun z => (nomatch z), fun z => ?_⟩
    have es1 : nI s - 1 = nI (s - 1) := by
      have := nI_pred (s - 1)
      rw [show s - 1 + 1 = s by omega] at this
      exact this
    rw [es1] at cq
    exact absurd cq (nI_pos (by omega))
  · have s1 : 1 ≤ s := by
      rcases Nat.eq_zero_or_pos s with z | z
      · rw [z] at cq
        exact absurd (by decide) cq
      · exact z
    clear cq
    have es1 : nI s - 1 = nI (s - 1) := by
      have := nI_pred (s - 1)
      rw [show s - 1 + 1 = s by omega] at this
      exact this
    rw [es1]
    refine on_iload (pc' := 95) rfl rfl rfl ?_
    first | refine on_aload_n (pc' := 96) rfl rfl rfl rfl ?_ | refine on_aload_nQ (pc' := 96) rfl rfl rfl rfl ?_
    first | apply on_get (pc' := 99) rfl rfl fl_M_492 | apply on_getN (pc' := 99) rfl rfl fl_M_492
    · repeat (first | assumption | exact on_up_eq _ _ _ | refine (on_up_ne (by omega)).trans ?_)
    · rfl
    refine on_icmp_ge (pc' := 102) (tgt := 106) rfl rfl rfl (fun cq => ?_) (fun cq => ?_)
    · refine on_iconst (pc' := 107) (v := 0) rfl rfl li_0 ?_
      refine cont _ false rfl rfl rfl (congrArg some (congrArg Value.int es1.symm)) ⟨fun z => (nomatch z), fun z => ?_⟩
      exact absurd cq (nI_ge (b := q.st.length) (by omega) (by omega))
    · have s2 : s - 1 < q.st.length := by
        rcases Nat.lt_or_ge (s - 1) q.st.length with z | z
        · exact z
        · exact absurd (nI_le z (by omega)) cq
      refine on_iconst (pc' := 103) (v := 1) rfl rfl li_1 ?_
      refine on_goto (tgt := 107) rfl rfl ?_
      exact cont _ true rfl rfl rfl (congrArg some (congrArg Value.int es1.symm)) ⟨fun _ => ⟨s1, by omega⟩, fun _ => rfl⟩
end MDX
