/-! the reference does what a recognized cell says -/
theorem st_r.snoc {st : List aS} {S V W C : Nat → Int32} {id so : Nat} {wi ca : Int32} (hr : st_r st S V W C) (hl : st.length < 4) (h1 : id < 65536) (h2 : so < 256) : st_r (st ++ [(id, so, wi, ca)]) (upd S st.length (nI id)) (upd V st.length (nI so)) (upd W st.length wi) (upd C st.length ca) := by
  have el : (st ++ [((id, so, wi, ca) : aS)]).length = st.length + 1 := List.length_append
  refine ⟨by omega, fun i hi => ?_⟩
  rw [el] at hi
  rw [getD_snoc]
  by_cases z : i = st.length
  · rw [z, if_neg (Nat.lt_irrefl _), if_pos rfl, pk_us, pk_us, pk_us, pk_us]
    exact ⟨rfl, rfl, rfl, rfl, h1, h2⟩
  · rw [if_pos (by omega), pk_un z, pk_un z, pk_un z, pk_un z]
    exact hr.2 i (by omega)
theorem st_r.rem {st : List aS} {S V W C : Nat → Int32} {k : Nat} (hr : st_r st S V W C) (hk : k < st.length) : st_r (s_rm st k) (upd S k (S (st.length - 1))) (upd V k (V (st.length - 1))) (upd W k (W (st.length - 1))) (upd C k (C (st.length - 1))) := by
  refine ⟨by rw [s_rm_len]; have := hr.1; omega, fun i hi => ?_⟩
  rw [s_rm_len] at hi
  rw [s_rm_get hk hi]
  by_cases z : i = k
  · rw [z, if_pos rfl, pk_us, pk_us, pk_us, pk_us]
    exact hr.2 _ (by omega)
  · rw [if_neg z, pk_un z, pk_un z, pk_un z, pk_un z]
    exact hr.2 i (by omega)
section MDO
variable {G : on_G} {o R self n k0 c nr sz bc bs : Nat} {x3 : Int32 × Int32 × Int32} {F : Nat → Option Nat} {lk : Nat → List aB} {e : aE} {r : aR} {ord es : Nat → Nat} {h h1 : on_H} {Q : Option Value → on_H → Nat → Prop} {yv : aB} {lv : on_V} {st : List Value}
theorem sw_md {v : Nat} (hv : v < 256) (k14 : v = 14 → on_E G M_M_done 132 lv st h sz bc bs Q) (k1 : v = 1 → on_E G M_M_done 276 lv st h sz bc bs Q) (k2 : v = 2 → on_E G M_M_done 415 lv st h sz bc bs Q) (k3 : v = 3 → on_E G M_M_done 434 lv st h sz bc bs Q) (k5 : v = 5 → on_E G M_M_done 517 lv st h sz bc bs Q) (kd : ¬ v = 14 → ¬ v = 1 → ¬ v = 2 → ¬ v = 3 → ¬ v = 5 → on_E G M_M_done 537 lv st h sz bc bs Q) : on_E G M_M_done 62 lv (.int (nI v) :: st) h sz bc bs Q := by
  by_cases c14 : v = 14
  · subst c14
    exact on_tableIn rfl (by decide) (by decide) rfl rfl (k14 rfl)
  by_cases c1 : v = 1
  · subst c1
    exact on_tableIn rfl (by decide) (by decide) rfl rfl (k1 rfl)
  by_cases c2 : v = 2
  · subst c2
    exact on_tableIn rfl (by decide) (by decide) rfl rfl (k2 rfl)
  by_cases c3 : v = 3
  · subst c3
    exact on_tableIn rfl (by decide) (by decide) rfl rfl (k3 rfl)
  by_cases c5 : v = 5
  · subst c5
    exact on_tableIn rfl (by decide) (by decide) rfl rfl (k5 rfl)
  have kx := kd c14 c1 c2 c3 c5
  rcases (by omega : v = 4 ∨ v = 6 ∨ v = 7 ∨ v = 8 ∨ v = 9 ∨ v = 10 ∨ v = 11 ∨ v = 12 ∨ v = 13 ∨ v < 1 ∨ 14 < v) with z | z | z | z | z | z | z | z | z | z
  iterate 9
    · subst z
      exact on_tableIn rfl (by decide) (by decide) rfl rfl kx
  · exact on_tableOut rfl (by rw [nI_ti v hv]; omega) rfl kx
/-- a working row of the reference has changed -/
theorem mR.wrk {a : Nat} (K : mR o R self x3 F lk r n ord es h) (ha : o + 18 ≤ a ∧ a < o + 29 ∨ a = o + 41) (hr : rW h1 a (mw_n (a - o))) (t : ∀ b, b ≠ a → h1 b = h b) : mR o R self x3 F lk r n ord es h1 ∧ mf_R o R h h1 := by
  obtain ⟨W, KL, K3, I, k5, k6, k7, k8⟩ := K
  exact ⟨⟨W.row (fun _ _ => hr) (by omega) t, KL.keep (t _ (by omega)) (t _ (by omega)), K3.keep I (fun b _ _ => t b (by omega)), I, (t _ (by omega)).trans k5, k6, k7, k8⟩, fun b c1 c2 => t b (by omega)⟩
/-- the next number of a relay -/
theorem mR.nxt {nx : Nat} (K : mR o R self x3 F lk r n ord es h) (hR : h1 R = some (.inr (15, [.long r.se, .int r.dr, .ref (R + 1), .ref (R + 2), .ref (R + 3), .int (nI r.we), .int (nI nx), .ref (R + 4), .int (nI n), .ref (R + 5), .int (nI r.ke.length)]))) (t : ∀ b, b ≠ R → h1 b = h b) : mR o R self x3 F lk (r.se, r.dr, r.we, nx, r.en, r.ke) n ord es h1 ∧ mf_R o R h h1 := by
  obtain ⟨W, KL, ⟨a1, a2, a3, ⟨F4, a4, a4'⟩, ⟨e1, e2, e3⟩, a6⟩, I, k5, k6, k7, k8⟩ := K
  refine ⟨⟨W.keep (fun a _ _ _ => t a (by omega)), KL.keep (t _ (by omega)) (t _ (by omega)), ⟨hR, a2.keep (t _ (by omega)), a3.keep (t _ (by omega)), ⟨F4, (t _ (by omega)).trans a4, a4'⟩, ⟨(t _ (by omega)).trans e1, fun j hj => ?_, fun j hj hj2 => ?_⟩, a6.keep (t _ (by omega))⟩, I, (t _ (by omega)).trans k5, k6, k7, k8⟩, fun b c1 c2 => t b (by omega)⟩
  · obtain ⟨x, x1, x2⟩ := e2 j hj
    have := I.at (show j < 12 by have := I.1; omega)
    exact ⟨x, x1, x2.keep (fun b c1 c2 => t b (by omega))⟩
  · have := I.at hj2
    exact (e3 j hj hj2).keep (fun b c1 c2 => t b (by omega))
set_option maxHeartbeats 4000000 in
/-- the data of the cell -/
theorem mdd_l {P : Nat → Int32} {v3 v4 v6 : Int32} (hc : c ≤ 124) (ho : h o = some (.inr (17, mo_f o x3.1 x3.2.1 x3.2.2))) (hp : h (o + 25) = some (on_ai 0 135 P))
    (kk : ∀ D : Nat → Int32, (∀ i, i < c → D i = P (11 + i)) → on_E G M_M_done 61 (on_l [(0, .ref o), (1, .int (nI self)), (2, .ref (es k0)), (3, .int v3), (4, .int v4), (5, .int (nI c)), (6, .int v6)]) [] (on_up h (o + 41) (on_ai 0 124 D)) sz bc bs Q) :
    ∀ (m k : Nat) (D : Nat → Int32), k + m = c → (∀ i, i < k → D i = P (11 + i)) → on_E G M_M_done 31 (on_l [(0, .ref o), (1, .int (nI self)), (2, .ref (es k0)), (3, .int v3), (4, .int v4), (5, .int (nI c)), (6, .int v6), (7, .int (nI k))]) [] (on_up h (o + 41) (on_ai 0 124 D)) sz bc bs Q := by
  intro m
  induction m with
  | zero =>
    intro k D hk hD
    have ek : k = c := by omega
    subst ek
    refine on_iload (pc' := 33) rfl rfl rfl ?_
    refine on_iload (pc' := 35) rfl rfl rfl ?_
    refine on_icmp_ge (pc' := 38) (tgt := 61) rfl rfl rfl (fun cq => ?_) (fun cq => ?_)
    · exact on_relv (l := [(0, .ref o), (1, .int (nI self)), (2, .ref (es k0)), (3, .int v3), (4, .int v4), (5, .int (nI k)), (6, .int v6)]) ⟨rfl, rfl, rfl, rfl, rfl, rfl, rfl, trivial⟩ (kk D hD)
    · exact absurd (nI_le (a := k) (Nat.le_refl _) (by omega)) cq
  | succ m ih =>
    intro k D hk hD
    have o1 : on_up h (o + 41) (on_ai 0 124 D) o = _ := (on_up_ne (by omega)).trans ho
    have q1 : on_up h (o + 41) (on_ai 0 124 D) (o + 25) = some (on_ai 0 135 P) := (on_up_ne (by omega)).trans hp
    have p1 : on_up h (o + 41) (on_ai 0 124 D) (o + 41) = some (on_ai 0 124 D) := on_up_eq _ _ _
    have i1 : k < 124 ∧ 124 < 2 ^ 31 := by omega
    have i2 : 11 + k < 135 ∧ 135 < 2 ^ 31 := by omega
    refine on_iload (pc' := 33) rfl rfl rfl ?_
    refine on_iload (pc' := 35) rfl rfl rfl ?_
    refine on_icmp_ge (pc' := 38) (tgt := 61) rfl rfl rfl (fun cq => ?_) (fun cq => ?_)
    · exact absurd cq (nI_ge (b := c) (by omega) (by omega))
    · clear cq
      first | refine on_aload_n (pc' := 39) rfl rfl rfl rfl ?_ | refine on_aload_nQ (pc' := 39) rfl rfl rfl rfl ?_
      first | apply on_get (pc' := 42) rfl rfl fl_M_124 | apply on_getN (pc' := 42) rfl rfl fl_M_124
      · repeat (first | assumption | exact on_up_eq _ _ _ | refine (on_up_ne (by omega)).trans ?_)
      · rfl
      refine on_iload (pc' := 44) rfl rfl rfl ?_
      first | refine on_aload_n (pc' := 45) rfl rfl rfl rfl ?_ | refine on_aload_nQ (pc' := 45) rfl rfl rfl rfl ?_
      first | apply on_get (pc' := 48) rfl rfl fl_M_76 | apply on_getN (pc' := 48) rfl rfl fl_M_76
      · repeat (first | assumption | exact on_up_eq _ _ _ | refine (on_up_ne (by omega)).trans ?_)
      · rfl
      refine on_bipush (pc' := 50) (v := 11) rfl rfl lb_11 ?_
      refine on_iload (pc' := 52) rfl rfl rfl ?_
      refine on_iadd (pc' := 53) rfl rfl ?_
      rw [show (11 : Int32) + nI k = nI (11 + k) from nI_add 11 k]
      apply on_ialoadK (pc' := 54) (t := 0) rfl rfl
      · repeat (first | assumption | exact on_up_eq _ _ _ | refine (on_up_ne (by omega)).trans ?_)
      · rfl
      · first | assumption | exact on_lit _ | rfl
      · first | assumption | omega | decide
      apply on_iastoreK (pc' := 55) (t := 0) rfl rfl
      · repeat (first | assumption | exact on_up_eq _ _ _ | refine (on_up_ne (by omega)).trans ?_)
      · rfl
      · first | assumption | exact on_lit _ | rfl
      · first | assumption | omega | decide
      refine on_iinc1 (pc' := 58) rfl rfl rfl ?_
      refine on_goto (tgt := 31) rfl rfl ?_
      rw [on_up_up]
      refine on_relv (l := [(0, .ref o), (1, .int (nI self)), (2, .ref (es k0)), (3, .int v3), (4, .int v4), (5, .int (nI c)), (6, .int v6), (7, .int (nI (k + 1)))]) ⟨rfl, rfl, rfl, rfl, rfl, rfl, rfl, congrArg some (congrArg Value.int (nI_1 k)), trivial⟩ (ih (k + 1) _ (by omega) (fun i hi => ?_))
      by_cases z : i = k
      · rw [z, pk_us]
      · rw [pk_un z]
        exact hD i (by omega)
set_option maxHeartbeats 4000000 in
/-- the offer for the next hop -/
theorem mds_l {D : Nat → Int32} (ho : h o = some (.inr (17, mo_f o x3.1 x3.2.1 x3.2.2))) (hd : h (o + 41) = some (on_ai 0 124 D))
    (kk : ∀ P : Nat → Int32, (∀ i, i < 68 → P i = D (1 + i)) → on_E G M_M_done 252 (on_l [(0, .ref o), (1, .int (nI self)), (2, .ref (es k0))]) [] (on_up h (o + 26) (on_ai 0 68 P)) sz bc bs Q) :
    ∀ (m k : Nat) (P : Nat → Int32), k + m = 68 → (∀ i, i < k → P i = D (1 + i)) → on_E G M_M_done 223 (on_l [(0, .ref o), (1, .int (nI self)), (2, .ref (es k0)), (7, .int (nI k))]) [] (on_up h (o + 26) (on_ai 0 68 P)) sz bc bs Q := by
  intro m
  induction m with
  | zero =>
    intro k P hk hP
    obtain rfl : k = 68 := by omega
    refine on_iload (pc' := 225) rfl rfl rfl ?_
    refine on_bipush (pc' := 227) (v := 68) rfl rfl lb_68 ?_
    refine on_icmp_ge (pc' := 230) (tgt := 252) rfl rfl rfl (fun cq => ?_) (fun cq => ?_)
    · exact on_relv (l := [(0, .ref o), (1, .int (nI self)), (2, .ref (es k0))]) ⟨rfl, rfl, rfl, trivial⟩ (kk P hP)
    · exact absurd (by decide) cq
  | succ m ih =>
    intro k P hk hP
    have o1 : on_up h (o + 26) (on_ai 0 68 P) o = _ := (on_up_ne (by omega)).trans ho
    have q1 : on_up h (o + 26) (on_ai 0 68 P) (o + 41) = some (on_ai 0 124 D) := (on_up_ne (by omega)).trans hd
    have p1 : on_up h (o + 26) (on_ai 0 68 P) (o + 26) = some (on_ai 0 68 P) := on_up_eq _ _ _
    have i1 : k < 68 ∧ 68 < 2 ^ 31 := by omega
    have i2 : 1 + k < 124 ∧ 124 < 2 ^ 31 := by omega
    refine on_iload (pc' := 225) rfl rfl rfl ?_
    refine on_bipush (pc' := 227) (v := 68) rfl rfl lb_68 ?_
    refine on_icmp_ge (pc' := 230) (tgt := 252) rfl rfl rfl (fun cq => ?_) (fun cq => ?_)
    · exact absurd cq (nI_ge (b := 68) i1.1 (by decide))
    · clear cq
      first | refine on_aload_n (pc' := 231) rfl rfl rfl rfl ?_ | refine on_aload_nQ (pc' := 231) rfl rfl rfl rfl ?_
      first | apply on_get (pc' := 234) rfl rfl fl_M_79 | apply on_getN (pc' := 234) rfl rfl fl_M_79
      · repeat (first | assumption | exact on_up_eq _ _ _ | refine (on_up_ne (by omega)).trans ?_)
      · rfl
      refine on_iload (pc' := 236) rfl rfl rfl ?_
      first | refine on_aload_n (pc' := 237) rfl rfl rfl rfl ?_ | refine on_aload_nQ (pc' := 237) rfl rfl rfl rfl ?_
      first | apply on_get (pc' := 240) rfl rfl fl_M_124 | apply on_getN (pc' := 240) rfl rfl fl_M_124
      · repeat (first | assumption | exact on_up_eq _ _ _ | refine (on_up_ne (by omega)).trans ?_)
      · rfl
      refine on_iconst (pc' := 241) (v := 1) rfl rfl li_1 ?_
      refine on_iload (pc' := 243) rfl rfl rfl ?_
      refine on_iadd (pc' := 244) rfl rfl ?_
      rw [show (1 : Int32) + nI k = nI (1 + k) from nI_add 1 k]
      apply on_ialoadK (pc' := 245) (t := 0) rfl rfl
      · repeat (first | assumption | exact on_up_eq _ _ _ | refine (on_up_ne (by omega)).trans ?_)
      · rfl
      · first | assumption | exact on_lit _ | rfl
      · first | assumption | omega | decide
      apply on_iastoreK (pc' := 246) (t := 0) rfl rfl
      · repeat (first | assumption | exact on_up_eq _ _ _ | refine (on_up_ne (by omega)).trans ?_)
      · rfl
      · first | assumption | exact on_lit _ | rfl
      · first | assumption | omega | decide
      refine on_iinc1 (pc' := 249) rfl rfl rfl ?_
      refine on_goto (tgt := 223) rfl rfl ?_
      rw [on_up_up]
      refine on_relv (l := [(0, .ref o), (1, .int (nI self)), (2, .ref (es k0)), (7, .int (nI (k + 1)))]) ⟨rfl, rfl, rfl, congrArg some (congrArg Value.int (nI_1 k)), trivial⟩ (ih (k + 1) _ (by omega) (fun i hi => ?_))
      by_cases z : i = k
      · rw [z, pk_us]
      · rw [pk_un z]
        exact hP i (by omega)
set_option maxHeartbeats 16000000 in
/-- done -/
theorem c_M_done (K : mR o R self x3 F lk r n ord es h) (hk0 : k0 < n) (he : r.en (ord k0) = some e) (hP : rB h (o + 25) 135 (fun k => yv (5 + k))) (hn : yv 14 * 256 + yv 15 ≤ 124) (hx3 : x3.1 = nI nr) (hnr : nr ≤ 6) (hf : e.fr < 10) (hon : ∀ q, e.on = some q → q.1 < 10) (hL : e.bw.ms.length + 270 < 2 ^ 28) (hpos : e.bw.pos + 270 < 2 ^ 36) :
    on_Ct G M_M_done [.ref o, .int (nI self), .ref (es k0)] h sz 0 0 (fun v h1 z => v = none ∧ z = sz ∧ mY o R self x3 F lk (r_do nr self r (ord k0) e yv) h h1) := by
  obtain ⟨W, KL, K3, I, k5, k6, k7, k8⟩ := id K
  have o1 := W.ob.1
  obtain ⟨e', e1', E⟩ := K3.2.2.2.2.1.2.1 k0 hk0
  cases he.symm.trans e1'
  have at0 := I.at (show k0 < 12 by have := I.1; omega)
  obtain ⟨P, p1, P'⟩ := id hP
  have x5 := P' 0 (by decide)
  have x5 : P 0 = nI (yv 5) ∧ yv 5 < 256 := x5
  have x8 : yv 8 < 256 := (P' 3 (by decide)).2
  have x9 : yv 9 < 256 := (P' 4 (by decide)).2
  have i6 : self < 6 ∧ 6 < 2 ^ 31 := ⟨k8, by decide⟩
  have hid : yv 8 * 256 + yv 9 < 65536 := by omega
  have c31 : yv 14 * 256 + yv 15 < 2 ^ 31 := Nat.lt_of_le_of_lt hn (by decide)
  refine on_Ct.of (by decide) v_M_done (Nat.le_of_ble_eq_true rfl) ?_
  first | refine on_aload_n (pc' := 1) rfl rfl rfl rfl ?_ | refine on_aload_nQ (pc' := 1) rfl rfl rfl rfl ?_
  first | apply on_get (pc' := 4) rfl rfl fl_M_76 | apply on_getN (pc' := 4) rfl rfl fl_M_76
  · repeat (first | assumption | exact on_up_eq _ _ _ | refine (on_up_ne (by omega)).trans ?_)
  · rfl
  refine on_iconst (pc' := 5) (v := 0) rfl rfl li_0 ?_
  apply on_ialoadK (pc' := 6) (t := 0) (k := 0) rfl rfl
  · repeat (first | assumption | exact on_up_eq _ _ _ | refine (on_up_ne (by omega)).trans ?_)
  · rfl
  · first | assumption | exact on_lit _ | rfl
  · first | assumption | omega | decide
  rw [x5.1]
  refine on_istore_n (pc' := 7) rfl rfl rfl (by decide) ?_
  first | refine on_aload_n (pc' := 8) rfl rfl rfl rfl ?_ | refine on_aload_nQ (pc' := 8) rfl rfl rfl rfl ?_
  refine on_callV (pc' := 11) (As := []) (rest := []) (b := o) rfl rfl cw_M_done_431 (o1) rfl rfl (Nat.le_of_ble_eq_true rfl) (Nat.zero_le _) (Nat.zero_le _) (c_M_streamOf o1 hP) ?_
  rintro v h sz ⟨rfl, rfl, rfl⟩
  refine on_istore (pc' := 13) rfl rfl (by decide) ?_
  first | refine on_aload_n (pc' := 14) rfl rfl rfl rfl ?_ | refine on_aload_nQ (pc' := 14) rfl rfl rfl rfl ?_
  refine on_callV (pc' := 17) (As := []) (rest := []) (b := o) rfl rfl cw_M_done_267 (o1) rfl rfl (Nat.le_of_ble_eq_true rfl) (Nat.zero_le _) (Nat.zero_le _) (c_M_lengthOf o1 hP) ?_
  rintro v h sz ⟨rfl, rfl, rfl⟩
  refine on_istore (pc' := 19) rfl rfl (by decide) ?_
  first | refine on_aload_n (pc' := 20) rfl rfl rfl rfl ?_ | refine on_aload_nQ (pc' := 20) rfl rfl rfl rfl ?_
  first | refine on_aload_n (pc' := 21) rfl rfl rfl rfl ?_ | refine on_aload_nQ (pc' := 21) rfl rfl rfl rfl ?_
  refine on_iload (pc' := 23) rfl rfl rfl ?_
  refine on_callV (pc' := 26) (As := [.ref (es k0), .int (nI (yv 8 * 256 + yv 9))]) (rest := []) (b := o) rfl rfl cw_M_done_434 (o1) rfl rfl (Nat.le_of_ble_eq_true rfl) (Nat.zero_le _) (Nat.zero_le _) (c_M_streamAt E hid) ?_
  rintro v h sz ⟨rfl, rfl, rfl⟩
  refine on_istore (pc' := 28) rfl rfl (by decide) ?_
  refine on_iconst (pc' := 29) (v := 0) rfl rfl li_0 ?_
  refine on_istore (pc' := 31) rfl rfl (by decide) ?_
  obtain ⟨D0, d0⟩ := W.da
  have eh : on_up h (o + 41) (on_ai 0 124 D0) = h := funext fun b => by
    by_cases z : b = o + 41
    · rw [z, on_up_eq, d0]
    · exact on_up_ne z
  have ml := mdd_l (G := G) (sz := sz) (bc := 0) (bs := 0) (self := self) (es := es) (k0 := k0) (v3 := nI (yv 5)) (v4 := nI (yv 8 * 256 + yv 9)) (v6 := kI (s_at e.st (yv 8 * 256 + yv 9))) (Q := fun v h1 z => v = none ∧ z = sz ∧ mY o R self x3 F lk (r_do nr self r (ord k0) e yv) h h1) hn o1 p1 (fun D hD => ?_) (yv 14 * 256 + yv 15) 0 D0 (by omega) (fun i hi => absurd hi (Nat.not_lt_zero i))
  · rw [eh] at ml
    exact on_relv (l := [(0, .ref o), (1, .int (nI self)), (2, .ref (es k0)), (3, .int (nI (yv 5))), (4, .int (nI (yv 8 * 256 + yv 9))), (5, .int (nI (yv 14 * 256 + yv 15))), (6, .int (kI (s_at e.st (yv 8 * 256 + yv 9)))), (7, .int (nI 0))]) ⟨rfl, rfl, rfl, rfl, rfl, rfl, rfl, rfl, trivial⟩ ml
  · have hDb : on_by D (fun j => yv (16 + j)) (yv 14 * 256 + yv 15) := fun i hi => by
      rw [hD i hi]
      have this : P (11 + i) = nI (yv (5 + (11 + i))) ∧ yv (5 + (11 + i)) < 256 := P' (11 + i) (by omega)
      rw [show 5 + (11 + i) = 16 + i by omega] at this
      exact this
    obtain ⟨K1, f1⟩ := K.wrk (a := o + 41) (h1 := on_up h (o + 41) (on_ai 0 124 D)) (Or.inr rfl) (by rw [show o + 41 - o = 41 by omega]; exact ⟨D, on_up_eq _ _ _⟩) (fun b hb => on_up_ne hb)
    have d1 : on_up h (o + 41) (on_ai 0 124 D) (o + 41) = some (on_ai 0 124 D) := on_up_eq _ _ _
    generalize on_up h (o + 41) (on_ai 0 124 D) = g at K1 f1 d1 ⊢
    have hda : ∀ f, g (o + 41) = some (on_ai 0 124 f) → on_by f (fun j => yv (16 + j)) (yv 14 * 256 + yv 15) := fun f hf2 => by
      cases d1.symm.trans hf2
      exact hDb
    obtain ⟨W1, KL1, K31, I1, k51, -, -, -⟩ := id K1
    have o2 := W1.ob.1
    obtain ⟨e', e1', E1⟩ := K31.2.2.2.2.1.2.1 k0 hk0
    cases he.symm.trans e1'
    obtain ⟨tn, S, V, WW, C, ⟨b0, b1, b2, b3, b4⟩, tq, sr, mll⟩ := id E1
    have l4 := sr.1
    have ro : g R = some (.inr (15, [.long r.se, .int r.dr, .ref (R + 1), .ref (R + 2), .ref (R + 3), .int (nI r.we), .int (nI r.nx), .ref (R + 4), .int (nI n), .ref (R + 5), .int (nI r.ke.length)])) := K31.1
    have fin : ∀ lv h2, mY o R self x3 F lk (r_do nr self r (ord k0) e yv) g h2 → on_E G M_M_done 543 lv [] h2 sz 0 0 (fun v h1 z => v = none ∧ z = sz ∧ mY o R self x3 F lk (r_do nr self r (ord k0) e yv) h h1) := fun lv h2 Y => by
      refine on_vreturn rfl rfl ?_
      exact ⟨rfl, rfl, Y.1, f1.trans Y.2⟩
    have same : ∀ lv, r_do nr self r (ord k0) e yv = (r_en r (fu r.en (ord k0) (some e)), []) → on_E G M_M_done 543 lv [] g sz 0 0 (fun v h1 z => v = none ∧ z = sz ∧ mY o R self x3 F lk (r_do nr self r (ord k0) e yv) h h1) := fun lv z => by
      refine fin lv g ?_
      rw [z, show fu r.en (ord k0) (some e) = r.en by rw [← he]; exact fu_self]
      exact ⟨⟨n, ord, es, K1⟩, fun _ _ _ => rfl⟩
    have out : ∀ lv, lv 0 = some (.ref o) → lv 1 = some (.int (nI self)) → lv 2 = some (.ref (es k0)) → r_do nr self r (ord k0) e yv = (r_en r (fu r.en (ord k0) none), e_ds e) → on_E G M_M_done 537 lv [] g sz 0 0 (fun v h1 z => v = none ∧ z = sz ∧ mY o R self x3 F lk (r_do nr self r (ord k0) e yv) h h1) := fun lv l0 l1 l2 z => by
      refine on_relv (l := [(0, .ref o), (1, .int (nI self)), (2, .ref (es k0))]) ⟨l0, l1, l2, trivial⟩ ?_
      first | refine on_aload_n (pc' := 538) rfl rfl rfl rfl ?_ | refine on_aload_nQ (pc' := 538) rfl rfl rfl rfl ?_
      refine on_iload_n (pc' := 539) rfl rfl rfl rfl ?_
      first | refine on_aload_n (pc' := 540) rfl rfl rfl rfl ?_ | refine on_aload_nQ (pc' := 540) rfl rfl rfl rfl ?_
      refine on_callV (pc' := 543) (As := [.int (nI self), .ref (es k0)]) (rest := []) (b := o) rfl rfl cw_M_done_425 (o2) rfl rfl (Nat.le_of_ble_eq_true rfl) (Nat.zero_le _) (Nat.zero_le _) (c_M_destroyEntry K1 hk0 he hf hon) ?_
      rintro v h2 sz ⟨rfl, rfl, Y⟩
      rw [← z] at Y
      exact fin _ h2 Y
    have out2 : ∀ lv, lv 0 = some (.ref o) → lv 1 = some (.int (nI self)) → lv 2 = some (.ref (es k0)) → r_do nr self r (ord k0) e yv = (r_en r (fu r.en (ord k0) none), e_ds e) → on_E G M_M_done 170 lv [] g sz 0 0 (fun v h1 z => v = none ∧ z = sz ∧ mY o R self x3 F lk (r_do nr self r (ord k0) e yv) h h1) := fun lv l0 l1 l2 z => by
      refine on_relv (l := [(0, .ref o), (1, .int (nI self)), (2, .ref (es k0))]) ⟨l0, l1, l2, trivial⟩ ?_
      first | refine on_aload_n (pc' := 171) rfl rfl rfl rfl ?_ | refine on_aload_nQ (pc' := 171) rfl rfl rfl rfl ?_
      refine on_iload_n (pc' := 172) rfl rfl rfl rfl ?_
      first | refine on_aload_n (pc' := 173) rfl rfl rfl rfl ?_ | refine on_aload_nQ (pc' := 173) rfl rfl rfl rfl ?_
      refine on_callV (pc' := 176) (As := [.int (nI self), .ref (es k0)]) (rest := []) (b := o) rfl rfl cw_M_done_425 (o2) rfl rfl (Nat.le_of_ble_eq_true rfl) (Nat.zero_le _) (Nat.zero_le _) (c_M_destroyEntry K1 hk0 he hf hon) ?_
      rintro v h2 sz ⟨rfl, rfl, Y⟩
      rw [← z] at Y
      refine on_vreturn rfl rfl ?_
      exact ⟨rfl, rfl, Y.1, f1.trans Y.2⟩
    have out3 : ∀ lv, lv 0 = some (.ref o) → lv 1 = some (.int (nI self)) → lv 2 = some (.ref (es k0)) → r_do nr self r (ord k0) e yv = (r_en r (fu r.en (ord k0) none), e_ds e) → on_E G M_M_done 288 lv [] g sz 0 0 (fun v h1 z => v = none ∧ z = sz ∧ mY o R self x3 F lk (r_do nr self r (ord k0) e yv) h h1) := fun lv l0 l1 l2 z => by
      refine on_relv (l := [(0, .ref o), (1, .int (nI self)), (2, .ref (es k0))]) ⟨l0, l1, l2, trivial⟩ ?_
      first | refine on_aload_n (pc' := 289) rfl rfl rfl rfl ?_ | refine on_aload_nQ (pc' := 289) rfl rfl rfl rfl ?_
      refine on_iload_n (pc' := 290) rfl rfl rfl rfl ?_
      first | refine on_aload_n (pc' := 291) rfl rfl rfl rfl ?_ | refine on_aload_nQ (pc' := 291) rfl rfl rfl rfl ?_
      refine on_callV (pc' := 294) (As := [.int (nI self), .ref (es k0)]) (rest := []) (b := o) rfl rfl cw_M_done_425 (o2) rfl rfl (Nat.le_of_ble_eq_true rfl) (Nat.zero_le _) (Nat.zero_le _) (c_M_destroyEntry K1 hk0 he hf hon) ?_
      rintro v h2 sz ⟨rfl, rfl, Y⟩
      rw [← z] at Y
      refine on_goto (tgt := 543) rfl rfl ?_
      exact fin _ h2 Y
    have kIn : ∀ k, k < 4 → ¬ nI k = -1 := by decide
    refine on_iload_n (pc' := 62) rfl rfl rfl rfl ?_
    refine sw_md x5.2 (fun y5 => ?_) (fun y5 => ?_) (fun y5 => ?_) (fun y5 => ?_) (fun y5 => ?_) (fun n14 n1 n2 n3 n5 => ?_)
    · have rd : r_do nr self r (ord k0) e yv = if yv 14 * 256 + yv 15 = 69 ∧ yv 16 < nr ∧ yv 16 ≠ self ∧ e.on = none then ((r.se, r.dr, r.we, r.nx + 1, fu r.en (ord k0) (some (e.fr, e.fn, some (yv 16, r.nx), true, e.fw, e.bw, e.st)), r.ke), [(yv 16, ce_k (nI r.nx) 10 (fun j => yv (17 + j)) 68)]) else (r_en r (fu r.en (ord k0) none), e_ds e) := by
        unfold r_do
        dsimp only
        rw [if_pos y5]
      have o2' : g o = some (.inr (17, mo_f o (nI nr) x3.2.1 x3.2.2)) := by
        rw [← hx3]
        exact o2
      refine on_iload (pc' := 134) rfl rfl rfl ?_
      refine on_bipush (pc' := 136) (v := 69) rfl rfl lb_69 ?_
      refine on_icmp_ne (pc' := 139) (tgt := 170) rfl rfl rfl (fun cq => ?_) (fun cq => ?_)
      · have c69 : ¬ yv 14 * 256 + yv 15 = 69 := fun z => cq (by rw [z]; rfl)
        exact out2 _ rfl rfl rfl (rd.trans (if_neg (fun z => c69 z.1)))
      · have c69 : yv 14 * 256 + yv 15 = 69 := (nI_eq (a := yv 14 * 256 + yv 15) (b := 69) c31 (by decide)).mp cq
        clear cq
        have D0 : D 0 = nI (yv 16) ∧ yv 16 < 256 := hDb 0 (by omega)
        first | refine on_aload_n (pc' := 140) rfl rfl rfl rfl ?_ | refine on_aload_nQ (pc' := 140) rfl rfl rfl rfl ?_
        first | refine on_aload_n (pc' := 141) rfl rfl rfl rfl ?_ | refine on_aload_nQ (pc' := 141) rfl rfl rfl rfl ?_
        first | apply on_get (pc' := 144) rfl rfl fl_M_124 | apply on_getN (pc' := 144) rfl rfl fl_M_124
        · repeat (first | assumption | exact on_up_eq _ _ _ | refine (on_up_ne (by omega)).trans ?_)
        · rfl
        refine on_iconst (pc' := 145) (v := 0) rfl rfl li_0 ?_
        apply on_ialoadK (pc' := 146) (t := 0) (k := 0) rfl rfl
        · repeat (first | assumption | exact on_up_eq _ _ _ | refine (on_up_ne (by omega)).trans ?_)
        · rfl
        · first | assumption | exact on_lit _ | rfl
        · first | assumption | omega | decide
        rw [D0.1]
        refine on_callV (pc' := 149) (As := [.int (nI (yv 16))]) (rest := []) (b := o) rfl rfl cw_M_done_278 (o2') rfl rfl (Nat.le_of_ble_eq_true rfl) (Nat.zero_le _) (Nat.zero_le _) (c_M_isRelay o2') ?_
        rintro v g sz ⟨rfl, rfl, rfl⟩
        refine on_if_eq (pc' := 152) (tgt := 170) rfl rfl rfl (fun cq => ?_) (fun cq => ?_)
        · have y6 : ¬ yv 16 < nr := fun z => by
            rw [p_i_nI (by omega) z] at cq
            exact absurd (bI_eq.mp cq) (fun w => nomatch w)
          exact out2 _ rfl rfl rfl (rd.trans (if_neg (fun z => y6 z.2.1)))
        · have y6 : yv 16 < nr := by
            rcases Nat.lt_or_ge (yv 16) nr with z | z
            · exact z
            · rw [p_i_hi z (by omega)] at cq
              exact absurd rfl cq
          clear cq
          first | refine on_aload_n (pc' := 153) rfl rfl rfl rfl ?_ | refine on_aload_nQ (pc' := 153) rfl rfl rfl rfl ?_
          first | apply on_get (pc' := 156) rfl rfl fl_M_124 | apply on_getN (pc' := 156) rfl rfl fl_M_124
          · repeat (first | assumption | exact on_up_eq _ _ _ | refine (on_up_ne (by omega)).trans ?_)
          · rfl
          refine on_iconst (pc' := 157) (v := 0) rfl rfl li_0 ?_
          apply on_ialoadK (pc' := 158) (t := 0) (k := 0) rfl rfl
          · repeat (first | assumption | exact on_up_eq _ _ _ | refine (on_up_ne (by omega)).trans ?_)
          · rfl
          · first | assumption | exact on_lit _ | rfl
          · first | assumption | omega | decide
          rw [D0.1]
          refine on_iload_n (pc' := 159) rfl rfl rfl rfl ?_
          refine on_icmp_eq (pc' := 162) (tgt := 170) rfl rfl rfl (fun cq => ?_) (fun cq => ?_)
          · have y7 : yv 16 = self := (nI_eq (a := yv 16) (b := self) (by omega) (by omega)).mp cq
            exact out2 _ rfl rfl rfl (rd.trans (if_neg (fun z => z.2.2.1 y7)))
          · have y7 : yv 16 ≠ self := fun z => cq (by rw [z])
            clear cq
            first | refine on_aload_n (pc' := 163) rfl rfl rfl rfl ?_ | refine on_aload_nQ (pc' := 163) rfl rfl rfl rfl ?_
            first | apply on_get (pc' := 166) rfl rfl fl_M_342 | apply on_getN (pc' := 166) rfl rfl fl_M_342
            · repeat (first | assumption | exact on_up_eq _ _ _ | refine (on_up_ne (by omega)).trans ?_)
            · rfl
            refine on_iconst (pc' := 167) (v := (-1)) rfl rfl li_m1 ?_
            refine on_icmp_eq (pc' := 170) (tgt := 177) rfl rfl rfl (fun cq => ?_) (fun cq => ?_)
            rotate_left
            · refine out2 _ rfl rfl rfl (rd.trans (if_neg (fun z => ?_)))
              rw [z.2.2.2] at cq
              exact absurd rfl cq
            · have on0 : e.on = none := by
                cases w : e.on with
                | none => rfl
                | some q =>
                  rw [w] at cq
                  exact absurd cq ((by decide : ∀ f, f < 10 → ¬ nI f = -1) q.1 (hon q w))
              clear cq
              rw [if_pos ⟨c69, y6, y7, on0⟩] at rd
              first | refine on_aload_n (pc' := 178) rfl rfl rfl rfl ?_ | refine on_aload_nQ (pc' := 178) rfl rfl rfl rfl ?_
              first | refine on_aload_n (pc' := 179) rfl rfl rfl rfl ?_ | refine on_aload_nQ (pc' := 179) rfl rfl rfl rfl ?_
              first | apply on_get (pc' := 182) rfl rfl fl_M_124 | apply on_getN (pc' := 182) rfl rfl fl_M_124
              · repeat (first | assumption | exact on_up_eq _ _ _ | refine (on_up_ne (by omega)).trans ?_)
              · rfl
              refine on_iconst (pc' := 183) (v := 0) rfl rfl li_0 ?_
              apply on_ialoadK (pc' := 184) (t := 0) (k := 0) rfl rfl
              · repeat (first | assumption | exact on_up_eq _ _ _ | refine (on_up_ne (by omega)).trans ?_)
              · rfl
              · first | assumption | exact on_lit _ | rfl
              · first | assumption | omega | decide
              rw [D0.1]
              first | apply on_put (pc' := 187) rfl rfl fp_M_342 | apply on_putN (pc' := 187) rfl rfl fp_M_342
              · repeat (first | assumption | exact on_up_eq _ _ _ | refine (on_up_ne (by omega)).trans ?_)
              · first | rfl | assumption
              · first | rfl | assumption
              · exact Nat.le_of_ble_eq_true rfl
              first | refine on_aload_n (pc' := 188) rfl rfl rfl rfl ?_ | refine on_aload_nQ (pc' := 188) rfl rfl rfl rfl ?_
              first | refine on_aload_n (pc' := 189) rfl rfl rfl rfl ?_ | refine on_aload_nQ (pc' := 189) rfl rfl rfl rfl ?_
              first | apply on_get (pc' := 192) rfl rfl fl_M_9 | apply on_getN (pc' := 192) rfl rfl fl_M_9
              · repeat (first | assumption | exact on_up_eq _ _ _ | refine (on_up_ne (by omega)).trans ?_)
              · rfl
              refine on_iload_n (pc' := 193) rfl rfl rfl rfl ?_
              apply on_aaloadK (pc' := 194) rfl rfl
              · repeat (first | assumption | exact on_up_eq _ _ _ | refine (on_up_ne (by omega)).trans ?_)
              · rfl
              · first | assumption | exact on_lit _ | rfl
              · first | assumption | omega | decide
              rw [k6]
              show on_E G M_M_done 194 _ [.ref R, .ref (es k0)] _ sz _ _ _
              first | apply on_get (pc' := 197) rfl rfl fl_M_438 | apply on_getN (pc' := 197) rfl rfl fl_M_438
              · repeat (first | assumption | exact on_up_eq _ _ _ | refine (on_up_ne (by omega)).trans ?_)
              · rfl
              first | apply on_put (pc' := 200) rfl rfl fp_M_345 | apply on_putN (pc' := 200) rfl rfl fp_M_345
              · repeat (first | assumption | exact on_up_eq _ _ _ | refine (on_up_ne (by omega)).trans ?_)
              · first | rfl | assumption
              · first | rfl | assumption
              · exact Nat.le_of_ble_eq_true rfl
              first | refine on_aload_n (pc' := 201) rfl rfl rfl rfl ?_ | refine on_aload_nQ (pc' := 201) rfl rfl rfl rfl ?_
              first | apply on_get (pc' := 204) rfl rfl fl_M_9 | apply on_getN (pc' := 204) rfl rfl fl_M_9
              · repeat (first | assumption | exact on_up_eq _ _ _ | refine (on_up_ne (by omega)).trans ?_)
              · rfl
              refine on_iload_n (pc' := 205) rfl rfl rfl rfl ?_
              apply on_aaloadK (pc' := 206) rfl rfl
              · repeat (first | assumption | exact on_up_eq _ _ _ | refine (on_up_ne (by omega)).trans ?_)
              · rfl
              · first | assumption | exact on_lit _ | rfl
              · first | assumption | omega | decide
              rw [k6]
              show on_E G M_M_done 206 _ [.ref R] _ sz _ _ _
              refine on_dup (pc' := 207) rfl rfl rfl ?_
              first | apply on_get (pc' := 210) rfl rfl fl_M_438 | apply on_getN (pc' := 210) rfl rfl fl_M_438
              · repeat (first | assumption | exact on_up_eq _ _ _ | refine (on_up_ne (by omega)).trans ?_)
              · rfl
              refine on_iconst (pc' := 211) (v := 1) rfl rfl li_1 ?_
              refine on_iadd (pc' := 212) rfl rfl ?_
              rw [nI_1]
              first | apply on_put (pc' := 215) rfl rfl fp_M_438 | apply on_putN (pc' := 215) rfl rfl fp_M_438
              · repeat (first | assumption | exact on_up_eq _ _ _ | refine (on_up_ne (by omega)).trans ?_)
              · first | rfl | assumption
              · first | rfl | assumption
              · exact Nat.le_of_ble_eq_true rfl
              first | refine on_aload_n (pc' := 216) rfl rfl rfl rfl ?_ | refine on_aload_nQ (pc' := 216) rfl rfl rfl rfl ?_
              refine on_iconst (pc' := 217) (v := 1) rfl rfl li_1 ?_
              first | apply on_put (pc' := 220) rfl rfl fp_M_370 | apply on_putN (pc' := 220) rfl rfl fp_M_370
              · repeat (first | assumption | exact on_up_eq _ _ _ | refine (on_up_ne (by omega)).trans ?_)
              · first | rfl | assumption
              · first | rfl | assumption
              · exact Nat.le_of_ble_eq_true rfl
              refine on_iconst (pc' := 221) (v := 0) rfl rfl li_0 ?_
              refine on_istore (pc' := 223) rfl rfl (by decide) ?_
              have h4e : ∀ b, on_up (on_up (on_up (on_up g (es k0) (.inr (14, [.int (nI e.fr), .int e.fn, .int (nI (yv 16)), .int tn, .int (bI e.wt), .ref (es k0 + 1), .int (nI e.st.length), .ref (es k0 + 10), .ref (es k0 + 11), .ref (es k0 + 12), .ref (es k0 + 13)]))) (es k0) (.inr (14, [.int (nI e.fr), .int e.fn, .int (nI (yv 16)), .int (nI r.nx), .int (bI e.wt), .ref (es k0 + 1), .int (nI e.st.length), .ref (es k0 + 10), .ref (es k0 + 11), .ref (es k0 + 12), .ref (es k0 + 13)]))) R (.inr (15, [.long r.se, .int r.dr, .ref (R + 1), .ref (R + 2), .ref (R + 3), .int (nI r.we), .int (nI (r.nx + 1)), .ref (R + 4), .int (nI n), .ref (R + 5), .int (nI r.ke.length)]))) (es k0) (.inr (14, [.int (nI e.fr), .int e.fn, .int (nI (yv 16)), .int (nI r.nx), .int 1, .ref (es k0 + 1), .int (nI e.st.length), .ref (es k0 + 10), .ref (es k0 + 11), .ref (es k0 + 12), .ref (es k0 + 13)])) b = on_up (on_up g R (.inr (15, [.long r.se, .int r.dr, .ref (R + 1), .ref (R + 2), .ref (R + 3), .int (nI r.we), .int (nI (r.nx + 1)), .ref (R + 4), .int (nI n), .ref (R + 5), .int (nI r.ke.length)]))) (es k0) (.inr (14, [.int (nI e.fr), .int e.fn, .int (nI (yv 16)), .int (nI r.nx), .int 1, .ref (es k0 + 1), .int (nI e.st.length), .ref (es k0 + 10), .ref (es k0 + 11), .ref (es k0 + 12), .ref (es k0 + 13)])) b := fun b => by
                by_cases z : b = es k0
                · rw [z, on_up_eq, on_up_eq]
                · rw [on_up_ne z, on_up_ne z]
                  by_cases w : b = R
                  · rw [w, on_up_eq, on_up_eq]
                  · rw [on_up_ne w, on_up_ne w, on_up_ne z, on_up_ne z]
              show on_E G M_M_done 223 _ [] (on_up (on_up (on_up (on_up g (es k0) (.inr (14, [.int (nI e.fr), .int e.fn, .int (nI (yv 16)), .int tn, .int (bI e.wt), .ref (es k0 + 1), .int (nI e.st.length), .ref (es k0 + 10), .ref (es k0 + 11), .ref (es k0 + 12), .ref (es k0 + 13)]))) (es k0) (.inr (14, [.int (nI e.fr), .int e.fn, .int (nI (yv 16)), .int (nI r.nx), .int (bI e.wt), .ref (es k0 + 1), .int (nI e.st.length), .ref (es k0 + 10), .ref (es k0 + 11), .ref (es k0 + 12), .ref (es k0 + 13)]))) R (.inr (15, [.long r.se, .int r.dr, .ref (R + 1), .ref (R + 2), .ref (R + 3), .int (nI r.we), .int (nI (r.nx + 1)), .ref (R + 4), .int (nI n), .ref (R + 5), .int (nI r.ke.length)]))) (es k0) (.inr (14, [.int (nI e.fr), .int e.fn, .int (nI (yv 16)), .int (nI r.nx), .int 1, .ref (es k0 + 1), .int (nI e.st.length), .ref (es k0 + 10), .ref (es k0 + 11), .ref (es k0 + 12), .ref (es k0 + 13)]))) sz _ _ _
              rw [funext h4e]
              obtain ⟨K2, f2⟩ := K1.nxt (nx := r.nx + 1) (h1 := on_up g R (.inr (15, [.long r.se, .int r.dr, .ref (R + 1), .ref (R + 2), .ref (R + 3), .int (nI r.we), .int (nI (r.nx + 1)), .ref (R + 4), .int (nI n), .ref (R + 5), .int (nI r.ke.length)]))) (on_up_eq _ _ _) (fun b hb => on_up_ne hb)
              have E2 : me_S (es k0) (e.fr, e.fn, some (yv 16, r.nx), true, e.fw, e.bw, e.st) (on_up (on_up g R (.inr (15, [.long r.se, .int r.dr, .ref (R + 1), .ref (R + 2), .ref (R + 3), .int (nI r.we), .int (nI (r.nx + 1)), .ref (R + 4), .int (nI n), .ref (R + 5), .int (nI r.ke.length)]))) (es k0) (.inr (14, [.int (nI e.fr), .int e.fn, .int (nI (yv 16)), .int (nI r.nx), .int 1, .ref (es k0 + 1), .int (nI e.st.length), .ref (es k0 + 10), .ref (es k0 + 11), .ref (es k0 + 12), .ref (es k0 + 13)]))) := ⟨nI r.nx, S, V, WW, C, ⟨on_up_eq _ _ _, (on_up_ne (by omega)).trans ((on_up_ne (by omega)).trans b1), (on_up_ne (by omega)).trans ((on_up_ne (by omega)).trans b2), (on_up_ne (by omega)).trans ((on_up_ne (by omega)).trans b3), (on_up_ne (by omega)).trans ((on_up_ne (by omega)).trans b4)⟩, fun q hq => by cases hq; rfl, sr, mll.keep (fun a _ _ => (on_up_ne (by omega)).trans (on_up_ne (by omega)))⟩
              obtain ⟨K3', f3⟩ := K2.ent (lk2 := lk) (h1 := on_up (on_up g R (.inr (15, [.long r.se, .int r.dr, .ref (R + 1), .ref (R + 2), .ref (R + 3), .int (nI r.we), .int (nI (r.nx + 1)), .ref (R + 4), .int (nI n), .ref (R + 5), .int (nI r.ke.length)]))) (es k0) (.inr (14, [.int (nI e.fr), .int e.fn, .int (nI (yv 16)), .int (nI r.nx), .int 1, .ref (es k0 + 1), .int (nI e.st.length), .ref (es k0 + 10), .ref (es k0 + 11), .ref (es k0 + 12), .ref (es k0 + 13)]))) hk0 (K2.1.keep (fun a _ _ _ => on_up_ne (by omega))) (K2.2.1.keep (on_up_ne (by omega)) (on_up_ne (by omega))) E2 (fun b _ c2 => on_up_ne (by omega))
              have d3 : on_up (on_up g R (.inr (15, [.long r.se, .int r.dr, .ref (R + 1), .ref (R + 2), .ref (R + 3), .int (nI r.we), .int (nI (r.nx + 1)), .ref (R + 4), .int (nI n), .ref (R + 5), .int (nI r.ke.length)]))) (es k0) (.inr (14, [.int (nI e.fr), .int e.fn, .int (nI (yv 16)), .int (nI r.nx), .int 1, .ref (es k0 + 1), .int (nI e.st.length), .ref (es k0 + 10), .ref (es k0 + 11), .ref (es k0 + 12), .ref (es k0 + 13)])) (o + 41) = some (on_ai 0 124 D) := (on_up_ne (by omega)).trans ((on_up_ne (by omega)).trans d1)
              generalize on_up (on_up g R (.inr (15, [.long r.se, .int r.dr, .ref (R + 1), .ref (R + 2), .ref (R + 3), .int (nI r.we), .int (nI (r.nx + 1)), .ref (R + 4), .int (nI n), .ref (R + 5), .int (nI r.ke.length)]))) (es k0) (.inr (14, [.int (nI e.fr), .int e.fn, .int (nI (yv 16)), .int (nI r.nx), .int 1, .ref (es k0 + 1), .int (nI e.st.length), .ref (es k0 + 10), .ref (es k0 + 11), .ref (es k0 + 12), .ref (es k0 + 13)])) = g3 at K3' f3 d3 E2 ⊢
              have o3 := K3'.1.ob.1
              obtain ⟨P0, sk0⟩ := K3'.1.sk
              have eh3 : on_up g3 (o + 26) (on_ai 0 68 P0) = g3 := funext fun b => by
                by_cases z : b = o + 26
                · rw [z, on_up_eq, sk0]
                · exact on_up_ne z
              have ml3 := mds_l (G := G) (sz := sz) (bc := 0) (bs := 0) (self := self) (es := es) (k0 := k0) (Q := fun v h1 z => v = none ∧ z = sz ∧ mY o R self x3 F lk (r_do nr self r (ord k0) e yv) h h1) o3 d3 (fun P2 hP2 => ?_) 68 0 P0 (by omega) (fun i hi => absurd hi (Nat.not_lt_zero i))
              · rw [eh3] at ml3
                exact on_relv (l := [(0, .ref o), (1, .int (nI self)), (2, .ref (es k0)), (7, .int (nI 0))]) ⟨rfl, rfl, rfl, rfl, trivial⟩ ml3
              · obtain ⟨K4, f4⟩ := K3'.wrk (a := o + 26) (h1 := on_up g3 (o + 26) (on_ai 0 68 P2)) (Or.inl (by omega)) (by rw [show o + 26 - o = 26 by omega]; exact ⟨P2, on_up_eq _ _ _⟩) (fun b hb => on_up_ne hb)
                have q4 : rB (on_up g3 (o + 26) (on_ai 0 68 P2)) (o + 26) 68 (fun j => yv (17 + j)) := ⟨P2, on_up_eq _ _ _, fun i hi => by
                  rw [hP2 i hi]
                  have this : D (1 + i) = nI (yv (16 + (1 + i))) ∧ yv (16 + (1 + i)) < 256 := hDb (1 + i) (by omega)
                  rw [show 16 + (1 + i) = 17 + i by omega] at this
                  exact this⟩
                have o4 := K4.1.ob.1
                obtain ⟨tn4, S4, V4, W4, C4, ⟨b04, -⟩, tq4, -⟩ := E2
                have et4 := tq4 (yv 16, r.nx) rfl
                have b04 : g3 (es k0) = some (.inr (14, [.int (nI e.fr), .int e.fn, .int (nI (yv 16)), .int tn4, .int 1, .ref (es k0 + 1), .int (nI e.st.length), .ref (es k0 + 10), .ref (es k0 + 11), .ref (es k0 + 12), .ref (es k0 + 13)])) := b04
                rw [et4] at b04
                have b05 : on_up g3 (o + 26) (on_ai 0 68 P2) (es k0) = _ := (on_up_ne (by omega)).trans b04
                generalize on_up g3 (o + 26) (on_ai 0 68 P2) = g4 at K4 f4 q4 o4 b05 ⊢
                first | refine on_aload_n (pc' := 253) rfl rfl rfl rfl ?_ | refine on_aload_nQ (pc' := 253) rfl rfl rfl rfl ?_
                refine on_iload_n (pc' := 254) rfl rfl rfl rfl ?_
                first | refine on_aload_n (pc' := 255) rfl rfl rfl rfl ?_ | refine on_aload_nQ (pc' := 255) rfl rfl rfl rfl ?_
                first | apply on_get (pc' := 258) rfl rfl fl_M_342 | apply on_getN (pc' := 258) rfl rfl fl_M_342
                · repeat (first | assumption | exact on_up_eq _ _ _ | refine (on_up_ne (by omega)).trans ?_)
                · rfl
                first | refine on_aload_n (pc' := 259) rfl rfl rfl rfl ?_ | refine on_aload_nQ (pc' := 259) rfl rfl rfl rfl ?_
                first | apply on_get (pc' := 262) rfl rfl fl_M_345 | apply on_getN (pc' := 262) rfl rfl fl_M_345
                · repeat (first | assumption | exact on_up_eq _ _ _ | refine (on_up_ne (by omega)).trans ?_)
                · rfl
                refine on_bipush (pc' := 264) (v := 10) rfl rfl lb_10 ?_
                first | refine on_aload_n (pc' := 265) rfl rfl rfl rfl ?_ | refine on_aload_nQ (pc' := 265) rfl rfl rfl rfl ?_
                first | apply on_get (pc' := 268) rfl rfl fl_M_79 | apply on_getN (pc' := 268) rfl rfl fl_M_79
                · repeat (first | assumption | exact on_up_eq _ _ _ | refine (on_up_ne (by omega)).trans ?_)
                · rfl
                refine on_bipush (pc' := 270) (v := 68) rfl rfl lb_68 ?_
                refine on_callV (pc' := 273) (As := [.int (nI self), .int (nI (yv 16)), .int (nI r.nx), .int (nI 10), .ref (o + 26), .int (nI 68)]) (rest := []) (b := o) rfl rfl cw_M_done_348 (o4) rfl rfl (Nat.le_of_ble_eq_true rfl) (Nat.zero_le _) (Nat.zero_le _) (c_M_lay (x := fun j => yv (17 + j)) o4 K4.2.1 (by omega) (by omega) (by decide) q4.w (by omega) (by omega) ⟨Nat.le_refl 68, by decide⟩ (by decide) q4.all) ?_
                rintro v g5 sz ⟨rfl, rfl, L5, t5⟩
                refine on_goto (tgt := 543) rfl rfl ?_
                refine fin _ g5 ?_
                rw [rd]
                exact ⟨⟨n, ord, es, K4.lnk L5 t5⟩, ((f2.trans f3).trans f4).trans (fun b c1 c2 => t5 b (by omega) (by omega))⟩
    · have rd : r_do nr self r (ord k0) e yv = if yv 14 * 256 + yv 15 = 1 ∧ s_at e.st (yv 8 * 256 + yv 9) = none then (if e.st.length < 4 ∧ (yv 16 = 1 ∨ yv 16 = 2) then (r_en r (fu r.en (ord k0) (some (e_bk (e.fr, e.fn, e.on, e.wt, e.fw, e.bw, e.st ++ [(yv 8 * 256 + yv 9, yv 16, 4, 0)]) 4 (yv 8 * 256 + yv 9) 0 (fun j => yv (16 + j))).1)), [(e_bk (e.fr, e.fn, e.on, e.wt, e.fw, e.bw, e.st ++ [(yv 8 * 256 + yv 9, yv 16, 4, 0)]) 4 (yv 8 * 256 + yv 9) 0 (fun j => yv (16 + j))).2]) else (r_en r (fu r.en (ord k0) (some (e_bk e 3 (yv 8 * 256 + yv 9) 0 (fun j => yv (16 + j))).1)), [(e_bk e 3 (yv 8 * 256 + yv 9) 0 (fun j => yv (16 + j))).2])) else (r_en r (fu r.en (ord k0) none), e_ds e) := by
        unfold r_do
        dsimp only
        rw [if_neg (by omega), if_pos y5]
      refine on_iload (pc' := 278) rfl rfl rfl ?_
      refine on_iconst (pc' := 279) (v := 1) rfl rfl li_1 ?_
      refine on_icmp_ne (pc' := 282) (tgt := 288) rfl rfl rfl (fun cq => ?_) (fun cq => ?_)
      · have c1 : ¬ yv 14 * 256 + yv 15 = 1 := fun z => cq (by rw [z]; rfl)
        exact out3 _ rfl rfl rfl (rd.trans (if_neg (fun z => c1 z.1)))
      · have c1 : yv 14 * 256 + yv 15 = 1 := (nI_eq (a := yv 14 * 256 + yv 15) (b := 1) c31 (by decide)).mp cq
        clear cq
        have D0 : D 0 = nI (yv 16) ∧ yv 16 < 256 := hDb 0 (by omega)
        cases sa : s_at e.st (yv 8 * 256 + yv 9) with
        | some k =>
          have kl := s_at_lt sa
          refine on_iload (pc' := 284) rfl rfl rfl ?_
          refine on_iconst (pc' := 285) (v := (-1)) rfl rfl li_m1 ?_
          refine on_icmp_eq (pc' := 288) (tgt := 297) rfl rfl rfl (fun cq => ?_) (fun cq => ?_)
          · exact absurd cq (kIn k (by omega))
          · refine out3 _ rfl rfl rfl (rd.trans (if_neg (fun z => ?_)))
            rw [sa] at z
            exact nomatch z.2
        | none =>
          rw [if_pos ⟨c1, sa⟩] at rd
          have no : ∀ lv, lv 0 = some (.ref o) → lv 1 = some (.int (nI self)) → lv 2 = some (.ref (es k0)) → lv 4 = some (.int (nI (yv 8 * 256 + yv 9))) → ¬ (e.st.length < 4 ∧ (yv 16 = 1 ∨ yv 16 = 2)) → on_E G M_M_done 398 lv [] g sz 0 0 (fun v h1 z => v = none ∧ z = sz ∧ mY o R self x3 F lk (r_do nr self r (ord k0) e yv) h h1) := fun lv l0 l1 l2 l4' z => by
            rw [if_neg z] at rd
            refine on_relv (l := [(0, .ref o), (1, .int (nI self)), (2, .ref (es k0)), (4, .int (nI (yv 8 * 256 + yv 9)))]) ⟨l0, l1, l2, l4', trivial⟩ ?_
            first | refine on_aload_n (pc' := 399) rfl rfl rfl rfl ?_ | refine on_aload_nQ (pc' := 399) rfl rfl rfl rfl ?_
            refine on_iload_n (pc' := 400) rfl rfl rfl rfl ?_
            first | refine on_aload_n (pc' := 401) rfl rfl rfl rfl ?_ | refine on_aload_nQ (pc' := 401) rfl rfl rfl rfl ?_
            refine on_iconst (pc' := 402) (v := 3) rfl rfl li_3 ?_
            refine on_iload (pc' := 404) rfl rfl rfl ?_
            refine on_iconst (pc' := 405) (v := 0) rfl rfl li_0 ?_
            first | refine on_aload_n (pc' := 406) rfl rfl rfl rfl ?_ | refine on_aload_nQ (pc' := 406) rfl rfl rfl rfl ?_
            first | apply on_get (pc' := 409) rfl rfl fl_M_124 | apply on_getN (pc' := 409) rfl rfl fl_M_124
            · repeat (first | assumption | exact on_up_eq _ _ _ | refine (on_up_ne (by omega)).trans ?_)
            · rfl
            refine on_callV (pc' := 412) (As := [.int (nI self), .ref (es k0), .int (nI 3), .int (nI (yv 8 * 256 + yv 9)), .int (nI 0), .ref (o + 41)]) (rest := []) (b := o) rfl rfl cw_M_done_374 (o2) rfl rfl (Nat.le_of_ble_eq_true rfl) (Nat.zero_le _) (Nat.zero_le _) (c_M_back (d := fun j => yv (16 + j)) (n := 0) W1 KL1 E1 (by omega) (by omega) hf (by omega) (by omega) (by decide) hid (Nat.zero_le _) W1.da (Or.inl rfl) ⟨Nat.zero_le _, by decide⟩ (fun f _ i hi => absurd hi (Nat.not_lt_zero i))) ?_
            rintro v h2 sz ⟨rfl, rfl, W2, L2, E2, t2⟩
            obtain ⟨K2, f2⟩ := K1.ent hk0 W2 L2 E2 (fun b c1 c2 => t2 b (by omega) (by omega) (by omega) (by omega) (by omega) (by omega) (by omega) c2)
            refine on_goto (tgt := 543) rfl rfl ?_
            refine fin _ h2 ?_
            rw [rd]
            exact ⟨⟨n, ord, es, K2⟩, f2⟩
          have yes : ∀ lv, lv 0 = some (.ref o) → lv 1 = some (.int (nI self)) → lv 2 = some (.ref (es k0)) → lv 4 = some (.int (nI (yv 8 * 256 + yv 9))) → e.st.length < 4 ∧ (yv 16 = 1 ∨ yv 16 = 2) → on_E G M_M_done 325 lv [] g sz 0 0 (fun v h1 z => v = none ∧ z = sz ∧ mY o R self x3 F lk (r_do nr self r (ord k0) e yv) h h1) := fun lv l0 l1 l2 l4' z => by
            rw [if_pos z] at rd
            have i4 : e.st.length < 4 ∧ 4 < 2 ^ 31 := ⟨z.1, by decide⟩
            refine on_relv (l := [(0, .ref o), (1, .int (nI self)), (2, .ref (es k0)), (4, .int (nI (yv 8 * 256 + yv 9)))]) ⟨l0, l1, l2, l4', trivial⟩ ?_
            first | refine on_aload_n (pc' := 326) rfl rfl rfl rfl ?_ | refine on_aload_nQ (pc' := 326) rfl rfl rfl rfl ?_
            first | apply on_get (pc' := 329) rfl rfl fl_M_428 | apply on_getN (pc' := 329) rfl rfl fl_M_428
            · repeat (first | assumption | exact on_up_eq _ _ _ | refine (on_up_ne (by omega)).trans ?_)
            · rfl
            first | refine on_aload_n (pc' := 330) rfl rfl rfl rfl ?_ | refine on_aload_nQ (pc' := 330) rfl rfl rfl rfl ?_
            first | apply on_get (pc' := 333) rfl rfl fl_M_381 | apply on_getN (pc' := 333) rfl rfl fl_M_381
            · repeat (first | assumption | exact on_up_eq _ _ _ | refine (on_up_ne (by omega)).trans ?_)
            · rfl
            refine on_iload (pc' := 335) rfl rfl rfl ?_
            apply on_iastoreK (pc' := 336) (t := 0) rfl rfl
            · repeat (first | assumption | exact on_up_eq _ _ _ | refine (on_up_ne (by omega)).trans ?_)
            · rfl
            · first | assumption | exact on_lit _ | rfl
            · first | assumption | omega | decide
            first | refine on_aload_n (pc' := 337) rfl rfl rfl rfl ?_ | refine on_aload_nQ (pc' := 337) rfl rfl rfl rfl ?_
            first | apply on_get (pc' := 340) rfl rfl fl_M_441 | apply on_getN (pc' := 340) rfl rfl fl_M_441
            · repeat (first | assumption | exact on_up_eq _ _ _ | refine (on_up_ne (by omega)).trans ?_)
            · rfl
            first | refine on_aload_n (pc' := 341) rfl rfl rfl rfl ?_ | refine on_aload_nQ (pc' := 341) rfl rfl rfl rfl ?_
            first | apply on_get (pc' := 344) rfl rfl fl_M_381 | apply on_getN (pc' := 344) rfl rfl fl_M_381
            · repeat (first | assumption | exact on_up_eq _ _ _ | refine (on_up_ne (by omega)).trans ?_)
            · rfl
            first | refine on_aload_n (pc' := 345) rfl rfl rfl rfl ?_ | refine on_aload_nQ (pc' := 345) rfl rfl rfl rfl ?_
            first | apply on_get (pc' := 348) rfl rfl fl_M_124 | apply on_getN (pc' := 348) rfl rfl fl_M_124
            · repeat (first | assumption | exact on_up_eq _ _ _ | refine (on_up_ne (by omega)).trans ?_)
            · rfl
            refine on_iconst (pc' := 349) (v := 0) rfl rfl li_0 ?_
            apply on_ialoadK (pc' := 350) (t := 0) (k := 0) rfl rfl
            · repeat (first | assumption | exact on_up_eq _ _ _ | refine (on_up_ne (by omega)).trans ?_)
            · rfl
            · first | assumption | exact on_lit _ | rfl
            · first | assumption | omega | decide
            rw [D0.1]
            apply on_iastoreK (pc' := 351) (t := 0) rfl rfl
            · repeat (first | assumption | exact on_up_eq _ _ _ | refine (on_up_ne (by omega)).trans ?_)
            · rfl
            · first | assumption | exact on_lit _ | rfl
            · first | assumption | omega | decide
            first | refine on_aload_n (pc' := 352) rfl rfl rfl rfl ?_ | refine on_aload_nQ (pc' := 352) rfl rfl rfl rfl ?_
            first | apply on_get (pc' := 355) rfl rfl fl_M_444 | apply on_getN (pc' := 355) rfl rfl fl_M_444
            · repeat (first | assumption | exact on_up_eq _ _ _ | refine (on_up_ne (by omega)).trans ?_)
            · rfl
            first | refine on_aload_n (pc' := 356) rfl rfl rfl rfl ?_ | refine on_aload_nQ (pc' := 356) rfl rfl rfl rfl ?_
            first | apply on_get (pc' := 359) rfl rfl fl_M_381 | apply on_getN (pc' := 359) rfl rfl fl_M_381
            · repeat (first | assumption | exact on_up_eq _ _ _ | refine (on_up_ne (by omega)).trans ?_)
            · rfl
            refine on_iconst (pc' := 360) (v := 4) rfl rfl li_4 ?_
            apply on_iastoreK (pc' := 361) (t := 0) rfl rfl
            · repeat (first | assumption | exact on_up_eq _ _ _ | refine (on_up_ne (by omega)).trans ?_)
            · rfl
            · first | assumption | exact on_lit _ | rfl
            · first | assumption | omega | decide
            first | refine on_aload_n (pc' := 362) rfl rfl rfl rfl ?_ | refine on_aload_nQ (pc' := 362) rfl rfl rfl rfl ?_
            first | apply on_get (pc' := 365) rfl rfl fl_M_447 | apply on_getN (pc' := 365) rfl rfl fl_M_447
            · repeat (first | assumption | exact on_up_eq _ _ _ | refine (on_up_ne (by omega)).trans ?_)
            · rfl
            first | refine on_aload_n (pc' := 366) rfl rfl rfl rfl ?_ | refine on_aload_nQ (pc' := 366) rfl rfl rfl rfl ?_
            first | apply on_get (pc' := 369) rfl rfl fl_M_381 | apply on_getN (pc' := 369) rfl rfl fl_M_381
            · repeat (first | assumption | exact on_up_eq _ _ _ | refine (on_up_ne (by omega)).trans ?_)
            · rfl
            refine on_iconst (pc' := 370) (v := 0) rfl rfl li_0 ?_
            apply on_iastoreK (pc' := 371) (t := 0) rfl rfl
            · repeat (first | assumption | exact on_up_eq _ _ _ | refine (on_up_ne (by omega)).trans ?_)
            · rfl
            · first | assumption | exact on_lit _ | rfl
            · first | assumption | omega | decide
            first | refine on_aload_n (pc' := 372) rfl rfl rfl rfl ?_ | refine on_aload_nQ (pc' := 372) rfl rfl rfl rfl ?_
            refine on_dup (pc' := 373) rfl rfl rfl ?_
            first | apply on_get (pc' := 376) rfl rfl fl_M_381 | apply on_getN (pc' := 376) rfl rfl fl_M_381
            · repeat (first | assumption | exact on_up_eq _ _ _ | refine (on_up_ne (by omega)).trans ?_)
            · rfl
            refine on_iconst (pc' := 377) (v := 1) rfl rfl li_1 ?_
            refine on_iadd (pc' := 378) rfl rfl ?_
            rw [nI_1]
            first | apply on_put (pc' := 381) rfl rfl fp_M_381 | apply on_putN (pc' := 381) rfl rfl fp_M_381
            · repeat (first | assumption | exact on_up_eq _ _ _ | refine (on_up_ne (by omega)).trans ?_)
            · first | rfl | assumption
            · first | rfl | assumption
            · exact Nat.le_of_ble_eq_true rfl
            have E2 : me_S (es k0) (e.fr, e.fn, e.on, e.wt, e.fw, e.bw, e.st ++ [(yv 8 * 256 + yv 9, yv 16, 4, 0)]) (on_up (on_up (on_up (on_up (on_up g (es k0 + 10) (on_ai 0 4 (upd S e.st.length (nI (yv 8 * 256 + yv 9))))) (es k0 + 11) (on_ai 0 4 (upd V e.st.length (nI (yv 16))))) (es k0 + 12) (on_ai 0 4 (upd WW e.st.length 4))) (es k0 + 13) (on_ai 0 4 (upd C e.st.length 0))) (es k0) (.inr (14, [.int (nI e.fr), .int e.fn, .int (oI e.on), .int tn, .int (bI e.wt), .ref (es k0 + 1), .int (nI (e.st.length + 1)), .ref (es k0 + 10), .ref (es k0 + 11), .ref (es k0 + 12), .ref (es k0 + 13)]))) := by
              have el : (e.st ++ [((yv 8 * 256 + yv 9, yv 16, 4, 0) : aS)]).length = e.st.length + 1 := List.length_append
              refine ⟨tn, _, _, _, _, ⟨?_, (on_up_ne (by omega)).trans ((on_up_ne (by omega)).trans ((on_up_ne (by omega)).trans ((on_up_ne (by omega)).trans (on_up_eq _ _ _)))), (on_up_ne (by omega)).trans ((on_up_ne (by omega)).trans ((on_up_ne (by omega)).trans (on_up_eq _ _ _))), (on_up_ne (by omega)).trans ((on_up_ne (by omega)).trans (on_up_eq _ _ _)), (on_up_ne (by omega)).trans (on_up_eq _ _ _)⟩, tq, sr.snoc (wi := 4) (ca := 0) z.1 hid D0.2, mll.keep (fun a _ _ => (on_up_ne (by omega)).trans ((on_up_ne (by omega)).trans ((on_up_ne (by omega)).trans ((on_up_ne (by omega)).trans (on_up_ne (by omega))))))⟩
              show on_up _ _ _ (es k0) = some (Sum.inr (14, [.int (nI e.fr), .int e.fn, .int (oI e.on), .int tn, .int (bI e.wt), .ref (es k0 + 1), .int (nI (e.st ++ [((yv 8 * 256 + yv 9, yv 16, 4, 0) : aS)]).length), .ref (es k0 + 10), .ref (es k0 + 11), .ref (es k0 + 12), .ref (es k0 + 13)]) : va_E)
              rw [el]
              exact on_up_eq _ _ _
            have t1 : ∀ b, (b < es k0 ∨ es k0 + 14 ≤ b) → on_up (on_up (on_up (on_up (on_up g (es k0 + 10) (on_ai 0 4 (upd S e.st.length (nI (yv 8 * 256 + yv 9))))) (es k0 + 11) (on_ai 0 4 (upd V e.st.length (nI (yv 16))))) (es k0 + 12) (on_ai 0 4 (upd WW e.st.length 4))) (es k0 + 13) (on_ai 0 4 (upd C e.st.length 0))) (es k0) (.inr (14, [.int (nI e.fr), .int e.fn, .int (oI e.on), .int tn, .int (bI e.wt), .ref (es k0 + 1), .int (nI (e.st.length + 1)), .ref (es k0 + 10), .ref (es k0 + 11), .ref (es k0 + 12), .ref (es k0 + 13)])) b = g b := fun b hb => (on_up_ne (by omega)).trans ((on_up_ne (by omega)).trans ((on_up_ne (by omega)).trans ((on_up_ne (by omega)).trans (on_up_ne (by omega)))))
            show on_E G M_M_done 381 _ [] (on_up (on_up (on_up (on_up (on_up g (es k0 + 10) (on_ai 0 4 (upd S e.st.length (nI (yv 8 * 256 + yv 9))))) (es k0 + 11) (on_ai 0 4 (upd V e.st.length (nI (yv 16))))) (es k0 + 12) (on_ai 0 4 (upd WW e.st.length 4))) (es k0 + 13) (on_ai 0 4 (upd C e.st.length 0))) (es k0) (.inr (14, [.int (nI e.fr), .int e.fn, .int (oI e.on), .int tn, .int (bI e.wt), .ref (es k0 + 1), .int (nI (e.st.length + 1)), .ref (es k0 + 10), .ref (es k0 + 11), .ref (es k0 + 12), .ref (es k0 + 13)]))) sz _ _ _
            generalize on_up (on_up (on_up (on_up (on_up g (es k0 + 10) (on_ai 0 4 (upd S e.st.length (nI (yv 8 * 256 + yv 9))))) (es k0 + 11) (on_ai 0 4 (upd V e.st.length (nI (yv 16))))) (es k0 + 12) (on_ai 0 4 (upd WW e.st.length 4))) (es k0 + 13) (on_ai 0 4 (upd C e.st.length 0))) (es k0) (.inr (14, [.int (nI e.fr), .int e.fn, .int (oI e.on), .int tn, .int (bI e.wt), .ref (es k0 + 1), .int (nI (e.st.length + 1)), .ref (es k0 + 10), .ref (es k0 + 11), .ref (es k0 + 12), .ref (es k0 + 13)])) = g2 at E2 t1 ⊢
            obtain ⟨K2, f2⟩ := K1.ent (lk2 := lk) hk0 (W1.keep (fun a _ _ _ => t1 a (by omega))) (KL1.keep (t1 _ (by omega)) (t1 _ (by omega))) E2 (fun b _ c2 => t1 b c2)
            have o3 := K2.1.ob.1
            first | refine on_aload_n (pc' := 382) rfl rfl rfl rfl ?_ | refine on_aload_nQ (pc' := 382) rfl rfl rfl rfl ?_
            refine on_iload_n (pc' := 383) rfl rfl rfl rfl ?_
            first | refine on_aload_n (pc' := 384) rfl rfl rfl rfl ?_ | refine on_aload_nQ (pc' := 384) rfl rfl rfl rfl ?_
            refine on_iconst (pc' := 385) (v := 4) rfl rfl li_4 ?_
            refine on_iload (pc' := 387) rfl rfl rfl ?_
            refine on_iconst (pc' := 388) (v := 0) rfl rfl li_0 ?_
            first | refine on_aload_n (pc' := 389) rfl rfl rfl rfl ?_ | refine on_aload_nQ (pc' := 389) rfl rfl rfl rfl ?_
            first | apply on_get (pc' := 392) rfl rfl fl_M_124 | apply on_getN (pc' := 392) rfl rfl fl_M_124
            · repeat (first | assumption | exact on_up_eq _ _ _ | refine (on_up_ne (by omega)).trans ?_)
            · rfl
            refine on_callV (pc' := 395) (As := [.int (nI self), .ref (es k0), .int (nI 4), .int (nI (yv 8 * 256 + yv 9)), .int (nI 0), .ref (o + 41)]) (rest := []) (b := o) rfl rfl cw_M_done_374 (o3) rfl rfl (Nat.le_of_ble_eq_true rfl) (Nat.zero_le _) (Nat.zero_le _) (c_M_back (d := fun j => yv (16 + j)) (n := 0) (e := (e.fr, e.fn, e.on, e.wt, e.fw, e.bw, e.st ++ [(yv 8 * 256 + yv 9, yv 16, 4, 0)])) K2.1 K2.2.1 E2 (by omega) (by omega) hf (show e.bw.ms.length + 135 < 2 ^ 28 by omega) (show e.bw.pos + 135 < 2 ^ 36 by omega) (by decide) hid (Nat.zero_le _) K2.1.da (Or.inl rfl) ⟨Nat.zero_le _, by decide⟩ (fun f _ i hi => absurd hi (Nat.not_lt_zero i))) ?_
            rintro v h2 sz ⟨rfl, rfl, W2, L2, E3, t2⟩
            obtain ⟨K4, f4⟩ := K2.ent hk0 W2 L2 E3 (fun b c1 c2 => t2 b (by omega) (by omega) (by omega) (by omega) (by omega) (by omega) (by omega) c2)
            refine on_goto (tgt := 543) rfl rfl ?_
            refine fin _ h2 ?_
            rw [rd]
            have ee : ∀ v w, r_en (r_en r (fu r.en (ord k0) w)) (fu (r_en r (fu r.en (ord k0) w)).en (ord k0) v) = r_en r (fu r.en (ord k0) v) := fun v w => by
              show r_en r (fu (fu r.en (ord k0) w) (ord k0) v) = _
              rw [fu_fu]
            rw [ee] at K4
            exact ⟨⟨n, ord, es, K4⟩, f2.trans f4⟩
          refine on_iload (pc' := 284) rfl rfl rfl ?_
          refine on_iconst (pc' := 285) (v := (-1)) rfl rfl li_m1 ?_
          refine on_icmp_eq (pc' := 288) (tgt := 297) rfl rfl rfl (fun cq => ?_) (fun cq => ?_)
          rotate_left
          · exact absurd rfl cq
          · clear cq
            first | refine on_aload_n (pc' := 298) rfl rfl rfl rfl ?_ | refine on_aload_nQ (pc' := 298) rfl rfl rfl rfl ?_
            first | apply on_get (pc' := 301) rfl rfl fl_M_381 | apply on_getN (pc' := 301) rfl rfl fl_M_381
            · repeat (first | assumption | exact on_up_eq _ _ _ | refine (on_up_ne (by omega)).trans ?_)
            · rfl
            refine on_iconst (pc' := 302) (v := 4) rfl rfl li_4 ?_
            refine on_icmp_ge (pc' := 305) (tgt := 398) rfl rfl rfl (fun cq => ?_) (fun cq => ?_)
            · have l4n : ¬ e.st.length < 4 := fun z => absurd cq (nI_ge (b := 4) z (by decide))
              exact no _ rfl rfl rfl rfl (fun z => l4n z.1)
            · have l4y : e.st.length < 4 := by
                rcases Nat.lt_or_ge e.st.length 4 with z | z
                · exact z
                · exact absurd (nI_le (a := 4) z (by omega)) cq
              clear cq
              first | refine on_aload_n (pc' := 306) rfl rfl rfl rfl ?_ | refine on_aload_nQ (pc' := 306) rfl rfl rfl rfl ?_
              first | apply on_get (pc' := 309) rfl rfl fl_M_124 | apply on_getN (pc' := 309) rfl rfl fl_M_124
              · repeat (first | assumption | exact on_up_eq _ _ _ | refine (on_up_ne (by omega)).trans ?_)
              · rfl
              refine on_iconst (pc' := 310) (v := 0) rfl rfl li_0 ?_
              apply on_ialoadK (pc' := 311) (t := 0) (k := 0) rfl rfl
              · repeat (first | assumption | exact on_up_eq _ _ _ | refine (on_up_ne (by omega)).trans ?_)
              · rfl
              · first | assumption | exact on_lit _ | rfl
              · first | assumption | omega | decide
              rw [D0.1]
              refine on_iconst (pc' := 312) (v := 1) rfl rfl li_1 ?_
              refine on_icmp_eq (pc' := 315) (tgt := 325) rfl rfl rfl (fun cq => ?_) (fun cq => ?_)
              · have y1 : yv 16 = 1 := (nI_eq (a := yv 16) (b := 1) (by omega) (by decide)).mp cq
                exact yes _ rfl rfl rfl rfl ⟨l4y, Or.inl y1⟩
              · have y1 : ¬ yv 16 = 1 := fun z => cq (by rw [z]; rfl)
                clear cq
                first | refine on_aload_n (pc' := 316) rfl rfl rfl rfl ?_ | refine on_aload_nQ (pc' := 316) rfl rfl rfl rfl ?_
                first | apply on_get (pc' := 319) rfl rfl fl_M_124 | apply on_getN (pc' := 319) rfl rfl fl_M_124
                · repeat (first | assumption | exact on_up_eq _ _ _ | refine (on_up_ne (by omega)).trans ?_)
                · rfl
                refine on_iconst (pc' := 320) (v := 0) rfl rfl li_0 ?_
                apply on_ialoadK (pc' := 321) (t := 0) (k := 0) rfl rfl
                · repeat (first | assumption | exact on_up_eq _ _ _ | refine (on_up_ne (by omega)).trans ?_)
                · rfl
                · first | assumption | exact on_lit _ | rfl
                · first | assumption | omega | decide
                rw [D0.1]
                refine on_iconst (pc' := 322) (v := 2) rfl rfl li_2 ?_
                refine on_icmp_ne (pc' := 325) (tgt := 398) rfl rfl rfl (fun cq => ?_) (fun cq => ?_)
                · have y2 : ¬ yv 16 = 2 := fun z => cq (by rw [z]; rfl)
                  exact no _ rfl rfl rfl rfl (fun z => z.2.elim y1 y2)
                · have y2 : yv 16 = 2 := (nI_eq (a := yv 16) (b := 2) (by omega) (by decide)).mp cq
                  exact yes _ rfl rfl rfl rfl ⟨l4y, Or.inr y2⟩
    · have rd : r_do nr self r (ord k0) e yv = match s_at e.st (yv 8 * 256 + yv 9) with | some k => r_ca r (ord k0) e k (yv 14 * 256 + yv 15) (fun j => yv (16 + j)) | none => (r_en r (fu r.en (ord k0) (some e)), []) := by
        unfold r_do
        dsimp only
        rw [if_neg (by omega), if_neg (by omega), if_pos y5]
        rfl
      cases sa : s_at e.st (yv 8 * 256 + yv 9) with
      | none =>
        rw [sa] at rd
        refine on_iload (pc' := 417) rfl rfl rfl ?_
        refine on_iconst (pc' := 418) (v := (-1)) rfl rfl li_m1 ?_
        refine on_icmp_eq (pc' := 421) (tgt := 543) rfl rfl rfl (fun cq => ?_) (fun cq => ?_)
        · exact same _ rd
        · exact absurd rfl cq
      | some k =>
        rw [sa] at rd
        have kl := s_at_lt sa
        refine on_iload (pc' := 417) rfl rfl rfl ?_
        refine on_iconst (pc' := 418) (v := (-1)) rfl rfl li_m1 ?_
        refine on_icmp_eq (pc' := 421) (tgt := 543) rfl rfl rfl (fun cq => ?_) (fun cq => ?_)
        · exact absurd cq (kIn k (by omega))
        · clear cq
          first | refine on_aload_n (pc' := 422) rfl rfl rfl rfl ?_ | refine on_aload_nQ (pc' := 422) rfl rfl rfl rfl ?_
          refine on_iload_n (pc' := 423) rfl rfl rfl rfl ?_
          first | refine on_aload_n (pc' := 424) rfl rfl rfl rfl ?_ | refine on_aload_nQ (pc' := 424) rfl rfl rfl rfl ?_
          refine on_iload (pc' := 426) rfl rfl rfl ?_
          refine on_iload (pc' := 428) rfl rfl rfl ?_
          refine on_callV (pc' := 431) (As := [.int (nI self), .ref (es k0), .int (nI k), .int (nI (yv 14 * 256 + yv 15))]) (rest := []) (b := o) rfl rfl cw_M_done_450 (o2) rfl rfl (Nat.le_of_ble_eq_true rfl) (Nat.zero_le _) (Nat.zero_le _) (c_M_came (d := fun j => yv (16 + j)) K1 hk0 he kl hn hda hf hL hpos) ?_
          rintro v h2 sz ⟨rfl, rfl, Y⟩
          have rd : r_do nr self r (ord k0) e yv = r_ca r (ord k0) e k (yv 14 * 256 + yv 15) (fun j => yv (16 + j)) := rd
          rw [← rd] at Y
          refine on_goto (tgt := 543) rfl rfl ?_
          exact fin _ h2 Y
    · have rd : r_do nr self r (ord k0) e yv = match s_at e.st (yv 8 * 256 + yv 9) with | some k => (r_en r (fu r.en (ord k0) (some (e.fr, e.fn, e.on, e.wt, e.fw, e.bw, s_rm e.st k))), []) | none => (r_en r (fu r.en (ord k0) (some e)), []) := by
        unfold r_do
        dsimp only
        rw [if_neg (by omega), if_neg (by omega), if_neg (by omega), if_pos y5]
        rfl
      cases sa : s_at e.st (yv 8 * 256 + yv 9) with
      | none =>
        rw [sa] at rd
        refine on_iload (pc' := 436) rfl rfl rfl ?_
        refine on_iconst (pc' := 437) (v := (-1)) rfl rfl li_m1 ?_
        refine on_icmp_eq (pc' := 440) (tgt := 543) rfl rfl rfl (fun cq => ?_) (fun cq => ?_)
        · exact same _ rd
        · exact absurd rfl cq
      | some k =>
        rw [sa] at rd
        have rd : r_do nr self r (ord k0) e yv = (r_en r (fu r.en (ord k0) (some (e.fr, e.fn, e.on, e.wt, e.fw, e.bw, s_rm e.st k))), []) := rd
        have kl := s_at_lt sa
        have i4 : k < 4 ∧ 4 < 2 ^ 31 := by omega
        have j4 : e.st.length - 1 < 4 ∧ 4 < 2 ^ 31 := by omega
        refine on_iload (pc' := 436) rfl rfl rfl ?_
        refine on_iconst (pc' := 437) (v := (-1)) rfl rfl li_m1 ?_
        refine on_icmp_eq (pc' := 440) (tgt := 543) rfl rfl rfl (fun cq => ?_) (fun cq => ?_)
        · exact absurd cq (kIn k (by omega))
        · clear cq
          first | refine on_aload_n (pc' := 441) rfl rfl rfl rfl ?_ | refine on_aload_nQ (pc' := 441) rfl rfl rfl rfl ?_
          refine on_dup (pc' := 442) rfl rfl rfl ?_
          first | apply on_get (pc' := 445) rfl rfl fl_M_381 | apply on_getN (pc' := 445) rfl rfl fl_M_381
          · repeat (first | assumption | exact on_up_eq _ _ _ | refine (on_up_ne (by omega)).trans ?_)
          · rfl
          refine on_iconst (pc' := 446) (v := 1) rfl rfl li_1 ?_
          refine on_isub (pc' := 447) rfl rfl ?_
          rw [show nI e.st.length - 1 = nI (e.st.length - 1) from pk_sub (a := e.st.length) (b := 1) (by omega)]
          first | apply on_put (pc' := 450) rfl rfl fp_M_381 | apply on_putN (pc' := 450) rfl rfl fp_M_381
          · repeat (first | assumption | exact on_up_eq _ _ _ | refine (on_up_ne (by omega)).trans ?_)
          · first | rfl | assumption
          · first | rfl | assumption
          · exact Nat.le_of_ble_eq_true rfl
          first | refine on_aload_n (pc' := 451) rfl rfl rfl rfl ?_ | refine on_aload_nQ (pc' := 451) rfl rfl rfl rfl ?_
          first | apply on_get (pc' := 454) rfl rfl fl_M_428 | apply on_getN (pc' := 454) rfl rfl fl_M_428
          · repeat (first | assumption | exact on_up_eq _ _ _ | refine (on_up_ne (by omega)).trans ?_)
          · rfl
          refine on_iload (pc' := 456) rfl rfl rfl ?_
          first | refine on_aload_n (pc' := 457) rfl rfl rfl rfl ?_ | refine on_aload_nQ (pc' := 457) rfl rfl rfl rfl ?_
          first | apply on_get (pc' := 460) rfl rfl fl_M_428 | apply on_getN (pc' := 460) rfl rfl fl_M_428
          · repeat (first | assumption | exact on_up_eq _ _ _ | refine (on_up_ne (by omega)).trans ?_)
          · rfl
          first | refine on_aload_n (pc' := 461) rfl rfl rfl rfl ?_ | refine on_aload_nQ (pc' := 461) rfl rfl rfl rfl ?_
          first | apply on_get (pc' := 464) rfl rfl fl_M_381 | apply on_getN (pc' := 464) rfl rfl fl_M_381
          · repeat (first | assumption | exact on_up_eq _ _ _ | refine (on_up_ne (by omega)).trans ?_)
          · rfl
          apply on_ialoadK (pc' := 465) (t := 0) rfl rfl
          · repeat (first | assumption | exact on_up_eq _ _ _ | refine (on_up_ne (by omega)).trans ?_)
          · rfl
          · first | assumption | exact on_lit _ | rfl
          · first | assumption | omega | decide
          apply on_iastoreK (pc' := 466) (t := 0) rfl rfl
          · repeat (first | assumption | exact on_up_eq _ _ _ | refine (on_up_ne (by omega)).trans ?_)
          · rfl
          · first | assumption | exact on_lit _ | rfl
          · first | assumption | omega | decide
          first | refine on_aload_n (pc' := 467) rfl rfl rfl rfl ?_ | refine on_aload_nQ (pc' := 467) rfl rfl rfl rfl ?_
          first | apply on_get (pc' := 470) rfl rfl fl_M_441 | apply on_getN (pc' := 470) rfl rfl fl_M_441
          · repeat (first | assumption | exact on_up_eq _ _ _ | refine (on_up_ne (by omega)).trans ?_)
          · rfl
          refine on_iload (pc' := 472) rfl rfl rfl ?_
          first | refine on_aload_n (pc' := 473) rfl rfl rfl rfl ?_ | refine on_aload_nQ (pc' := 473) rfl rfl rfl rfl ?_
          first | apply on_get (pc' := 476) rfl rfl fl_M_441 | apply on_getN (pc' := 476) rfl rfl fl_M_441
          · repeat (first | assumption | exact on_up_eq _ _ _ | refine (on_up_ne (by omega)).trans ?_)
          · rfl
          first | refine on_aload_n (pc' := 477) rfl rfl rfl rfl ?_ | refine on_aload_nQ (pc' := 477) rfl rfl rfl rfl ?_
          first | apply on_get (pc' := 480) rfl rfl fl_M_381 | apply on_getN (pc' := 480) rfl rfl fl_M_381
          · repeat (first | assumption | exact on_up_eq _ _ _ | refine (on_up_ne (by omega)).trans ?_)
          · rfl
          apply on_ialoadK (pc' := 481) (t := 0) rfl rfl
          · repeat (first | assumption | exact on_up_eq _ _ _ | refine (on_up_ne (by omega)).trans ?_)
          · rfl
          · first | assumption | exact on_lit _ | rfl
          · first | assumption | omega | decide
          apply on_iastoreK (pc' := 482) (t := 0) rfl rfl
          · repeat (first | assumption | exact on_up_eq _ _ _ | refine (on_up_ne (by omega)).trans ?_)
          · rfl
          · first | assumption | exact on_lit _ | rfl
          · first | assumption | omega | decide
          first | refine on_aload_n (pc' := 483) rfl rfl rfl rfl ?_ | refine on_aload_nQ (pc' := 483) rfl rfl rfl rfl ?_
          first | apply on_get (pc' := 486) rfl rfl fl_M_444 | apply on_getN (pc' := 486) rfl rfl fl_M_444
          · repeat (first | assumption | exact on_up_eq _ _ _ | refine (on_up_ne (by omega)).trans ?_)
          · rfl
          refine on_iload (pc' := 488) rfl rfl rfl ?_
          first | refine on_aload_n (pc' := 489) rfl rfl rfl rfl ?_ | refine on_aload_nQ (pc' := 489) rfl rfl rfl rfl ?_
          first | apply on_get (pc' := 492) rfl rfl fl_M_444 | apply on_getN (pc' := 492) rfl rfl fl_M_444
          · repeat (first | assumption | exact on_up_eq _ _ _ | refine (on_up_ne (by omega)).trans ?_)
          · rfl
          first | refine on_aload_n (pc' := 493) rfl rfl rfl rfl ?_ | refine on_aload_nQ (pc' := 493) rfl rfl rfl rfl ?_
          first | apply on_get (pc' := 496) rfl rfl fl_M_381 | apply on_getN (pc' := 496) rfl rfl fl_M_381
          · repeat (first | assumption | exact on_up_eq _ _ _ | refine (on_up_ne (by omega)).trans ?_)
          · rfl
          apply on_ialoadK (pc' := 497) (t := 0) rfl rfl
          · repeat (first | assumption | exact on_up_eq _ _ _ | refine (on_up_ne (by omega)).trans ?_)
          · rfl
          · first | assumption | exact on_lit _ | rfl
          · first | assumption | omega | decide
          apply on_iastoreK (pc' := 498) (t := 0) rfl rfl
          · repeat (first | assumption | exact on_up_eq _ _ _ | refine (on_up_ne (by omega)).trans ?_)
          · rfl
          · first | assumption | exact on_lit _ | rfl
          · first | assumption | omega | decide
          first | refine on_aload_n (pc' := 499) rfl rfl rfl rfl ?_ | refine on_aload_nQ (pc' := 499) rfl rfl rfl rfl ?_
          first | apply on_get (pc' := 502) rfl rfl fl_M_447 | apply on_getN (pc' := 502) rfl rfl fl_M_447
          · repeat (first | assumption | exact on_up_eq _ _ _ | refine (on_up_ne (by omega)).trans ?_)
          · rfl
          refine on_iload (pc' := 504) rfl rfl rfl ?_
          first | refine on_aload_n (pc' := 505) rfl rfl rfl rfl ?_ | refine on_aload_nQ (pc' := 505) rfl rfl rfl rfl ?_
          first | apply on_get (pc' := 508) rfl rfl fl_M_447 | apply on_getN (pc' := 508) rfl rfl fl_M_447
          · repeat (first | assumption | exact on_up_eq _ _ _ | refine (on_up_ne (by omega)).trans ?_)
          · rfl
          first | refine on_aload_n (pc' := 509) rfl rfl rfl rfl ?_ | refine on_aload_nQ (pc' := 509) rfl rfl rfl rfl ?_
          first | apply on_get (pc' := 512) rfl rfl fl_M_381 | apply on_getN (pc' := 512) rfl rfl fl_M_381
          · repeat (first | assumption | exact on_up_eq _ _ _ | refine (on_up_ne (by omega)).trans ?_)
          · rfl
          apply on_ialoadK (pc' := 513) (t := 0) rfl rfl
          · repeat (first | assumption | exact on_up_eq _ _ _ | refine (on_up_ne (by omega)).trans ?_)
          · rfl
          · first | assumption | exact on_lit _ | rfl
          · first | assumption | omega | decide
          apply on_iastoreK (pc' := 514) (t := 0) rfl rfl
          · repeat (first | assumption | exact on_up_eq _ _ _ | refine (on_up_ne (by omega)).trans ?_)
          · rfl
          · first | assumption | exact on_lit _ | rfl
          · first | assumption | omega | decide
          refine on_goto (tgt := 543) rfl rfl ?_
          refine fin _ _ ?_
          rw [rd]
          obtain ⟨K2, f2⟩ := K1.ent (lk2 := lk) (e2 := (e.fr, e.fn, e.on, e.wt, e.fw, e.bw, s_rm e.st k)) (h1 := on_up (on_up (on_up (on_up (on_up g (es k0) (.inr (14, [.int (nI e.fr), .int e.fn, .int (oI e.on), .int tn, .int (bI e.wt), .ref (es k0 + 1), .int (nI (e.st.length - 1)), .ref (es k0 + 10), .ref (es k0 + 11), .ref (es k0 + 12), .ref (es k0 + 13)]))) (es k0 + 10) (on_ai 0 4 (upd S k (S (e.st.length - 1))))) (es k0 + 11) (on_ai 0 4 (upd V k (V (e.st.length - 1))))) (es k0 + 12) (on_ai 0 4 (upd WW k (WW (e.st.length - 1))))) (es k0 + 13) (on_ai 0 4 (upd C k (C (e.st.length - 1))))) hk0 (W1.keep (fun a _ _ _ => (on_up_ne (by omega)).trans ((on_up_ne (by omega)).trans ((on_up_ne (by omega)).trans ((on_up_ne (by omega)).trans (on_up_ne (by omega))))))) (KL1.keep ((on_up_ne (by omega)).trans ((on_up_ne (by omega)).trans ((on_up_ne (by omega)).trans ((on_up_ne (by omega)).trans (on_up_ne (by omega)))))) ((on_up_ne (by omega)).trans ((on_up_ne (by omega)).trans ((on_up_ne (by omega)).trans ((on_up_ne (by omega)).trans (on_up_ne (by omega))))))) ⟨tn, _, _, _, _, ⟨by rw [s_rm_len]; exact (on_up_ne (by omega)).trans ((on_up_ne (by omega)).trans ((on_up_ne (by omega)).trans ((on_up_ne (by omega)).trans (on_up_eq _ _ _)))), (on_up_ne (by omega)).trans ((on_up_ne (by omega)).trans ((on_up_ne (by omega)).trans (on_up_eq _ _ _))), (on_up_ne (by omega)).trans ((on_up_ne (by omega)).trans (on_up_eq _ _ _)), (on_up_ne (by omega)).trans (on_up_eq _ _ _), on_up_eq _ _ _⟩, tq, sr.rem kl, mll.keep (fun a _ _ => (on_up_ne (by omega)).trans ((on_up_ne (by omega)).trans ((on_up_ne (by omega)).trans ((on_up_ne (by omega)).trans (on_up_ne (by omega))))))⟩ (fun b _ c2 => (on_up_ne (by omega)).trans ((on_up_ne (by omega)).trans ((on_up_ne (by omega)).trans ((on_up_ne (by omega)).trans (on_up_ne (by omega))))))
          exact ⟨⟨n, ord, es, K2⟩, f2⟩
    · have rd : r_do nr self r (ord k0) e yv = match s_at e.st (yv 8 * 256 + yv 9) with | some k => (r_en r (fu r.en (ord k0) (some (e.fr, e.fn, e.on, e.wt, e.fw, e.bw, e.st.set k ((e.st.getD k s0).id, (e.st.getD k s0).so, (e.st.getD k s0).wi + 2, (e.st.getD k s0).ca)))), []) | none => (r_en r (fu r.en (ord k0) (some e)), []) := by
        unfold r_do
        dsimp only
        rw [if_neg (by omega), if_neg (by omega), if_neg (by omega), if_neg (by omega), if_pos y5]
        rfl
      cases sa : s_at e.st (yv 8 * 256 + yv 9) with
      | none =>
        rw [sa] at rd
        refine on_iload (pc' := 519) rfl rfl rfl ?_
        refine on_iconst (pc' := 520) (v := (-1)) rfl rfl li_m1 ?_
        refine on_icmp_eq (pc' := 523) (tgt := 543) rfl rfl rfl (fun cq => ?_) (fun cq => ?_)
        · exact same _ rd
        · exact absurd rfl cq
      | some k =>
        rw [sa] at rd
        have rd : r_do nr self r (ord k0) e yv = (r_en r (fu r.en (ord k0) (some (e.fr, e.fn, e.on, e.wt, e.fw, e.bw, e.st.set k ((e.st.getD k s0).id, (e.st.getD k s0).so, (e.st.getD k s0).wi + 2, (e.st.getD k s0).ca)))), []) := rd
        have kl := s_at_lt sa
        have i4 : k < 4 ∧ 4 < 2 ^ 31 := by omega
        have s3 := (sr.2 k kl).2.2.1
        refine on_iload (pc' := 519) rfl rfl rfl ?_
        refine on_iconst (pc' := 520) (v := (-1)) rfl rfl li_m1 ?_
        refine on_icmp_eq (pc' := 523) (tgt := 543) rfl rfl rfl (fun cq => ?_) (fun cq => ?_)
        · exact absurd cq (kIn k (by omega))
        · clear cq
          first | refine on_aload_n (pc' := 524) rfl rfl rfl rfl ?_ | refine on_aload_nQ (pc' := 524) rfl rfl rfl rfl ?_
          first | apply on_get (pc' := 527) rfl rfl fl_M_444 | apply on_getN (pc' := 527) rfl rfl fl_M_444
          · repeat (first | assumption | exact on_up_eq _ _ _ | refine (on_up_ne (by omega)).trans ?_)
          · rfl
          refine on_iload (pc' := 529) rfl rfl rfl ?_
          first | refine on_dup2_11 (pc' := 530) rfl rfl rfl rfl ?_ | refine on_dup2_2 (pc' := 530) rfl rfl rfl ?_
          apply on_ialoadK (pc' := 531) (t := 0) rfl rfl
          · repeat (first | assumption | exact on_up_eq _ _ _ | refine (on_up_ne (by omega)).trans ?_)
          · rfl
          · first | assumption | exact on_lit _ | rfl
          · first | assumption | omega | decide
          rw [s3]
          refine on_iconst (pc' := 532) (v := 2) rfl rfl li_2 ?_
          refine on_iadd (pc' := 533) rfl rfl ?_
          apply on_iastoreK (pc' := 534) (t := 0) rfl rfl
          · repeat (first | assumption | exact on_up_eq _ _ _ | refine (on_up_ne (by omega)).trans ?_)
          · rfl
          · first | assumption | exact on_lit _ | rfl
          · first | assumption | omega | decide
          refine on_goto (tgt := 543) rfl rfl ?_
          refine fin _ _ ?_
          rw [rd]
          have E2 : me_S (es k0) (e.fr, e.fn, e.on, e.wt, e.fw, e.bw, e.st.set k ((e.st.getD k s0).id, (e.st.getD k s0).so, (e.st.getD k s0).wi + 2, (e.st.getD k s0).ca)) (on_up g (es k0 + 12) (on_ai 0 4 (upd WW k ((e.st.getD k s0).wi + 2)))) := E1.row (a := es k0 + 12) (f := upd WW k ((e.st.getD k s0).wi + 2)) List.length_set (Or.inl ⟨rfl, fun S' V' W' C' sr' w' => by
            cases b3.symm.trans w'
            exact sr'.set (W2 := upd WW k ((e.st.getD k s0).wi + 2)) (C2 := C') (wi := (e.st.getD k s0).wi + 2) (ca := (e.st.getD k s0).ca) kl pk_us (fun i hi => pk_un hi) (sr'.2 k kl).2.2.2.1 (fun i _ => rfl)⟩) rfl
          obtain ⟨K2, f2⟩ := K1.ent (lk2 := lk) hk0 (W1.keep (fun a _ _ _ => on_up_ne (by omega))) (KL1.keep (on_up_ne (by omega)) (on_up_ne (by omega))) E2 (fun b _ c2 => on_up_ne (by omega))
          exact ⟨⟨n, ord, es, K2⟩, f2⟩
    · refine out _ rfl rfl rfl ?_
      unfold r_do
      dsimp only
      rw [if_neg n14, if_neg n1, if_neg n2, if_neg n3, if_neg n5]
end MDO
