/-! the reference: data comes to a stream of an entry -/
theorem ke_step {ke : List Nat} {d : Nat → Nat} {k : Nat} (h : ke.length + k < 2000) : ke_a ke d (k + 1) = ke_a ke d k ++ [d k] := by
  unfold ke_a
  rw [List.take_of_length_le (by rw [sp_sl_len]; omega), List.take_of_length_le (by rw [sp_sl_len]; omega), sp_sl_s, Nat.zero_add, List.append_assoc]
theorem ke_full {ke : List Nat} {d : Nat → Nat} {k n : Nat} (h : 2000 ≤ ke.length + k) (hk : k ≤ n) : ke_a ke d n = ke_a ke d k := by
  unfold ke_a sp_sl
  rw [← List.map_take, ← List.map_take, List.take_range, List.take_range, Nat.min_eq_left (by omega), Nat.min_eq_left (by omega)]
theorem ke_zero {ke : List Nat} {d : Nat → Nat} : ke_a ke d 0 = ke := by
  unfold ke_a
  rw [show sp_sl d 0 0 = [] from rfl, List.take_nil, List.append_nil]
/-- behind the SENDME: the bytes are kept, or sent back -/
def cm_2 (r : aR) (s : Nat) (e : aE) (k c : Nat) (d : Nat → Nat) : aR × aO :=
  if (e.st.getD k s0).so = 2 then ((r.se, r.dr, r.we, r.nx, fu r.en s (some e), ke_a r.ke d c), [])
  else if 0 < (e.st.getD k s0).wi then (r_en r (fu r.en s (some (e_bk (e.fr, e.fn, e.on, e.wt, e.fw, e.bw, e.st.set k ((e.st.getD k s0).id, (e.st.getD k s0).so, (e.st.getD k s0).wi - 1, (e.st.getD k s0).ca)) 2 (e.st.getD k s0).id c d).1)), [(e_bk (e.fr, e.fn, e.on, e.wt, e.fw, e.bw, e.st.set k ((e.st.getD k s0).id, (e.st.getD k s0).so, (e.st.getD k s0).wi - 1, (e.st.getD k s0).ca)) 2 (e.st.getD k s0).id c d).2])
  else (r_en r (fu r.en s (some e)), [])
/-- the entry behind its counter, and behind the SENDME -/
def cm_1 (e : aE) (k : Nat) : aE := (e.fr, e.fn, e.on, e.wt, e.fw, e.bw, e.st.set k ((e.st.getD k s0).id, (e.st.getD k s0).so, (e.st.getD k s0).wi, (e.st.getD k s0).ca + 1))
theorem r_ca_e2 {r : aR} {s k c : Nat} {e : aE} {d : Nat → Nat} (hk : k < e.st.length) : r_ca r s e k c d = if i_rem ((e.st.getD k s0).ca + 1) 2 = 0 then ((cm_2 r s (e_bk (cm_1 e k) 5 (e.st.getD k s0).id 0 d).1 k c d).1, (e_bk (cm_1 e k) 5 (e.st.getD k s0).id 0 d).2 :: (cm_2 r s (e_bk (cm_1 e k) 5 (e.st.getD k s0).id 0 d).1 k c d).2) else cm_2 r s (cm_1 e k) k c d := by
  have g : (cm_1 e k).st.getD k s0 = ((e.st.getD k s0).id, (e.st.getD k s0).so, (e.st.getD k s0).wi, (e.st.getD k s0).ca + 1) := by
    show (e.st.set k _).getD k s0 = _
    rw [getD_set hk, if_pos rfl]
  have g2 : ∀ a b c d, (e_bk (cm_1 e k) a b c d).1.st = (cm_1 e k).st := fun _ _ _ _ => rfl
  unfold r_ca cm_2
  dsimp only
  by_cases z : i_rem ((e.st.getD k s0).ca + 1) 2 = 0
  · simp only [if_pos z, g2, g]
    split
    · rfl
    · split <;> rfl
  · simp only [if_neg z, g]
    split
    · rfl
    · split <;> rfl
section MCA
variable {G : on_G} {o R self n k0 k c sz bc bs : Nat} {x3 : Int32 × Int32 × Int32} {F : Nat → Option Nat} {lk lk2 : Nat → List aB} {e e2 : aE} {r : aR} {ord es : Nat → Nat} {h h1 : on_H} {Q : Option Value → on_H → Nat → Prop} {d : Nat → Nat}
/-- entry k0 has changed, and perhaps the rows of the reference -/
theorem mR.ent (K : mR o R self x3 F lk r n ord es h) (hk : k0 < n) (W1 : mw o x3 h1) (L1 : mk_L o lk2 h1) (E2 : me_S (es k0) e2 h1) (t : ∀ b, (b < o ∨ o + 42 ≤ b ∨ o < b ∧ b < o + 6) → (b < es k0 ∨ es k0 + 14 ≤ b) → h1 b = h b) : mR o R self x3 F lk2 (r_en r (fu r.en (ord k0) (some e2))) n ord es h1 ∧ mf_R o R h h1 := by
  obtain ⟨W, KL, K3, I, k5, k6, k7, k8⟩ := K
  obtain ⟨i1, i2, i3, i4, i5, i6⟩ := id I
  obtain ⟨a1, a2, a3, ⟨F4, a4, a4'⟩, ⟨a5, a6, a7⟩, a8⟩ := K3
  have at0 := I.at (show k0 < 12 by omega)
  have tR : ∀ b, R ≤ b → b < R + 6 → h1 b = h b := fun b c1 c2 => t b (by omega) (by omega)
  refine ⟨⟨W1, L1, ⟨(tR _ (by omega) (by omega)).trans a1, a2.keep (tR _ (by omega) (by omega)), a3.keep (tR _ (by omega) (by omega)), ⟨F4, (tR _ (by omega) (by omega)).trans a4, a4'⟩, ⟨(tR _ (by omega) (by omega)).trans a5, fun j hj => ?_, fun j hj hj2 => ?_⟩, a8.keep (tR _ (by omega) (by omega))⟩, ⟨i1, i2, i3, i4, fun s e he => ?_, i6⟩, (t _ (by omega) (by omega)).trans k5, k6, k7, k8⟩, fun b c1 c2 => t b (by omega) (by omega)⟩
  · by_cases z : j = k0
    · subst z
      exact ⟨e2, fu_s, E2⟩
    · obtain ⟨e, e1, e3⟩ := a6 j hj
      have atj := I.at (show j < 12 by omega)
      have ap := I.apart (show j < 12 by omega) (show k0 < 12 by omega) z
      exact ⟨e, (fu_n (fun w => z (i4 j k0 hj hk w))).trans e1, e3.keep (fun b c1 c2 => t b (by omega) (by omega))⟩
  · have atj := I.at hj2
    have ap := I.apart hj2 (show k0 < 12 by omega) (by omega)
    exact (a7 j hj hj2).keep (fun b c1 c2 => t b (by omega) (by omega))
  · by_cases z : s = ord k0
    · exact ⟨k0, hk, z.symm⟩
    · have he : fu r.en (ord k0) (some e2) s = some e := he
      rw [fu_n z] at he
      exact i5 s e he
/-- a row of an entry -/
theorem me_S.row {y : Nat} {st2 : List aS} {a : Nat} {f : Nat → Int32} (E : me_S y e h) (hl : st2.length = e.st.length) (ha : a = y + 12 ∧ (∀ S V W C, st_r e.st S V W C → h (y + 12) = some (on_ai 0 4 W) → st_r st2 S V f C) ∨ a = y + 13 ∧ (∀ S V W C, st_r e.st S V W C → h (y + 13) = some (on_ai 0 4 C) → st_r st2 S V W f)) (h2 : h1 = on_up h a (on_ai 0 4 f)) : me_S y (e.fr, e.fn, e.on, e.wt, e.fw, e.bw, st2) h1 := by
  subst h2
  obtain ⟨tn, S, V, W, C, ⟨b0, b1, b2, b3, b4⟩, tq, sr, ml⟩ := E
  rw [← hl] at b0
  have tl : ml_S (y + 1) e.fw e.bw (on_up h a (on_ai 0 4 f)) := ml.keep (fun b c1 c2 => on_up_ne (by omega))
  rcases ha with ⟨rfl, ha⟩ | ⟨rfl, ha⟩
  · exact ⟨tn, S, V, f, C, ⟨(on_up_ne (by omega)).trans b0, (on_up_ne (by omega)).trans b1, (on_up_ne (by omega)).trans b2, on_up_eq _ _ _, (on_up_ne (by omega)).trans b4⟩, tq, ha S V W C sr b3, tl⟩
  · exact ⟨tn, S, V, W, f, ⟨(on_up_ne (by omega)).trans b0, (on_up_ne (by omega)).trans b1, (on_up_ne (by omega)).trans b2, (on_up_ne (by omega)).trans b3, on_up_eq _ _ _⟩, tq, ha S V W C sr b4, tl⟩
/-- bytes kept: one more -/
theorem mR.kep {j : Nat} {v : Int32} {b : Nat} (K : mR o R self x3 F lk r n ord es h) (hj : j = r.ke.length) (h2 : j < 2000) (hb : b < 256) (hv : v = nI b) (KF : ∃ f, h (R + 5) = some (on_ai 0 2000 f) ∧ h1 = on_up (on_up h (R + 5) (on_ai 0 2000 (upd f j v))) R (.inr (15, [.long r.se, .int r.dr, .ref (R + 1), .ref (R + 2), .ref (R + 3), .int (nI r.we), .int (nI r.nx), .ref (R + 4), .int (nI n), .ref (R + 5), .int (nI (j + 1))]))) : mR o R self x3 F lk (r.se, r.dr, r.we, r.nx, r.en, r.ke ++ [b]) n ord es h1 ∧ mf_R o R h h1 := by
  obtain ⟨f, f1, rfl⟩ := KF
  obtain ⟨W, KL, K3, I, k5, k6, k7, k8⟩ := K
  obtain ⟨a1, a2, a3, ⟨F4, a4, a4'⟩, a5, ⟨⟨g, g1, g2⟩, g3⟩⟩ := K3
  cases f1.symm.trans g1
  subst hj
  have t : ∀ a, a ≠ R → a ≠ R + 5 → on_up (on_up h (R + 5) (on_ai 0 2000 (upd f r.ke.length v))) R (.inr (15, [.long r.se, .int r.dr, .ref (R + 1), .ref (R + 2), .ref (R + 3), .int (nI r.we), .int (nI r.nx), .ref (R + 4), .int (nI n), .ref (R + 5), .int (nI (r.ke.length + 1))])) a = h a := fun a c1 c2 => (on_up_ne c1).trans (on_up_ne c2)
  have lk' : (r.ke ++ [b]).length = r.ke.length + 1 := List.length_append
  refine ⟨⟨W.keep (fun a _ _ _ => t a (by omega) (by omega)), KL.keep (t _ (by omega) (by omega)) (t _ (by omega) (by omega)), ⟨?_, a2.keep (t _ (by omega) (by omega)), a3.keep (t _ (by omega) (by omega)), ⟨F4, (t _ (by omega) (by omega)).trans a4, a4'⟩, ?_, ⟨⟨upd f r.ke.length v, (on_up_ne (by omega)).trans (on_up_eq _ _ _), fun i hi => ?_⟩, ?_⟩⟩, I, (t _ (by omega) (by omega)).trans k5, k6, k7, k8⟩, fun a c1 c2 => t a (by omega) (by omega)⟩
  · show _ = some (Sum.inr (15, [.long r.se, .int r.dr, .ref (R + 1), .ref (R + 2), .ref (R + 3), .int (nI r.we), .int (nI r.nx), .ref (R + 4), .int (nI n), .ref (R + 5), .int (nI (r.ke ++ [b]).length)]) : va_E)
    rw [lk']
    exact on_up_eq _ _ _
  · obtain ⟨e1, e2, e3⟩ := a5
    refine ⟨(t _ (by omega) (by omega)).trans e1, fun j hj => ?_, fun j hj hj2 => ?_⟩
    · obtain ⟨x, x1, x2⟩ := e2 j hj
      have := I.at (show j < 12 by have := I.1; omega)
      exact ⟨x, x1, x2.keep (fun b c1 c2 => t b (by omega) (by omega))⟩
    · have := I.at hj2
      exact (e3 j hj hj2).keep (fun b c1 c2 => t b (by omega) (by omega))
  · have hi : i < (r.ke ++ [b]).length := hi
    rw [lk'] at hi
    show _ = nI ((r.ke ++ [b]).getD i 0) ∧ (r.ke ++ [b]).getD i 0 < 256
    rw [getD_snoc]
    by_cases z : i = r.ke.length
    · rw [z, pk_us, if_neg (Nat.lt_irrefl _), if_pos rfl]
      exact ⟨hv, hb⟩
    · rw [pk_un z, if_pos (by omega)]
      exact g2 i (by omega)
  · show (r.ke ++ [b]).length ≤ 2000
    omega
set_option maxHeartbeats 8000000 in
theorem mkp_l {D : Nat → Int32} (hc : c ≤ 124) (hD : on_by D d c)
    (kk : ∀ h2, mR o R self x3 F lk (r.se, r.dr, r.we, r.nx, r.en, ke_a r.ke d c) n ord es h2 → mf_R o R h h2 → on_E G M_M_came 113 (on_l []) [] h2 sz bc bs Q) :
    ∀ (m j : Nat) (h1 : on_H), j + m = c → r.ke.length + j ≤ 2000 → h1 (o + 41) = some (on_ai 0 124 D) → mR o R self x3 F lk (r.se, r.dr, r.we, r.nx, r.en, ke_a r.ke d j) n ord es h1 → mf_R o R h h1 → on_E G M_M_came 60 (on_l [(0, .ref o), (4, .int (nI c)), (5, .ref R), (6, .int (nI j))]) [] h1 sz bc bs Q := by
  intro m
  induction m with
  | zero =>
    intro j h1 hj hl d1 K f1
    have ej : j = c := by omega
    subst ej
    refine on_iload (pc' := 62) rfl rfl rfl ?_
    refine on_iload (pc' := 64) rfl rfl rfl ?_
    refine on_icmp_ge (pc' := 67) (tgt := 113) rfl rfl rfl (fun cq => ?_) (fun cq => ?_)
    · exact on_relv (l := []) trivial (kk h1 K f1)
    · exact absurd (nI_le (a := j) (Nat.le_refl _) (by omega)) cq
  | succ m ih =>
    intro j h1 hj hl d1 K f1
    have i1 : j < 124 ∧ 124 < 2 ^ 31 := by omega
    have el : (ke_a r.ke d j).length = r.ke.length + j := by rw [ke_len, Nat.min_eq_left (by omega)]
    have o1 := K.1.ob.1
    obtain ⟨f, g1, g2⟩ := K.2.2.1.2.2.2.2.2.1
    have ro : h1 R = some (.inr (15, [.long r.se, .int r.dr, .ref (R + 1), .ref (R + 2), .ref (R + 3), .int (nI r.we), .int (nI r.nx), .ref (R + 4), .int (nI n), .ref (R + 5), .int (nI (ke_a r.ke d j).length)])) := K.2.2.1.1
    rw [el] at ro
    have k7 := K.2.2.2.2.2.2.1
    refine on_iload (pc' := 62) rfl rfl rfl ?_
    refine on_iload (pc' := 64) rfl rfl rfl ?_
    refine on_icmp_ge (pc' := 67) (tgt := 113) rfl rfl rfl (fun cq => ?_) (fun cq => ?_)
    · exact absurd cq (nI_ge (b := c) (by omega) (by omega))
    · clear cq
      first | refine on_aload (pc' := 69) rfl rfl rfl ?_ | refine on_aloadQ (pc' := 69) rfl rfl rfl ?_
      first | apply on_get (pc' := 72) rfl rfl fl_M_453 | apply on_getN (pc' := 72) rfl rfl fl_M_453
      · repeat (first | assumption | exact on_up_eq _ _ _ | refine (on_up_ne (by omega)).trans ?_)
      · rfl
      refine on_sipush (pc' := 75) (v := 2000) rfl rfl ls_2000 ?_
      refine on_icmp_ge (pc' := 78) (tgt := 113) rfl rfl rfl (fun cq => ?_) (fun cq => ?_)
      · have full : 2000 ≤ r.ke.length + j := by
          rcases Nat.lt_or_ge (r.ke.length + j) 2000 with z | z
          · exact absurd cq (nI_ge (b := 2000) z (by decide))
          · exact z
        refine on_relv (l := []) trivial (kk h1 ?_ f1)
        rw [ke_full full (by omega)]
        exact K
      · have lt : r.ke.length + j < 2000 := by
          rcases Nat.lt_or_ge (r.ke.length + j) 2000 with z | z
          · exact z
          · exact absurd (nI_le (a := 2000) z (by omega)) cq
        clear cq
        have i2 : r.ke.length + j < 2000 ∧ 2000 < 2 ^ 31 := by omega
        first | refine on_aload (pc' := 80) rfl rfl rfl ?_ | refine on_aloadQ (pc' := 80) rfl rfl rfl ?_
        first | apply on_get (pc' := 83) rfl rfl fl_M_456 | apply on_getN (pc' := 83) rfl rfl fl_M_456
        · repeat (first | assumption | exact on_up_eq _ _ _ | refine (on_up_ne (by omega)).trans ?_)
        · rfl
        first | refine on_aload (pc' := 85) rfl rfl rfl ?_ | refine on_aloadQ (pc' := 85) rfl rfl rfl ?_
        first | apply on_get (pc' := 88) rfl rfl fl_M_453 | apply on_getN (pc' := 88) rfl rfl fl_M_453
        · repeat (first | assumption | exact on_up_eq _ _ _ | refine (on_up_ne (by omega)).trans ?_)
        · rfl
        first | refine on_aload_n (pc' := 89) rfl rfl rfl rfl ?_ | refine on_aload_nQ (pc' := 89) rfl rfl rfl rfl ?_
        first | apply on_get (pc' := 92) rfl rfl fl_M_124 | apply on_getN (pc' := 92) rfl rfl fl_M_124
        · repeat (first | assumption | exact on_up_eq _ _ _ | refine (on_up_ne (by omega)).trans ?_)
        · rfl
        refine on_iload (pc' := 94) rfl rfl rfl ?_
        apply on_ialoadK (pc' := 95) (t := 0) rfl rfl
        · repeat (first | assumption | exact on_up_eq _ _ _ | refine (on_up_ne (by omega)).trans ?_)
        · rfl
        · first | assumption | exact on_lit _ | rfl
        · first | assumption | omega | decide
        apply on_iastoreK (pc' := 96) (t := 0) rfl rfl
        · repeat (first | assumption | exact on_up_eq _ _ _ | refine (on_up_ne (by omega)).trans ?_)
        · rfl
        · first | assumption | exact on_lit _ | rfl
        · first | assumption | omega | decide
        first | refine on_aload (pc' := 98) rfl rfl rfl ?_ | refine on_aloadQ (pc' := 98) rfl rfl rfl ?_
        refine on_dup (pc' := 99) rfl rfl rfl ?_
        first | apply on_get (pc' := 102) rfl rfl fl_M_453 | apply on_getN (pc' := 102) rfl rfl fl_M_453
        · repeat (first | assumption | exact on_up_eq _ _ _ | refine (on_up_ne (by omega)).trans ?_)
        · rfl
        refine on_iconst (pc' := 103) (v := 1) rfl rfl li_1 ?_
        refine on_iadd (pc' := 104) rfl rfl ?_
        rw [nI_1]
        first | apply on_put (pc' := 107) rfl rfl fp_M_453 | apply on_putN (pc' := 107) rfl rfl fp_M_453
        · repeat (first | assumption | exact on_up_eq _ _ _ | refine (on_up_ne (by omega)).trans ?_)
        · first | rfl | assumption
        · first | rfl | assumption
        · exact Nat.le_of_ble_eq_true rfl
        obtain ⟨K2, f2⟩ := K.kep (j := r.ke.length + j) (b := d j) (v := D j) (h1 := on_up (on_up h1 (R + 5) (on_ai 0 2000 (upd f (r.ke.length + j) (D j)))) R (.inr (15, [.long r.se, .int r.dr, .ref (R + 1), .ref (R + 2), .ref (R + 3), .int (nI r.we), .int (nI r.nx), .ref (R + 4), .int (nI n), .ref (R + 5), .int (nI (r.ke.length + j + 1))]))) el.symm lt (hD j (by omega)).2 (hD j (by omega)).1 ⟨f, g1, rfl⟩
        show on_E G M_M_came 107 _ [] (on_up (on_up h1 (R + 5) (on_ai 0 2000 (upd f (r.ke.length + j) (D j)))) R (.inr (15, [.long r.se, .int r.dr, .ref (R + 1), .ref (R + 2), .ref (R + 3), .int (nI r.we), .int (nI r.nx), .ref (R + 4), .int (nI n), .ref (R + 5), .int (nI (r.ke.length + j + 1))]))) sz _ _ _
        have d2 : on_up (on_up h1 (R + 5) (on_ai 0 2000 (upd f (r.ke.length + j) (D j)))) R (.inr (15, [.long r.se, .int r.dr, .ref (R + 1), .ref (R + 2), .ref (R + 3), .int (nI r.we), .int (nI r.nx), .ref (R + 4), .int (nI n), .ref (R + 5), .int (nI (r.ke.length + j + 1))])) (o + 41) = some (on_ai 0 124 D) := (on_up_ne (by omega)).trans ((on_up_ne (by omega)).trans d1)
        generalize on_up (on_up h1 (R + 5) (on_ai 0 2000 (upd f (r.ke.length + j) (D j)))) R (.inr (15, [.long r.se, .int r.dr, .ref (R + 1), .ref (R + 2), .ref (R + 3), .int (nI r.we), .int (nI r.nx), .ref (R + 4), .int (nI n), .ref (R + 5), .int (nI (r.ke.length + j + 1))])) = h2 at K2 f2 d2 ⊢
        refine on_iinc1 (pc' := 110) rfl rfl rfl ?_
        refine on_goto (tgt := 60) rfl rfl ?_
        refine on_relv (l := [(0, .ref o), (4, .int (nI c)), (5, .ref R), (6, .int (nI (j + 1)))]) ⟨rfl, rfl, rfl, congrArg some (congrArg Value.int (nI_1 j)), trivial⟩ (ih (j + 1) h2 (by omega) (by omega) d2 ?_ (f1.trans f2))
        rw [ke_step lt]
        exact K2
set_option maxHeartbeats 8000000 in
/-- behind the SENDME: the bytes are kept, or sent back -/
theorem mcm_2 {q : aS} (K : mR o R self x3 F lk (r_en r (fu r.en (ord k0) (some e))) n ord es h) (hk0 : k0 < n) (hk : k < e.st.length) (hq : e.st.getD k s0 = q) (hc : c ≤ 124) (hd : ∀ f, h (o + 41) = some (on_ai 0 124 f) → on_by f d c) (hf : e.fr < 10) (hL : e.bw.ms.length + 135 < 2 ^ 28) (hpos : e.bw.pos + 135 < 2 ^ 36)
    (kk : ∀ h2, mY o R self x3 F lk (cm_2 r (ord k0) e k c d) h h2 → Q none h2 sz) :
    on_E G M_M_came 47 (on_l [(0, .ref o), (1, .int (nI self)), (2, .ref (es k0)), (3, .int (nI k)), (4, .int (nI c)), (5, .ref R)]) [] h sz bc bs Q := by
  obtain ⟨W, KL, K3, I, k5, k6, k7, k8⟩ := id K
  have o1 := W.ob.1
  obtain ⟨e', e1', E⟩ := K3.2.2.2.2.1.2.1 k0 hk0
  cases (fu_s.symm.trans e1' : some e = some e')
  obtain ⟨tn, S, V, WW, C, ⟨b0, b1, b2, b3, b4⟩, tq, sr, ml⟩ := id E
  have l4 := sr.1
  have i4 : k < 4 ∧ 4 < 2 ^ 31 := by omega
  obtain ⟨s1, s2, s3, s4, s5, s6⟩ := sr.2 k hk
  rw [hq] at s1 s2 s3 s4 s5 s6
  have at0 := I.at (show k0 < 12 by have := I.1; omega)
  obtain ⟨D, d1⟩ := W.da
  first | refine on_aload_n (pc' := 48) rfl rfl rfl rfl ?_ | refine on_aload_nQ (pc' := 48) rfl rfl rfl rfl ?_
  first | apply on_get (pc' := 51) rfl rfl fl_M_441 | apply on_getN (pc' := 51) rfl rfl fl_M_441
  · repeat (first | assumption | exact on_up_eq _ _ _ | refine (on_up_ne (by omega)).trans ?_)
  · rfl
  refine on_iload_n (pc' := 52) rfl rfl rfl rfl ?_
  apply on_ialoadK (pc' := 53) (t := 0) rfl rfl
  · repeat (first | assumption | exact on_up_eq _ _ _ | refine (on_up_ne (by omega)).trans ?_)
  · rfl
  · first | assumption | exact on_lit _ | rfl
  · first | assumption | omega | decide
  rw [s2]
  refine on_iconst (pc' := 54) (v := 2) rfl rfl li_2 ?_
  refine on_icmp_ne (pc' := 57) (tgt := 116) rfl rfl rfl (fun cq => ?_) (fun cq => ?_)
  rotate_left
  · have so2 : q.so = 2 := (nI_eq (a := q.so) (b := 2) (by omega) (by decide)).mp cq
    clear cq
    refine on_iconst (pc' := 58) (v := 0) rfl rfl li_0 ?_
    refine on_istore (pc' := 60) rfl rfl (by decide) ?_
    refine on_relv (l := [(0, .ref o), (4, .int (nI c)), (5, .ref R), (6, .int (nI 0))]) ⟨rfl, rfl, rfl, rfl, trivial⟩ (mkp_l (r := r_en r (fu r.en (ord k0) (some e))) (h := h) hc (hd D d1) (fun h2 K2 f2 => ?_) c 0 h (by omega) (by show r.ke.length + 0 ≤ 2000; exact K3.2.2.2.2.2.2) d1 (by rw [ke_zero]; exact K) (fun _ _ _ => rfl))
    refine on_goto (tgt := 154) rfl rfl ?_
    refine on_vreturn rfl rfl ?_
    refine kk h2 ?_
    unfold cm_2
    rw [hq, if_pos so2]
    exact ⟨⟨n, ord, es, K2⟩, f2⟩
  · have so2 : ¬ q.so = 2 := fun z => cq (by rw [z]; rfl)
    clear cq
    first | refine on_aload_n (pc' := 117) rfl rfl rfl rfl ?_ | refine on_aload_nQ (pc' := 117) rfl rfl rfl rfl ?_
    first | apply on_get (pc' := 120) rfl rfl fl_M_444 | apply on_getN (pc' := 120) rfl rfl fl_M_444
    · repeat (first | assumption | exact on_up_eq _ _ _ | refine (on_up_ne (by omega)).trans ?_)
    · rfl
    refine on_iload_n (pc' := 121) rfl rfl rfl rfl ?_
    apply on_ialoadK (pc' := 122) (t := 0) rfl rfl
    · repeat (first | assumption | exact on_up_eq _ _ _ | refine (on_up_ne (by omega)).trans ?_)
    · rfl
    · first | assumption | exact on_lit _ | rfl
    · first | assumption | omega | decide
    rw [s3]
    refine on_if_le (pc' := 125) (tgt := 154) rfl rfl rfl (fun cq => ?_) (fun cq => ?_)
    · have w0 : ¬ 0 < q.wi := fun z => Int32.not_le.mpr z cq
      refine on_vreturn rfl rfl ?_
      refine kk h ?_
      unfold cm_2
      rw [hq, if_neg so2, if_neg w0]
      exact ⟨⟨n, ord, es, K⟩, fun _ _ _ => rfl⟩
    · have w0 : 0 < q.wi := Int32.not_le.mp cq
      clear cq
      first | refine on_aload_n (pc' := 126) rfl rfl rfl rfl ?_ | refine on_aload_nQ (pc' := 126) rfl rfl rfl rfl ?_
      first | apply on_get (pc' := 129) rfl rfl fl_M_444 | apply on_getN (pc' := 129) rfl rfl fl_M_444
      · repeat (first | assumption | exact on_up_eq _ _ _ | refine (on_up_ne (by omega)).trans ?_)
      · rfl
      refine on_iload_n (pc' := 130) rfl rfl rfl rfl ?_
      first | refine on_dup2_11 (pc' := 131) rfl rfl rfl rfl ?_ | refine on_dup2_2 (pc' := 131) rfl rfl rfl ?_
      apply on_ialoadK (pc' := 132) (t := 0) rfl rfl
      · repeat (first | assumption | exact on_up_eq _ _ _ | refine (on_up_ne (by omega)).trans ?_)
      · rfl
      · first | assumption | exact on_lit _ | rfl
      · first | assumption | omega | decide
      rw [s3]
      refine on_iconst (pc' := 133) (v := 1) rfl rfl li_1 ?_
      refine on_isub (pc' := 134) rfl rfl ?_
      apply on_iastoreK (pc' := 135) (t := 0) rfl rfl
      · repeat (first | assumption | exact on_up_eq _ _ _ | refine (on_up_ne (by omega)).trans ?_)
      · rfl
      · first | assumption | exact on_lit _ | rfl
      · first | assumption | omega | decide
      have E2 : me_S (es k0) (e.fr, e.fn, e.on, e.wt, e.fw, e.bw, e.st.set k (q.id, q.so, q.wi - 1, q.ca)) (on_up h (es k0 + 12) (on_ai 0 4 (upd WW k (q.wi - 1)))) := E.row (a := es k0 + 12) (f := upd WW k (q.wi - 1)) List.length_set (Or.inl ⟨rfl, fun S' V' W' C' sr' w' => by
        cases b3.symm.trans w'
        have := sr'.set (W2 := upd WW k (q.wi - 1)) (C2 := C') (wi := q.wi - 1) (ca := q.ca) hk pk_us (fun i hi => pk_un hi) (by have := (sr'.2 k hk).2.2.2.1; rw [hq] at this; exact this) (fun i _ => rfl)
        rw [hq] at this
        exact this⟩) rfl
      have t1 : ∀ b, b ≠ es k0 + 12 → on_up h (es k0 + 12) (on_ai 0 4 (upd WW k (q.wi - 1))) b = h b := fun b hb => on_up_ne hb
      generalize on_up h (es k0 + 12) (on_ai 0 4 (upd WW k (q.wi - 1))) = h1 at E2 t1 ⊢
      obtain ⟨K1, f1⟩ := K.ent (lk2 := lk) hk0 (W.keep (fun a _ _ _ => t1 a (by omega))) (KL.keep (t1 _ (by omega)) (t1 _ (by omega))) E2 (fun b _ c2 => t1 b (by omega))
      have o2 := K1.1.ob.1
      have b0' := (t1 (es k0) (by omega)).trans b0
      have b1' := (t1 (es k0 + 10) (by omega)).trans b1
      first | refine on_aload_n (pc' := 136) rfl rfl rfl rfl ?_ | refine on_aload_nQ (pc' := 136) rfl rfl rfl rfl ?_
      refine on_iload_n (pc' := 137) rfl rfl rfl rfl ?_
      first | refine on_aload_n (pc' := 138) rfl rfl rfl rfl ?_ | refine on_aload_nQ (pc' := 138) rfl rfl rfl rfl ?_
      refine on_iconst (pc' := 139) (v := 2) rfl rfl li_2 ?_
      first | refine on_aload_n (pc' := 140) rfl rfl rfl rfl ?_ | refine on_aload_nQ (pc' := 140) rfl rfl rfl rfl ?_
      first | apply on_get (pc' := 143) rfl rfl fl_M_428 | apply on_getN (pc' := 143) rfl rfl fl_M_428
      · repeat (first | assumption | exact on_up_eq _ _ _ | refine (on_up_ne (by omega)).trans ?_)
      · rfl
      refine on_iload_n (pc' := 144) rfl rfl rfl rfl ?_
      apply on_ialoadK (pc' := 145) (t := 0) rfl rfl
      · repeat (first | assumption | exact on_up_eq _ _ _ | refine (on_up_ne (by omega)).trans ?_)
      · rfl
      · first | assumption | exact on_lit _ | rfl
      · first | assumption | omega | decide
      rw [s1]
      refine on_iload (pc' := 147) rfl rfl rfl ?_
      first | refine on_aload_n (pc' := 148) rfl rfl rfl rfl ?_ | refine on_aload_nQ (pc' := 148) rfl rfl rfl rfl ?_
      first | apply on_get (pc' := 151) rfl rfl fl_M_124 | apply on_getN (pc' := 151) rfl rfl fl_M_124
      · repeat (first | assumption | exact on_up_eq _ _ _ | refine (on_up_ne (by omega)).trans ?_)
      · rfl
      refine on_callV (pc' := 154) (As := [.int (nI self), .ref (es k0), .int (nI 2), .int (nI q.id), .int (nI c), .ref (o + 41)]) (rest := []) (b := o) rfl rfl cw_M_came_374 (o2) rfl rfl (Nat.le_of_ble_eq_true rfl) (Nat.zero_le _) (Nat.zero_le _) (c_M_back (d := d) (e := (e.fr, e.fn, e.on, e.wt, e.fw, e.bw, e.st.set k (q.id, q.so, q.wi - 1, q.ca))) K1.1 K1.2.1 E2 (by omega) (by omega) hf hL hpos (by decide) s5 hc K1.1.da (Or.inl rfl) ⟨hc, by decide⟩ (fun f hf2 => hd f ((t1 _ (by omega)).symm.trans hf2))) ?_
      rintro v h2 z ⟨rfl, rfl, W2, L2, E3, t2⟩
      obtain ⟨K2, f2⟩ := K1.ent hk0 W2 L2 E3 (fun b c1 c2 => t2 b (by omega) (by omega) (by omega) (by omega) (by omega) (by omega) (by omega) c2)
      refine on_vreturn rfl rfl ?_
      refine kk h2 ?_
      unfold cm_2
      rw [hq, if_neg so2, if_pos w0]
      refine ⟨⟨n, ord, es, ?_⟩, f1.trans f2⟩
      have ee : ∀ v, r_en (r_en (r_en r (fu r.en (ord k0) (some e))) (fu (r_en r (fu r.en (ord k0) (some e))).en (ord k0) (some (e.fr, e.fn, e.on, e.wt, e.fw, e.bw, e.st.set k (q.id, q.so, q.wi - 1, q.ca))))) (fu (r_en (r_en r (fu r.en (ord k0) (some e))) (fu (r_en r (fu r.en (ord k0) (some e))).en (ord k0) (some (e.fr, e.fn, e.on, e.wt, e.fw, e.bw, e.st.set k (q.id, q.so, q.wi - 1, q.ca))))).en (ord k0) v) = r_en r (fu r.en (ord k0) v) := fun v => by
        show r_en r (fu (fu (fu r.en (ord k0) (some e)) (ord k0) _) (ord k0) v) = _
        rw [fu_fu, fu_fu]
      rw [ee] at K2
      exact K2
set_option maxHeartbeats 8000000 in
/-- came -/
theorem c_M_came (K : mR o R self x3 F lk r n ord es h) (hk0 : k0 < n) (he : r.en (ord k0) = some e) (hk : k < e.st.length) (hc : c ≤ 124) (hd : ∀ f, h (o + 41) = some (on_ai 0 124 f) → on_by f d c) (hf : e.fr < 10) (hL : e.bw.ms.length + 270 < 2 ^ 28) (hpos : e.bw.pos + 270 < 2 ^ 36) :
    on_Ct G M_M_came [.ref o, .int (nI self), .ref (es k0), .int (nI k), .int (nI c)] h sz 0 0 (fun v h1 z => v = none ∧ z = sz ∧ mY o R self x3 F lk (r_ca r (ord k0) e k c d) h h1) := by
  obtain ⟨W, KL, K3, I, k5, k6, k7, k8⟩ := id K
  have o1 := W.ob.1
  obtain ⟨e', e1', E⟩ := K3.2.2.2.2.1.2.1 k0 hk0
  cases he.symm.trans e1'
  obtain ⟨tn, S, V, WW, C, ⟨b0, b1, b2, b3, b4⟩, tq, sr, ml⟩ := id E
  have l4 := sr.1
  have i4 : k < 4 ∧ 4 < 2 ^ 31 := by omega
  have i6 : self < 6 ∧ 6 < 2 ^ 31 := ⟨k8, by decide⟩
  obtain ⟨s1, s2, s3, s4, s5, s6⟩ := sr.2 k hk
  have at0 := I.at (show k0 < 12 by have := I.1; omega)
  have rq := r_ca_e2 (r := r) (s := ord k0) (c := c) (d := d) hk
  have g : (cm_1 e k).st.getD k s0 = ((e.st.getD k s0).id, (e.st.getD k s0).so, (e.st.getD k s0).wi, (e.st.getD k s0).ca + 1) := by
    show (e.st.set k _).getD k s0 = _
    rw [getD_set hk, if_pos rfl]
  have kl : k < (cm_1 e k).st.length := by
    show k < (e.st.set k _).length
    rw [List.length_set]
    exact hk
  generalize hq : e.st.getD k s0 = q at s1 s2 s3 s4 s5 s6 rq g
  refine on_Ct.of (by decide) v_M_came (Nat.le_of_ble_eq_true rfl) ?_
  first | refine on_aload_n (pc' := 1) rfl rfl rfl rfl ?_ | refine on_aload_nQ (pc' := 1) rfl rfl rfl rfl ?_
  first | apply on_get (pc' := 4) rfl rfl fl_M_9 | apply on_getN (pc' := 4) rfl rfl fl_M_9
  · repeat (first | assumption | exact on_up_eq _ _ _ | refine (on_up_ne (by omega)).trans ?_)
  · rfl
  refine on_iload_n (pc' := 5) rfl rfl rfl rfl ?_
  apply on_aaloadK (pc' := 6) rfl rfl
  · repeat (first | assumption | exact on_up_eq _ _ _ | refine (on_up_ne (by omega)).trans ?_)
  · rfl
  · first | assumption | exact on_lit _ | rfl
  · first | assumption | omega | decide
  rw [k6]
  show on_E G M_M_came 6 _ [.ref R] h sz _ _ _
  first | refine on_astore (pc' := 8) rfl rfl (by decide) ?_ | refine on_astoreQ (pc' := 8) rfl rfl (by decide) ?_
  first | refine on_aload_n (pc' := 9) rfl rfl rfl rfl ?_ | refine on_aload_nQ (pc' := 9) rfl rfl rfl rfl ?_
  first | apply on_get (pc' := 12) rfl rfl fl_M_447 | apply on_getN (pc' := 12) rfl rfl fl_M_447
  · repeat (first | assumption | exact on_up_eq _ _ _ | refine (on_up_ne (by omega)).trans ?_)
  · rfl
  refine on_iload_n (pc' := 13) rfl rfl rfl rfl ?_
  first | refine on_dup2_11 (pc' := 14) rfl rfl rfl rfl ?_ | refine on_dup2_2 (pc' := 14) rfl rfl rfl ?_
  apply on_ialoadK (pc' := 15) (t := 0) rfl rfl
  · repeat (first | assumption | exact on_up_eq _ _ _ | refine (on_up_ne (by omega)).trans ?_)
  · rfl
  · first | assumption | exact on_lit _ | rfl
  · first | assumption | omega | decide
  rw [s4]
  refine on_iconst (pc' := 16) (v := 1) rfl rfl li_1 ?_
  refine on_iadd (pc' := 17) rfl rfl ?_
  apply on_iastoreK (pc' := 18) (t := 0) rfl rfl
  · repeat (first | assumption | exact on_up_eq _ _ _ | refine (on_up_ne (by omega)).trans ?_)
  · rfl
  · first | assumption | exact on_lit _ | rfl
  · first | assumption | omega | decide
  have E1 : me_S (es k0) (cm_1 e k) (on_up h (es k0 + 13) (on_ai 0 4 (upd C k (q.ca + 1)))) := E.row (a := es k0 + 13) (f := upd C k (q.ca + 1)) List.length_set (Or.inr ⟨rfl, fun S' V' W' C' sr' w' => by
    cases b4.symm.trans w'
    exact sr'.set (W2 := W') (C2 := upd C k (q.ca + 1)) (wi := (e.st.getD k s0).wi) (ca := (e.st.getD k s0).ca + 1) hk (sr'.2 k hk).2.2.1 (fun i _ => rfl) (by rw [pk_us, hq]) (fun i hi => pk_un hi)⟩) rfl
  have t1 : ∀ b, b ≠ es k0 + 13 → on_up h (es k0 + 13) (on_ai 0 4 (upd C k (q.ca + 1))) b = h b := fun b hb => on_up_ne hb
  have c1 : on_up h (es k0 + 13) (on_ai 0 4 (upd C k (q.ca + 1))) (es k0 + 13) = some (on_ai 0 4 (upd C k (q.ca + 1))) := on_up_eq _ _ _
  generalize on_up h (es k0 + 13) (on_ai 0 4 (upd C k (q.ca + 1))) = h1 at E1 t1 c1 ⊢
  obtain ⟨K1, f1⟩ := K.ent (lk2 := lk) hk0 (W.keep (fun a _ _ _ => t1 a (by omega))) (KL.keep (t1 _ (by omega)) (t1 _ (by omega))) E1 (fun b _ c2 => t1 b (by omega))
  have o2 := K1.1.ob.1
  have b0' := (t1 (es k0) (by omega)).trans b0
  have b1' := (t1 (es k0 + 10) (by omega)).trans b1
  have hd1 : ∀ f, h1 (o + 41) = some (on_ai 0 124 f) → on_by f d c := fun f hf2 => hd f ((t1 _ (by omega)).symm.trans hf2)
  first | refine on_aload_n (pc' := 19) rfl rfl rfl rfl ?_ | refine on_aload_nQ (pc' := 19) rfl rfl rfl rfl ?_
  first | apply on_get (pc' := 22) rfl rfl fl_M_447 | apply on_getN (pc' := 22) rfl rfl fl_M_447
  · repeat (first | assumption | exact on_up_eq _ _ _ | refine (on_up_ne (by omega)).trans ?_)
  · rfl
  refine on_iload_n (pc' := 23) rfl rfl rfl rfl ?_
  apply on_ialoadK (pc' := 24) (t := 0) rfl rfl
  · repeat (first | assumption | exact on_up_eq _ _ _ | refine (on_up_ne (by omega)).trans ?_)
  · rfl
  · first | assumption | exact on_lit _ | rfl
  · first | assumption | omega | decide
  rw [show upd C k (q.ca + 1) k = q.ca + 1 from pk_us]
  refine on_iconst (pc' := 25) (v := 2) rfl rfl li_2 ?_
  refine on_irem (pc' := 26) rfl rfl (by first | assumption | decide) ?_
  refine on_if_ne (pc' := 29) (tgt := 47) rfl rfl rfl (fun cq => ?_) (fun cq => ?_)
  · rw [if_neg cq] at rq
    rw [rq]
    exact on_relv (l := [(0, .ref o), (1, .int (nI self)), (2, .ref (es k0)), (3, .int (nI k)), (4, .int (nI c)), (5, .ref R)]) ⟨rfl, rfl, rfl, rfl, rfl, rfl, trivial⟩ (mcm_2 K1 hk0 kl g hc hd1 hf (show e.bw.ms.length + 135 < 2 ^ 28 by omega) (show e.bw.pos + 135 < 2 ^ 36 by omega) (fun h2 Y => ⟨rfl, rfl, Y.1, f1.trans Y.2⟩))
  · rw [if_pos cq] at rq
    clear cq
    first | refine on_aload_n (pc' := 30) rfl rfl rfl rfl ?_ | refine on_aload_nQ (pc' := 30) rfl rfl rfl rfl ?_
    refine on_iload_n (pc' := 31) rfl rfl rfl rfl ?_
    first | refine on_aload_n (pc' := 32) rfl rfl rfl rfl ?_ | refine on_aload_nQ (pc' := 32) rfl rfl rfl rfl ?_
    refine on_iconst (pc' := 33) (v := 5) rfl rfl li_5 ?_
    first | refine on_aload_n (pc' := 34) rfl rfl rfl rfl ?_ | refine on_aload_nQ (pc' := 34) rfl rfl rfl rfl ?_
    first | apply on_get (pc' := 37) rfl rfl fl_M_428 | apply on_getN (pc' := 37) rfl rfl fl_M_428
    · repeat (first | assumption | exact on_up_eq _ _ _ | refine (on_up_ne (by omega)).trans ?_)
    · rfl
    refine on_iload_n (pc' := 38) rfl rfl rfl rfl ?_
    apply on_ialoadK (pc' := 39) (t := 0) rfl rfl
    · repeat (first | assumption | exact on_up_eq _ _ _ | refine (on_up_ne (by omega)).trans ?_)
    · rfl
    · first | assumption | exact on_lit _ | rfl
    · first | assumption | omega | decide
    rw [s1]
    refine on_iconst (pc' := 40) (v := 0) rfl rfl li_0 ?_
    first | refine on_aload_n (pc' := 41) rfl rfl rfl rfl ?_ | refine on_aload_nQ (pc' := 41) rfl rfl rfl rfl ?_
    first | apply on_get (pc' := 44) rfl rfl fl_M_124 | apply on_getN (pc' := 44) rfl rfl fl_M_124
    · repeat (first | assumption | exact on_up_eq _ _ _ | refine (on_up_ne (by omega)).trans ?_)
    · rfl
    refine on_callV (pc' := 47) (As := [.int (nI self), .ref (es k0), .int (nI 5), .int (nI q.id), .int (nI 0), .ref (o + 41)]) (rest := []) (b := o) rfl rfl cw_M_came_374 (o2) rfl rfl (Nat.le_of_ble_eq_true rfl) (Nat.zero_le _) (Nat.zero_le _) (c_M_back (d := d) (e := cm_1 e k) (n := 0) K1.1 K1.2.1 E1 (by omega) (by omega) hf (show e.bw.ms.length + 135 < 2 ^ 28 by omega) (show e.bw.pos + 135 < 2 ^ 36 by omega) (by decide) s5 (Nat.zero_le _) K1.1.da (Or.inl rfl) ⟨Nat.zero_le _, by decide⟩ (fun f _ i hi => absurd hi (Nat.not_lt_zero i))) ?_
    rintro v h2 z ⟨rfl, rfl, W2, L2, E2, t2⟩
    obtain ⟨K2, f2⟩ := K1.ent hk0 W2 L2 E2 (fun b c1 c2 => t2 b (by omega) (by omega) (by omega) (by omega) (by omega) (by omega) (by omega) c2)
    have ee : ∀ v, r_en (r_en r (fu r.en (ord k0) (some (cm_1 e k)))) (fu (r_en r (fu r.en (ord k0) (some (cm_1 e k)))).en (ord k0) v) = r_en r (fu r.en (ord k0) v) := fun v => by
      show r_en r (fu (fu r.en (ord k0) _) (ord k0) v) = _
      rw [fu_fu]
    rw [ee] at K2
    have g2 : (e_bk (cm_1 e k) 5 q.id 0 d).1.st.getD k s0 = (q.id, q.so, q.wi, q.ca + 1) := g
    have bl : (e_bk (cm_1 e k) 5 q.id 0 d).1.bw.ms.length = e.bw.ms.length + 135 := by
      show (e.bw.ms ++ sp_sl _ 5 135).length = _
      rw [List.length_append, sp_sl_len]
    rw [rq]
    exact on_relv (l := [(0, .ref o), (1, .int (nI self)), (2, .ref (es k0)), (3, .int (nI k)), (4, .int (nI c)), (5, .ref R)]) ⟨rfl, rfl, rfl, rfl, rfl, rfl, trivial⟩ (mcm_2 K2 hk0 kl g2 hc (fun f hf2 => hd1 f ((t2 _ (by omega) (by omega) (by omega) (by omega) (by omega) (by omega) (by omega) (by omega)).symm.trans hf2)) hf (by rw [bl]; omega) (show e.bw.pos + 135 + 135 < 2 ^ 36 by omega) (fun h3 Y => ⟨rfl, rfl, Y.1, (f1.trans f2).trans Y.2⟩))
end MCA
