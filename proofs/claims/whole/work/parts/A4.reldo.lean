/-! a Relay does what a recognized cell says -/
theorem nI_ti : ∀ v, v < 256 → (nI v).toInt = (v : Int) := by decide +kernel
theorem fu_fu {α : Type} {f : Nat → α} {i : Nat} {v w : α} : fu (fu f i v) i w = fu f i w := funext fun j => by
  by_cases z : j = i
  · rw [z, fu_s, fu_s]
  · rw [fu_n z, fu_n z, fu_n z]
section RDO
variable {G : on_G} {a ot hs nm u q s sz bc bs : Nat} {r : aR} {h h2 : on_H} {x y : aB} {e : aE} {Q : Option Value → on_H → Nat → Prop} {lv : on_V} {st : List Value}
theorem sw_dp {v : Nat} (hv : v < 256) (k14 : v = 14 → on_E G M_Relay_doPayload 88 lv st h sz bc bs Q) (k1 : v = 1 → on_E G M_Relay_doPayload 96 lv st h sz bc bs Q) (k2 : v = 2 → on_E G M_Relay_doPayload 120 lv st h sz bc bs Q) (k3 : v = 3 → on_E G M_Relay_doPayload 137 lv st h sz bc bs Q) (k5 : v = 5 → on_E G M_Relay_doPayload 145 lv st h sz bc bs Q) (kd : ¬ v = 14 → ¬ v = 1 → ¬ v = 2 → ¬ v = 3 → ¬ v = 5 → on_E G M_Relay_doPayload 164 lv st h sz bc bs Q) : on_E G M_Relay_doPayload 19 lv (.int (nI v) :: st) h sz bc bs Q := by
  by_cases c14 : v = 14
  · subst c14
    exact on_tableIn rfl (by decide) (by decide) rfl rfl (k14 rfl)
  by_cases c1 : v = 1
  · subst c1
    exact on_tableIn rfl (by decide) (by decide) rfl rfl (k1 rfl)
  by_cases c2 : v = 2
  · subst c2
    exact on_tableIn rfl (by decide) (by decide) rfl rfl (k2 rfl)
  by_cases c3 : v = 3
  · subst c3
    exact on_tableIn rfl (by decide) (by decide) rfl rfl (k3 rfl)
  by_cases c5 : v = 5
  · subst c5
    exact on_tableIn rfl (by decide) (by decide) rfl rfl (k5 rfl)
  have kx := kd c14 c1 c2 c3 c5
  rcases (by omega : v = 4 ∨ v = 6 ∨ v = 7 ∨ v = 8 ∨ v = 9 ∨ v = 10 ∨ v = 11 ∨ v = 12 ∨ v = 13 ∨ v < 1 ∨ 14 < v) with z | z | z | z | z | z | z | z | z | z
  iterate 9
    · subst z
      exact on_tableIn rfl (by decide) (by decide) rfl rfl kx
  · exact on_tableOut rfl (by rw [nI_ti v hv]; omega) rfl kx
theorem rl_S.chg {nx : Nat} {ke : List Nat} {oe : Option aE} (R : rl_S a ot hs nm r h) (hO : rl_O a ot hs (nI ke.length) (nI r.we) h2) (hN : nd_S (a + 1) (nI nm) r.se r.dr (nI nx) h2) (hE : en_S (a + 8 + 21 * s) (hs + 4) oe h2) (hK : kp_S (a + 7) ke h2) (q : ∀ x, a + 3 ≤ x → x < a + 260 → x ≠ a + 7 → (x < a + 8 + 21 * s ∨ a + 8 + 21 * s + 21 ≤ x) → h2 x = h x) (s12 : s < 12) : rl_S a ot hs nm (r.se, r.dr, r.we, nx, fu r.en s oe, ke) h2 := by
  obtain ⟨k1, k2, k3, k4, k5, k6, k7, k8⟩ := R
  refine ⟨hO, hN, k3.keep (q _ (by omega) (by omega) (by omega) (by omega)), k4.keep (q _ (by omega) (by omega) (by omega) (by omega)), k5.keep (q _ (by omega) (by omega) (by omega) (by omega)), ⟨(q _ (by omega) (by omega) (by omega) (by omega)).trans k6.1, fun j hj => ?_⟩, hK.1, hK.2⟩
  show en_S _ _ (fu r.en s oe j) h2
  by_cases z : j = s
  · subst z
    rw [fu_s]
    exact hE
  · rw [fu_n z]
    exact (k6.2 j hj).keep (fun x h1 h2 => q x (by omega) (by omega) (by omega) (by omega))
def e_bw (e : aE) (l : aL) : aE := (e.fr, e.fn, e.on, e.wt, e.fw, l, e.st)
/-- what stands behind doPayload -/
def dp_P (a ot hs nm u nr s sz : Nat) (r : aR) (e : aE) (y : aB) (h : on_H) : Option Value → on_H → Nat → Prop := fun v h1 z => z = sz ∧ ((v = some (.int 1) ∧ ∃ (r2 : aR) (e2 : aE) (L : aP), rl_S a ot hs nm (r_en r2 (fu r2.en s (some e2))) h1 ∧ e2.bw = e.bw ∧ L.length ≤ 2 ∧ ob_P u L h1 ∧ r_do nr nm r s e y = (r_en r2 (fu r2.en s (some (e_bw e2 (se e.bw L).1))), (r_do nr nm r s e y).2) ∧ ao_eq (se e.bw L).2 (r_do nr nm r s e y).2 ∧ ∀ b, (b < a ∨ a + 260 ≤ b) → (b < u ∨ u + 8 ≤ b) → h1 b = h b) ∨ (v = some (.int 0) ∧ r_do nr nm r s e y = (r_en r (fu r.en s none), e_ds e) ∧ h1 = h))
theorem kI_n {k : Option Nat} (hk : ∀ i, k = some i → i < 4) : kI k = -1 ↔ k = none := by
  cases k with
  | none => exact ⟨fun _ => rfl, fun _ => rfl⟩
  | some i => exact ⟨fun z => absurd z ((by decide : ∀ f, f < 4 → ¬ (nI f = (-1 : Int32))) i (hk i rfl)), fun z => nomatch z⟩
theorem s_at_lt {st : List aS} {id k : Nat} (e : s_at st id = some k) : k < st.length := by
  unfold s_at at e
  rw [List.findIdx?_eq_some_iff_getElem] at e
  exact e.1
theorem td_len {n k : Nat} {d : Nat → Nat} : (td_L e k n d).length ≤ 2 := by
  unfold td_L td_1
  dsimp only
  split
  · split
    · exact Nat.le_refl 2
    · exact Nat.le_succ 1
  · split
    · exact Nat.le_succ 1
    · exact Nat.zero_le 2
theorem bk_l0 {l : aL} {cmd s : Nat} {d d2 : Nat → Nat} : bk_l l cmd s 0 d = bk_l l cmd s 0 d2 := by
  unfold bk_l
  rw [mk_c0 (d := d) (d2 := d2)]
theorem bk_p0 {l : aL} {cmd s : Nat} {d d2 : Nat → Nat} : bk_p l cmd s 0 d = bk_p l cmd s 0 d2 := by
  unfold bk_p
  rw [mk_c0 (d := d) (d2 := d2)]
/-- data: the specification's answer, and the Outbox sealed -/
theorem r_ca_eq {k n : Nat} {d : Nat → Nat} : r_ca r s e k n d = ((r.se, r.dr, r.we, r.nx, fu r.en s (some (e_bw (td_e e k) (se e.bw (td_L e k n d)).1)), td_k r.ke e k n d), (r_ca r s e k n d).2) ∧ ao_eq (se e.bw (td_L e k n d)).2 (r_ca r s e k n d).2 := by
  have sx : sg_l e.bw (pl_c e.fn 5 (e.st.getD k s0).id 0 (fun _ => 0)) = bk_l e.bw 5 (e.st.getD k s0).id 0 d := sg_pl_l.trans bk_l0
  have sy : ∀ j, j < 140 → sg_c e.bw (pl_c e.fn 5 (e.st.getD k s0).id 0 (fun _ => 0)) j = ce_k e.fn 3 (bk_p e.bw 5 (e.st.getD k s0).id 0 d) 135 j := fun j hj => (sg_pl_c hj).trans (by rw [bk_p0 (d2 := d)])
  unfold r_ca td_L td_1 td_e td_k e_bw
  dsimp only
  by_cases c1 : i_rem ((e.st.getD k s0).ca + 1) 2 = 0
  · by_cases c2 : (e.st.getD k s0).so = 2
    · have c4 : ¬ (¬ (e.st.getD k s0).so = 2 ∧ 0 < (e.st.getD k s0).wi) := fun z => z.1 c2
      simp only [if_pos c1, if_pos c2, if_neg c4, se, sx, e_bk]
      exact ⟨rfl, ao_c sy ao_0⟩
    · by_cases c3 : 0 < (e.st.getD k s0).wi
      · simp only [if_pos c1, if_neg c2, if_pos c3, if_pos (And.intro c2 c3), se, sx, e_bk, List.cons_append, List.nil_append, sg_pl_l]
        refine ⟨Prod.ext ?_ rfl, ?_⟩
        · show (r.se, r.dr, r.we, r.nx, fu r.en s (some ((e.fr, e.fn, e.on, e.wt, e.fw, bk_l (bk_l e.bw 5 (e.st.getD k s0).id 0 d) 2 (e.st.getD k s0).id n d, (e.st.set k ((e.st.getD k s0).id, (e.st.getD k s0).so, (e.st.getD k s0).wi, (e.st.getD k s0).ca + 1)).set k ((e.st.getD k s0).id, (e.st.getD k s0).so, (e.st.getD k s0).wi - 1, (e.st.getD k s0).ca + 1)) : aE)), r.ke) = _
          rw [List.set_set]
        exact ao_c sy (ao_c (fun j hj => sg_pl_c hj) ao_0)
      · have c4 : ¬ (¬ (e.st.getD k s0).so = 2 ∧ 0 < (e.st.getD k s0).wi) := fun z => c3 z.2
        simp only [if_pos c1, if_neg c2, if_neg c3, if_neg c4, se, sx, e_bk]
        exact ⟨rfl, ao_c sy ao_0⟩
  · by_cases c2 : (e.st.getD k s0).so = 2
    · have c4 : ¬ (¬ (e.st.getD k s0).so = 2 ∧ 0 < (e.st.getD k s0).wi) := fun z => z.1 c2
      simp only [if_neg c1, if_pos c2, if_neg c4, se, e_bk]
      exact ⟨rfl, ao_0⟩
    · by_cases c3 : 0 < (e.st.getD k s0).wi
      · simp only [if_neg c1, if_neg c2, if_pos c3, if_pos (And.intro c2 c3), se, e_bk, List.nil_append, sg_pl_l]
        refine ⟨Prod.ext ?_ rfl, ?_⟩
        · show (r.se, r.dr, r.we, r.nx, fu r.en s (some ((e.fr, e.fn, e.on, e.wt, e.fw, bk_l e.bw 2 (e.st.getD k s0).id n d, (e.st.set k ((e.st.getD k s0).id, (e.st.getD k s0).so, (e.st.getD k s0).wi, (e.st.getD k s0).ca + 1)).set k ((e.st.getD k s0).id, (e.st.getD k s0).so, (e.st.getD k s0).wi - 1, (e.st.getD k s0).ca + 1)) : aE)), r.ke) = _
          rw [List.set_set]
        exact ao_c (fun j hj => sg_pl_c hj) ao_0
      · have c4 : ¬ (¬ (e.st.getD k s0).so = 2 ∧ 0 < (e.st.getD k s0).wi) := fun z => c3 z.2
        simp only [if_neg c1, if_neg c2, if_neg c3, if_neg c4, se, e_bk]
        exact ⟨rfl, ao_0⟩
set_option maxHeartbeats 16000000 in
/-- doPayload -/
theorem c_doPayload {nr : Nat} {F : Nat → Option Nat} (hnr : nr ≤ 6) (hnm : nm < 8) (hd : hs + 29 ≤ u ∧ u + 8 ≤ q ∧ q < a) (s12 : s < 12) (hot : h ot = some (on_aq 4 6 F)) (hF : ∀ j, j < 6 → (j < nr → ∃ z, F j = some z) ∧ (¬ j < nr → F j = none)) (hw : ∀ p, e.on = some p → p.1 < 10) (hn : y 14 * 256 + y 15 ≤ 124) (R : rl_S a ot hs nm (r_en r (fu r.en s (some e))) h) (O : ob_E u h) (hq : rB h q 140 y) :
    on_Ct G M_Relay_doPayload [.ref a, .ref (a + 8 + 21 * s), .ref q, .ref u] h sz 0 0 (dp_P a ot hs nm u nr s sz r e y h) := by
  have E : en_U (a + 8 + 21 * s) (hs + 4) e h := R.us s12 fu_s
  obtain ⟨onn, S, V, W, C, b, hon, hst, LF, LB⟩ := id E
  obtain ⟨X, q1, X'⟩ := id hq
  obtain ⟨k1, k2, k3, k4, k5, k6, k7, k8⟩ := id R
  have KP : kp_S (a + 7) r.ke h := ⟨k7, k8⟩
  have b0 := b.1
  have b3 := b.2.2.2.1
  have o1 : h a = some (.inr (8, [.ref (a + 1), .ref ot, .ref hs, .ref (a + 3), .ref (a + 4), .ref (a + 5), .ref (a + 6), .ref (a + 7), .int (nI r.ke.length), .int (nI r.we)])) := k1
  have hl := hst.1
  have x5 := X' 5 (by decide)
  have x8 := X' 8 (by decide)
  have x9 := X' 9 (by decide)
  have hid : y 8 * 256 + y 9 < 65536 := by omega
  have hsl : ∀ i, s_at e.st (y 8 * 256 + y 9) = some i → i < 4 := fun i hi => by
    have := s_at_lt hi
    omega
  refine on_Ct.of (by decide) v_Relay_doPayload (Nat.le_of_ble_eq_true rfl) ?_
  first | refine on_aload_n (pc' := 1) rfl rfl rfl rfl ?_ | refine on_aload_nQ (pc' := 1) rfl rfl rfl rfl ?_
  refine on_bipush (pc' := 3) (v := 8) rfl rfl lb_8 ?_
  refine on_callS (pc' := 6) (As := [.ref q, .int (nI 8)]) (rest := []) rfl rfl cw_Relay_doPayload_169 rfl rfl (Nat.le_of_ble_eq_true rfl) (Nat.zero_le _) (Nat.zero_le _) (c_pairAt (at_ := 8) q1 (by decide) x8.1 x9.1 x8.2 x9.2) ?_
  rintro v h sz ⟨rfl, rfl, rfl⟩
  refine on_istore (pc' := 8) rfl rfl (by decide) ?_
  first | refine on_aload_n (pc' := 9) rfl rfl rfl rfl ?_ | refine on_aload_nQ (pc' := 9) rfl rfl rfl rfl ?_
  refine on_iload (pc' := 11) rfl rfl rfl ?_
  refine on_callV (pc' := 14) (As := [.int (nI (y 8 * 256 + y 9))]) (rest := []) (b := a + 8 + 21 * s) rfl rfl cw_Relay_doPayload_173 (b0) rfl rfl (Nat.le_of_ble_eq_true rfl) (Nat.zero_le _) (Nat.zero_le _) (c_slotOf hid b hst) ?_
  rintro v h sz ⟨rfl, rfl, rfl⟩
  refine on_istore (pc' := 16) rfl rfl (by decide) ?_
  first | refine on_aload_n (pc' := 17) rfl rfl rfl rfl ?_ | refine on_aload_nQ (pc' := 17) rfl rfl rfl rfl ?_
  refine on_iconst (pc' := 18) (v := 5) rfl rfl li_5 ?_
  apply on_ialoadK (pc' := 19) (t := 0) (k := 5) rfl rfl
  · repeat (first | assumption | exact on_up_eq _ _ _ | refine (on_up_ne (by omega)).trans ?_)
  · rfl
  · first | assumption | exact on_lit _ | rfl
  · first | assumption | omega | decide
  rw [x5.1]
  have no : r_do nr nm r s e y = (r_en r (fu r.en s none), e_ds e) → ∀ lv, on_E G M_Relay_doPayload 164 lv [] h sz 0 0 (dp_P a ot hs nm u nr s sz r e y h) := fun z lv => by
    refine on_iconst (pc' := 165) (v := 0) rfl rfl li_0 ?_
    refine on_zreturn rfl rfl ?_ ?_
    · first | rfl | assumption
    exact ⟨rfl, Or.inr ⟨rfl, z, rfl⟩⟩
  have same : r_do nr nm r s e y = (r_en r (fu r.en s (some e)), []) → dp_P a ot hs nm u nr s sz r e y h (some (.int 1)) h sz := fun z => ⟨rfl, Or.inl ⟨rfl, r, e, [], R, rfl, Nat.zero_le _, ob_P.nil O, by rw [z]; rfl, by rw [z]; exact ao_0, fun b _ _ => rfl⟩⟩
  refine sw_dp x5.2 (fun c => ?_) (fun c => ?_) (fun c => ?_) (fun c => ?_) (fun c => ?_) (fun c14 c1 c2 c3 c5 => ?_)
  · first | refine on_aload_n (pc' := 89) rfl rfl rfl rfl ?_ | refine on_aload_nQ (pc' := 89) rfl rfl rfl rfl ?_
    first | refine on_aload_n (pc' := 90) rfl rfl rfl rfl ?_ | refine on_aload_nQ (pc' := 90) rfl rfl rfl rfl ?_
    first | refine on_aload_n (pc' := 91) rfl rfl rfl rfl ?_ | refine on_aload_nQ (pc' := 91) rfl rfl rfl rfl ?_
    first | refine on_aload_n (pc' := 92) rfl rfl rfl rfl ?_ | refine on_aload_nQ (pc' := 92) rfl rfl rfl rfl ?_
    refine on_callV (pc' := 95) (As := [.ref (a + 8 + 21 * s), .ref q, .ref u]) (rest := []) (b := a) rfl rfl cw_Relay_doPayload_177 (o1) rfl rfl (Nat.le_of_ble_eq_true rfl) (Nat.zero_le _) (Nat.zero_le _) (c_extendEntry hnr hnm ⟨hd.1, hd.2.1, hd.2.2, by omega⟩ hot hF hw k1 k2 E O hq) ?_
    rintro v h1 sz ⟨rfl, ⟨cnd, rfl, N1, E1, O1, t1⟩ | ⟨cnd, rfl, rfl⟩⟩
    · refine on_zreturn rfl rfl ?_ ?_
      · first | rfl | assumption
      have z : r_do nr nm r s e y = ((r.se, r.dr, r.we, r.nx + 1, fu r.en s (some (e.fr, e.fn, some (y 16, r.nx), true, e.fw, e.bw, e.st)), r.ke), [(y 16, ce_k (nI r.nx) 10 (fun j => y (17 + j)) 68)]) := by
        unfold r_do
        dsimp only
        rw [if_pos c, if_pos cnd]
      refine ⟨rfl, Or.inl ⟨rfl, (r.se, r.dr, r.we, r.nx + 1, r.en, r.ke), (e.fr, e.fn, some (y 16, r.nx), true, e.fw, e.bw, e.st), [(y 16, ce_k (nI r.nx) 10 (fun j => y (17 + j)) 68, false)], ?_, rfl, Nat.le_succ 1, O1, by rw [z]; rfl, by rw [z]; exact ao_c (fun j _ => rfl) ao_0, fun b b1 b2 => t1 b (by omega) (by omega) b2⟩⟩
      have := R.chg (h2 := h1) (oe := some (e.fr, e.fn, some (y 16, r.nx), true, e.fw, e.bw, e.st)) (nx := r.nx + 1) (ke := r.ke) ((t1 a (by omega) (by omega) (by omega)).trans k1) N1 E1 (KP.keep (t1 _ (by omega) (by omega) (by omega))) (fun b b1 b2 b3 b4 => t1 b (by omega) (by omega) (by omega)) s12
      rw [show fu (r_en r (fu r.en s (some e))).en s (some (e.fr, e.fn, some (y 16, r.nx), true, e.fw, e.bw, e.st)) = fu r.en s (some (e.fr, e.fn, some (y 16, r.nx), true, e.fw, e.bw, e.st)) from fu_fu] at this
      exact this
    · refine on_zreturn rfl rfl ?_ ?_
      · first | rfl | assumption
      refine ⟨rfl, Or.inr ⟨rfl, ?_, rfl⟩⟩
      unfold r_do
      dsimp only
      rw [if_pos c, if_neg cnd]
  · have n14 : ¬ y 5 = 14 := by omega
    have r1 : r_do nr nm r s e y = if y 14 * 256 + y 15 = 1 ∧ s_at e.st (y 8 * 256 + y 9) = none then (if e.st.length < 4 ∧ (y 16 = 1 ∨ y 16 = 2) then (r_en r (fu r.en s (some (e_bk (e.fr, e.fn, e.on, e.wt, e.fw, e.bw, e.st ++ [(y 8 * 256 + y 9, y 16, 4, 0)]) 4 (y 8 * 256 + y 9) 0 (fun j => y (16 + j))).1)), [(e_bk (e.fr, e.fn, e.on, e.wt, e.fw, e.bw, e.st ++ [(y 8 * 256 + y 9, y 16, 4, 0)]) 4 (y 8 * 256 + y 9) 0 (fun j => y (16 + j))).2]) else (r_en r (fu r.en s (some (e_bk e 3 (y 8 * 256 + y 9) 0 (fun j => y (16 + j))).1)), [(e_bk e 3 (y 8 * 256 + y 9) 0 (fun j => y (16 + j))).2])) else (r_en r (fu r.en s none), e_ds e) := by
      unfold r_do
      dsimp only
      rw [if_neg n14, if_pos c]
    refine on_iload (pc' := 98) rfl rfl rfl ?_
    refine on_iconst (pc' := 99) (v := (-1)) rfl rfl li_m1 ?_
    refine on_icmp_ne (pc' := 102) (tgt := 118) rfl rfl rfl (fun cq => ?_) (fun cq => ?_)
    · refine on_relv (l := []) trivial ?_
      refine on_iconst (pc' := 119) (v := 0) rfl rfl li_0 ?_
      refine on_zreturn rfl rfl ?_ ?_
      · first | rfl | assumption
      exact ⟨rfl, Or.inr ⟨rfl, r1.trans (if_neg (fun z => cq ((kI_n hsl).mpr z.2))), rfl⟩⟩
    · have cs := (kI_n hsl).mp cq
      clear cq
      first | refine on_aload_n (pc' := 103) rfl rfl rfl rfl ?_ | refine on_aload_nQ (pc' := 103) rfl rfl rfl rfl ?_
      first | refine on_aload_n (pc' := 104) rfl rfl rfl rfl ?_ | refine on_aload_nQ (pc' := 104) rfl rfl rfl rfl ?_
      refine on_iload (pc' := 106) rfl rfl rfl ?_
      first | refine on_aload_n (pc' := 107) rfl rfl rfl rfl ?_ | refine on_aload_nQ (pc' := 107) rfl rfl rfl rfl ?_
      first | refine on_aload_n (pc' := 108) rfl rfl rfl rfl ?_ | refine on_aload_nQ (pc' := 108) rfl rfl rfl rfl ?_
      refine on_callV (pc' := 111) (As := [.ref (a + 8 + 21 * s), .int (nI (y 8 * 256 + y 9)), .ref q, .ref u]) (rest := []) (b := a) rfl rfl cw_Relay_doPayload_180 (o1) rfl rfl (Nat.le_of_ble_eq_true rfl) (Nat.zero_le _) (Nat.zero_le _) (c_beginStream (hs := hs) hid ⟨hd.2.1, by omega⟩ E O hq) ?_
      rintro v h1 sz ⟨rfl, ⟨cnd, rfl, E1, O1, t1⟩ | ⟨cnd, rfl, E1, O1, t1⟩ | ⟨cnd, rfl, rfl⟩⟩
      · refine on_if_eq (pc' := 114) (tgt := 118) rfl rfl rfl (fun cq => ?_) (fun cq => ?_)
        · exact absurd cq (by decide)
        · clear cq
          refine on_iconst (pc' := 115) (v := 1) rfl rfl li_1 ?_
          refine on_goto (tgt := 119) rfl rfl ?_
          refine on_zreturn rfl rfl ?_ ?_
          · first | rfl | assumption
          have z := r1.trans ((if_pos ⟨cnd.1, cs⟩).trans (if_pos cnd.2))
          refine ⟨rfl, Or.inl ⟨rfl, r, (e.fr, e.fn, e.on, e.wt, e.fw, e.bw, e.st ++ [(y 8 * 256 + y 9, y 16, 4, 0)]), [(e.fr, pl_c e.fn 4 (y 8 * 256 + y 9) 0 (fun _ => 0), true)], ?_, rfl, Nat.le_succ 1, O1, ?_, ?_, fun b b1 b2 => t1 b (by omega) b2⟩⟩
          · have := R.ent (h2 := h1) (k := s) (oe := some (e.fr, e.fn, e.on, e.wt, e.fw, e.bw, e.st ++ [(y 8 * 256 + y 9, y 16, 4, 0)])) s12 E1 (fun b b1 b2 b3 => t1 b (by omega) (by omega))
            rw [show fu (r_en r (fu r.en s (some e))).en s (some (e.fr, e.fn, e.on, e.wt, e.fw, e.bw, e.st ++ [(y 8 * 256 + y 9, y 16, 4, 0)])) = fu r.en s (some (e.fr, e.fn, e.on, e.wt, e.fw, e.bw, e.st ++ [(y 8 * 256 + y 9, y 16, 4, 0)])) from fu_fu] at this
            exact this
          · rw [z]
            refine Prod.ext ?_ rfl
            show r_en r (fu r.en s (some (e.fr, e.fn, e.on, e.wt, e.fw, bk_l e.bw 4 (y 8 * 256 + y 9) 0 (fun j => y (16 + j)), e.st ++ [(y 8 * 256 + y 9, y 16, 4, 0)]))) = r_en r (fu r.en s (some (e.fr, e.fn, e.on, e.wt, e.fw, sg_l e.bw (pl_c e.fn 4 (y 8 * 256 + y 9) 0 (fun _ => 0)), e.st ++ [(y 8 * 256 + y 9, y 16, 4, 0)])))
            rw [sg_pl_l, bk_l0]
          · rw [z]
            exact ao_c (fun j hj => (sg_pl_c hj).trans (by rw [bk_p0])) ao_0
      · refine on_if_eq (pc' := 114) (tgt := 118) rfl rfl rfl (fun cq => ?_) (fun cq => ?_)
        · exact absurd cq (by decide)
        · clear cq
          refine on_iconst (pc' := 115) (v := 1) rfl rfl li_1 ?_
          refine on_goto (tgt := 119) rfl rfl ?_
          refine on_zreturn rfl rfl ?_ ?_
          · first | rfl | assumption
          have z := r1.trans ((if_pos ⟨cnd.1, cs⟩).trans (if_neg cnd.2))
          refine ⟨rfl, Or.inl ⟨rfl, r, e, [(e.fr, pl_c e.fn 3 (y 8 * 256 + y 9) 0 (fun _ => 0), true)], ?_, rfl, Nat.le_succ 1, O1, ?_, ?_, fun b b1 b2 => t1 b (by omega) b2⟩⟩
          · have := R.ent (h2 := h1) (k := s) (oe := some e) s12 E1 (fun b b1 b2 b3 => t1 b (by omega) (by omega))
            rw [show fu (r_en r (fu r.en s (some e))).en s (some e) = fu r.en s (some e) from fu_fu] at this
            exact this
          · rw [z]
            refine Prod.ext ?_ rfl
            show r_en r (fu r.en s (some (e.fr, e.fn, e.on, e.wt, e.fw, bk_l e.bw 3 (y 8 * 256 + y 9) 0 (fun j => y (16 + j)), e.st))) = r_en r (fu r.en s (some (e.fr, e.fn, e.on, e.wt, e.fw, sg_l e.bw (pl_c e.fn 3 (y 8 * 256 + y 9) 0 (fun _ => 0)), e.st)))
            rw [sg_pl_l, bk_l0]
          · rw [z]
            exact ao_c (fun j hj => (sg_pl_c hj).trans (by rw [bk_p0])) ao_0
      · refine on_if_eq (pc' := 114) (tgt := 118) rfl rfl rfl (fun cq => ?_) (fun cq => ?_)
        · refine on_relv (l := []) trivial ?_
          refine on_iconst (pc' := 119) (v := 0) rfl rfl li_0 ?_
          refine on_zreturn rfl rfl ?_ ?_
          · first | rfl | assumption
          exact ⟨rfl, Or.inr ⟨rfl, r1.trans (if_neg (fun z => cnd z.1)), rfl⟩⟩
        · exact absurd rfl cq
  · have r1 : r_do nr nm r s e y = match s_at e.st (y 8 * 256 + y 9) with | some k => r_ca r s e k (y 14 * 256 + y 15) (fun j => y (16 + j)) | none => (r_en r (fu r.en s (some e)), []) := by
      unfold r_do
      dsimp only
      rw [if_neg (by omega), if_neg (by omega), if_pos c]
      rfl
    cases hk : s_at e.st (y 8 * 256 + y 9) with
    | none =>
      rw [hk] at r1
      refine on_iload (pc' := 122) rfl rfl rfl ?_
      refine on_iconst (pc' := 123) (v := (-1)) rfl rfl li_m1 ?_
      refine on_icmp_eq (pc' := 126) (tgt := 135) rfl rfl rfl (fun cq => ?_) (fun cq => ?_)
      · refine on_iconst (pc' := 136) (v := 1) rfl rfl li_1 ?_
        refine on_zreturn rfl rfl ?_ ?_
        · first | rfl | assumption
        exact same r1
      · exact absurd rfl cq
    | some k =>
      rw [hk] at r1
      have k4 := hsl k hk
      refine on_iload (pc' := 122) rfl rfl rfl ?_
      refine on_iconst (pc' := 123) (v := (-1)) rfl rfl li_m1 ?_
      refine on_icmp_eq (pc' := 126) (tgt := 135) rfl rfl rfl (fun cq => ?_) (fun cq => ?_)
      · exact absurd cq ((by decide : ∀ f, f < 4 → ¬ (nI f = (-1 : Int32))) k k4)
      · clear cq
        first | refine on_aload_n (pc' := 127) rfl rfl rfl rfl ?_ | refine on_aload_nQ (pc' := 127) rfl rfl rfl rfl ?_
        first | refine on_aload_n (pc' := 128) rfl rfl rfl rfl ?_ | refine on_aload_nQ (pc' := 128) rfl rfl rfl rfl ?_
        refine on_iload (pc' := 130) rfl rfl rfl ?_
        first | refine on_aload_n (pc' := 131) rfl rfl rfl rfl ?_ | refine on_aload_nQ (pc' := 131) rfl rfl rfl rfl ?_
        first | refine on_aload_n (pc' := 132) rfl rfl rfl rfl ?_ | refine on_aload_nQ (pc' := 132) rfl rfl rfl rfl ?_
        refine on_callV (pc' := 135) (As := [.ref (a + 8 + 21 * s), .int (nI k), .ref q, .ref u]) (rest := []) (b := a) rfl rfl cw_Relay_doPayload_184 (o1) rfl rfl (Nat.le_of_ble_eq_true rfl) (Nat.zero_le _) (Nat.zero_le _) (c_takeData (w := nI r.we) (n := y 14 * 256 + y 15) ⟨hd.2.1, hd.2.2, by omega⟩ ⟨rfl, hn⟩ (s_at_lt hk) KP k1 hq E O) ?_
        rintro v h1 sz ⟨rfl, rfl, E1, O1, K1, R1, t1⟩
        refine on_iconst (pc' := 136) (v := 1) rfl rfl li_1 ?_
        refine on_zreturn rfl rfl ?_ ?_
        · first | rfl | assumption
        obtain ⟨z1, z2⟩ := r_ca_eq (r := r) (s := s) (e := e) (k := k) (n := y 14 * 256 + y 15) (d := fun j => y (16 + j))
        have r2 : r_do nr nm r s e y = r_ca r s e k (y 14 * 256 + y 15) (fun j => y (16 + j)) := r1
        refine ⟨rfl, Or.inl ⟨rfl, (r.se, r.dr, r.we, r.nx, r.en, td_k r.ke e k (y 14 * 256 + y 15) (fun j => y (16 + j))), td_e e k, _, ?_, rfl, td_len, O1, by rw [r2]; exact z1, by rw [r2]; exact z2, fun b b1 b2 => t1 b (by omega) (by omega) (by omega) b2⟩⟩
        have := R.chg (h2 := h1) (s := s) (oe := some (td_e e k)) (nx := r.nx) (ke := td_k r.ke e k (y 14 * 256 + y 15) (fun j => y (16 + j))) R1 (k2.keep (t1 _ (by omega) (by omega) (by omega) (by omega)) (t1 _ (by omega) (by omega) (by omega) (by omega))) E1 K1 (fun b b1 b2 b3 b4 => t1 b (by omega) (by omega) (by omega) (by omega)) s12
        rw [show fu (r_en r (fu r.en s (some e))).en s (some (td_e e k)) = fu r.en s (some (td_e e k)) from fu_fu] at this
        exact this
  · have r1 : r_do nr nm r s e y = match s_at e.st (y 8 * 256 + y 9) with | some k => (r_en r (fu r.en s (some (e.fr, e.fn, e.on, e.wt, e.fw, e.bw, s_rm e.st k))), []) | none => (r_en r (fu r.en s (some e)), []) := by
      unfold r_do
      dsimp only
      rw [if_neg (by omega), if_neg (by omega), if_neg (by omega), if_pos c]
      rfl
    cases hk : s_at e.st (y 8 * 256 + y 9) with
    | none =>
      rw [hk] at r1
      first | refine on_aload_n (pc' := 138) rfl rfl rfl rfl ?_ | refine on_aload_nQ (pc' := 138) rfl rfl rfl rfl ?_
      refine on_iload (pc' := 140) rfl rfl rfl ?_
      refine on_callV (pc' := 143) (As := [.int (kI (none))]) (rest := []) (b := a + 8 + 21 * s) rfl rfl cw_Relay_doPayload_188 (b0) rfl rfl (Nat.le_of_ble_eq_true rfl) (Nat.zero_le _) (Nat.zero_le _) (c_removeStream (k := none) (fun i hi => nomatch hi) b hst) ?_
      rintro v h1 sz ⟨rfl, rfl, t1, S2, V2, W2, C2, b2, st2⟩
      refine on_iconst (pc' := 144) (v := 1) rfl rfl li_1 ?_
      refine on_zreturn rfl rfl ?_ ?_
      · first | rfl | assumption
      have E1 : en_U (a + 8 + 21 * s) (hs + 4) (e.fr, e.fn, e.on, e.wt, e.fw, e.bw, e.st) h1 := ⟨onn, S2, V2, W2, C2, b2, hon, st2, LF.keep (fun b _ _ => t1 b (by omega)), LB.keep (fun b _ _ => t1 b (by omega))⟩
      have r2 : r_do nr nm r s e y = (r_en r (fu r.en s (some (e.fr, e.fn, e.on, e.wt, e.fw, e.bw, e.st))), []) := r1
      refine ⟨rfl, Or.inl ⟨rfl, r, (e.fr, e.fn, e.on, e.wt, e.fw, e.bw, e.st), [], ?_, rfl, Nat.zero_le _, ob_P.nil (ob_S.keep O (fun b _ _ => t1 b (by omega))), by rw [r2]; rfl, by rw [r2]; exact ao_0, fun b b1 b2 => t1 b (by omega)⟩⟩
      have := R.ent (h2 := h1) (k := s) (oe := some (e.fr, e.fn, e.on, e.wt, e.fw, e.bw, e.st)) s12 E1 (fun b b1 b2 b3 => t1 b (by omega))
      rw [show fu (r_en r (fu r.en s (some e))).en s (some (e.fr, e.fn, e.on, e.wt, e.fw, e.bw, e.st)) = fu r.en s (some (e.fr, e.fn, e.on, e.wt, e.fw, e.bw, e.st)) from fu_fu] at this
      exact this
    | some k =>
      rw [hk] at r1
      first | refine on_aload_n (pc' := 138) rfl rfl rfl rfl ?_ | refine on_aload_nQ (pc' := 138) rfl rfl rfl rfl ?_
      refine on_iload (pc' := 140) rfl rfl rfl ?_
      refine on_callV (pc' := 143) (As := [.int (kI (some k))]) (rest := []) (b := a + 8 + 21 * s) rfl rfl cw_Relay_doPayload_188 (b0) rfl rfl (Nat.le_of_ble_eq_true rfl) (Nat.zero_le _) (Nat.zero_le _) (c_removeStream (k := some k) (fun i hi => Option.some.inj hi ▸ s_at_lt hk) b hst) ?_
      rintro v h1 sz ⟨rfl, rfl, t1, S2, V2, W2, C2, b2, st2⟩
      refine on_iconst (pc' := 144) (v := 1) rfl rfl li_1 ?_
      refine on_zreturn rfl rfl ?_ ?_
      · first | rfl | assumption
      have E1 : en_U (a + 8 + 21 * s) (hs + 4) (e.fr, e.fn, e.on, e.wt, e.fw, e.bw, s_rm e.st k) h1 := ⟨onn, S2, V2, W2, C2, b2, hon, st2, LF.keep (fun b _ _ => t1 b (by omega)), LB.keep (fun b _ _ => t1 b (by omega))⟩
      have r2 : r_do nr nm r s e y = (r_en r (fu r.en s (some (e.fr, e.fn, e.on, e.wt, e.fw, e.bw, s_rm e.st k))), []) := r1
      refine ⟨rfl, Or.inl ⟨rfl, r, (e.fr, e.fn, e.on, e.wt, e.fw, e.bw, s_rm e.st k), [], ?_, rfl, Nat.zero_le _, ob_P.nil (ob_S.keep O (fun b _ _ => t1 b (by omega))), by rw [r2]; rfl, by rw [r2]; exact ao_0, fun b b1 b2 => t1 b (by omega)⟩⟩
      have := R.ent (h2 := h1) (k := s) (oe := some (e.fr, e.fn, e.on, e.wt, e.fw, e.bw, s_rm e.st k)) s12 E1 (fun b b1 b2 b3 => t1 b (by omega))
      rw [show fu (r_en r (fu r.en s (some e))).en s (some (e.fr, e.fn, e.on, e.wt, e.fw, e.bw, s_rm e.st k)) = fu r.en s (some (e.fr, e.fn, e.on, e.wt, e.fw, e.bw, s_rm e.st k)) from fu_fu] at this
      exact this
  · have r1 : r_do nr nm r s e y = match s_at e.st (y 8 * 256 + y 9) with | some k => (r_en r (fu r.en s (some (e.fr, e.fn, e.on, e.wt, e.fw, e.bw, e.st.set k (let q := e.st.getD k (0, 0, 0, 0); (q.id, q.so, q.wi + 2, q.ca))))), []) | none => (r_en r (fu r.en s (some e)), []) := by
      unfold r_do
      dsimp only
      rw [if_neg (by omega), if_neg (by omega), if_neg (by omega), if_neg (by omega), if_pos c]
      rfl
    cases hk : s_at e.st (y 8 * 256 + y 9) with
    | none =>
      rw [hk] at r1
      refine on_iload (pc' := 147) rfl rfl rfl ?_
      refine on_iconst (pc' := 148) (v := (-1)) rfl rfl li_m1 ?_
      refine on_icmp_eq (pc' := 151) (tgt := 162) rfl rfl rfl (fun cq => ?_) (fun cq => ?_)
      · refine on_iconst (pc' := 163) (v := 1) rfl rfl li_1 ?_
        refine on_zreturn rfl rfl ?_ ?_
        · first | rfl | assumption
        exact same r1
      · exact absurd rfl cq
    | some k =>
      rw [hk] at r1
      have k4 := hsl k hk
      have i4 : k < 4 ∧ 4 < 2 ^ 31 := by omega
      obtain ⟨q1', q2, q3, q4, q5, q6⟩ := hst.2 k (s_at_lt hk)
      refine on_iload (pc' := 147) rfl rfl rfl ?_
      refine on_iconst (pc' := 148) (v := (-1)) rfl rfl li_m1 ?_
      refine on_icmp_eq (pc' := 151) (tgt := 162) rfl rfl rfl (fun cq => ?_) (fun cq => ?_)
      · exact absurd cq ((by decide : ∀ f, f < 4 → ¬ (nI f = (-1 : Int32))) k k4)
      · clear cq
        have ek : kI (some k) = nI k := rfl
        first | refine on_aload_n (pc' := 152) rfl rfl rfl rfl ?_ | refine on_aload_nQ (pc' := 152) rfl rfl rfl rfl ?_
        first | apply on_get (pc' := 155) rfl rfl fl_Relay_192 | apply on_getN (pc' := 155) rfl rfl fl_Relay_192
        · repeat (first | assumption | exact on_up_eq _ _ _ | refine (on_up_ne (by omega)).trans ?_)
        · rfl
        refine on_iload (pc' := 157) rfl rfl rfl ?_
        first | refine on_dup2_11 (pc' := 158) rfl rfl rfl rfl ?_ | refine on_dup2_2 (pc' := 158) rfl rfl rfl ?_
        apply on_ialoadK (pc' := 159) (t := 0) rfl rfl
        · repeat (first | assumption | exact on_up_eq _ _ _ | refine (on_up_ne (by omega)).trans ?_)
        · rfl
        · first | assumption | exact on_lit _ | rfl
        · first | assumption | omega | decide
        refine on_iconst (pc' := 160) (v := 2) rfl rfl li_2 ?_
        refine on_iadd (pc' := 161) rfl rfl ?_
        apply on_iastoreK (pc' := 162) (t := 0) rfl rfl
        · repeat (first | assumption | exact on_up_eq _ _ _ | refine (on_up_ne (by omega)).trans ?_)
        · rfl
        · first | assumption | exact on_lit _ | rfl
        · first | assumption | omega | decide
        rw [q3]
        refine on_iconst (pc' := 163) (v := 1) rfl rfl li_1 ?_
        refine on_zreturn rfl rfl ?_ ?_
        · first | rfl | assumption
        have r2 : r_do nr nm r s e y = (r_en r (fu r.en s (some (e.fr, e.fn, e.on, e.wt, e.fw, e.bw, e.st.set k ((e.st.getD k s0).id, (e.st.getD k s0).so, (e.st.getD k s0).wi + 2, (e.st.getD k s0).ca)))), []) := r1
        have E1 : en_U (a + 8 + 21 * s) (hs + 4) (e.fr, e.fn, e.on, e.wt, e.fw, e.bw, e.st.set k ((e.st.getD k s0).id, (e.st.getD k s0).so, (e.st.getD k s0).wi + 2, (e.st.getD k s0).ca)) (on_up h (a + 8 + 21 * s + 3) (on_ai 0 4 (upd W k ((e.st.getD k s0).wi + 2)))) := by
          refine ⟨onn, S, V, upd W k ((e.st.getD k s0).wi + 2), C, ?_, hon, hst.set (s_at_lt hk) pk_us (fun i hi => pk_un hi) q4 (fun i _ => rfl), LF.keep (fun b _ _ => on_up_ne (by omega)), LB.keep (fun b _ _ => on_up_ne (by omega))⟩
          show en_B _ (nI (e.st.set k _).length) _ _ _ _ _ _ _ _ _ _ _
          rw [List.length_set]
          exact ⟨(on_up_ne (by omega)).trans b0, (on_up_ne (by omega)).trans b.2.1, (on_up_ne (by omega)).trans b.2.2.1, on_up_eq _ _ _, (on_up_ne (by omega)).trans b.2.2.2.2⟩
        refine ⟨rfl, Or.inl ⟨rfl, r, (e.fr, e.fn, e.on, e.wt, e.fw, e.bw, e.st.set k ((e.st.getD k s0).id, (e.st.getD k s0).so, (e.st.getD k s0).wi + 2, (e.st.getD k s0).ca)), [], ?_, rfl, Nat.zero_le _, ob_P.nil (ob_S.keep O (fun b _ _ => on_up_ne (by omega))), by rw [r2]; rfl, by rw [r2]; exact ao_0, fun b b1 b2 => on_up_ne (by omega)⟩⟩
        have := R.ent (k := s) (oe := some (e.fr, e.fn, e.on, e.wt, e.fw, e.bw, e.st.set k ((e.st.getD k s0).id, (e.st.getD k s0).so, (e.st.getD k s0).wi + 2, (e.st.getD k s0).ca))) s12 E1 (fun b b1 b2 b3 => on_up_ne (by omega))
        rw [show fu (r_en r (fu r.en s (some e))).en s (some (e.fr, e.fn, e.on, e.wt, e.fw, e.bw, e.st.set k ((e.st.getD k s0).id, (e.st.getD k s0).so, (e.st.getD k s0).wi + 2, (e.st.getD k s0).ca))) = fu r.en s (some (e.fr, e.fn, e.on, e.wt, e.fw, e.bw, e.st.set k ((e.st.getD k s0).id, (e.st.getD k s0).so, (e.st.getD k s0).wi + 2, (e.st.getD k s0).ca))) from fu_fu] at this
        exact this
  · refine no ?_ _
    unfold r_do
    dsimp only
    rw [if_neg c14, if_neg c1, if_neg c2, if_neg c3, if_neg c5]
end RDO
