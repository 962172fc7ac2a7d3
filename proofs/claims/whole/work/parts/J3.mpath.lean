/-! the reference: path -/
theorem d_t_n {rs : Nat → aR} {D n : Nat} : ∀ {j : Nat}, (∀ i, i < j → d_p rs D n i = false) → d_t rs D j ≤ n
  | 0, _ => Nat.zero_le _
  | j + 1, h => by
    have := of_decide_eq_false (h j (Nat.lt_succ_self j))
    exact Nat.not_lt.mp this
theorem su_w (v : Int64) {k : Nat} (hk : k < 64) : sl_u v (nI k) &&& 1048575 = lN (v.toBitVec.toNat / 2 ^ k % 2 ^ 20) := by
  have e : v = lN v.toBitVec.toNat := by
    apply Int64.toBitVec_inj.mp
    show v.toBitVec = BitVec.ofNat 64 v.toBitVec.toNat
    rw [BitVec.ofNat_toNat, BitVec.setWidth_eq]
  have h1 : sl_u v (nI k) = lN (v.toBitVec.toNat / 2 ^ k) := by
    have := wb_shr (n := v.toBitVec.toNat) v.toBitVec.isLt hk
    rw [← e] at this
    exact this
  rw [h1]
  exact wb_mask (k := 20) (Nat.lt_of_le_of_lt (Nat.div_le_self _ _) v.toBitVec.isLt) (by decide)
theorem dw_bitr {s a : Nat} (hs : s < 8) (ha : a < 256) : (sh_r (nI a) (nI s) &&& 1 = 0) ↔ a / 2 ^ s % 2 = 0 := by
  rw [nI_shr1 s hs a ha, show (0 : Int32) = nI 0 from rfl]
  exact nI_eq (by omega) (by decide)
section MPT
variable {G : on_G} {o sz B bc bs : Nat} {RA CA : Nat → Nat} {a : aN} {h : on_H} {word : Int64} {k : Int32} {Q : Option Value → on_H → Nat → Prop}
theorem mX.robn {j : Nat} (X : mX o sz RA CA a h) (hj : j < a.nr) : ∃ n : Int32, h (RA j) = some (.inr (15, [.long (a.r j).se, .int (a.r j).dr, .ref (RA j + 1), .ref (RA j + 2), .ref (RA j + 3), .int (nI (a.r j).we), .int (nI (a.r j).nx), .ref (RA j + 4), .int n, .ref (RA j + 5), .int (nI (a.r j).ke.length)])) := by
  obtain ⟨n, ord, es, y1, y2⟩ := X.2.2.2.2.1 j hj
  exact ⟨nI n, y1.1⟩
set_option maxHeartbeats 8000000 in
theorem mpa_1 {n D i : Nat} {r : Option Nat} (X : mX o sz RA CA a h) (V : n_V B a) (hD : D < 64)
    (kk : on_E G M_M_path 77 (on_l [(0, .ref o), (1, .long word), (3, .int (nI n)), (4, .int (nI D)), (6, .int (nI i)), (7, .long (lN (d_t a.r D a.nr)))]) [] h sz bc bs Q) :
    ∀ (m j : Nat), j + m = a.nr → on_E G M_M_path 32 (on_l [(0, .ref o), (1, .long word), (3, .int (nI n)), (4, .int (nI D)), (6, .int (nI i)), (7, .long (lN (d_t a.r D j))), (9, .int (nI j))]) [] h sz bc bs Q := by
  have o1 := X.1.ob.1
  have rr := X.2.2.1.1
  have v1 := V.1.1
  intro m
  induction m with
  | zero =>
    intro j hj
    obtain rfl : j = a.nr := by omega
    refine on_iload (pc' := 34) rfl rfl rfl ?_
    first | refine on_aload_n (pc' := 35) rfl rfl rfl rfl ?_ | refine on_aload_nQ (pc' := 35) rfl rfl rfl rfl ?_
    first | apply on_get (pc' := 38) rfl rfl fl_M_271 | apply on_getN (pc' := 38) rfl rfl fl_M_271
    · repeat (first | assumption | exact on_up_eq _ _ _ | refine (on_up_ne (by omega)).trans ?_)
    · rfl
    refine on_icmp_ge (pc' := 41) (tgt := 77) rfl rfl rfl (fun cq => ?_) (fun cq => ?_)
    · exact on_relv (l := [(0, .ref o), (1, .long word), (3, .int (nI n)), (4, .int (nI D)), (6, .int (nI i)), (7, .long (lN (d_t a.r D a.nr)))]) ⟨rfl, rfl, rfl, rfl, rfl, rfl, trivial⟩ kk
    · exact absurd (nI_le (a := a.nr) (Nat.le_refl _) (by omega)) cq
  | succ m ih =>
    intro j hj
    have hjr : j < a.nr := by omega
    have i6 : j < 6 ∧ 6 < 2 ^ 31 := by omega
    obtain ⟨nn, r0⟩ := X.robn hjr
    have w1 := (V.2.1 j hjr).1
    have next : ∀ lv v, d_w a.r D j = v → lv 0 = some (.ref o) → lv 1 = some (.long word) → lv 3 = some (.int (nI n)) → lv 4 = some (.int (nI D)) → lv 6 = some (.int (nI i)) → lv 9 = some (.int (nI j)) → on_E G M_M_path 68 lv [.long (lN v), .long (lN (d_t a.r D j))] h sz bc bs Q := fun lv v e l0 l1 l3 l4 l6 l9 => by
      refine on_relv (l := [(0, .ref o), (1, .long word), (3, .int (nI n)), (4, .int (nI D)), (6, .int (nI i)), (9, .int (nI j))]) ⟨l0, l1, l3, l4, l6, l9, trivial⟩ ?_
      refine on_ladd (pc' := 69) rfl rfl ?_
      refine on_lstore (pc' := 71) rfl rfl (by decide) ?_
      refine on_iinc1 (pc' := 74) rfl rfl rfl ?_
      refine on_goto (tgt := 32) rfl rfl ?_
      exact on_relv (l := [(0, .ref o), (1, .long word), (3, .int (nI n)), (4, .int (nI D)), (6, .int (nI i)), (7, .long (lN (d_t a.r D (j + 1)))), (9, .int (nI (j + 1)))]) ⟨rfl, rfl, rfl, rfl, rfl, congrArg some (congrArg Value.long (by rw [lN_add, ← e]; rfl)), congrArg some (congrArg Value.int (nI_1 j)), trivial⟩ (ih (j + 1) (by omega))
    refine on_iload (pc' := 34) rfl rfl rfl ?_
    first | refine on_aload_n (pc' := 35) rfl rfl rfl rfl ?_ | refine on_aload_nQ (pc' := 35) rfl rfl rfl rfl ?_
    first | apply on_get (pc' := 38) rfl rfl fl_M_271 | apply on_getN (pc' := 38) rfl rfl fl_M_271
    · repeat (first | assumption | exact on_up_eq _ _ _ | refine (on_up_ne (by omega)).trans ?_)
    · rfl
    refine on_icmp_ge (pc' := 41) (tgt := 77) rfl rfl rfl (fun cq => ?_) (fun cq => ?_)
    · exact absurd cq (nI_ge (b := a.nr) hjr (by omega))
    clear cq
    refine on_lload (pc' := 43) rfl rfl rfl ?_
    refine on_iload (pc' := 45) rfl rfl rfl ?_
    refine on_iload (pc' := 47) rfl rfl rfl ?_
    refine on_ishr (pc' := 48) rfl rfl ?_
    refine on_iconst (pc' := 49) (v := 1) rfl rfl li_1 ?_
    refine on_iand (pc' := 50) rfl rfl ?_
    refine on_if_ne (pc' := 53) (tgt := 67) rfl rfl rfl (fun cq => ?_) (fun cq => ?_)
    · have z : ¬ D / 2 ^ j % 2 = 0 := fun w => cq ((dw_bitr (by omega) (by omega)).mpr w)
      refine on_lconst (pc' := 68) (v := 0) rfl rfl ll_0 ?_
      exact next _ 0 (if_neg z) rfl rfl rfl rfl rfl rfl
    · have z := (dw_bitr (s := j) (a := D) (by omega) (by omega)).mp cq
      clear cq
      first | refine on_aload_n (pc' := 54) rfl rfl rfl rfl ?_ | refine on_aload_nQ (pc' := 54) rfl rfl rfl rfl ?_
      first | apply on_get (pc' := 57) rfl rfl fl_M_9 | apply on_getN (pc' := 57) rfl rfl fl_M_9
      · repeat (first | assumption | exact on_up_eq _ _ _ | refine (on_up_ne (by omega)).trans ?_)
      · rfl
      refine on_iload (pc' := 59) rfl rfl rfl ?_
      apply on_aaloadK (pc' := 60) rfl rfl
      · repeat (first | assumption | exact on_up_eq _ _ _ | refine (on_up_ne (by omega)).trans ?_)
      · rfl
      · first | assumption | exact on_lit _ | rfl
      · first | assumption | omega | decide
      rw [rf_at hjr]
      show on_E G M_M_path 60 _ [.ref (RA j), .long (lN (d_t a.r D j))] h sz _ _ _
      first | apply on_get (pc' := 63) rfl rfl fl_M_311 | apply on_getN (pc' := 63) rfl rfl fl_M_311
      · repeat (first | assumption | exact on_up_eq _ _ _ | refine (on_up_ne (by omega)).trans ?_)
      · rfl
      refine on_i2l (pc' := 64) rfl rfl ?_
      refine on_goto (tgt := 68) rfl rfl ?_
      rw [nI_l (by omega)]
      exact next _ (a.r j).we (if_pos z) rfl rfl rfl rfl rfl rfl
set_option maxHeartbeats 8000000 in
theorem mpa_2 {n D i b : Nat} (X : mX o sz RA CA a h) (V : n_V B a) (hD : D < 64) (hb : b < d_t a.r D a.nr)
    (kk : ∀ j, j < a.nr → (List.range a.nr).find? (d_p a.r D b) = some j → on_E G M_M_path 188 (on_l [(0, .ref o), (1, .long word), (3, .int (nI n)), (4, .int (nI D)), (5, .int (nI j)), (6, .int (nI i))]) [] h sz bc bs Q) :
    ∀ (m j : Nat), j + m = a.nr → (∀ i, i < j → d_p a.r D b i = false) → on_E G M_M_path 111 (on_l [(0, .ref o), (1, .long word), (3, .int (nI n)), (4, .int (nI D)), (5, .int (-1)), (6, .int (nI i)), (9, .long (lN b)), (11, .long (lN (d_t a.r D j))), (13, .int (nI j))]) [] h sz bc bs Q := by
  have o1 := X.1.ob.1
  have rr := X.2.2.1.1
  have v1 := V.1.1
  have tl := d_t_le (D := D) (fun i hi => (V.2.1 i hi).1) a.nr (Nat.le_refl _)
  intro m
  induction m with
  | zero =>
    intro j hj hf
    obtain rfl : j = a.nr := by omega
    exact absurd (d_t_n hf) (by omega)
  | succ m ih =>
    intro j hj hf
    have hjr : j < a.nr := by omega
    have i6 : j < 6 ∧ 6 < 2 ^ 31 := by omega
    obtain ⟨nn, r0⟩ := X.robn hjr
    have w1 := (V.2.1 j hjr).1
    have tj := d_t_le (D := D) (fun i hi => (V.2.1 i hi).1) (j + 1) hjr
    have le0 := d_t_n hf
    have no : ∀ lv, d_p a.r D b j = false → lv 0 = some (.ref o) → lv 1 = some (.long word) → lv 3 = some (.int (nI n)) → lv 4 = some (.int (nI D)) → lv 6 = some (.int (nI i)) → lv 9 = some (.long (lN b)) → lv 11 = some (.long (lN (d_t a.r D (j + 1)))) → lv 13 = some (.int (nI j)) → on_E G M_M_path 179 lv [] h sz bc bs Q := fun lv pf l0 l1 l3 l4 l6 l9 l11 l13 => by
      refine on_relv (l := [(0, .ref o), (1, .long word), (3, .int (nI n)), (4, .int (nI D)), (6, .int (nI i)), (9, .long (lN b)), (11, .long (lN (d_t a.r D (j + 1)))), (13, .int (nI j))]) ⟨l0, l1, l3, l4, l6, l9, l11, l13, trivial⟩ ?_
      refine on_iconst (pc' := 180) (v := (-1)) rfl rfl li_m1 ?_
      refine on_istore (pc' := 182) rfl rfl (by decide) ?_
      refine on_iinc1 (pc' := 185) rfl rfl rfl ?_
      refine on_goto (tgt := 111) rfl rfl ?_
      refine on_relv (l := [(0, .ref o), (1, .long word), (3, .int (nI n)), (4, .int (nI D)), (5, .int (-1)), (6, .int (nI i)), (9, .long (lN b)), (11, .long (lN (d_t a.r D (j + 1)))), (13, .int (nI (j + 1)))]) ⟨rfl, rfl, rfl, rfl, rfl, rfl, rfl, rfl, congrArg some (congrArg Value.int (nI_1 j)), trivial⟩ (ih (j + 1) (by omega) (fun q hq => ?_))
      by_cases z : q = j
      · rw [z]
        exact pf
      · exact hf q (by omega)
    have next : ∀ lv v, d_w a.r D j = v → lv 0 = some (.ref o) → lv 1 = some (.long word) → lv 3 = some (.int (nI n)) → lv 4 = some (.int (nI D)) → lv 6 = some (.int (nI i)) → lv 9 = some (.long (lN b)) → lv 13 = some (.int (nI j)) → on_E G M_M_path 153 lv [.long (lN v), .long (lN (d_t a.r D j))] h sz bc bs Q := fun lv v e l0 l1 l3 l4 l6 l9 l13 => by
      have et : d_t a.r D j + v = d_t a.r D (j + 1) := by
        rw [← e]
        rfl
      refine on_relv (l := [(0, .ref o), (1, .long word), (3, .int (nI n)), (4, .int (nI D)), (6, .int (nI i)), (9, .long (lN b)), (13, .int (nI j))]) ⟨l0, l1, l3, l4, l6, l9, l13, trivial⟩ ?_
      refine on_ladd (pc' := 154) rfl rfl ?_
      rw [lN_add, et]
      refine on_lstore (pc' := 156) rfl rfl (by decide) ?_
      refine on_iload (pc' := 158) rfl rfl rfl ?_
      refine on_iload (pc' := 160) rfl rfl rfl ?_
      refine on_ishr (pc' := 161) rfl rfl ?_
      refine on_iconst (pc' := 162) (v := 1) rfl rfl li_1 ?_
      refine on_iand (pc' := 163) rfl rfl ?_
      refine on_if_ne (pc' := 166) (tgt := 179) rfl rfl rfl (fun cq => ?_) (fun cq => ?_)
      · have z : ¬ D / 2 ^ j % 2 = 0 := fun w => cq ((dw_bitr (by omega) (by omega)).mpr w)
        have e0 : d_w a.r D j = 0 := if_neg z
        have et2 : d_t a.r D (j + 1) = d_t a.r D j + d_w a.r D j := rfl
        exact no _ (decide_eq_false (by omega)) rfl rfl rfl rfl rfl rfl rfl rfl
      · clear cq
        refine on_lload (pc' := 168) rfl rfl rfl ?_
        refine on_lload (pc' := 170) rfl rfl rfl ?_
        refine on_lcmp (pc' := 171) rfl rfl ?_
        refine on_if_le (pc' := 174) (tgt := 179) rfl rfl rfl (fun cq => ?_) (fun cq => ?_)
        · have le : d_t a.r D (j + 1) ≤ b := (pk_lLE (by omega) (by omega)).mp ((lg_cmp_le _ _).mp cq)
          exact no _ (decide_eq_false (by omega)) rfl rfl rfl rfl rfl rfl rfl rfl
        · have lt : b < d_t a.r D (j + 1) := by
            rcases Nat.lt_or_ge b (d_t a.r D (j + 1)) with w | w
            · exact w
            · exact absurd ((lg_cmp_le _ _).mpr ((pk_lLE (by omega) (by omega)).mpr w)) cq
          clear cq
          have fd : (List.range a.nr).find? (d_p a.r D b) = some j := rf_some hjr (decide_eq_true lt) hf
          have out : ∀ lv, lv 0 = some (.ref o) → lv 1 = some (.long word) → lv 3 = some (.int (nI n)) → lv 4 = some (.int (nI D)) → lv 5 = some (.int (nI j)) → lv 6 = some (.int (nI i)) → on_E G M_M_path 188 lv [] h sz bc bs Q := fun lv l0 l1 l3 l4 l5 l6 => on_relv (l := [(0, .ref o), (1, .long word), (3, .int (nI n)), (4, .int (nI D)), (5, .int (nI j)), (6, .int (nI i))]) ⟨l0, l1, l3, l4, l5, l6, trivial⟩ (kk j hjr fd)
          refine on_iload (pc' := 176) rfl rfl rfl ?_
          refine on_goto (tgt := 180) rfl rfl ?_
          refine on_istore (pc' := 182) rfl rfl (by decide) ?_
          refine on_iinc1 (pc' := 185) rfl rfl rfl ?_
          refine on_goto (tgt := 111) rfl rfl ?_
          refine on_iload (pc' := 113) rfl rfl rfl ?_
          first | refine on_aload_n (pc' := 114) rfl rfl rfl rfl ?_ | refine on_aload_nQ (pc' := 114) rfl rfl rfl rfl ?_
          first | apply on_get (pc' := 117) rfl rfl fl_M_271 | apply on_getN (pc' := 117) rfl rfl fl_M_271
          · repeat (first | assumption | exact on_up_eq _ _ _ | refine (on_up_ne (by omega)).trans ?_)
          · rfl
          refine on_icmp_ge (pc' := 120) (tgt := 188) rfl rfl rfl (fun cq => ?_) (fun cq => ?_)
          · exact out _ rfl rfl rfl rfl rfl rfl
          · clear cq
            refine on_iload (pc' := 122) rfl rfl rfl ?_
            refine on_iconst (pc' := 123) (v := (-1)) rfl rfl li_m1 ?_
            refine on_icmp_ne (pc' := 126) (tgt := 188) rfl rfl rfl (fun cq => ?_) (fun cq => ?_)
            · exact out _ rfl rfl rfl rfl rfl rfl
            · exact absurd cq ((by decide : ∀ j, j < 6 → ¬ nI j = -1) j i6.1)
    refine on_iload (pc' := 113) rfl rfl rfl ?_
    first | refine on_aload_n (pc' := 114) rfl rfl rfl rfl ?_ | refine on_aload_nQ (pc' := 114) rfl rfl rfl rfl ?_
    first | apply on_get (pc' := 117) rfl rfl fl_M_271 | apply on_getN (pc' := 117) rfl rfl fl_M_271
    · repeat (first | assumption | exact on_up_eq _ _ _ | refine (on_up_ne (by omega)).trans ?_)
    · rfl
    refine on_icmp_ge (pc' := 120) (tgt := 188) rfl rfl rfl (fun cq => ?_) (fun cq => ?_)
    · exact absurd cq (nI_ge (b := a.nr) hjr (by omega))
    clear cq
    refine on_iload (pc' := 122) rfl rfl rfl ?_
    refine on_iconst (pc' := 123) (v := (-1)) rfl rfl li_m1 ?_
    refine on_icmp_ne (pc' := 126) (tgt := 188) rfl rfl rfl (fun cq => ?_) (fun cq => ?_)
    · exact absurd rfl cq
    clear cq
    refine on_lload (pc' := 128) rfl rfl rfl ?_
    refine on_iload (pc' := 130) rfl rfl rfl ?_
    refine on_iload (pc' := 132) rfl rfl rfl ?_
    refine on_ishr (pc' := 133) rfl rfl ?_
    refine on_iconst (pc' := 134) (v := 1) rfl rfl li_1 ?_
    refine on_iand (pc' := 135) rfl rfl ?_
    refine on_if_ne (pc' := 138) (tgt := 152) rfl rfl rfl (fun cq => ?_) (fun cq => ?_)
    · have z : ¬ D / 2 ^ j % 2 = 0 := fun w => cq ((dw_bitr (by omega) (by omega)).mpr w)
      refine on_lconst (pc' := 153) (v := 0) rfl rfl ll_0 ?_
      exact next _ 0 (if_neg z) rfl rfl rfl rfl rfl rfl rfl
    · have z := (dw_bitr (s := j) (a := D) (by omega) (by omega)).mp cq
      clear cq
      first | refine on_aload_n (pc' := 139) rfl rfl rfl rfl ?_ | refine on_aload_nQ (pc' := 139) rfl rfl rfl rfl ?_
      first | apply on_get (pc' := 142) rfl rfl fl_M_9 | apply on_getN (pc' := 142) rfl rfl fl_M_9
      · repeat (first | assumption | exact on_up_eq _ _ _ | refine (on_up_ne (by omega)).trans ?_)
      · rfl
      refine on_iload (pc' := 144) rfl rfl rfl ?_
      apply on_aaloadK (pc' := 145) rfl rfl
      · repeat (first | assumption | exact on_up_eq _ _ _ | refine (on_up_ne (by omega)).trans ?_)
      · rfl
      · first | assumption | exact on_lit _ | rfl
      · first | assumption | omega | decide
      rw [rf_at hjr]
      show on_E G M_M_path 145 _ [.ref (RA j), .long (lN (d_t a.r D j))] h sz _ _ _
      first | apply on_get (pc' := 148) rfl rfl fl_M_311 | apply on_getN (pc' := 148) rfl rfl fl_M_311
      · repeat (first | assumption | exact on_up_eq _ _ _ | refine (on_up_ne (by omega)).trans ?_)
      · rfl
      refine on_i2l (pc' := 149) rfl rfl ?_
      refine on_goto (tgt := 153) rfl rfl ?_
      rw [nI_l (by omega)]
      exact next _ (a.r j).we (if_pos z) rfl rfl rfl rfl rfl rfl rfl
set_option maxHeartbeats 8000000 in
theorem mpa_o {n : Nat} (X : mX o sz RA CA a h) (V : n_V B a) (hn : n < 3) (kk : ∀ v, v = kI (d_pa a.r a.nr word.toBitVec.toNat (n + 1) 0 0 none) → Q (some (.int v)) h sz) :
    ∀ (m i D : Nat) (r : Option Nat), i + m = n + 1 → D < 64 → d_pa a.r a.nr word.toBitVec.toNat (n + 1) 0 0 none = d_pa a.r a.nr word.toBitVec.toNat m i D r → on_E G M_M_path 20 (on_l [(0, .ref o), (1, .long word), (3, .int (nI n)), (4, .int (nI D)), (5, .int (kI r)), (6, .int (nI i))]) [] h sz bc bs Q := by
  have v1 := V.1.1
  intro m
  induction m with
  | zero =>
    intro i D r hi hD e
    refine on_iload (pc' := 22) rfl rfl rfl ?_
    refine on_iload_n (pc' := 23) rfl rfl rfl rfl ?_
    refine on_icmp_gt (pc' := 26) (tgt := 203) rfl rfl rfl (fun cq => ?_) (fun cq => ?_)
    · refine on_iload (pc' := 205) rfl rfl rfl ?_
      refine on_ireturn rfl rfl ?_
      exact kk _ (by rw [e]; rfl)
    · exact absurd (nI_lt (a := n) (b := i) (by omega) (by omega)) cq
  | succ m ih =>
    intro i D r hi hD e
    have i3 : i < 3 := by omega
    have tl := d_t_le (D := D) (fun i hi => (V.2.1 i hi).1) a.nr (Nat.le_refl _)
    have ed : d_pa a.r a.nr word.toBitVec.toNat (m + 1) i D r = match d_r a.r a.nr D (word.toBitVec.toNat / 2 ^ (20 * i) % 2 ^ 20) with | none => none | some j => d_pa a.r a.nr word.toBitVec.toNat m (i + 1) (D ||| 2 ^ j) (some j) := rfl
    refine on_iload (pc' := 22) rfl rfl rfl ?_
    refine on_iload_n (pc' := 23) rfl rfl rfl rfl ?_
    refine on_icmp_gt (pc' := 26) (tgt := 203) rfl rfl rfl (fun cq => ?_) (fun cq => ?_)
    · exact absurd ((nI_ltI (a := n) (b := i) (by omega) (by omega)).mp cq) (by omega)
    clear cq
    refine on_lconst (pc' := 27) (v := 0) rfl rfl ll_0 ?_
    refine on_lstore (pc' := 29) rfl rfl (by decide) ?_
    refine on_iconst (pc' := 30) (v := 0) rfl rfl li_0 ?_
    refine on_istore (pc' := 32) rfl rfl (by decide) ?_
    refine on_relv (l := [(0, .ref o), (1, .long word), (3, .int (nI n)), (4, .int (nI D)), (6, .int (nI i)), (7, .long (lN (d_t a.r D 0))), (9, .int (nI 0))]) ⟨rfl, rfl, rfl, rfl, rfl, rfl, rfl, trivial⟩ (mpa_1 (r := r) X V hD ?_ a.nr 0 (Nat.zero_add _))
    refine on_lload (pc' := 79) rfl rfl rfl ?_
    refine on_lconst (pc' := 80) (v := 0) rfl rfl ll_0 ?_
    refine on_lcmp (pc' := 81) rfl rfl ?_
    refine on_if_ne (pc' := 84) (tgt := 86) rfl rfl rfl (fun cq => ?_) (fun cq => ?_)
    · have t0 : ¬ d_t a.r D a.nr = 0 := fun z => cq ((lg_cmp_eq _ _).mpr (by rw [z]; rfl))
      have t1 : ¬ lN (d_t a.r D a.nr) = 0 := fun z => cq ((lg_cmp_eq _ _).mpr z)
      clear cq
      have hlt := Nat.mod_lt (word.toBitVec.toNat / 2 ^ (20 * i) % 2 ^ 20) (Nat.pos_of_ne_zero t0)
      have b20 : word.toBitVec.toNat / 2 ^ (20 * i) % 2 ^ 20 < 2 ^ 20 := Nat.mod_lt _ (by decide)
      refine on_lload_n (pc' := 87) rfl rfl rfl rfl ?_
      refine on_bipush (pc' := 89) (v := 20) rfl rfl lb_20 ?_
      refine on_iload (pc' := 91) rfl rfl rfl ?_
      refine on_imul (pc' := 92) rfl rfl ?_
      rw [show (20 : Int32) * nI i = nI (20 * i) from pk_mul 20 i]
      refine on_lushr (pc' := 93) rfl rfl ?_
      refine on_ldc2 (pc' := 96) rfl rfl ld_M_331 ?_
      refine on_land (pc' := 97) rfl rfl ?_
      rw [su_w word (by omega)]
      have er : d_r a.r a.nr D (word.toBitVec.toNat / 2 ^ (20 * i) % 2 ^ 20) = (List.range a.nr).find? (d_p a.r D (word.toBitVec.toNat / 2 ^ (20 * i) % 2 ^ 20 % d_t a.r D a.nr)) := if_neg t0
      generalize word.toBitVec.toNat / 2 ^ (20 * i) % 2 ^ 20 = b at *
      refine on_lload (pc' := 99) rfl rfl rfl ?_
      refine on_lrem (pc' := 100) rfl rfl (by first | assumption | decide) ?_
      rw [show l_rem (lN b) (lN (d_t a.r D a.nr)) = lN (b % d_t a.r D a.nr) from pk_lRem (by omega) (by omega) (by omega)]
      refine on_lstore (pc' := 102) rfl rfl (by decide) ?_
      refine on_lconst (pc' := 103) (v := 0) rfl rfl ll_0 ?_
      refine on_lstore (pc' := 105) rfl rfl (by decide) ?_
      refine on_iconst (pc' := 106) (v := (-1)) rfl rfl li_m1 ?_
      refine on_istore (pc' := 108) rfl rfl (by decide) ?_
      refine on_iconst (pc' := 109) (v := 0) rfl rfl li_0 ?_
      refine on_istore (pc' := 111) rfl rfl (by decide) ?_
      refine on_relv (l := [(0, .ref o), (1, .long word), (3, .int (nI n)), (4, .int (nI D)), (5, .int (-1)), (6, .int (nI i)), (9, .long (lN (b % d_t a.r D a.nr))), (11, .long (lN (d_t a.r D 0))), (13, .int (nI 0))]) ⟨rfl, rfl, rfl, rfl, rfl, rfl, rfl, rfl, rfl, trivial⟩ (mpa_2 X V hD hlt (fun j hj fd => ?_) a.nr 0 (Nat.zero_add _) (fun i hi => absurd hi (Nat.not_lt_zero i)))
      rw [er, fd] at ed
      obtain ⟨ob1, ob2⟩ := or_bit j (by omega) D hD
      refine on_iload (pc' := 190) rfl rfl rfl ?_
      refine on_iconst (pc' := 191) (v := 1) rfl rfl li_1 ?_
      refine on_iload (pc' := 193) rfl rfl rfl ?_
      refine on_ishl (pc' := 194) rfl rfl ?_
      refine on_ior (pc' := 195) rfl rfl ?_
      rw [ob1]
      refine on_istore (pc' := 197) rfl rfl (by decide) ?_
      refine on_iinc1 (pc' := 200) rfl rfl rfl ?_
      refine on_goto (tgt := 20) rfl rfl ?_
      exact on_relv (l := [(0, .ref o), (1, .long word), (3, .int (nI n)), (4, .int (nI (D ||| 2 ^ j))), (5, .int (kI (some j))), (6, .int (nI (i + 1)))]) ⟨rfl, rfl, rfl, rfl, rfl, congrArg some (congrArg Value.int (nI_1 i)), trivial⟩ (ih (i + 1) (D ||| 2 ^ j) (some j) (by omega) ob2 (e.trans ed))
    · have t0 : d_t a.r D a.nr = 0 := (pk_lEQ (a := d_t a.r D a.nr) (b := 0) (by omega) (by decide)).mp ((lg_cmp_eq _ _).mp cq)
      refine on_iconst (pc' := 85) (v := (-1)) rfl rfl li_m1 ?_
      refine on_ireturn rfl rfl ?_
      have er : ∀ b, d_r a.r a.nr D b = none := fun b => if_pos t0
      rw [er] at ed
      exact kk _ (by rw [e, ed]; rfl)
set_option maxHeartbeats 4000000 in
theorem c_M_path (X : mX o sz RA CA a h) (V : n_V B a) : on_Ct G M_M_path [.ref o, .long word, .int k] h sz 0 0 (fun v h1 z => v = some (.int (q_path a word k)) ∧ z = sz ∧ h1 = h) := by
  have no : ∀ lv, q_path a word k = -1 → on_E G M_M_path 9 lv [] h sz 0 0 (fun v h1 z => v = some (.int (q_path a word k)) ∧ z = sz ∧ h1 = h) := fun lv e => by
    refine on_iconst (pc' := 10) (v := (-1)) rfl rfl li_m1 ?_
    refine on_ireturn rfl rfl ?_
    rw [e]
    exact ⟨rfl, rfl, rfl⟩
  refine on_Ct.of (by decide) v_M_path (Nat.le_of_ble_eq_true rfl) ?_
  refine on_iload_n (pc' := 1) rfl rfl rfl rfl ?_
  refine on_if_lt (pc' := 4) (tgt := 9) rfl rfl rfl (fun cq => ?_) (fun cq => ?_)
  · refine no _ ?_
    unfold q_path
    rw [show p_i 3 k = none from if_neg (fun z => z.1 cq)]
  have x0 := cq
  clear cq
  refine on_iload_n (pc' := 5) rfl rfl rfl rfl ?_
  refine on_iconst (pc' := 6) (v := 2) rfl rfl li_2 ?_
  refine on_icmp_le (pc' := 9) (tgt := 11) rfl rfl rfl (fun cq => ?_) (fun cq => ?_)
  rotate_left
  · refine no _ ?_
    unfold q_path
    rw [show p_i 3 k = none from if_neg (fun z => cq ((p_i_lt1 (n := 2) (by decide) x0).mp z.2))]
  have x1 : k < nI 3 := (p_i_lt1 (n := 2) (by decide) x0).mpr cq
  clear cq
  have ep : p_i 3 k = some k.toNatClampNeg := if_pos ⟨x0, x1⟩
  obtain ⟨n, hn, en, -, ec, -⟩ := pk_mu (L := 3) x0 (Int32.not_le.mpr x1) (by decide)
  rw [ec] at ep
  subst en
  have eq : q_path a word (nI n) = kI (d_pa a.r a.nr word.toBitVec.toNat (n + 1) 0 0 none) := by
    unfold q_path
    rw [ep]
  refine on_iconst (pc' := 12) (v := 0) rfl rfl li_0 ?_
  refine on_istore (pc' := 14) rfl rfl (by decide) ?_
  refine on_iconst (pc' := 15) (v := (-1)) rfl rfl li_m1 ?_
  refine on_istore (pc' := 17) rfl rfl (by decide) ?_
  refine on_iconst (pc' := 18) (v := 0) rfl rfl li_0 ?_
  refine on_istore (pc' := 20) rfl rfl (by decide) ?_
  rw [eq]
  exact on_relv (l := [(0, .ref o), (1, .long word), (3, .int (nI n)), (4, .int (nI 0)), (5, .int (kI none)), (6, .int (nI 0))]) ⟨rfl, rfl, rfl, rfl, rfl, rfl, trivial⟩ (mpa_o X V hn (fun v e => ⟨by rw [e], rfl, rfl⟩) (n + 1) 0 0 none (by omega) (by decide) rfl)
end MPT
