theorem mr.ext {F Y : Nat → Int64} {v : Int} (h : mr F v) (e : ∀ i, i < 17 → Y i = F i) : mr Y v := by
  obtain ⟨f, f1, f2, f3⟩ := h
  exact ⟨f, f1.ext e, f2, f3⟩
/-- two rounds of carries over anything not too large -/
theorem mr_of {Y : Nat → Int64} {x : Nat → Int} {v : Int} (h : m_r Y (mE (mE x)) 40000) (hx : ∀ i, i < 17 → (x i).natAbs ≤ 1125899906842624) (hv : cg (mv x 17) v) : mr Y v := ⟨_, h, mEE_w hx, (mEE_v x).trans hv⟩
section MOP
variable {G : on_G} {t a b sz bc bs : Nat} {h : on_H} {Q : Option Value → on_H → Nat → Prop} {A B T : Nat → Int64}
set_option maxHeartbeats 4000000 in
theorem mo_cp (ha : h a = some (on_al 1 17 A)) (hat : a ≠ t)
    (k : ∀ T : Nat → Int64, (∀ i, i < 17 → T i = A i) → on_E G M_M_copyParts 20 (on_l [(0, .ref t), (1, .ref a)]) [] (on_up h t (on_al 1 17 T)) sz bc bs Q) :
    ∀ (m i : Nat) (T : Nat → Int64), i + m = 17 → (∀ j, j < i → T j = A j) → on_E G M_M_copyParts 2 (on_l [(0, .ref t), (1, .ref a), (2, .int (nI i))]) [] (on_up h t (on_al 1 17 T)) sz bc bs Q := by
  intro m
  induction m with
  | zero =>
    intro i T hi hT
    obtain rfl : i = 17 := by omega
    refine on_iload_n (pc' := 3) rfl rfl rfl rfl ?_
    refine on_bipush (pc' := 5) (v := 17) rfl rfl lb_17 ?_
    refine on_icmp_ge (pc' := 8) (tgt := 20) rfl rfl rfl (fun cq => ?_) (fun cq => ?_)
    · exact on_relv (l := [(0, .ref t), (1, .ref a)]) ⟨rfl, rfl, trivial⟩ (k T hT)
    · exact absurd (nI_le (a := 17) (by omega) (by omega)) cq
  | succ m ih =>
    intro i T hi hT
    have hi2 : i < 17 ∧ 17 < 2 ^ 31 := by omega
    have ha2 : on_up h t (on_al 1 17 T) a = some (on_al 1 17 A) := (on_up_ne hat).trans ha
    refine on_iload_n (pc' := 3) rfl rfl rfl rfl ?_
    refine on_bipush (pc' := 5) (v := 17) rfl rfl lb_17 ?_
    refine on_icmp_ge (pc' := 8) (tgt := 20) rfl rfl rfl (fun cq => ?_) (fun cq => ?_)
    · exact absurd cq (nI_ge (b := 17) (by omega) (by omega))
    · first | refine on_aload_n (pc' := 9) rfl rfl rfl rfl ?_ | refine on_aload_nQ (pc' := 9) rfl rfl rfl rfl ?_
      refine on_iload_n (pc' := 10) rfl rfl rfl rfl ?_
      first | refine on_aload_n (pc' := 11) rfl rfl rfl rfl ?_ | refine on_aload_nQ (pc' := 11) rfl rfl rfl rfl ?_
      refine on_iload_n (pc' := 12) rfl rfl rfl rfl ?_
      apply on_laloadK (pc' := 13) (t := 1) rfl rfl
      · repeat (first | assumption | exact on_up_eq _ _ _ | refine (on_up_ne (by omega)).trans ?_)
      · rfl
      · first | assumption | exact on_lit _ | rfl
      · first | assumption | omega | decide
      apply on_lastoreK (pc' := 14) (t := 1) rfl rfl
      · repeat (first | assumption | exact on_up_eq _ _ _ | refine (on_up_ne (by omega)).trans ?_)
      · rfl
      · first | assumption | exact on_lit _ | rfl
      · first | assumption | omega | decide
      refine on_iinc1 (pc' := 17) rfl rfl rfl ?_
      refine on_goto (tgt := 2) rfl rfl ?_
      rw [on_up_up]
      refine on_relv (l := [(0, .ref t), (1, .ref a), (2, .int (nI (i + 1)))]) ⟨rfl, rfl, congrArg some (congrArg Value.int (nI_1 i)), trivial⟩ (ih (i + 1) _ (by omega) (fun j hj => ?_))
      by_cases e : j = i
      · subst e; exact pk_uLs
      · rw [pk_uLn e]; exact hT j (by omega)
/-- copyParts -/
theorem c_M_copyParts (ht : h t = some (on_al 1 17 T)) (ha : h a = some (on_al 1 17 A)) (hat : a ≠ t) :
    on_Ct G M_M_copyParts [.ref t, .ref a] h sz 0 0 (fun r h1 z => r = none ∧ z = sz ∧ ∃ Y, h1 = on_up h t (on_al 1 17 Y) ∧ ∀ i, i < 17 → Y i = A i) := by
  refine on_Ct.of (by decide) v_M_copyParts (Nat.le_of_ble_eq_true rfl) ?_
  refine on_iconst (pc' := 1) (v := 0) rfl rfl li_0 ?_
  refine on_istore_n (pc' := 2) rfl rfl rfl (by decide) ?_
  have := mo_cp (G := G) (sz := sz) (bc := 0) (bs := 0) (Q := fun r h1 z => r = none ∧ z = sz ∧ ∃ Y, h1 = on_up h t (on_al 1 17 Y) ∧ ∀ i, i < 17 → Y i = A i) ha hat ?_ 17 0 T rfl (fun j hj => absurd hj (by omega))
  · rw [on_up_self ht] at this
    exact on_relv (l := [(0, .ref t), (1, .ref a), (2, .int (nI 0))]) ⟨rfl, rfl, rfl, trivial⟩ this
  · intro Y hY
    refine on_vreturn rfl rfl ?_
    exact ⟨rfl, rfl, Y, rfl, hY⟩
set_option maxHeartbeats 4000000 in
theorem mo_add (ha : h a = some (on_al 1 17 A)) (hat : a ≠ t) (hb : h b = some (on_al 1 17 B)) (hbt : b ≠ t)
    (k : ∀ T : Nat → Int64, (∀ i, i < 17 → T i = A i + B i) → on_E G M_M_addParts 24 (on_l [(0, .ref t), (1, .ref a), (2, .ref b)]) [] (on_up h t (on_al 1 17 T)) sz bc bs Q) :
    ∀ (m i : Nat) (T : Nat → Int64), i + m = 17 → (∀ j, j < i → T j = A j + B j) → on_E G M_M_addParts 2 (on_l [(0, .ref t), (1, .ref a), (2, .ref b), (3, .int (nI i))]) [] (on_up h t (on_al 1 17 T)) sz bc bs Q := by
  intro m
  induction m with
  | zero =>
    intro i T hi hT
    obtain rfl : i = 17 := by omega
    refine on_iload_n (pc' := 3) rfl rfl rfl rfl ?_
    refine on_bipush (pc' := 5) (v := 17) rfl rfl lb_17 ?_
    refine on_icmp_ge (pc' := 8) (tgt := 24) rfl rfl rfl (fun cq => ?_) (fun cq => ?_)
    · exact on_relv (l := [(0, .ref t), (1, .ref a), (2, .ref b)]) ⟨rfl, rfl, rfl, trivial⟩ (k T hT)
    · exact absurd (nI_le (a := 17) (by omega) (by omega)) cq
  | succ m ih =>
    intro i T hi hT
    have hi2 : i < 17 ∧ 17 < 2 ^ 31 := by omega
    have ha2 : on_up h t (on_al 1 17 T) a = some (on_al 1 17 A) := (on_up_ne hat).trans ha
    have hb2 : on_up h t (on_al 1 17 T) b = some (on_al 1 17 B) := (on_up_ne hbt).trans hb
    refine on_iload_n (pc' := 3) rfl rfl rfl rfl ?_
    refine on_bipush (pc' := 5) (v := 17) rfl rfl lb_17 ?_
    refine on_icmp_ge (pc' := 8) (tgt := 24) rfl rfl rfl (fun cq => ?_) (fun cq => ?_)
    · exact absurd cq (nI_ge (b := 17) (by omega) (by omega))
    · first | refine on_aload_n (pc' := 9) rfl rfl rfl rfl ?_ | refine on_aload_nQ (pc' := 9) rfl rfl rfl rfl ?_
      refine on_iload_n (pc' := 10) rfl rfl rfl rfl ?_
      first | refine on_aload_n (pc' := 11) rfl rfl rfl rfl ?_ | refine on_aload_nQ (pc' := 11) rfl rfl rfl rfl ?_
      refine on_iload_n (pc' := 12) rfl rfl rfl rfl ?_
      apply on_laloadK (pc' := 13) (t := 1) rfl rfl
      · repeat (first | assumption | exact on_up_eq _ _ _ | refine (on_up_ne (by omega)).trans ?_)
      · rfl
      · first | assumption | exact on_lit _ | rfl
      · first | assumption | omega | decide
      first | refine on_aload_n (pc' := 14) rfl rfl rfl rfl ?_ | refine on_aload_nQ (pc' := 14) rfl rfl rfl rfl ?_
      refine on_iload_n (pc' := 15) rfl rfl rfl rfl ?_
      apply on_laloadK (pc' := 16) (t := 1) rfl rfl
      · repeat (first | assumption | exact on_up_eq _ _ _ | refine (on_up_ne (by omega)).trans ?_)
      · rfl
      · first | assumption | exact on_lit _ | rfl
      · first | assumption | omega | decide
      refine on_ladd (pc' := 17) rfl rfl ?_
      apply on_lastoreK (pc' := 18) (t := 1) rfl rfl
      · repeat (first | assumption | exact on_up_eq _ _ _ | refine (on_up_ne (by omega)).trans ?_)
      · rfl
      · first | assumption | exact on_lit _ | rfl
      · first | assumption | omega | decide
      refine on_iinc1 (pc' := 21) rfl rfl rfl ?_
      refine on_goto (tgt := 2) rfl rfl ?_
      rw [on_up_up]
      refine on_relv (l := [(0, .ref t), (1, .ref a), (2, .ref b), (3, .int (nI (i + 1)))]) ⟨rfl, rfl, rfl, congrArg some (congrArg Value.int (nI_1 i)), trivial⟩ (ih (i + 1) _ (by omega) (fun j hj => ?_))
      by_cases e : j = i
      · subst e; exact pk_uLs
      · rw [pk_uLn e]; exact hT j (by omega)
set_option maxHeartbeats 4000000 in
theorem c_M_addParts {u v : Int} (ht : h t = some (on_al 1 17 T)) (ha : h a = some (on_al 1 17 A)) (hat : a ≠ t) (hb : h b = some (on_al 1 17 B)) (hbt : b ≠ t) (hA : mr A u) (hB : mr B v) :
    on_Ct G M_M_addParts [.ref t, .ref a, .ref b] h sz 0 0 (fun r h1 z => r = none ∧ z = sz ∧ ∃ Y, h1 = on_up h t (on_al 1 17 Y) ∧ mr Y (u + v)) := by
  obtain ⟨x, x1, x2, x3⟩ := hA
  obtain ⟨y, y1, y2, y3⟩ := hB
  refine on_Ct.of (by decide) v_M_addParts (Nat.le_of_ble_eq_true rfl) ?_
  refine on_iconst (pc' := 1) (v := 0) rfl rfl li_0 ?_
  refine on_istore_n (pc' := 2) rfl rfl rfl (by decide) ?_
  have := mo_add (G := G) (sz := sz) (bc := 0) (bs := 0) (Q := fun r h1 z => r = none ∧ z = sz ∧ ∃ Y, h1 = on_up h t (on_al 1 17 Y) ∧ mr Y (u + v)) ha hat hb hbt ?_ 17 0 T rfl (fun j hj => absurd hj (by omega))
  · rw [on_up_self ht] at this
    exact on_relv (l := [(0, .ref t), (1, .ref a), (2, .ref b), (3, .int (nI 0))]) ⟨rfl, rfl, rfl, rfl, trivial⟩ this
  · intro Y hY
    have hr : m_r Y (fun i => x i + y i) 80000 := fun i hi => by
      rw [hY i hi]
      exact rb_add (x1 i hi) (y1 i hi) (by decide)
    first | refine on_aload_n (pc' := 25) rfl rfl rfl rfl ?_ | refine on_aload_nQ (pc' := 25) rfl rfl rfl rfl ?_
    refine on_callS (pc' := 28) (As := [.ref t]) (rest := []) rfl rfl cw_M_addParts_183 rfl rfl (by decide) (Nat.zero_le _) (Nat.zero_le _) (c_M_settleParts (on_up_eq _ _ _) (hr.le (by decide))) ?_
    rintro r h3 z ⟨rfl, rfl, Y2, rfl, hY2⟩
    refine on_vreturn rfl rfl ?_
    exact ⟨rfl, rfl, Y2, by rw [on_up_up], mr_of hY2 (fun i hi => Nat.le_trans (hr i hi).2 (by decide)) (by rw [mv_add x y]; exact x3.add y3)⟩
set_option maxHeartbeats 4000000 in
theorem mo_sub (ha : h a = some (on_al 1 17 A)) (hat : a ≠ t) (hb : h b = some (on_al 1 17 B)) (hbt : b ≠ t)
    (k : ∀ T : Nat → Int64, (∀ i, i < 17 → T i = A i - B i) → on_E G M_M_subParts 24 (on_l [(0, .ref t), (1, .ref a), (2, .ref b)]) [] (on_up h t (on_al 1 17 T)) sz bc bs Q) :
    ∀ (m i : Nat) (T : Nat → Int64), i + m = 17 → (∀ j, j < i → T j = A j - B j) → on_E G M_M_subParts 2 (on_l [(0, .ref t), (1, .ref a), (2, .ref b), (3, .int (nI i))]) [] (on_up h t (on_al 1 17 T)) sz bc bs Q := by
  intro m
  induction m with
  | zero =>
    intro i T hi hT
    obtain rfl : i = 17 := by omega
    refine on_iload_n (pc' := 3) rfl rfl rfl rfl ?_
    refine on_bipush (pc' := 5) (v := 17) rfl rfl lb_17 ?_
    refine on_icmp_ge (pc' := 8) (tgt := 24) rfl rfl rfl (fun cq => ?_) (fun cq => ?_)
    · exact on_relv (l := [(0, .ref t), (1, .ref a), (2, .ref b)]) ⟨rfl, rfl, rfl, trivial⟩ (k T hT)
    · exact absurd (nI_le (a := 17) (by omega) (by omega)) cq
  | succ m ih =>
    intro i T hi hT
    have hi2 : i < 17 ∧ 17 < 2 ^ 31 := by omega
    have ha2 : on_up h t (on_al 1 17 T) a = some (on_al 1 17 A) := (on_up_ne hat).trans ha
    have hb2 : on_up h t (on_al 1 17 T) b = some (on_al 1 17 B) := (on_up_ne hbt).trans hb
    refine on_iload_n (pc' := 3) rfl rfl rfl rfl ?_
    refine on_bipush (pc' := 5) (v := 17) rfl rfl lb_17 ?_
    refine on_icmp_ge (pc' := 8) (tgt := 24) rfl rfl rfl (fun cq => ?_) (fun cq => ?_)
    · exact absurd cq (nI_ge (b := 17) (by omega) (by omega))
    · first | refine on_aload_n (pc' := 9) rfl rfl rfl rfl ?_ | refine on_aload_nQ (pc' := 9) rfl rfl rfl rfl ?_
      refine on_iload_n (pc' := 10) rfl rfl rfl rfl ?_
      first | refine on_aload_n (pc' := 11) rfl rfl rfl rfl ?_ | refine on_aload_nQ (pc' := 11) rfl rfl rfl rfl ?_
      refine on_iload_n (pc' := 12) rfl rfl rfl rfl ?_
      apply on_laloadK (pc' := 13) (t := 1) rfl rfl
      · repeat (first | assumption | exact on_up_eq _ _ _ | refine (on_up_ne (by omega)).trans ?_)
      · rfl
      · first | assumption | exact on_lit _ | rfl
      · first | assumption | omega | decide
      first | refine on_aload_n (pc' := 14) rfl rfl rfl rfl ?_ | refine on_aload_nQ (pc' := 14) rfl rfl rfl rfl ?_
      refine on_iload_n (pc' := 15) rfl rfl rfl rfl ?_
      apply on_laloadK (pc' := 16) (t := 1) rfl rfl
      · repeat (first | assumption | exact on_up_eq _ _ _ | refine (on_up_ne (by omega)).trans ?_)
      · rfl
      · first | assumption | exact on_lit _ | rfl
      · first | assumption | omega | decide
      refine on_lsub (pc' := 17) rfl rfl ?_
      apply on_lastoreK (pc' := 18) (t := 1) rfl rfl
      · repeat (first | assumption | exact on_up_eq _ _ _ | refine (on_up_ne (by omega)).trans ?_)
      · rfl
      · first | assumption | exact on_lit _ | rfl
      · first | assumption | omega | decide
      refine on_iinc1 (pc' := 21) rfl rfl rfl ?_
      refine on_goto (tgt := 2) rfl rfl ?_
      rw [on_up_up]
      refine on_relv (l := [(0, .ref t), (1, .ref a), (2, .ref b), (3, .int (nI (i + 1)))]) ⟨rfl, rfl, rfl, congrArg some (congrArg Value.int (nI_1 i)), trivial⟩ (ih (i + 1) _ (by omega) (fun j hj => ?_))
      by_cases e : j = i
      · subst e; exact pk_uLs
      · rw [pk_uLn e]; exact hT j (by omega)
set_option maxHeartbeats 4000000 in
theorem c_M_subParts {u v : Int} (ht : h t = some (on_al 1 17 T)) (ha : h a = some (on_al 1 17 A)) (hat : a ≠ t) (hb : h b = some (on_al 1 17 B)) (hbt : b ≠ t) (hA : mr A u) (hB : mr B v) :
    on_Ct G M_M_subParts [.ref t, .ref a, .ref b] h sz 0 0 (fun r h1 z => r = none ∧ z = sz ∧ ∃ Y, h1 = on_up h t (on_al 1 17 Y) ∧ mr Y (u - v)) := by
  obtain ⟨x, x1, x2, x3⟩ := hA
  obtain ⟨y, y1, y2, y3⟩ := hB
  refine on_Ct.of (by decide) v_M_subParts (Nat.le_of_ble_eq_true rfl) ?_
  refine on_iconst (pc' := 1) (v := 0) rfl rfl li_0 ?_
  refine on_istore_n (pc' := 2) rfl rfl rfl (by decide) ?_
  have := mo_sub (G := G) (sz := sz) (bc := 0) (bs := 0) (Q := fun r h1 z => r = none ∧ z = sz ∧ ∃ Y, h1 = on_up h t (on_al 1 17 Y) ∧ mr Y (u - v)) ha hat hb hbt ?_ 17 0 T rfl (fun j hj => absurd hj (by omega))
  · rw [on_up_self ht] at this
    exact on_relv (l := [(0, .ref t), (1, .ref a), (2, .ref b), (3, .int (nI 0))]) ⟨rfl, rfl, rfl, rfl, trivial⟩ this
  · intro Y hY
    have hr : m_r Y (fun i => x i - y i) 80000 := fun i hi => by
      rw [hY i hi]
      exact rb_sub (x1 i hi) (y1 i hi) (by decide)
    first | refine on_aload_n (pc' := 25) rfl rfl rfl rfl ?_ | refine on_aload_nQ (pc' := 25) rfl rfl rfl rfl ?_
    refine on_callS (pc' := 28) (As := [.ref t]) (rest := []) rfl rfl cw_M_subParts_183 rfl rfl (by decide) (Nat.zero_le _) (Nat.zero_le _) (c_M_settleParts (on_up_eq _ _ _) (hr.le (by decide))) ?_
    rintro r h3 z ⟨rfl, rfl, Y2, rfl, hY2⟩
    refine on_vreturn rfl rfl ?_
    exact ⟨rfl, rfl, Y2, by rw [on_up_up], mr_of hY2 (fun i hi => Nat.le_trans (hr i hi).2 (by decide)) (by rw [mv_sub x y]; exact x3.sub y3)⟩
set_option maxHeartbeats 4000000 in
theorem mo_ex (hab : a ≠ b)
    (k : ∀ Y Z : Nat → Int64, (∀ i, i < 17 → Y i = B i) → (∀ i, i < 17 → Z i = A i) → on_E G M_M_exchange 28 (on_l []) [] (on_up (on_up h a (on_al 1 17 Y)) b (on_al 1 17 Z)) sz bc bs Q) :
    ∀ (m i : Nat) (Y Z : Nat → Int64), i + m = 17 → (∀ j, j < 17 → Y j = if j < i then B j else A j) → (∀ j, j < 17 → Z j = if j < i then A j else B j) → on_E G M_M_exchange 2 (on_l [(0, .ref a), (1, .ref b), (2, .int (nI i))]) [] (on_up (on_up h a (on_al 1 17 Y)) b (on_al 1 17 Z)) sz bc bs Q := by
  intro m
  induction m with
  | zero =>
    intro i Y Z hi hY hZ
    obtain rfl : i = 17 := by omega
    refine on_iload_n (pc' := 3) rfl rfl rfl rfl ?_
    refine on_bipush (pc' := 5) (v := 17) rfl rfl lb_17 ?_
    refine on_icmp_ge (pc' := 8) (tgt := 28) rfl rfl rfl (fun cq => ?_) (fun cq => ?_)
    · exact on_relv (l := []) trivial (k Y Z (fun j hj => by rw [hY j hj, if_pos hj]) (fun j hj => by rw [hZ j hj, if_pos hj]))
    · exact absurd (nI_le (a := 17) (by omega) (by omega)) cq
  | succ m ih =>
    intro i Y Z hi hY hZ
    have hi2 : i < 17 ∧ 17 < 2 ^ 31 := by omega
    have eY : Y i = A i := by rw [hY i (by omega), if_neg (by omega)]
    have eZ : Z i = B i := by rw [hZ i (by omega), if_neg (by omega)]
    have h1 : on_up (on_up h a (on_al 1 17 Y)) b (on_al 1 17 Z) a = some (on_al 1 17 Y) := (on_up_ne hab).trans (on_up_eq _ _ _)
    refine on_iload_n (pc' := 3) rfl rfl rfl rfl ?_
    refine on_bipush (pc' := 5) (v := 17) rfl rfl lb_17 ?_
    refine on_icmp_ge (pc' := 8) (tgt := 28) rfl rfl rfl (fun cq => ?_) (fun cq => ?_)
    · exact absurd cq (nI_ge (b := 17) (by omega) (by omega))
    · first | refine on_aload_n (pc' := 9) rfl rfl rfl rfl ?_ | refine on_aload_nQ (pc' := 9) rfl rfl rfl rfl ?_
      refine on_iload_n (pc' := 10) rfl rfl rfl rfl ?_
      apply on_laloadK (pc' := 11) (t := 1) rfl rfl
      · repeat (first | assumption | exact on_up_eq _ _ _ | refine (on_up_ne (by omega)).trans ?_)
      · rfl
      · first | assumption | exact on_lit _ | rfl
      · first | assumption | omega | decide
      rw [eY]
      refine on_lstore_n (pc' := 12) rfl rfl rfl (by decide) ?_
      first | refine on_aload_n (pc' := 13) rfl rfl rfl rfl ?_ | refine on_aload_nQ (pc' := 13) rfl rfl rfl rfl ?_
      refine on_iload_n (pc' := 14) rfl rfl rfl rfl ?_
      first | refine on_aload_n (pc' := 15) rfl rfl rfl rfl ?_ | refine on_aload_nQ (pc' := 15) rfl rfl rfl rfl ?_
      refine on_iload_n (pc' := 16) rfl rfl rfl rfl ?_
      apply on_laloadK (pc' := 17) (t := 1) rfl rfl
      · repeat (first | assumption | exact on_up_eq _ _ _ | refine (on_up_ne (by omega)).trans ?_)
      · rfl
      · first | assumption | exact on_lit _ | rfl
      · first | assumption | omega | decide
      rw [eZ]
      apply on_lastoreK (pc' := 18) (t := 1) rfl rfl
      · repeat (first | assumption | exact on_up_eq _ _ _ | refine (on_up_ne (by omega)).trans ?_)
      · rfl
      · first | assumption | exact on_lit _ | rfl
      · first | assumption | omega | decide
      rw [on_up_comm (Ne.symm hab), on_up_up]
      first | refine on_aload_n (pc' := 19) rfl rfl rfl rfl ?_ | refine on_aload_nQ (pc' := 19) rfl rfl rfl rfl ?_
      refine on_iload_n (pc' := 20) rfl rfl rfl rfl ?_
      refine on_lload_n (pc' := 21) rfl rfl rfl rfl ?_
      apply on_lastoreK (pc' := 22) (t := 1) rfl rfl
      · repeat (first | assumption | exact on_up_eq _ _ _ | refine (on_up_ne (by omega)).trans ?_)
      · rfl
      · first | assumption | exact on_lit _ | rfl
      · first | assumption | omega | decide
      refine on_iinc1 (pc' := 25) rfl rfl rfl ?_
      refine on_goto (tgt := 2) rfl rfl ?_
      rw [on_up_up]
      refine on_relv (l := [(0, .ref a), (1, .ref b), (2, .int (nI (i + 1)))]) ⟨rfl, rfl, congrArg some (congrArg Value.int (nI_1 i)), trivial⟩ (ih (i + 1) _ _ (by omega) (fun j hj => ?_) (fun j hj => ?_))
      · by_cases e : j = i
        · subst e; rw [pk_uLs, if_pos (by omega)]
        · rw [pk_uLn e, hY j hj]
          by_cases e2 : j < i
          · rw [if_pos e2, if_pos (by omega)]
          · rw [if_neg e2, if_neg (by omega)]
      · by_cases e : j = i
        · subst e; rw [pk_uLs, if_pos (by omega)]
        · rw [pk_uLn e, hZ j hj]
          by_cases e2 : j < i
          · rw [if_pos e2, if_pos (by omega)]
          · rw [if_neg e2, if_neg (by omega)]
theorem c_M_exchange (ha : h a = some (on_al 1 17 A)) (hb : h b = some (on_al 1 17 B)) (hab : a ≠ b) :
    on_Ct G M_M_exchange [.ref a, .ref b] h sz 0 0 (fun r h1 z => r = none ∧ z = sz ∧ ∃ Y Z, h1 = on_up (on_up h a (on_al 1 17 Y)) b (on_al 1 17 Z) ∧ (∀ i, i < 17 → Y i = B i) ∧ ∀ i, i < 17 → Z i = A i) := by
  refine on_Ct.of (by decide) v_M_exchange (Nat.le_of_ble_eq_true rfl) ?_
  refine on_iconst (pc' := 1) (v := 0) rfl rfl li_0 ?_
  refine on_istore_n (pc' := 2) rfl rfl rfl (by decide) ?_
  have := mo_ex (G := G) (A := A) (B := B) (h := h) (sz := sz) (bc := 0) (bs := 0) (Q := fun r h1 z => r = none ∧ z = sz ∧ ∃ Y Z, h1 = on_up (on_up h a (on_al 1 17 Y)) b (on_al 1 17 Z) ∧ (∀ i, i < 17 → Y i = B i) ∧ ∀ i, i < 17 → Z i = A i) hab ?_ 17 0 A B rfl (fun j hj => by rw [if_neg (by omega)]) (fun j hj => by rw [if_neg (by omega)])
  · rw [on_up_self ha, on_up_self hb] at this
    exact on_relv (l := [(0, .ref a), (1, .ref b), (2, .int (nI 0))]) ⟨rfl, rfl, rfl, trivial⟩ this
  · intro Y Z hY hZ
    refine on_vreturn rfl rfl ?_
    exact ⟨rfl, rfl, Y, Z, rfl, hY, hZ⟩
end MOP
