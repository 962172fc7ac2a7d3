/-! OnionNet: linkUp -/
/-- the links, and their row -/
def lks_W (o s : Nat) (ex : Nat → Bool) (A : Nat → Nat) (lk : Nat → List aB) (h : on_H) : Prop := h (o + 4) = some (on_aq 10 100 (lf ex A)) ∧ lks_S ex A lk h ∧ lks_D (o + 44) ex A ∧ ∀ j, j < 100 → ex j = true → A j + 2 ≤ s
theorem lf_up {ex : Nat → Bool} {A : Nat → Nat} {j s : Nat} : va_up (lf ex A) j (some s) = lf (fu ex j true) (fu A j s) := funext fun i => by
  unfold va_up lf
  by_cases z : i = j
  · rw [z, fu_s, fu_s, if_pos rfl, if_pos rfl]
  · rw [fu_n z, fu_n z, if_neg z]
theorem lks_W.add {o s j0 : Nat} {ex : Nat → Bool} {A : Nat → Nat} {lk : Nat → List aB} {h h2 : on_H} (W : lks_W o s ex A lk h) (hj : j0 < 100) (h0 : ex j0 = false) (hl : lk j0 = []) (hs : o + 44 ≤ s) (n1 : h2 s = some (.inr (5, [.ref (s + 1), .int 0, .int 0]))) (n2 : h2 (s + 1) = some (on_ai 0 1120 (fun _ => 0))) (e : ∀ b, b < s → b ≠ o + 4 → h2 b = h b) (r : h2 (o + 4) = some (on_aq 10 100 (va_up (lf ex A) j0 (some s)))) : lks_W o (s + 2) (fu ex j0 true) (fu A j0 s) lk h2 := by
  obtain ⟨w1, w2, w3, w4⟩ := W
  have fe : ∀ j, fu ex j0 true j = true → j ≠ j0 → ex j = true := fun j ej ne => by rw [fu_n ne] at ej; exact ej
  refine ⟨by rw [← lf_up]; exact r, fun j hj2 ej => ?_, fun i hi ei => ?_, fun j hj2 ej => ?_⟩
  · by_cases z : j = j0
    · subst z
      rw [fu_s, hl]
      exact ⟨0, _, n1, n2, by decide, by decide, fun k hk => absurd hk (Nat.not_lt_zero k)⟩
    · rw [fu_n z]
      have d := (w3 j hj2 (fe j ej z)).1
      have d2 := w4 j hj2 (fe j ej z)
      exact (w2 j hj2 (fe j ej z)).keep (e _ (by omega) (by omega)) (e _ (by omega) (by omega))
  · by_cases z : i = j0
    · subst z
      rw [fu_s]
      refine ⟨hs, fun j hj2 ej ne => ?_⟩
      rw [fu_n (fun w => ne w.symm)]
      have := w4 j hj2 (fe j ej (fun w => ne w.symm))
      exact Or.inr (by omega)
    · rw [fu_n z]
      refine ⟨(w3 i hi (fe i ei z)).1, fun j hj2 ej ne => ?_⟩
      by_cases y : j = j0
      · subst y
        rw [fu_s]
        have := w4 i hi (fe i ei z)
        exact Or.inl (by omega)
      · rw [fu_n y]
        exact (w3 i hi (fe i ei z)).2 j hj2 (fe j ej y) ne
  · by_cases z : j = j0
    · subst z
      rw [fu_s]
      exact Nat.le_refl _
    · rw [fu_n z]
      have := w4 j hj2 (fe j ej z)
      omega
/-- the links while node num is linked to those below i -/
def lu (nr nk num i j : Nat) : Bool := n_ex nr nk j || (decide (j / 10 = num) && (decide (j % 10 < i) && n_pr nr nk (j % 10))) || (decide (j % 10 = num) && (decide (j / 10 < i) && n_pr nr nk (j / 10)))
theorem lu_iff {nr nk num i j : Nat} : lu nr nk num i j = true ↔ n_ex nr nk j = true ∨ (j / 10 = num ∧ j % 10 < i ∧ n_pr nr nk (j % 10) = true) ∨ (j % 10 = num ∧ j / 10 < i ∧ n_pr nr nk (j / 10) = true) := by
  unfold lu
  simp only [Bool.or_eq_true, Bool.and_eq_true, decide_eq_true_eq]
  exact or_assoc
theorem lu_0 {nr nk num : Nat} : lu nr nk num 0 = n_ex nr nk := funext fun j => Bool.eq_iff_iff.mpr (lu_iff.trans ⟨fun z => by
  rcases z with z | z | z
  · exact z
  · exact absurd z.2.1 (Nat.not_lt_zero _)
  · exact absurd z.2.1 (Nat.not_lt_zero _), Or.inl⟩)
theorem fu_tt {f : Nat → Bool} {k j : Nat} : fu f k true j = true ↔ j = k ∨ f j = true := by
  by_cases z : j = k
  · rw [z, fu_s]
    exact ⟨fun _ => Or.inl rfl, fun _ => rfl⟩
  · rw [fu_n z]
    exact ⟨Or.inr, fun w => w.elim (fun y => absurd y z) id⟩
theorem lu_s {nr nk num i : Nat} (hn : num < 10) (hi : i < 10) (hp : n_pr nr nk i = true) : fu (fu (lu nr nk num i) (10 * num + i) true) (10 * i + num) true = lu nr nk num (i + 1) := funext fun j => Bool.eq_iff_iff.mpr (by
  rw [fu_tt, fu_tt, lu_iff, lu_iff]
  constructor
  · rintro (z | z | z | z | z)
    · exact Or.inr (Or.inr ⟨by omega, by omega, by rw [show j / 10 = i by omega]; exact hp⟩)
    · exact Or.inr (Or.inl ⟨by omega, by omega, by rw [show j % 10 = i by omega]; exact hp⟩)
    · exact Or.inl z
    · exact Or.inr (Or.inl ⟨z.1, by omega, z.2.2⟩)
    · exact Or.inr (Or.inr ⟨z.1, by omega, z.2.2⟩)
  · rintro (z | z | z)
    · exact Or.inr (Or.inr (Or.inl z))
    · by_cases w : j % 10 = i
      · exact Or.inr (Or.inl (by omega))
      · exact Or.inr (Or.inr (Or.inr (Or.inl ⟨z.1, by omega, z.2.2⟩)))
    · by_cases w : j / 10 = i
      · exact Or.inl (by omega)
      · exact Or.inr (Or.inr (Or.inr (Or.inr ⟨z.1, by omega, z.2.2⟩))))
theorem lu_n {nr nk num i : Nat} (hp : n_pr nr nk i = false) : lu nr nk num i = lu nr nk num (i + 1) := funext fun j => Bool.eq_iff_iff.mpr (by
  rw [lu_iff, lu_iff]
  constructor
  · rintro (z | z | z)
    · exact Or.inl z
    · exact Or.inr (Or.inl ⟨z.1, by omega, z.2.2⟩)
    · exact Or.inr (Or.inr ⟨z.1, by omega, z.2.2⟩)
  · rintro (z | z | z)
    · exact Or.inl z
    · by_cases w : j % 10 = i
      · rw [w, hp] at z
        exact absurd z.2.2 (by decide)
      · exact Or.inr (Or.inl ⟨z.1, by omega, z.2.2⟩)
    · by_cases w : j / 10 = i
      · rw [w, hp] at z
        exact absurd z.2.2 (by decide)
      · exact Or.inr (Or.inr ⟨z.1, by omega, z.2.2⟩))
theorem n_pr_10 {nr nk x : Nat} (h1 : nr ≤ 6) (h2 : nk ≤ 2) (h : n_pr nr nk x = true) : x < 10 := by
  unfold n_pr at h
  rcases Bool.or_eq_true_iff.mp h with w | w
  · have := of_decide_eq_true w
    omega
  · have := of_decide_eq_true (Bool.and_eq_true_iff.mp w).2
    omega
theorem n_ex_iff {nr nk j : Nat} : n_ex nr nk j = true ↔ (n_pr nr nk (j / 10) = true ∧ n_pr nr nk (j % 10) = true) ∧ j / 10 ≠ j % 10 := by
  unfold n_ex
  simp only [Bool.and_eq_true, decide_eq_true_eq]
theorem lu_10 {nr nk nr2 nk2 num : Nat} (h1 : nr ≤ 6) (h2 : nk ≤ 2) (h0 : n_pr nr nk num = false) (hp : ∀ x, n_pr nr2 nk2 x = true ↔ n_pr nr nk x = true ∨ x = num) : lu nr nk num 10 = n_ex nr2 nk2 := funext fun j => Bool.eq_iff_iff.mpr (by
  rw [lu_iff, n_ex_iff, n_ex_iff, hp, hp]
  constructor
  · rintro (z | z | z)
    · exact ⟨⟨Or.inl z.1.1, Or.inl z.1.2⟩, z.2⟩
    · exact ⟨⟨Or.inr z.1, Or.inl z.2.2⟩, fun w => by rw [← w, z.1, h0] at z; exact absurd z.2.2 (by decide)⟩
    · exact ⟨⟨Or.inl z.2.2, Or.inr z.1⟩, fun w => by rw [w, z.1, h0] at z; exact absurd z.2.2 (by decide)⟩
  · rintro ⟨⟨z1, z2⟩, z3⟩
    rcases z1 with z1 | z1 <;> rcases z2 with z2 | z2
    · exact Or.inl ⟨⟨z1, z2⟩, z3⟩
    · exact Or.inr (Or.inr ⟨z2, n_pr_10 h1 h2 z1, z1⟩)
    · exact Or.inr (Or.inl ⟨z1, n_pr_10 h1 h2 z2, z2⟩)
    · exact absurd (z1.trans z2.symm) z3)
theorem p_k8 : ∀ i, i < 10 → ∀ nk, nk < 3 → p_i nk (nI i - 8) = if 8 ≤ i ∧ i < 8 + nk then some (i - 8) else none := by decide +kernel
section LUP
variable {G : on_G} {o s0 nr nk num : Nat} {kc : Int32} {ra kA A0 : Nat → Nat} {lk : Nat → List aB} {h : on_H} {Q : Option Value → on_H → Nat → Prop}
set_option maxHeartbeats 16000000 in
theorem lup_l (hnr : nr ≤ 6) (hnk : nk ≤ 2) (hn : num < 10) (hpn : n_pr nr nk num = false) (hlk : ∀ j, j < 100 → n_ex nr nk j = false → lk j = []) (hs0 : o + 44 ≤ s0) (hO : n_O o (nI nr) (nI nk) kc h) (r1 : h (o + 1) = some (on_aq 4 6 (rf nr ra))) (r2 : h (o + 2) = some (on_aq 8 2 (rf nk kA)))
    (kk : ∀ (h2 : on_H) (s : Nat) (A : Nat → Nat) (bc bs : Nat), lks_W o s (lu nr nk num 10) A lk h2 → s0 ≤ s → (∀ b, b < s0 → b ≠ o + 4 → h2 b = h b) → (∀ j, n_ex nr nk j = true → A j = A0 j) → (∀ j, lu nr nk num 10 j = true → ¬ n_ex nr nk j = true → s0 ≤ A j) → on_E G M_N_linkUp 66 (on_l []) [] h2 s bc bs Q) :
    ∀ (m i : Nat) (h1 : on_H) (s : Nat) (A : Nat → Nat) (bc bs : Nat), i + m = 10 → lks_W o s (lu nr nk num i) A lk h1 → s0 ≤ s → (∀ b, b < s0 → b ≠ o + 4 → h1 b = h b) → (∀ j, n_ex nr nk j = true → A j = A0 j) → (∀ j, lu nr nk num i j = true → ¬ n_ex nr nk j = true → s0 ≤ A j) → 4 * m ≤ bc → 2246 * m ≤ bs → on_E G M_N_linkUp 2 (on_l [(0, .ref o), (1, .int (nI num)), (2, .int (nI i))]) [] h1 s bc bs Q := by
  intro m
  induction m with
  | zero =>
    intro i h1 s A bc bs hi W hs e a1 a2 b1 b2
    obtain rfl : i = 10 := by omega
    refine on_iload_n (pc' := 3) rfl rfl rfl rfl ?_
    refine on_bipush (pc' := 5) (v := 10) rfl rfl lb_10 ?_
    refine on_icmp_ge (pc' := 8) (tgt := 66) rfl rfl rfl (fun cq => ?_) (fun cq => ?_)
    · exact on_relv (l := []) trivial (kk h1 s A _ _ W hs e a1 a2)
    · exact absurd (by decide) cq
  | succ m ih =>
    intro i h1 s A bc bs hi W hs e a1 a2 b1 b2
    have i10 : i < 10 := by omega
    have o1 : h1 o = some (.inr (11, [.ref (o + 1), .ref (o + 2), .ref (o + 3), .ref (o + 4), .ref (o + 5), .ref (o + 34), .ref (o + 42), .ref (o + 43), .int (nI nr), .int (nI nk), .int kc])) := (e o (by omega) (by omega)).trans hO
    have q1 := (e (o + 1) (by omega) (by omega)).trans r1
    have q2 := (e (o + 2) (by omega) (by omega)).trans r2
    have skip : n_pr nr nk i = false → ∀ lv, lv 0 = some (.ref o) → lv 1 = some (.int (nI num)) → lv 2 = some (.int (nI i)) → on_E G M_N_linkUp 60 lv [] h1 s bc bs Q := fun hp lv l0 l1 l2 => by
      refine on_relv (l := [(0, .ref o), (1, .int (nI num)), (2, .int (nI i))]) ⟨l0, l1, l2, trivial⟩ ?_
      refine on_iinc1 (pc' := 63) rfl rfl rfl ?_
      refine on_goto (tgt := 2) rfl rfl ?_
      rw [lu_n hp] at W a2
      exact on_relv (l := [(0, .ref o), (1, .int (nI num)), (2, .int (nI (i + 1)))]) ⟨rfl, rfl, congrArg some (congrArg Value.int (nI_1 i)), trivial⟩ (ih (i + 1) h1 s A bc bs (by omega) W hs e a1 a2 (by omega) (by omega))
    have body : n_pr nr nk i = true → ∀ lv, lv 0 = some (.ref o) → lv 1 = some (.int (nI num)) → lv 2 = some (.int (nI i)) → on_E G M_N_linkUp 24 lv [] h1 s bc bs Q := fun hp lv l0 l1 l2 => by
      have ne : i ≠ num := fun z => by rw [z, hpn] at hp; exact nomatch hp
      have x1 : 10 * num + i < 100 ∧ 100 < 2 ^ 31 := by omega
      have x2 : 10 * i + num < 100 ∧ 100 < 2 ^ 31 := by omega
      have g1 : lu nr nk num i (10 * num + i) = false := by
        cases z : lu nr nk num i (10 * num + i) with
        | false => rfl
        | true =>
          rcases lu_iff.mp z with w | w | w
          · have := (n_ex_iff.mp w).1.1
            rw [show (10 * num + i) / 10 = num by omega, hpn] at this
            exact nomatch this
          · omega
          · omega
      have g2 : fu (lu nr nk num i) (10 * num + i) true (10 * i + num) = false := by
        rw [fu_n (by omega)]
        cases z : lu nr nk num i (10 * i + num) with
        | false => rfl
        | true =>
          rcases lu_iff.mp z with w | w | w
          · have := (n_ex_iff.mp w).1.2
            rw [show (10 * i + num) % 10 = num by omega, hpn] at this
            exact nomatch this
          · omega
          · omega
      have y1 : lk (10 * num + i) = [] := hlk _ x1.1 (by
        cases z : n_ex nr nk (10 * num + i) with
        | false => rfl
        | true =>
          have := (n_ex_iff.mp z).1.1
          rw [show (10 * num + i) / 10 = num by omega, hpn] at this
          exact nomatch this)
      have y2 : lk (10 * i + num) = [] := hlk _ x2.1 (by
        cases z : n_ex nr nk (10 * i + num) with
        | false => rfl
        | true =>
          have := (n_ex_iff.mp z).1.2
          rw [show (10 * i + num) % 10 = num by omega, hpn] at this
          exact nomatch this)
      refine on_relv (l := [(0, .ref o), (1, .int (nI num)), (2, .int (nI i))]) ⟨l0, l1, l2, trivial⟩ ?_
      have w4 := W.1
      first | refine on_aload_n (pc' := 25) rfl rfl rfl rfl ?_ | refine on_aload_nQ (pc' := 25) rfl rfl rfl rfl ?_
      first | apply on_get (pc' := 28) rfl rfl fl_N_29 | apply on_getN (pc' := 28) rfl rfl fl_N_29
      · repeat (first | assumption | exact on_up_eq _ _ _ | refine (on_up_ne (by omega)).trans ?_)
      · rfl
      refine on_iload_n (pc' := 29) rfl rfl rfl rfl ?_
      refine on_bipush (pc' := 31) (v := 10) rfl rfl lb_10 ?_
      refine on_imul (pc' := 32) rfl rfl ?_
      refine on_iload_n (pc' := 33) rfl rfl rfl rfl ?_
      refine on_iadd (pc' := 34) rfl rfl ?_
      rw [show nI num * 10 + nI i = nI (10 * num + i) by rw [show (10 : Int32) = nI 10 from rfl, pk_mul, nI_add, Nat.mul_comm]]
      refine on_new (pc' := 37) (fs := [.null, .int 0, .int 0]) rfl rfl nw_N_27 (by intro j hj; match j, hj with | 0, _ => rfl | 1, _ => rfl | 2, _ => rfl | j + 3, hj => exact absurd hj (by omega)) (by omega) (by omega) ?_
      refine on_dup (pc' := 38) rfl rfl rfl ?_
      first | refine on_callI (pc' := 41) (As := []) (rest := [.ref s, .int (nI (10 * num + i)), .ref (o + 4)]) (b := s) rfl rfl cw_N_linkUp_216 rfl rfl (Nat.le_of_ble_eq_true rfl) (by omega) (by omega) (c_Link_init (on_up_eq _ _ _) rfl) ?_ | refine on_callIN (pc' := 41) (As := []) (rest := [.ref s, .int (nI (10 * num + i)), .ref (o + 4)]) (b := s) rfl rfl cw_N_linkUp_216 rfl rfl (Nat.le_of_ble_eq_true rfl) (by omega) (by omega) (c_Link_init (on_up_eq _ _ _) rfl) ?_
      rintro v h2 z ⟨rfl, rfl, n1, n2, t1⟩
      have T1 : ∀ b, b < s → h2 b = h1 b := fun b hb => (t1 b (by omega)).trans (on_up_ne (by omega))
      have w5 := (T1 (o + 4) (by omega)).trans w4
      have o2 := (T1 o (by omega)).trans o1
      show on_E G M_N_linkUp 41 _ [.ref s, .int (nI (10 * num + i)), .ref (o + 4)] h2 (s + 2) _ _ _
      apply on_aastoreK (pc' := 42) rfl rfl
      · repeat (first | assumption | exact on_up_eq _ _ _ | refine (on_up_ne (by omega)).trans ?_)
      rotate_left 2
      · repeat (first | assumption | exact on_up_eq _ _ _ | refine (on_up_ne (by omega)).trans ?_)
      rotate_right 2
      · rfl
      · rfl
      · first | assumption | exact on_lit _ | rfl
      · first | assumption | omega | decide
      have W1 := W.add (h2 := on_up h2 (o + 4) (on_aq 10 100 (va_up (lf (lu nr nk num i) A) (10 * num + i) (some s)))) x1.1 g1 y1 (by omega) ((on_up_ne (by omega)).trans n1) ((on_up_ne (by omega)).trans n2) (fun b b1 b2 => (on_up_ne b2).trans (T1 b b1)) (on_up_eq _ _ _)
      have T2 : ∀ b, b < s → b ≠ o + 4 → on_up h2 (o + 4) (on_aq 10 100 (va_up (lf (lu nr nk num i) A) (10 * num + i) (some s))) b = h1 b := fun b b1 b2 => (on_up_ne b2).trans (T1 b b1)
      generalize on_up h2 (o + 4) (on_aq 10 100 (va_up (lf (lu nr nk num i) A) (10 * num + i) (some s))) = h3 at W1 T2 ⊢
      have w6 := W1.1
      have o3 := (T2 o (by omega) (by omega)).trans o1
      first | refine on_aload_n (pc' := 43) rfl rfl rfl rfl ?_ | refine on_aload_nQ (pc' := 43) rfl rfl rfl rfl ?_
      first | apply on_get (pc' := 46) rfl rfl fl_N_29 | apply on_getN (pc' := 46) rfl rfl fl_N_29
      · repeat (first | assumption | exact on_up_eq _ _ _ | refine (on_up_ne (by omega)).trans ?_)
      · rfl
      refine on_iload_n (pc' := 47) rfl rfl rfl rfl ?_
      refine on_bipush (pc' := 49) (v := 10) rfl rfl lb_10 ?_
      refine on_imul (pc' := 50) rfl rfl ?_
      refine on_iload_n (pc' := 51) rfl rfl rfl rfl ?_
      refine on_iadd (pc' := 52) rfl rfl ?_
      rw [show nI i * 10 + nI num = nI (10 * i + num) by rw [show (10 : Int32) = nI 10 from rfl, pk_mul, nI_add, Nat.mul_comm]]
      refine on_new (pc' := 55) (fs := [.null, .int 0, .int 0]) rfl rfl nw_N_27 (by intro j hj; match j, hj with | 0, _ => rfl | 1, _ => rfl | 2, _ => rfl | j + 3, hj => exact absurd hj (by omega)) (by omega) (by omega) ?_
      refine on_dup (pc' := 56) rfl rfl rfl ?_
      first | refine on_callI (pc' := 59) (As := []) (rest := [.ref (s + 2), .int (nI (10 * i + num)), .ref (o + 4)]) (b := s + 2) rfl rfl cw_N_linkUp_216 rfl rfl (Nat.le_of_ble_eq_true rfl) (by omega) (by omega) (c_Link_init (on_up_eq _ _ _) rfl) ?_ | refine on_callIN (pc' := 59) (As := []) (rest := [.ref (s + 2), .int (nI (10 * i + num)), .ref (o + 4)]) (b := s + 2) rfl rfl cw_N_linkUp_216 rfl rfl (Nat.le_of_ble_eq_true rfl) (by omega) (by omega) (c_Link_init (on_up_eq _ _ _) rfl) ?_
      rintro v h4 z ⟨rfl, rfl, n3, n4, t3⟩
      have T3 : ∀ b, b < s + 2 → h4 b = h3 b := fun b hb => (t3 b (by omega)).trans (on_up_ne (by omega))
      have w7 := (T3 (o + 4) (by omega)).trans w6
      show on_E G M_N_linkUp 59 _ [.ref (s + 2), .int (nI (10 * i + num)), .ref (o + 4)] h4 (s + 2 + 2) _ _ _
      apply on_aastoreK (pc' := 60) rfl rfl
      · repeat (first | assumption | exact on_up_eq _ _ _ | refine (on_up_ne (by omega)).trans ?_)
      rotate_left 2
      · repeat (first | assumption | exact on_up_eq _ _ _ | refine (on_up_ne (by omega)).trans ?_)
      rotate_right 2
      · rfl
      · rfl
      · first | assumption | exact on_lit _ | rfl
      · first | assumption | omega | decide
      have W2 := W1.add (h2 := on_up h4 (o + 4) (on_aq 10 100 (va_up (lf (fu (lu nr nk num i) (10 * num + i) true) (fu A (10 * num + i) s)) (10 * i + num) (some (s + 2))))) x2.1 g2 y2 (by omega) ((on_up_ne (by omega)).trans n3) ((on_up_ne (by omega)).trans n4) (fun b b1 b2 => (on_up_ne b2).trans (T3 b b1)) (on_up_eq _ _ _)
      have T4 : ∀ b, b < s → b ≠ o + 4 → on_up h4 (o + 4) (on_aq 10 100 (va_up (lf (fu (lu nr nk num i) (10 * num + i) true) (fu A (10 * num + i) s)) (10 * i + num) (some (s + 2)))) b = h1 b := fun b b1 b2 => (on_up_ne b2).trans ((T3 b (by omega)).trans (T2 b b1 b2))
      generalize on_up h4 (o + 4) (on_aq 10 100 (va_up (lf (fu (lu nr nk num i) (10 * num + i) true) (fu A (10 * num + i) s)) (10 * i + num) (some (s + 2)))) = h5 at W2 T4 ⊢
      rw [lu_s hn i10 hp] at W2
      refine on_iinc1 (pc' := 63) rfl rfl rfl ?_
      refine on_goto (tgt := 2) rfl rfl ?_
      refine on_relv (l := [(0, .ref o), (1, .int (nI num)), (2, .int (nI (i + 1)))]) ⟨rfl, rfl, congrArg some (congrArg Value.int (nI_1 i)), trivial⟩ (ih (i + 1) h5 (s + 2 + 2) _ _ _ (by omega) W2 (by omega) (fun b b1 b2 => (T4 b (by omega) b2).trans (e b b1 b2)) (fun j ej => ?_) (fun j ej nj => ?_) (by omega) (by omega))
      · have n1 : j ≠ 10 * num + i := fun z => by
          have := (n_ex_iff.mp ej).1.1
          rw [z, show (10 * num + i) / 10 = num by omega, hpn] at this
          exact nomatch this
        have n2 : j ≠ 10 * i + num := fun z => by
          have := (n_ex_iff.mp ej).1.2
          rw [z, show (10 * i + num) % 10 = num by omega, hpn] at this
          exact nomatch this
        rw [fu_n n2, fu_n n1]
        exact a1 j ej
      · rw [← lu_s hn i10 hp] at ej
        by_cases z : j = 10 * i + num
        · rw [z, fu_s]
          omega
        · by_cases z2 : j = 10 * num + i
          · rw [fu_n z, z2, fu_s]
            exact hs
          · rw [fu_n z, fu_n z2] at ej ⊢
            exact a2 j ej nj
    refine on_iload_n (pc' := 3) rfl rfl rfl rfl ?_
    refine on_bipush (pc' := 5) (v := 10) rfl rfl lb_10 ?_
    refine on_icmp_ge (pc' := 8) (tgt := 66) rfl rfl rfl (fun cq => ?_) (fun cq => ?_)
    · exact absurd cq (nI_ge (b := 10) i10 (by decide))
    · clear cq
      first | refine on_aload_n (pc' := 9) rfl rfl rfl rfl ?_ | refine on_aload_nQ (pc' := 9) rfl rfl rfl rfl ?_
      refine on_iload_n (pc' := 10) rfl rfl rfl rfl ?_
      refine on_callV (pc' := 13) (As := [.int (nI i)]) (rest := []) (b := o) rfl rfl cw_N_linkUp_75 (o1) rfl rfl (Nat.le_of_ble_eq_true rfl) (Nat.zero_le _) (Nat.zero_le _) (c_relayAtP hnr o1 q1) ?_
      rintro v h1 s ⟨rfl, rfl, rfl⟩
      by_cases ir : i < nr
      · rw [p_i_nI (by omega) ir]
        show on_E G M_N_linkUp 13 _ [.ref (ra i)] h1 s _ _ _
        exact on_ifnonnullR (tgt := 24) rfl rfl (body (n_pr_r ir) _ rfl rfl rfl)
      · rw [p_i_hi (by omega) (by omega)]
        refine on_ifnonnullN (pc' := 16) rfl rfl ?_
        first | refine on_aload_n (pc' := 17) rfl rfl rfl rfl ?_ | refine on_aload_nQ (pc' := 17) rfl rfl rfl rfl ?_
        refine on_iload_n (pc' := 18) rfl rfl rfl rfl ?_
        refine on_callV (pc' := 21) (As := [.int (nI i)]) (rest := []) (b := o) rfl rfl cw_N_linkUp_94 (o1) rfl rfl (Nat.le_of_ble_eq_true rfl) (Nat.zero_le _) (Nat.zero_le _) (c_clientAtP hnk o1 q2) ?_
        rintro v h1 s ⟨rfl, rfl, rfl⟩
        rw [p_k8 i i10 nk (by omega)]
        by_cases ik : 8 ≤ i ∧ i < 8 + nk
        · rw [if_pos ik]
          show on_E G M_N_linkUp 21 _ [.ref (kA (i - 8))] h1 s _ _ _
          refine on_ifnullR (pc' := 24) rfl rfl (body ?_ _ rfl rfl rfl)
          unfold n_pr
          rw [decide_eq_true ik.1, decide_eq_true ik.2]
          exact Bool.or_true _
        · rw [if_neg ik]
          refine on_ifnullN (tgt := 60) rfl rfl (skip ?_ _ rfl rfl rfl)
          unfold n_pr
          rw [decide_eq_false ir, ← Bool.decide_and, decide_eq_false ik]
          rfl
/-- linkUp -/
theorem c_linkUp (hnr : nr ≤ 6) (hnk : nk ≤ 2) (hn : num < 10) (hpn : n_pr nr nk num = false) (hlk : ∀ j, j < 100 → n_ex nr nk j = false → lk j = []) (hs0 : o + 44 ≤ s0) (hO : n_O o (nI nr) (nI nk) kc h) (r1 : h (o + 1) = some (on_aq 4 6 (rf nr ra))) (r2 : h (o + 2) = some (on_aq 8 2 (rf nk kA))) (W : lks_W o s0 (n_ex nr nk) A0 lk h) :
    on_Ct G M_N_linkUp [.ref o, .int (nI num)] h s0 40 22460 (fun v h1 s => v = none ∧ ∃ A, lks_W o s (lu nr nk num 10) A lk h1 ∧ s0 ≤ s ∧ (∀ b, b < s0 → b ≠ o + 4 → h1 b = h b) ∧ (∀ j, n_ex nr nk j = true → A j = A0 j) ∧ (∀ j, lu nr nk num 10 j = true → ¬ n_ex nr nk j = true → s0 ≤ A j)) := by
  refine on_Ct.of (by decide) v_N_linkUp (Nat.le_of_ble_eq_true rfl) ?_
  refine on_iconst (pc' := 1) (v := 0) rfl rfl li_0 ?_
  refine on_istore_n (pc' := 2) rfl rfl rfl (by decide) ?_
  refine on_relv (l := [(0, .ref o), (1, .int (nI num)), (2, .int (nI 0))]) ⟨rfl, rfl, rfl, trivial⟩ (lup_l (h := h) (A0 := A0) hnr hnk hn hpn hlk hs0 hO r1 r2 (fun h2 s A bc bs W2 hs e a1 a2 => ?_) 10 0 h s0 A0 _ _ (by omega) (by rw [lu_0]; exact W) (Nat.le_refl _) (fun _ _ _ => rfl) (fun _ _ => rfl) (fun j ej nj => by rw [lu_0] at ej; exact absurd ej nj) (by decide) (by decide))
  refine on_vreturn rfl rfl ?_
  exact ⟨rfl, A, W2, hs, e, a1, a2⟩
end LUP
