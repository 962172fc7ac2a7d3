/-- limbs as they should be -/
def m_c (y : Nat → Int) : Prop := ∀ i, i < 17 → 0 ≤ y i ∧ y i ≤ 32767
theorem m_c.w {y : Nat → Int} (h : m_c y) : m_w y := ⟨by have := h 0 (by omega); omega, fun i _ hi => h i hi⟩
theorem mv_17 (x : Nat → Int) : mv x 17 = x 0 + mv (fun i => x (1 + i)) 16 * 32768 := by
  have e := mv_app x 1 16
  rw [show (1 + 16 : Nat) = 17 from rfl] at e
  rw [e]
  show 0 + x 0 * 1 + _ * 2 ^ 15 = _
  rw [show (2 : Int) ^ 15 = 32768 from by decide]
  omega
theorem mE_c {x : Nat → Int} (h : m_w x) : m_c (mE x) := by
  have h1 := my_sum x 17
  have h2 := mv_rng (f := fun i => my_y x (1 + i)) (n := 16) (fun i _ => my_yr x (1 + i))
  have h3 := mv_rng (f := fun i => x (1 + i)) (n := 16) (fun i hi => h.2 (1 + i) (by omega) (by omega))
  have h4 := mv_17 x
  have h5 := mv_17 (my_y x)
  have y0 := my_yr x 0
  have x0 := h.1
  rw [h4, h5] at h1
  rw [show 15 * 17 = 255 from rfl] at h1
  rw [show 15 * 16 = 240 from rfl] at h2 h3
  have key : 0 ≤ my_y x 0 + 19 * my_o x 17 ∧ my_y x 0 + 19 * my_o x 17 ≤ 32767 := by
    generalize my_o x 17 = e at *
    generalize mv (fun i => my_y x (1 + i)) 16 = M at *
    generalize mv (fun i => x (1 + i)) 16 = m at *
    generalize my_y x 0 = a at *
    generalize x 0 = b at *
    clear h4 h5 h
    have e1 : -1 ≤ e := by omega
    have e2 : e ≤ 1 := by omega
    rcases wr_i3 e1 e2 with rfl | rfl | rfl <;> omega
  intro i hi
  by_cases e : i = 0
  · subst e
    exact key
  · unfold mE
    rw [if_neg e]
    exact my_yr x i
theorem mv_inj {f g : Nat → Int} : ∀ {n : Nat}, (∀ i, i < n → 0 ≤ f i ∧ f i ≤ 32767) → (∀ i, i < n → 0 ≤ g i ∧ g i ≤ 32767) → mv f n = mv g n → ∀ i, i < n → f i = g i
  | 0, _, _, _, i, hi => absurd hi (by omega)
  | n + 1, hf, hg, h, i, hi => by
    have r1 := mv_rng (f := f) (n := n) (fun i hi => hf i (by omega))
    have r2 := mv_rng (f := g) (n := n) (fun i hi => hg i (by omega))
    have hp : (0 : Int) < 2 ^ (15 * n) := Int.pow_pos (by decide)
    have h' : mv f n + f n * 2 ^ (15 * n) = mv g n + g n * 2 ^ (15 * n) := h
    generalize (2 : Int) ^ (15 * n) = T at *
    have e : f n = g n := by
      rcases Int.lt_trichotomy (f n) (g n) with l | l | l
      · have := Int.mul_le_mul_of_nonneg_right (c := T) (show f n + 1 ≤ g n by omega) (by omega)
        rw [Int.add_mul] at this
        omega
      · exact l
      · have := Int.mul_le_mul_of_nonneg_right (c := T) (show g n + 1 ≤ f n by omega) (by omega)
        rw [Int.add_mul] at this
        omega
    by_cases q : i = n
    · subst q; exact e
    · rw [e] at h'
      exact mv_inj (n := n) (fun i hi => hf i (by omega)) (fun i hi => hg i (by omega)) (by omega) i (by omega)
theorem m_c_l {y : Nat → Int} {V : Nat} (h : m_c y) (hV : mv y 17 = (V : Int)) : ∀ i, i < 17 → y i = (mv_l V i : Nat) := by
  have hr := mv_rng (f := y) (n := 17) h
  rw [show 15 * 17 = 255 from rfl, hV] at hr
  refine mv_inj (n := 17) h (fun i hi => ?_) ?_
  · have : mv_l V i < 32768 := Nat.mod_lt _ (by decide)
    omega
  · rw [mv_of V 17, hV, show 15 * 17 = 255 from rfl, Nat.mod_eq_of_lt (by omega)]
theorem mv_def (f : Nat → Int) : ∀ n, mv (fun i => 32767 - f i) n = 2 ^ (15 * n) - 1 - mv f n
  | 0 => by show (0 : Int) = 2 ^ 0 - 1 - 0; decide
  | n + 1 => by
    show mv (fun i => 32767 - f i) n + (32767 - f n) * 2 ^ (15 * n) = _ - 1 - (mv f n + f n * 2 ^ (15 * n))
    rw [mv_def f n, show 15 * (n + 1) = 15 * n + 15 by omega, Int.pow_add, show (2 : Int) ^ 15 = 32768 from by decide, Int.sub_mul]
    omega
theorem mv_ge {f : Nat → Int} {k : Nat} : ∀ {n : Nat}, (∀ i, i < n → 0 ≤ f i) → k < n → 1 ≤ f k → 2 ^ (15 * k) ≤ mv f n
  | 0, _, hk, _ => absurd hk (by omega)
  | n + 1, hf, hk, h1 => by
    have hp : (0 : Int) < 2 ^ (15 * n) := Int.pow_pos (by decide)
    have hn : 0 ≤ f n * 2 ^ (15 * n) := Int.mul_nonneg (hf n (by omega)) (by omega)
    show _ ≤ mv f n + f n * 2 ^ (15 * n)
    by_cases e : k = n
    · subst e
      have h0 : 0 ≤ mv f k := by
        have : ∀ m, m ≤ k → 0 ≤ mv f m := by
          intro m
          induction m with
          | zero => intro _; exact Int.le_refl 0
          | succ m ih =>
            intro hm
            have := Int.mul_nonneg (hf m (by omega)) (show (0 : Int) ≤ 2 ^ (15 * m) from Int.le_of_lt (Int.pow_pos (by decide)))
            have := ih (by omega)
            show 0 ≤ mv f m + f m * 2 ^ (15 * m)
            omega
        exact this k (Nat.le_refl k)
      have := Int.mul_le_mul_of_nonneg_right (c := (2 : Int) ^ (15 * k)) h1 (by omega)
      omega
    · have := mv_ge (f := f) (k := k) (n := n) (fun i hi => hf i (by omega)) (by omega) h1
      omega
/-- all that a number needs to reach the prime -/
def m_g (y : Nat → Int) (k : Nat) : Prop := 32749 ≤ y 0 ∧ ∀ j, 0 < j → j < k → y j = 32767
theorem m_g_yes {y : Nat → Int} (h : m_g y 17) : mv y 17 = cv_P + (y 0 - 32749) := by
  have h1 := mv_def y 17
  have h2 := mv_congr (f := fun i => 32767 - y i) (g := fun i => if i = 0 then 32767 - y 0 else 0) (n := 17) (fun i hi => by
    by_cases e : i = 0
    · subst e; rfl
    · show 32767 - y i = if i = 0 then _ else 0
      rw [if_neg e, h.2 i (by omega) hi]; rfl)
  have h3 := mv_up (f := fun _ => 0) (g := fun i => if i = 0 then 32767 - y 0 else 0) (d := 32767 - y 0) (m := 0) (fun i => by by_cases e : i = 0 <;> simp [e]) 17
  rw [if_pos (by decide), mv_0, show 15 * 0 = 0 from rfl, Int.pow_zero] at h3
  rw [h2, h3, show 15 * 17 = 255 from rfl] at h1
  unfold cv_P
  omega
theorem m_g_no {y : Nat → Int} (hc : m_c y) (h : ¬ m_g y 17) : mv y 17 < cv_P := by
  have h1 := mv_def y 17
  rw [show 15 * 17 = 255 from rfl] at h1
  have big : 19 ≤ mv (fun i => 32767 - y i) 17 := by
    by_cases e : ∃ j, 0 < j ∧ j < 17 ∧ y j ≠ 32767
    · obtain ⟨j, j0, j1, j2⟩ := e
      have hj := hc j j1
      have := mv_ge (f := fun i => 32767 - y i) (k := j) (n := 17) (fun i hi => by have := hc i hi; show 0 ≤ 32767 - y i; omega) j1 (show 1 ≤ 32767 - y j by omega)
      have hp : (32768 : Int) ≤ 2 ^ (15 * j) := by
        have h2 : (2 : Nat) ^ 15 ≤ 2 ^ (15 * j) := Nat.pow_le_pow_right (by decide) (by omega)
        have h3 : ((2 ^ (15 * j) : Nat) : Int) = 2 ^ (15 * j) := by simp
        omega
      omega
    · have h0 : ¬ 32749 ≤ y 0 := fun z => h ⟨z, fun j j0 j1 => Classical.byContradiction (fun q => e ⟨j, j0, j1, q⟩)⟩
      have h2 := mv_17 (fun i => 32767 - y i)
      have h3 := mv_rng (f := fun i => 32767 - y (1 + i)) (n := 16) (fun i hi => by have := hc (1 + i) (by omega); show 0 ≤ 32767 - y (1 + i) ∧ 32767 - y (1 + i) ≤ 32767; omega)
      omega
  unfold cv_P
  omega
/-- the limbs that are written out -/
theorem m_fin {y : Nat → Int} {v : Int} (hc : m_c y) (hv : cg (mv y 17) v) : (m_g y 17 → (cv_n v : Int) = y 0 - 32749) ∧ (¬ m_g y 17 → ∀ i, i < 17 → y i = (mv_l (cv_n v) i : Nat)) := by
  have hr := mv_rng (f := y) (n := 17) hc
  refine ⟨fun h => ?_, fun h => ?_⟩
  · have h1 := m_g_yes h
    have h0 := (hc 0 (by omega)).2
    have h2 : cg (y 0 - 32749) v := cg.trans ⟨-1, by rw [h1]; omega⟩ hv
    exact (cv_n_of (by have := h.1; omega) (by unfold cv_P; omega) h2).symm
  · have h1 := m_g_no hc h
    exact m_c_l hc (cv_n_of hr.1 h1 hv)
section MTB
variable {G : on_G} {f b sz bc bs n : Nat} {h : on_H} {Q : Option Value → on_H → Nat → Prop} {R : Nat → Int32} {Y : Nat → Int64} {y : Nat → Int}
set_option maxHeartbeats 4000000 in
theorem tb_g (hf : h f = some (on_al 1 17 Y)) (hY : ∀ i, i < 17 → (Y i).toInt = y i)
    (k : ∀ fl : Int32, (fl = 1 ∧ m_g y 17 ∨ fl = 0 ∧ ¬ m_g y 17) → on_E G M_M_toBytes 58 (on_l [(0, .ref b), (1, .ref f), (2, .int fl)]) [] h sz bc bs Q) :
    ∀ (m i : Nat) (fl : Int32), 0 < i → i + m = 17 → (fl = 1 ∧ m_g y i ∨ fl = 0 ∧ ¬ m_g y i) → on_E G M_M_toBytes 26 (on_l [(0, .ref b), (1, .ref f), (2, .int fl), (3, .int (nI i))]) [] h sz bc bs Q := by
  intro m
  induction m with
  | zero =>
    intro i fl i0 hi hg
    obtain rfl : i = 17 := by omega
    refine on_iload_n (pc' := 27) rfl rfl rfl rfl ?_
    refine on_bipush (pc' := 29) (v := 17) rfl rfl lb_17 ?_
    refine on_icmp_ge (pc' := 32) (tgt := 58) rfl rfl rfl (fun cq => ?_) (fun cq => ?_)
    · exact on_relv (l := [(0, .ref b), (1, .ref f), (2, .int fl)]) ⟨rfl, rfl, rfl, trivial⟩ (k fl hg)
    · exact absurd (nI_le (a := 17) (by omega) (by omega)) cq
  | succ m ih =>
    intro i fl i0 hi hg
    have hi2 : i < 17 ∧ 17 < 2 ^ 31 := by omega
    have e32 : (Y i = 32767) ↔ y i = 32767 := by
      rw [← hY i hi2.1, ← Int64.toInt_inj]
      exact Iff.rfl
    have gs : m_g y (i + 1) ↔ m_g y i ∧ y i = 32767 := by
      constructor
      · rintro ⟨g1, g2⟩
        exact ⟨⟨g1, fun j j0 j1 => g2 j j0 (by omega)⟩, g2 i i0 (by omega)⟩
      · rintro ⟨⟨g1, g2⟩, g3⟩
        refine ⟨g1, fun j j0 j1 => ?_⟩
        by_cases e : j = i
        · subst e; exact g3
        · exact g2 j j0 (by omega)
    have no : ¬ m_g y (i + 1) → on_E G M_M_toBytes 50 (on_l [(0, .ref b), (1, .ref f), (2, .int fl), (3, .int (nI i))]) [] h sz bc bs Q := fun hno => by
      refine on_iconst (pc' := 51) (v := 0) rfl rfl li_0 ?_
      refine on_istore_n (pc' := 52) rfl rfl rfl (by decide) ?_
      refine on_iinc1 (pc' := 55) rfl rfl rfl ?_
      refine on_goto (tgt := 26) rfl rfl ?_
      exact on_relv (l := [(0, .ref b), (1, .ref f), (2, .int 0), (3, .int (nI (i + 1)))]) ⟨rfl, rfl, rfl, congrArg some (congrArg Value.int (nI_1 i)), trivial⟩ (ih (i + 1) 0 (by omega) (by omega) (Or.inr ⟨rfl, hno⟩))
    refine on_iload_n (pc' := 27) rfl rfl rfl rfl ?_
    refine on_bipush (pc' := 29) (v := 17) rfl rfl lb_17 ?_
    refine on_icmp_ge (pc' := 32) (tgt := 58) rfl rfl rfl (fun cq => ?_) (fun cq => ?_)
    · exact absurd cq (nI_ge (b := 17) (by omega) (by omega))
    · refine on_iload_n (pc' := 33) rfl rfl rfl rfl ?_
      refine on_if_eq (pc' := 36) (tgt := 50) rfl rfl rfl (fun cq => ?_) (fun cq => ?_)
      · refine no (fun z => ?_)
        rcases hg with ⟨g1, g2⟩ | ⟨g1, g2⟩
        · rw [g1] at cq; exact absurd cq (by decide)
        · exact g2 (gs.mp z).1
      · have g2 : m_g y i := by
          rcases hg with ⟨g1, g2⟩ | ⟨g1, g2⟩
          · exact g2
          · exact absurd g1 cq
        first | refine on_aload_n (pc' := 37) rfl rfl rfl rfl ?_ | refine on_aload_nQ (pc' := 37) rfl rfl rfl rfl ?_
        refine on_iload_n (pc' := 38) rfl rfl rfl rfl ?_
        apply on_laloadK (pc' := 39) (t := 1) rfl rfl
        · repeat (first | assumption | exact on_up_eq _ _ _ | refine (on_up_ne (by omega)).trans ?_)
        · rfl
        · first | assumption | exact on_lit _ | rfl
        · first | assumption | omega | decide
        refine on_ldc2 (pc' := 42) rfl rfl ld_M_179 ?_
        refine on_lcmp (pc' := 43) rfl rfl ?_
        refine on_if_ne (pc' := 46) (tgt := 50) rfl rfl rfl (fun cq => ?_) (fun cq => ?_)
        · exact no (fun z => cq ((lg_cmp_eq _ _).mpr (e32.mpr (gs.mp z).2)))
        · have g3 : y i = 32767 := e32.mp ((lg_cmp_eq _ _).mp cq)
          refine on_iconst (pc' := 47) (v := 1) rfl rfl li_1 ?_
          refine on_goto (tgt := 51) rfl rfl ?_
          refine on_istore_n (pc' := 52) rfl rfl rfl (by decide) ?_
          refine on_iinc1 (pc' := 55) rfl rfl rfl ?_
          refine on_goto (tgt := 26) rfl rfl ?_
          exact on_relv (l := [(0, .ref b), (1, .ref f), (2, .int 1), (3, .int (nI (i + 1)))]) ⟨rfl, rfl, rfl, congrArg some (congrArg Value.int (nI_1 i)), trivial⟩ (ih (i + 1) 1 (by omega) (by omega) (Or.inl ⟨rfl, gs.mpr ⟨g2, g3⟩⟩))
set_option maxHeartbeats 4000000 in
theorem tb_z {e : Int64}
    (k : ∀ T : Nat → Int64, T 0 = e → (∀ i, 0 < i → i < 17 → T i = 0) → on_E G M_M_toBytes 89 (on_l [(0, .ref b), (1, .ref f)]) [] (on_up h f (on_al 1 17 T)) sz bc bs Q) :
    ∀ (m i : Nat) (T : Nat → Int64), 0 < i → i + m = 17 → T 0 = e → (∀ j, 0 < j → j < i → T j = 0) → on_E G M_M_toBytes 73 (on_l [(0, .ref b), (1, .ref f), (3, .int (nI i))]) [] (on_up h f (on_al 1 17 T)) sz bc bs Q := by
  intro m
  induction m with
  | zero =>
    intro i T i0 hi h0 hT
    obtain rfl : i = 17 := by omega
    refine on_iload_n (pc' := 74) rfl rfl rfl rfl ?_
    refine on_bipush (pc' := 76) (v := 17) rfl rfl lb_17 ?_
    refine on_icmp_ge (pc' := 79) (tgt := 89) rfl rfl rfl (fun cq => ?_) (fun cq => ?_)
    · exact on_relv (l := [(0, .ref b), (1, .ref f)]) ⟨rfl, rfl, trivial⟩ (k T h0 hT)
    · exact absurd (nI_le (a := 17) (by omega) (by omega)) cq
  | succ m ih =>
    intro i T i0 hi h0 hT
    have hi2 : i < 17 ∧ 17 < 2 ^ 31 := by omega
    refine on_iload_n (pc' := 74) rfl rfl rfl rfl ?_
    refine on_bipush (pc' := 76) (v := 17) rfl rfl lb_17 ?_
    refine on_icmp_ge (pc' := 79) (tgt := 89) rfl rfl rfl (fun cq => ?_) (fun cq => ?_)
    · exact absurd cq (nI_ge (b := 17) (by omega) (by omega))
    · first | refine on_aload_n (pc' := 80) rfl rfl rfl rfl ?_ | refine on_aload_nQ (pc' := 80) rfl rfl rfl rfl ?_
      refine on_iload_n (pc' := 81) rfl rfl rfl rfl ?_
      refine on_lconst (pc' := 82) (v := 0) rfl rfl ll_0 ?_
      apply on_lastoreK (pc' := 83) (t := 1) rfl rfl
      · repeat (first | assumption | exact on_up_eq _ _ _ | refine (on_up_ne (by omega)).trans ?_)
      · rfl
      · first | assumption | exact on_lit _ | rfl
      · first | assumption | omega | decide
      refine on_iinc1 (pc' := 86) rfl rfl rfl ?_
      refine on_goto (tgt := 73) rfl rfl ?_
      rw [on_up_up]
      refine on_relv (l := [(0, .ref b), (1, .ref f), (3, .int (nI (i + 1)))]) ⟨rfl, rfl, congrArg some (congrArg Value.int (nI_1 i)), trivial⟩ (ih (i + 1) _ (by omega) (by omega) (by rw [pk_uLn (by omega)]; exact h0) (fun j j0 hj => ?_))
      by_cases q : j = i
      · subst q; exact pk_uLs
      · rw [pk_uLn q]; exact hT j j0 (by omega)
set_option maxHeartbeats 4000000 in
theorem tb_0 (hn : 32 ≤ n ∧ n < 2 ^ 31)
    (k : ∀ B : Nat → Int32, (∀ i, i < 32 → B i = 0) → (∀ i, 32 ≤ i → B i = R i) → on_E G M_M_toBytes 107 (on_l [(0, .ref b), (1, .ref f)]) [] (on_up h b (on_ai 0 n B)) sz bc bs Q) :
    ∀ (m i : Nat) (B : Nat → Int32), i + m = 32 → (∀ j, j < i → B j = 0) → (∀ i, 32 ≤ i → B i = R i) → on_E G M_M_toBytes 91 (on_l [(0, .ref b), (1, .ref f), (3, .int (nI i))]) [] (on_up h b (on_ai 0 n B)) sz bc bs Q := by
  intro m
  induction m with
  | zero =>
    intro i B hi hB hR
    obtain rfl : i = 32 := by omega
    refine on_iload_n (pc' := 92) rfl rfl rfl rfl ?_
    refine on_bipush (pc' := 94) (v := 32) rfl rfl lb_32 ?_
    refine on_icmp_ge (pc' := 97) (tgt := 107) rfl rfl rfl (fun cq => ?_) (fun cq => ?_)
    · exact on_relv (l := [(0, .ref b), (1, .ref f)]) ⟨rfl, rfl, trivial⟩ (k B hB hR)
    · exact absurd (nI_le (a := 32) (by omega) (by omega)) cq
  | succ m ih =>
    intro i B hi hB hR
    have hi2 : i < n ∧ n < 2 ^ 31 := by omega
    refine on_iload_n (pc' := 92) rfl rfl rfl rfl ?_
    refine on_bipush (pc' := 94) (v := 32) rfl rfl lb_32 ?_
    refine on_icmp_ge (pc' := 97) (tgt := 107) rfl rfl rfl (fun cq => ?_) (fun cq => ?_)
    · exact absurd cq (nI_ge (b := 32) (by omega) (by omega))
    · first | refine on_aload_n (pc' := 98) rfl rfl rfl rfl ?_ | refine on_aload_nQ (pc' := 98) rfl rfl rfl rfl ?_
      refine on_iload_n (pc' := 99) rfl rfl rfl rfl ?_
      refine on_iconst (pc' := 100) (v := 0) rfl rfl li_0 ?_
      apply on_iastoreK (pc' := 101) (t := 0) rfl rfl
      · repeat (first | assumption | exact on_up_eq _ _ _ | refine (on_up_ne (by omega)).trans ?_)
      · rfl
      · first | assumption | exact on_lit _ | rfl
      · first | assumption | omega | decide
      refine on_iinc1 (pc' := 104) rfl rfl rfl ?_
      refine on_goto (tgt := 91) rfl rfl ?_
      rw [on_up_up]
      refine on_relv (l := [(0, .ref b), (1, .ref f), (3, .int (nI (i + 1)))]) ⟨rfl, rfl, congrArg some (congrArg Value.int (nI_1 i)), trivial⟩ (ih (i + 1) _ (by omega) (fun j hj => ?_) (fun j hj => by rw [pk_un (by omega)]; exact hR j hj))
      by_cases q : j = i
      · subst q; exact pk_us
      · rw [pk_un q]; exact hB j (by omega)
/-- the bytes of a number's lowest t bits -/
def tb_b (N t j : Nat) : Nat := N % 2 ^ t / 2 ^ (8 * j) % 256
theorem tb_b_ne {N t j : Nat} (h : j ≠ t / 8) : tb_b N (t + 1) j = tb_b N t j := by
  unfold tb_b
  by_cases l : j < t / 8
  · rw [show (256 : Nat) = 2 ^ 8 from rfl, cv_limb N (by omega), cv_limb N (by omega)]
  · have z : ∀ u, u ≤ 8 * j → N % 2 ^ u / 2 ^ (8 * j) = 0 := fun u hu => Nat.div_eq_of_lt (Nat.lt_of_lt_of_le (Nat.mod_lt _ (Nat.two_pow_pos u)) (Nat.pow_le_pow_right (by decide) hu))
    rw [z _ (by omega), z _ (by omega)]
theorem tb_b_eq {N t : Nat} : tb_b N t (t / 8) < 2 ^ (t % 8) ∧ tb_b N (t + 1) (t / 8) = tb_b N t (t / 8) + N / 2 ^ t % 2 * 2 ^ (t % 8) := by
  have key : ∀ r, r ≤ 8 → N % 2 ^ (8 * (t / 8) + r) / 2 ^ (8 * (t / 8)) % 256 = N / 2 ^ (8 * (t / 8)) % 2 ^ r := fun r hr => by
    rw [Nat.pow_add, Nat.mod_mul_right_div_self]
    exact Nat.mod_eq_of_lt (Nat.lt_of_lt_of_le (Nat.mod_lt _ (Nat.two_pow_pos r)) (Nat.pow_le_pow_right (n := 2) (by decide) hr))
  have k1 := key (t % 8) (by omega)
  have k2 := key (t % 8 + 1) (by omega)
  rw [show 8 * (t / 8) + t % 8 = t by omega] at k1
  rw [show 8 * (t / 8) + (t % 8 + 1) = t + 1 by omega] at k2
  unfold tb_b
  rw [k1, k2]
  refine ⟨Nat.mod_lt _ (Nat.two_pow_pos _), ?_⟩
  rw [Nat.pow_succ, Nat.mod_mul, Nat.div_div_eq_div_mul, ← Nat.pow_add, show 8 * (t / 8) + t % 8 = t by omega, Nat.mul_comm (2 ^ (t % 8)) (N / 2 ^ t % 2)]
theorem nI_orb : ∀ r, r < 8 → ∀ bit, bit < 2 → ∀ a, a < 2 ^ r → nI a ||| sh_l (nI bit) (nI r) = nI (a + bit * 2 ^ r) := by decide +kernel
theorem lN_bit {v s : Nat} (hv : v < 2 ^ 62) (hs : s < 15) : (sl_r (lN v) (nI s) &&& 1).toInt32 = nI (v / 2 ^ s % 2) := by
  have e : sl_r (lN v) (nI s) = lN (v / 2 ^ s) := by
    unfold sl_r
    rw [wb_c s (by omega)]
    exact pf_shr (by rw [wb_tb, wb_sm s (by omega), BitVec.toNat_ofNat]; omega) hv
  rw [e, wb_a1 (Nat.lt_of_le_of_lt (Nat.div_le_self _ _) (by omega)), lN_i]
set_option maxHeartbeats 4000000 in
theorem tb_w {N : Nat} (hN : N < 57896044618658097711785492504343953926634992332820282019728792003956564819968) (hbf : b ≠ f) (hn : 32 ≤ n ∧ n < 2 ^ 31) (hf : h f = some (on_al 1 17 Y)) (hY : ∀ i, i < 17 → Y i = lN (mv_l N i))
    (k : ∀ B : Nat → Int32, (∀ j, j < 32 → B j = nI (N / 2 ^ (8 * j) % 256)) → (∀ i, 32 ≤ i → B i = R i) → on_E G M_M_toBytes 150 (on_l []) [] (on_up h b (on_ai 0 n B)) sz bc bs Q) :
    ∀ (m i : Nat) (B : Nat → Int32), i + m = 255 → (∀ j, j < 32 → B j = nI (tb_b N i j)) → (∀ i, 32 ≤ i → B i = R i) → on_E G M_M_toBytes 109 (on_l [(0, .ref b), (1, .ref f), (3, .int (nI i))]) [] (on_up h b (on_ai 0 n B)) sz bc bs Q := by
  have n8 : ¬ (8 : Int32) = 0 := by decide
  have n15 : ¬ (15 : Int32) = 0 := by decide
  intro m
  induction m with
  | zero =>
    intro i B hi hB hR
    obtain rfl : i = 255 := by omega
    refine on_iload_n (pc' := 110) rfl rfl rfl rfl ?_
    refine on_sipush (pc' := 113) (v := 255) rfl rfl ls_255 ?_
    refine on_icmp_ge (pc' := 116) (tgt := 150) rfl rfl rfl (fun cq => ?_) (fun cq => ?_)
    · refine on_relv (l := []) trivial (k B (fun j hj => ?_) hR)
      rw [hB j hj]
      unfold tb_b
      rw [Nat.mod_eq_of_lt hN]
    · exact absurd (nI_le (a := 255) (by omega) (by omega)) cq
  | succ m ih =>
    intro i B hi hB hR
    have e1 : nI i / 8 = nI (i / 8) := pk_div (d := 8) (by omega) (by decide) (by decide)
    have e2 : nI i / 15 = nI (i / 15) := pk_div (d := 15) (by omega) (by decide) (by decide)
    have e3 : i_rem (nI i) 15 = nI (i % 15) := pk_rem (d := 15) (by omega) (by decide) (by decide)
    have e4 : i_rem (nI i) 8 = nI (i % 8) := pk_rem (d := 8) (by omega) (by decide) (by decide)
    have h32 : i / 8 < n ∧ n < 2 ^ 31 := by omega
    have h17 : i / 15 < 17 ∧ 17 < 2 ^ 31 := by omega
    have hf2 : on_up h b (on_ai 0 n B) f = some (on_al 1 17 Y) := (on_up_ne (Ne.symm hbf)).trans hf
    have hl : mv_l N (i / 15) < 32768 := Nat.mod_lt _ (by decide)
    have ebit : mv_l N (i / 15) / 2 ^ (i % 15) % 2 = N / 2 ^ i % 2 := by
      have := cv_limb (N / 2 ^ (15 * (i / 15))) (s := i % 15) (w := 1) (e := 15) (by omega)
      rw [show (2 : Nat) ^ 15 = 32768 from rfl, show (2 : Nat) ^ 1 = 2 from rfl, Nat.div_div_eq_div_mul (N), ← Nat.pow_add, show 15 * (i / 15) + i % 15 = i by omega] at this
      exact this
    have e5 : (sl_r (Y (i / 15)) (nI (i % 15)) &&& 1).toInt32 = nI (N / 2 ^ i % 2) := by
      rw [hY _ h17.1, lN_bit (by omega) (by omega), ebit]
    obtain ⟨q1, q2⟩ := tb_b_eq (N := N) (t := i)
    have e6 : B (i / 8) ||| sh_l (nI (N / 2 ^ i % 2)) (nI (i % 8)) = nI (tb_b N (i + 1) (i / 8)) := by
      rw [hB _ (by omega), nI_orb _ (by omega) _ (Nat.mod_lt _ (by decide)) _ q1, q2]
    refine on_iload_n (pc' := 110) rfl rfl rfl rfl ?_
    refine on_sipush (pc' := 113) (v := 255) rfl rfl ls_255 ?_
    refine on_icmp_ge (pc' := 116) (tgt := 150) rfl rfl rfl (fun cq => ?_) (fun cq => ?_)
    · exact absurd cq (nI_ge (b := 255) (by omega) (by omega))
    · first | refine on_aload_n (pc' := 117) rfl rfl rfl rfl ?_ | refine on_aload_nQ (pc' := 117) rfl rfl rfl rfl ?_
      refine on_iload_n (pc' := 118) rfl rfl rfl rfl ?_
      refine on_bipush (pc' := 120) (v := 8) rfl rfl lb_8 ?_
      refine on_idiv (pc' := 121) rfl rfl (by first | assumption | decide) ?_
      rw [e1]
      first | refine on_dup2_11 (pc' := 122) rfl rfl rfl rfl ?_ | refine on_dup2_2 (pc' := 122) rfl rfl rfl ?_
      apply on_ialoadK (pc' := 123) (t := 0) rfl rfl
      · repeat (first | assumption | exact on_up_eq _ _ _ | refine (on_up_ne (by omega)).trans ?_)
      · rfl
      · first | assumption | exact on_lit _ | rfl
      · first | assumption | omega | decide
      first | refine on_aload_n (pc' := 124) rfl rfl rfl rfl ?_ | refine on_aload_nQ (pc' := 124) rfl rfl rfl rfl ?_
      refine on_iload_n (pc' := 125) rfl rfl rfl rfl ?_
      refine on_bipush (pc' := 127) (v := 15) rfl rfl lb_15 ?_
      refine on_idiv (pc' := 128) rfl rfl (by first | assumption | decide) ?_
      rw [e2]
      apply on_laloadK (pc' := 129) (t := 1) rfl rfl
      · repeat (first | assumption | exact on_up_eq _ _ _ | refine (on_up_ne (by omega)).trans ?_)
      · rfl
      · first | assumption | exact on_lit _ | rfl
      · first | assumption | omega | decide
      refine on_iload_n (pc' := 130) rfl rfl rfl rfl ?_
      refine on_bipush (pc' := 132) (v := 15) rfl rfl lb_15 ?_
      refine on_irem (pc' := 133) rfl rfl (by first | assumption | decide) ?_
      rw [e3]
      refine on_lshr (pc' := 134) rfl rfl ?_
      refine on_lconst (pc' := 135) (v := 1) rfl rfl ll_1 ?_
      refine on_land (pc' := 136) rfl rfl ?_
      refine on_l2i (pc' := 137) rfl rfl ?_
      rw [e5]
      refine on_iload_n (pc' := 138) rfl rfl rfl rfl ?_
      refine on_bipush (pc' := 140) (v := 8) rfl rfl lb_8 ?_
      refine on_irem (pc' := 141) rfl rfl (by first | assumption | decide) ?_
      rw [e4]
      refine on_ishl (pc' := 142) rfl rfl ?_
      refine on_ior (pc' := 143) rfl rfl ?_
      rw [e6]
      apply on_iastoreK (pc' := 144) (t := 0) rfl rfl
      · repeat (first | assumption | exact on_up_eq _ _ _ | refine (on_up_ne (by omega)).trans ?_)
      · rfl
      · first | assumption | exact on_lit _ | rfl
      · first | assumption | omega | decide
      refine on_iinc1 (pc' := 147) rfl rfl rfl ?_
      refine on_goto (tgt := 109) rfl rfl ?_
      rw [on_up_up]
      refine on_relv (l := [(0, .ref b), (1, .ref f), (3, .int (nI (i + 1)))]) ⟨rfl, rfl, congrArg some (congrArg Value.int (nI_1 i)), trivial⟩ (ih (i + 1) _ (by omega) (fun j hj => ?_) (fun j hj => by rw [pk_un (by omega)]; exact hR j hj))
      by_cases q : j = i / 8
      · subst q; exact pk_us
      · rw [pk_un q, hB j hj, tb_b_ne q]
set_option maxHeartbeats 4000000 in
/-- toBytes: the one number below the prime -/
theorem c_M_toBytes {F : Nat → Int64} {v : Int} (hf : h f = some (on_al 1 17 F)) (hF : mr F v) (hb : h b = some (on_ai 0 n R)) (hn : 32 ≤ n ∧ n < 2 ^ 31) :
    on_Ct G M_M_toBytes [.ref b, .ref f] h sz 0 0 (fun r h1 z => r = none ∧ z = sz ∧ ∃ T B, h1 = on_up (on_up h f (on_al 1 17 T)) b (on_ai 0 n B) ∧ (∀ j, j < 32 → B j = nI (cv_n v / 2 ^ (8 * j) % 256)) ∧ ∀ i, 32 ≤ i → B i = R i) := by
  have hbf : b ≠ f := fun e => by rw [e, hf] at hb; cases hb
  obtain ⟨x, x1, x2, x3⟩ := hF
  have hN := cv_n_lt v
  refine on_Ct.of (by decide) v_M_toBytes (Nat.le_of_ble_eq_true rfl) ?_
  first | refine on_aload_n (pc' := 1) rfl rfl rfl rfl ?_ | refine on_aload_nQ (pc' := 1) rfl rfl rfl rfl ?_
  refine on_callS (pc' := 4) (As := [.ref f]) (rest := []) rfl rfl cw_M_toBytes_183 rfl rfl (by decide) (Nat.zero_le _) (Nat.zero_le _) (c_M_settleParts hf (x1.le (by decide))) ?_
  rintro r h3 sz ⟨rfl, rfl, Y1, rfl, hY1⟩
  first | refine on_aload_n (pc' := 5) rfl rfl rfl rfl ?_ | refine on_aload_nQ (pc' := 5) rfl rfl rfl rfl ?_
  refine on_callS (pc' := 8) (As := [.ref f]) (rest := []) rfl rfl cw_M_toBytes_183 rfl rfl (by decide) (Nat.zero_le _) (Nat.zero_le _) (c_M_settleParts (on_up_eq _ _ _) (hY1.le (by decide))) ?_
  rintro r h3 sz ⟨rfl, rfl, Y, rfl, hY⟩
  rw [on_up_up]
  have hc : m_c (mE (mE (mE (mE x)))) := mE_c (mE_c (mE_c (mE_c x2).w).w).w
  have hv : cg (mv (mE (mE (mE (mE x)))) 17) v := (mEE_v _).trans ((mEE_v _).trans x3)
  generalize mE (mE (mE (mE x))) = y at *
  obtain ⟨g1, g2⟩ := m_fin hc hv
  have hYi : ∀ i, i < 17 → (Y i).toInt = y i := fun i hi => (hY i hi).1
  have tail : ∀ T : Nat → Int64, (∀ i, i < 17 → T i = lN (mv_l (cv_n v) i)) → on_E G M_M_toBytes 89 (on_l [(0, .ref b), (1, .ref f)]) [] (on_up h f (on_al 1 17 T)) sz 0 0 (fun r h1 z => r = none ∧ z = sz ∧ ∃ T B, h1 = on_up (on_up h f (on_al 1 17 T)) b (on_ai 0 n B) ∧ (∀ j, j < 32 → B j = nI (cv_n v / 2 ^ (8 * j) % 256)) ∧ ∀ i, 32 ≤ i → B i = R i) := by
    intro T hT
    have hb2 : on_up h f (on_al 1 17 T) b = some (on_ai 0 n R) := (on_up_ne hbf).trans hb
    refine on_iconst (pc' := 90) (v := 0) rfl rfl li_0 ?_
    refine on_istore_n (pc' := 91) rfl rfl rfl (by decide) ?_
    have := tb_0 (G := G) (f := f) (b := b) (h := on_up h f (on_al 1 17 T)) (R := R) (sz := sz) (bc := 0) (bs := 0) (Q := fun r h1 z => r = none ∧ z = sz ∧ ∃ T B, h1 = on_up (on_up h f (on_al 1 17 T)) b (on_ai 0 n B) ∧ (∀ j, j < 32 → B j = nI (cv_n v / 2 ^ (8 * j) % 256)) ∧ ∀ i, 32 ≤ i → B i = R i) hn ?_ 32 0 R rfl (fun j hj => absurd hj (by omega)) (fun _ _ => rfl)
    · rw [on_up_self hb2] at this
      exact on_relv (l := [(0, .ref b), (1, .ref f), (3, .int (nI 0))]) ⟨rfl, rfl, rfl, trivial⟩ this
    · intro B hB hR
      refine on_iconst (pc' := 108) (v := 0) rfl rfl li_0 ?_
      refine on_istore_n (pc' := 109) rfl rfl rfl (by decide) ?_
      refine on_relv (l := [(0, .ref b), (1, .ref f), (3, .int (nI 0))]) ⟨rfl, rfl, rfl, trivial⟩ (tb_w (N := cv_n v) (R := R) (by omega) hbf hn (on_up_eq _ _ _) hT (fun B2 hB2 hR2 => ?_) 255 0 B rfl (fun j hj => ?_) hR)
      · refine on_vreturn rfl rfl ?_
        exact ⟨rfl, rfl, T, B2, rfl, hB2, hR2⟩
      · rw [hB j hj]
        unfold tb_b
        rw [Nat.pow_zero, Nat.mod_one, Nat.zero_div]
        rfl
  have loop : ∀ fl : Int32, (fl = 1 ∧ m_g y 1 ∨ fl = 0 ∧ ¬ m_g y 1) → on_E G M_M_toBytes 23 (on_l [(0, .ref b), (1, .ref f)]) [.int fl] (on_up h f (on_al 1 17 Y)) sz 0 0 (fun r h1 z => r = none ∧ z = sz ∧ ∃ T B, h1 = on_up (on_up h f (on_al 1 17 T)) b (on_ai 0 n B) ∧ (∀ j, j < 32 → B j = nI (cv_n v / 2 ^ (8 * j) % 256)) ∧ ∀ i, 32 ≤ i → B i = R i) := by
    intro fl hfl
    refine on_istore_n (pc' := 24) rfl rfl rfl (by decide) ?_
    refine on_iconst (pc' := 25) (v := 1) rfl rfl li_1 ?_
    refine on_istore_n (pc' := 26) rfl rfl rfl (by decide) ?_
    refine on_relv (l := [(0, .ref b), (1, .ref f), (2, .int fl), (3, .int (nI 1))]) ⟨rfl, rfl, rfl, rfl, trivial⟩ (tb_g (on_up_eq _ _ _) hYi (fun fl2 h2 => ?_) 16 1 fl (by decide) rfl hfl)
    refine on_iload_n (pc' := 59) rfl rfl rfl rfl ?_
    refine on_if_eq (pc' := 62) (tgt := 89) rfl rfl rfl (fun cq => ?_) (fun cq => ?_)
    · have ng : ¬ m_g y 17 := by
        rcases h2 with ⟨z1, z2⟩ | ⟨z1, z2⟩
        · rw [z1] at cq; exact absurd cq (by decide)
        · exact z2
      refine on_relv (l := [(0, .ref b), (1, .ref f)]) ⟨rfl, rfl, trivial⟩ (tail Y (fun i hi => lN_of (hYi i hi) (g2 ng i hi) ?_))
      have : mv_l (cv_n v) i < 32768 := Nat.mod_lt _ (by decide)
      omega
    · have yg : m_g y 17 := by
        rcases h2 with ⟨z1, z2⟩ | ⟨z1, z2⟩
        · exact z2
        · exact absurd z1 cq
      have g3 := g1 yg
      have y0 := hc 0 (by omega)
      first | refine on_aload_n (pc' := 63) rfl rfl rfl rfl ?_ | refine on_aload_nQ (pc' := 63) rfl rfl rfl rfl ?_
      refine on_iconst (pc' := 64) (v := 0) rfl rfl li_0 ?_
      first | refine on_dup2_11 (pc' := 65) rfl rfl rfl rfl ?_ | refine on_dup2_2 (pc' := 65) rfl rfl rfl ?_
      apply on_laloadK (pc' := 66) (t := 1) rfl rfl
      · repeat (first | assumption | exact on_up_eq _ _ _ | refine (on_up_ne (by omega)).trans ?_)
      · rfl
      · first | assumption | exact on_lit _ | rfl
      · first | assumption | omega | decide
      refine on_ldc2 (pc' := 69) rfl rfl ld_M_195 ?_
      refine on_lsub (pc' := 70) rfl rfl ?_
      apply on_lastoreK (pc' := 71) (t := 1) rfl rfl
      · repeat (first | assumption | exact on_up_eq _ _ _ | refine (on_up_ne (by omega)).trans ?_)
      · rfl
      · first | assumption | exact on_lit _ | rfl
      · first | assumption | omega | decide
      refine on_iconst (pc' := 72) (v := 1) rfl rfl li_1 ?_
      refine on_istore_n (pc' := 73) rfl rfl rfl (by decide) ?_
      rw [on_up_up]
      refine on_relv (l := [(0, .ref b), (1, .ref f), (3, .int (nI 1))]) ⟨rfl, rfl, rfl, trivial⟩ (tb_z (e := Y 0 - 32749) (fun T t0 tT => tail T (fun i hi => ?_)) 16 1 _ (by decide) rfl pk_uLs (fun j j0 j1 => absurd j1 (by omega)))
      by_cases e : i = 0
      · subst e
        rw [t0]
        have r1 : rb (Y 0 - 32749) (y 0 - 32749) (40000 + 32749) := rb_sub (hY 0 (by omega)) ⟨by decide, by decide⟩ (by decide)
        have ml : mv_l (cv_n v) 0 < 32768 := Nat.mod_lt _ (by decide)
        refine lN_of r1.1 ?_ (by omega)
        rw [← g3]
        unfold mv_l
        rw [Nat.mul_zero, Nat.pow_zero, Nat.div_one, Nat.mod_eq_of_lt (by omega)]
      · rw [tT i (by omega) hi]
        unfold mv_l
        rw [Nat.div_eq_of_lt, Nat.zero_mod]
        · rfl
        · refine Nat.lt_of_lt_of_le (show cv_n v < 2 ^ 15 by omega) (Nat.pow_le_pow_right (by decide) (by omega))
  have hlt : (Y 0 < 32749) ↔ y 0 < 32749 := by
    rw [← hYi 0 (by omega), Int64.lt_iff_toInt_lt]
    exact Iff.rfl
  have g1' : m_g y 1 ↔ 32749 ≤ y 0 := ⟨fun z => z.1, fun z => ⟨z, fun j j0 j1 => absurd j1 (by omega)⟩⟩
  first | refine on_aload_n (pc' := 9) rfl rfl rfl rfl ?_ | refine on_aload_nQ (pc' := 9) rfl rfl rfl rfl ?_
  refine on_iconst (pc' := 10) (v := 0) rfl rfl li_0 ?_
  apply on_laloadK (pc' := 11) (t := 1) (k := 0) rfl rfl
  · repeat (first | assumption | exact on_up_eq _ _ _ | refine (on_up_ne (by omega)).trans ?_)
  · rfl
  · first | assumption | exact on_lit _ | rfl
  · first | assumption | omega | decide
  refine on_ldc2 (pc' := 14) rfl rfl ld_M_195 ?_
  refine on_lcmp (pc' := 15) rfl rfl ?_
  refine on_if_lt (pc' := 18) (tgt := 22) rfl rfl rfl (fun cq => ?_) (fun cq => ?_)
  · have := hlt.mp ((lg_cmp_lt _ _).mp cq)
    refine on_iconst (pc' := 23) (v := 0) rfl rfl li_0 ?_
    exact on_relv (l := [(0, .ref b), (1, .ref f)]) ⟨rfl, rfl, trivial⟩ (loop 0 (Or.inr ⟨rfl, fun z => by have := g1'.mp z; omega⟩))
  · have : ¬ y 0 < 32749 := fun z => cq ((lg_cmp_lt _ _).mpr (hlt.mpr z))
    refine on_iconst (pc' := 19) (v := 1) rfl rfl li_1 ?_
    refine on_goto (tgt := 23) rfl rfl ?_
    exact on_relv (l := [(0, .ref b), (1, .ref f)]) ⟨rfl, rfl, trivial⟩ (loop 1 (Or.inl ⟨rfl, g1'.mpr (by omega)⟩))
end MTB
