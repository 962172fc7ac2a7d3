/-! the reference's numbers: seventeen limbs of fifteen bits -/
def mv (f : Nat → Int) : Nat → Int
  | 0 => 0
  | n + 1 => mv f n + f n * 2 ^ (15 * n)
def my_o (x : Nat → Int) : Nat → Int
  | 0 => 0
  | n + 1 => (x n + my_o x n) / 32768
def my_y (x : Nat → Int) (n : Nat) : Int := (x n + my_o x n) % 32768
def my_O (X : Nat → Int64) : Nat → Int64
  | 0 => 0
  | n + 1 => sl_r (X n + my_O X n) 15
def my_Y (X : Nat → Int64) (n : Nat) : Int64 := (X n + my_O X n) &&& 32767
/-- one round of carries -/
def mE (x : Nat → Int) : Nat → Int := fun i => if i = 0 then my_y x 0 + 19 * my_o x 17 else my_y x i
def mEM (X : Nat → Int64) : Nat → Int64 := fun i => if i = 0 then my_Y X 0 + 19 * my_O X 17 else my_Y X i
def m_r (X : Nat → Int64) (x : Nat → Int) (B : Nat) : Prop := ∀ k, k < 17 → rb (X k) (x k) B
theorem mv_congr {f g : Nat → Int} : ∀ {n : Nat}, (∀ i, i < n → f i = g i) → mv f n = mv g n
  | 0, _ => rfl
  | n + 1, h => by
    show mv f n + f n * _ = mv g n + g n * _
    rw [mv_congr (fun i hi => h i (by omega)), h n (by omega)]
theorem mv_add (f g : Nat → Int) : ∀ n, mv (fun i => f i + g i) n = mv f n + mv g n
  | 0 => rfl
  | n + 1 => by
    show mv (fun i => f i + g i) n + (f n + g n) * _ = mv f n + f n * _ + (mv g n + g n * _)
    rw [mv_add f g n, Int.add_mul]
    omega
theorem mv_sub (f g : Nat → Int) : ∀ n, mv (fun i => f i - g i) n = mv f n - mv g n
  | 0 => rfl
  | n + 1 => by
    show mv (fun i => f i - g i) n + (f n - g n) * _ = mv f n + f n * _ - (mv g n + g n * _)
    rw [mv_sub f g n, Int.sub_mul]
    omega
theorem mv_mul (c : Int) (f : Nat → Int) : ∀ n, mv (fun i => c * f i) n = c * mv f n
  | 0 => by show (0 : Int) = c * 0; omega
  | n + 1 => by
    show mv (fun i => c * f i) n + (c * f n) * _ = c * (mv f n + f n * _)
    rw [mv_mul c f n, Int.mul_add, Int.mul_assoc]
/-- one entry changed -/
theorem mv_up {f g : Nat → Int} {d : Int} {m : Nat} (hg : ∀ i, g i = if i = m then f i + d else f i) : ∀ n, mv g n = if m < n then mv f n + d * 2 ^ (15 * m) else mv f n
  | 0 => by rw [if_neg (by omega)]; rfl
  | n + 1 => by
    show mv g n + g n * _ = if m < n + 1 then mv f n + f n * _ + _ else mv f n + f n * _
    rw [mv_up hg n, hg n]
    by_cases e : n = m
    · subst e
      rw [if_neg (by omega), if_pos rfl, if_pos (by omega), Int.add_mul]
      omega
    · rw [if_neg e]
      by_cases l : m < n
      · rw [if_pos l, if_pos (by omega)]
        omega
      · rw [if_neg l, if_neg (by omega)]
/-- in two pieces -/
theorem mv_app (f : Nat → Int) (a : Nat) : ∀ b, mv f (a + b) = mv f a + mv (fun i => f (a + i)) b * 2 ^ (15 * a)
  | 0 => by show mv f a = mv f a + 0 * _; omega
  | b + 1 => by
    show mv f (a + b) + f (a + b) * 2 ^ (15 * (a + b)) = mv f a + (mv (fun i => f (a + i)) b + f (a + b) * 2 ^ (15 * b)) * 2 ^ (15 * a)
    rw [mv_app f a b, Int.add_mul, Int.mul_assoc, ← Int.pow_add, show 15 * b + 15 * a = 15 * (a + b) by omega]
    omega
theorem mv_rng {f : Nat → Int} : ∀ {n : Nat}, (∀ i, i < n → 0 ≤ f i ∧ f i ≤ 32767) → 0 ≤ mv f n ∧ mv f n ≤ 2 ^ (15 * n) - 1
  | 0, _ => by show 0 ≤ (0 : Int) ∧ (0 : Int) ≤ 2 ^ (15 * 0) - 1; decide
  | n + 1, h => by
    have ih := mv_rng (f := f) (n := n) (fun i hi => h i (by omega))
    have hn := h n (by omega)
    have hp : (0 : Int) < 2 ^ (15 * n) := Int.pow_pos (by decide)
    have h1 : 0 ≤ f n * 2 ^ (15 * n) := Int.mul_nonneg hn.1 (by omega)
    have h2 : f n * 2 ^ (15 * n) ≤ 32767 * 2 ^ (15 * n) := Int.mul_le_mul_of_nonneg_right hn.2 (by omega)
    show 0 ≤ mv f n + f n * _ ∧ mv f n + f n * _ ≤ _
    rw [show 15 * (n + 1) = 15 * n + 15 by omega, Int.pow_add, show (2 : Int) ^ 15 = 32768 from by decide]
    omega
theorem my_sum (x : Nat → Int) : ∀ n, mv (my_y x) n + my_o x n * 2 ^ (15 * n) = mv x n
  | 0 => by show (0 : Int) + 0 * _ = 0; omega
  | n + 1 => by
    have ih := my_sum x n
    have e : my_o x (n + 1) * 32768 + my_y x n = x n + my_o x n := by
      show (x n + my_o x n) / 32768 * 32768 + (x n + my_o x n) % 32768 = _
      omega
    show mv (my_y x) n + my_y x n * _ + my_o x (n + 1) * _ = mv x n + x n * _
    rw [show 15 * (n + 1) = 15 * n + 15 by omega, Int.pow_add, show (2 : Int) ^ 15 = 32768 from by decide]
    rw [← ih]
    generalize (2 : Int) ^ (15 * n) = T at *
    have e2 : my_y x n = x n + my_o x n - my_o x (n + 1) * 32768 := by omega
    rw [e2]
    grind
theorem mE_v (x : Nat → Int) : mv (mE x) 17 = mv x 17 - cv_P * my_o x 17 := by
  have h1 := mv_up (f := my_y x) (g := mE x) (d := 19 * my_o x 17) (m := 0) (fun i => by unfold mE; by_cases e : i = 0 <;> simp [e]) 17
  rw [if_pos (by decide)] at h1
  have h2 := my_sum x 17
  rw [h1, ← h2]
  rw [show 15 * 17 = 255 from rfl, show (15 * 0 : Nat) = 0 from rfl]
  unfold cv_P
  omega
theorem my_yr (x : Nat → Int) (n : Nat) : 0 ≤ my_y x n ∧ my_y x n ≤ 32767 := by
  unfold my_y
  omega
theorem my_b1 {x : Nat → Int} (h : ∀ i, i < 17 → (x i).natAbs ≤ 1125899906842624) : ∀ n, n ≤ 17 → (my_o x n).natAbs ≤ 68719476736
  | 0, _ => by show (0 : Int).natAbs ≤ _; decide
  | n + 1, hn => by
    have ih := my_b1 h n (by omega)
    have h1 := h n (by omega)
    show ((x n + my_o x n) / 32768).natAbs ≤ _
    omega
theorem my_b2 {x : Nat → Int} (h0 : (x 0).natAbs ≤ 2199023255552) (h : ∀ i, 0 < i → i < 17 → 0 ≤ x i ∧ x i ≤ 32767) : ∀ n, n + 3 ≤ 17 → -1 ≤ my_o x (n + 3) ∧ my_o x (n + 3) ≤ 1
  | 0, _ => by
    have h1 := h 1 (by omega) (by omega)
    have h2 := h 2 (by omega) (by omega)
    show -1 ≤ (x 2 + (x 1 + (x 0 + 0) / 32768) / 32768) / 32768 ∧ (x 2 + (x 1 + (x 0 + 0) / 32768) / 32768) / 32768 ≤ 1
    omega
  | n + 1, hn => by
    have ih := my_b2 h0 h n (by omega)
    have h1 := h (n + 3) (by omega) (by omega)
    show -1 ≤ (x (n + 3) + my_o x (n + 3)) / 32768 ∧ (x (n + 3) + my_o x (n + 3)) / 32768 ≤ 1
    omega
/-- limbs of the reference between two operations -/
def m_w (f : Nat → Int) : Prop := (-19 ≤ f 0 ∧ f 0 ≤ 32786) ∧ ∀ i, 0 < i → i < 17 → 0 ≤ f i ∧ f i ≤ 32767
theorem mE_w {x : Nat → Int} (h0 : (x 0).natAbs ≤ 2199023255552) (h : ∀ i, 0 < i → i < 17 → 0 ≤ x i ∧ x i ≤ 32767) : m_w (mE x) := by
  have h1 := my_b2 h0 h 14 (by decide)
  refine ⟨?_, fun i i0 i1 => ?_⟩
  · have := my_yr x 0
    show -19 ≤ my_y x 0 + 19 * my_o x 17 ∧ my_y x 0 + 19 * my_o x 17 ≤ 32786
    simp only [Nat.reduceAdd] at h1
    omega
  · unfold mE
    rw [if_neg (by omega)]
    exact my_yr x i
theorem mE_1 {x : Nat → Int} (h : ∀ i, i < 17 → (x i).natAbs ≤ 1125899906842624) : (mE x 0).natAbs ≤ 2199023255552 ∧ ∀ i, 0 < i → i < 17 → 0 ≤ mE x i ∧ mE x i ≤ 32767 := by
  have h1 := my_b1 h 17 (by omega)
  refine ⟨?_, fun i i0 i1 => ?_⟩
  · have := my_yr x 0
    show (my_y x 0 + 19 * my_o x 17).natAbs ≤ _
    omega
  · unfold mE
    rw [if_neg (by omega)]
    exact my_yr x i
/-- two rounds -/
theorem mEE_w {x : Nat → Int} (h : ∀ i, i < 17 → (x i).natAbs ≤ 1125899906842624) : m_w (mE (mE x)) := by
  have := mE_1 h
  exact mE_w this.1 this.2
theorem mEE_v (x : Nat → Int) : cg (mv (mE (mE x)) 17) (mv x 17) := ⟨-(my_o x 17 + my_o (mE x) 17), by rw [mE_v, mE_v, Int.mul_neg, Int.mul_add]; omega⟩
theorem l_and15 (x : Int64) : (x &&& 32767).toInt = x.toInt % 32768 := by
  have e : (x &&& 32767).toBitVec.toNat = x.toBitVec.toNat % 32768 := by
    show (x.toBitVec &&& 32767#64).toNat = _
    rw [BitVec.toNat_and, show (32767#64).toNat = 2 ^ 15 - 1 from by decide, Nat.and_two_pow_sub_one_eq_mod]
  have hl : x.toBitVec.toNat % 32768 < 32768 := Nat.mod_lt _ (by decide)
  have e2 : (x &&& 32767).toInt = ((x &&& 32767).toBitVec.toNat : Int) := by
    show (x &&& 32767).toBitVec.toInt = _
    rw [BitVec.toInt_eq_toNat_cond, if_pos (by rw [e]; omega)]
  rw [e2, e]
  have e3 : x.toInt = if 2 * x.toBitVec.toNat < 2 ^ 64 then (x.toBitVec.toNat : Int) else (x.toBitVec.toNat : Int) - (2 ^ 64 : Nat) := BitVec.toInt_eq_toNat_cond _
  rw [e3]
  split <;> omega
theorem my_rb {X : Nat → Int64} {x : Nat → Int} (h : m_r X x 1125899906842624) : ∀ n, n ≤ 17 → rb (my_O X n) (my_o x n) 68719476736
  | 0, _ => ⟨by show (0 : Int64).toInt = 0; decide, by show (0 : Int).natAbs ≤ _; decide⟩
  | n + 1, hn => by
    have ih := my_rb h n (by omega)
    have h1 := rb_add (h n (by omega)) ih (by decide)
    refine ⟨?_, my_b1 (fun i hi => (h i hi).2) (n + 1) hn⟩
    show (sl_r _ (nI 15)).toInt = _
    rw [sl_r_int _ (by omega), h1.1]
    rfl
theorem my_rbY {X : Nat → Int64} {x : Nat → Int} (h : m_r X x 1125899906842624) {n : Nat} (hn : n < 17) : rb (my_Y X n) (my_y x n) 32767 := by
  have h1 := rb_add (h n hn) (my_rb h n (by omega)) (by decide)
  refine ⟨?_, by have := my_yr x n; omega⟩
  show (_ &&& _ : Int64).toInt = _
  rw [l_and15, h1.1]
  rfl
theorem mE_rb {X : Nat → Int64} {x : Nat → Int} (h : m_r X x 1125899906842624) : m_r (mEM X) (mE x) 2199023255552 := fun i hi => by
  by_cases e : i = 0
  · subst e
    have := rb_add (my_rbY h hi) (rb_mul rb_19 (my_rb h 17 (by omega)) (by decide)) (by decide)
    exact rb_le this (by decide)
  · show rb (if i = 0 then _ else my_Y X i) (if i = 0 then _ else my_y x i) _
    rw [if_neg e, if_neg e]
    exact rb_le (my_rbY h hi) (by decide)
theorem m_r.le {X : Nat → Int64} {x : Nat → Int} {A B : Nat} (h : m_r X x A) (hab : A ≤ B) : m_r X x B := fun i hi => rb_le (h i hi) hab
theorem m_r.ext {X Y : Nat → Int64} {x : Nat → Int} {A : Nat} (h : m_r X x A) (e : ∀ i, i < 17 → Y i = X i) : m_r Y x A := fun i hi => by rw [e i hi]; exact h i hi
/-- the row while limb k waits -/
def mF (X : Nat → Int64) (k : Nat) : Nat → Int64 := fun i => if i < k then my_Y X i else if i = k then X k + my_O X k else X i
section MSE
variable {G : on_G} {a sz bc bs : Nat} {h : on_H} {Q : Option Value → on_H → Nat → Prop} {X : Nat → Int64}
set_option maxHeartbeats 4000000 in
theorem ms_in {r : Int32} (k : ∀ F : Nat → Int64, (∀ i, i < 17 → F i = mEM X i) → on_E G M_M_settleParts 66 (on_l [(0, .ref a), (1, .int r)]) [] (on_up h a (on_al 1 17 F)) sz bc bs Q) :
    ∀ (m i : Nat) (F : Nat → Int64), i + m = 17 → (i < 17 → ∀ j, j < 17 → F j = mF X i j) → (i = 17 → ∀ j, j < 17 → F j = mEM X j) → on_E G M_M_settleParts 9 (on_l [(0, .ref a), (1, .int r), (2, .int (nI i))]) [] (on_up h a (on_al 1 17 F)) sz bc bs Q := by
  intro m
  induction m with
  | zero =>
    intro i F hi h1 h2
    obtain rfl : i = 17 := by omega
    refine on_iload_n (pc' := 10) rfl rfl rfl rfl ?_
    refine on_bipush (pc' := 12) (v := 17) rfl rfl lb_17 ?_
    refine on_icmp_ge (pc' := 15) (tgt := 66) rfl rfl rfl (fun cq => ?_) (fun cq => ?_)
    · exact on_relv (l := [(0, .ref a), (1, .int r)]) ⟨rfl, rfl, trivial⟩ (k F (h2 rfl))
    · exact absurd (nI_le (a := 17) (by omega) (by omega)) cq
  | succ m ih =>
    intro i F hi h1 h2
    have hF := h1 (by omega)
    have hFi : F i = X i + my_O X i := by rw [hF i (by omega)]; unfold mF; rw [if_neg (by omega), if_pos rfl]
    have hi2 : i < 17 ∧ 17 < 2 ^ 31 := by omega
    have ha : on_up h a (on_al 1 17 F) a = some (on_al 1 17 F) := on_up_eq _ _ _
    have e1 : nI i + 1 = nI (i + 1) := nI_1 i
    refine on_iload_n (pc' := 10) rfl rfl rfl rfl ?_
    refine on_bipush (pc' := 12) (v := 17) rfl rfl lb_17 ?_
    refine on_icmp_ge (pc' := 15) (tgt := 66) rfl rfl rfl (fun cq => ?_) (fun cq => ?_)
    · exact absurd cq (nI_ge (b := 17) (by omega) (by omega))
    · first | refine on_aload_n (pc' := 16) rfl rfl rfl rfl ?_ | refine on_aload_nQ (pc' := 16) rfl rfl rfl rfl ?_
      refine on_iload_n (pc' := 17) rfl rfl rfl rfl ?_
      apply on_laloadK (pc' := 18) (t := 1) rfl rfl
      · repeat (first | assumption | exact on_up_eq _ _ _ | refine (on_up_ne (by omega)).trans ?_)
      · rfl
      · first | assumption | exact on_lit _ | rfl
      · first | assumption | omega | decide
      rw [hFi]
      refine on_bipush (pc' := 20) (v := 15) rfl rfl lb_15 ?_
      refine on_lshr (pc' := 21) rfl rfl ?_
      refine on_lstore_n (pc' := 22) rfl rfl rfl (by decide) ?_
      first | refine on_aload_n (pc' := 23) rfl rfl rfl rfl ?_ | refine on_aload_nQ (pc' := 23) rfl rfl rfl rfl ?_
      refine on_iload_n (pc' := 24) rfl rfl rfl rfl ?_
      first | refine on_dup2_11 (pc' := 25) rfl rfl rfl rfl ?_ | refine on_dup2_2 (pc' := 25) rfl rfl rfl ?_
      apply on_laloadK (pc' := 26) (t := 1) rfl rfl
      · repeat (first | assumption | exact on_up_eq _ _ _ | refine (on_up_ne (by omega)).trans ?_)
      · rfl
      · first | assumption | exact on_lit _ | rfl
      · first | assumption | omega | decide
      rw [hFi]
      refine on_ldc2 (pc' := 29) rfl rfl ld_M_179 ?_
      refine on_land (pc' := 30) rfl rfl ?_
      apply on_lastoreK (pc' := 31) (t := 1) rfl rfl
      · repeat (first | assumption | exact on_up_eq _ _ _ | refine (on_up_ne (by omega)).trans ?_)
      · rfl
      · first | assumption | exact on_lit _ | rfl
      · first | assumption | omega | decide
      refine on_iload_n (pc' := 32) rfl rfl rfl rfl ?_
      refine on_bipush (pc' := 34) (v := 16) rfl rfl lb_16 ?_
      refine on_icmp_ge (pc' := 37) (tgt := 49) rfl rfl rfl (fun cq => ?_) (fun cq => ?_)
      · have c1 : i = 16 := by have := (nI_leI (a := 16) (by omega) (by omega)).mp cq; omega
        subst c1
        have hF0 : F 0 = my_Y X 0 := by rw [hF 0 (by omega)]; unfold mF; rw [if_pos (by omega)]
        first | refine on_aload_n (pc' := 50) rfl rfl rfl rfl ?_ | refine on_aload_nQ (pc' := 50) rfl rfl rfl rfl ?_
        refine on_iconst (pc' := 51) (v := 0) rfl rfl li_0 ?_
        first | refine on_dup2_11 (pc' := 52) rfl rfl rfl rfl ?_ | refine on_dup2_2 (pc' := 52) rfl rfl rfl ?_
        apply on_laloadK (pc' := 53) (t := 1) rfl rfl
        · repeat (first | assumption | exact on_up_eq _ _ _ | refine (on_up_ne (by omega)).trans ?_)
        · rfl
        · first | assumption | exact on_lit _ | rfl
        · first | assumption | omega | decide
        rw [pk_uLn (show (0 : Nat) ≠ 16 by decide), hF0]
        refine on_ldc2 (pc' := 56) rfl rfl ld_M_181 ?_
        refine on_lload_n (pc' := 57) rfl rfl rfl rfl ?_
        refine on_lmul (pc' := 58) rfl rfl ?_
        refine on_ladd (pc' := 59) rfl rfl ?_
        apply on_lastoreK (pc' := 60) (t := 1) rfl rfl
        · repeat (first | assumption | exact on_up_eq _ _ _ | refine (on_up_ne (by omega)).trans ?_)
        · rfl
        · first | assumption | exact on_lit _ | rfl
        · first | assumption | omega | decide
        refine on_iinc1 (pc' := 63) rfl rfl rfl ?_
        refine on_goto (tgt := 9) rfl rfl ?_
        rw [on_up_up, on_up_up]
        refine on_relv (l := [(0, .ref a), (1, .int r), (2, .int (nI 17))]) ⟨rfl, rfl, rfl, trivial⟩ (ih 17 _ (by omega) (fun z => absurd z (by omega)) (fun _ j hj => ?_))
        show vp_updL (vp_updL F 16 (my_Y X 16)) 0 (my_Y X 0 + 19 * my_O X 17) j = mEM X j
        unfold mEM
        by_cases j0 : j = 0
        · subst j0
          rw [pk_uLs, if_pos rfl]
        · rw [pk_uLn j0, if_neg j0]
          by_cases j1 : j = 16
          · subst j1
            rw [pk_uLs]
          · rw [pk_uLn j1, hF j hj]
            unfold mF
            rw [if_pos (by omega)]
      · have c1 : ¬ 16 ≤ i := fun z => cq ((nI_leI (a := 16) (by omega) (by omega)).mpr z)
        have hi3 : i + 1 < 17 ∧ 17 < 2 ^ 31 := by omega
        have hF1 : F (i + 1) = X (i + 1) := by rw [hF (i + 1) (by omega)]; unfold mF; rw [if_neg (by omega), if_neg (by omega)]
        first | refine on_aload_n (pc' := 38) rfl rfl rfl rfl ?_ | refine on_aload_nQ (pc' := 38) rfl rfl rfl rfl ?_
        refine on_iload_n (pc' := 39) rfl rfl rfl rfl ?_
        refine on_iconst (pc' := 40) (v := 1) rfl rfl li_1 ?_
        refine on_iadd (pc' := 41) rfl rfl ?_
        first | refine on_dup2_11 (pc' := 42) rfl rfl rfl rfl ?_ | refine on_dup2_2 (pc' := 42) rfl rfl rfl ?_
        apply on_laloadK (pc' := 43) (t := 1) rfl rfl
        · repeat (first | assumption | exact on_up_eq _ _ _ | refine (on_up_ne (by omega)).trans ?_)
        · rfl
        · first | assumption | exact on_lit _ | rfl
        · first | assumption | omega | decide
        rw [pk_uLn (show i + 1 ≠ i by omega), hF1]
        refine on_lload_n (pc' := 44) rfl rfl rfl rfl ?_
        refine on_ladd (pc' := 45) rfl rfl ?_
        apply on_lastoreK (pc' := 46) (t := 1) rfl rfl
        · repeat (first | assumption | exact on_up_eq _ _ _ | refine (on_up_ne (by omega)).trans ?_)
        · rfl
        · first | assumption | exact on_lit _ | rfl
        · first | assumption | omega | decide
        refine on_goto (tgt := 60) rfl rfl ?_
        refine on_iinc1 (pc' := 63) rfl rfl rfl ?_
        refine on_goto (tgt := 9) rfl rfl ?_
        rw [on_up_up, on_up_up]
        refine on_relv (l := [(0, .ref a), (1, .int r), (2, .int (nI (i + 1)))]) ⟨rfl, rfl, congrArg some (congrArg Value.int (nI_1 i)), trivial⟩ (ih (i + 1) _ (by omega) (fun _ j hj => ?_) (fun z => absurd z (by omega)))
        show vp_updL (vp_updL F i (my_Y X i)) (i + 1) (X (i + 1) + my_O X (i + 1)) j = mF X (i + 1) j
        unfold mF
        by_cases j0 : j = i + 1
        · subst j0
          rw [pk_uLs, if_neg (by omega), if_pos rfl]
        · rw [pk_uLn j0]
          by_cases j1 : j = i
          · subst j1
            rw [pk_uLs, if_pos (by omega)]
          · rw [pk_uLn j1, hF j hj]
            unfold mF
            rw [if_neg j1, if_neg j0]
            by_cases j2 : j < i
            · rw [if_pos j2, if_pos (by omega)]
            · rw [if_neg j2, if_neg (by omega)]
set_option maxHeartbeats 4000000 in
/-- settleParts: two rounds of carries -/
theorem c_M_settleParts {x : Nat → Int} (ha : h a = some (on_al 1 17 X)) (hx : m_r X x 1125899906842624) :
    on_Ct G M_M_settleParts [.ref a] h sz 0 0 (fun r h1 z => r = none ∧ z = sz ∧ ∃ Y, h1 = on_up h a (on_al 1 17 Y) ∧ m_r Y (mE (mE x)) 40000) := by
  refine on_Ct.of (by decide) v_M_settleParts (Nat.le_of_ble_eq_true rfl) ?_
  have r0 : ∀ X0 : Nat → Int64, ∀ j, j < 17 → X0 j = mF X0 0 j := fun X0 j hj => by
    unfold mF
    rw [if_neg (by omega)]
    by_cases e : j = 0
    · subst e
      rw [if_pos rfl]
      exact (Int64.add_zero _).symm
    · rw [if_neg e]
  refine on_iconst (pc' := 1) (v := 0) rfl rfl li_0 ?_
  refine on_istore_n (pc' := 2) rfl rfl rfl (by decide) ?_
  refine on_iload_n (pc' := 3) rfl rfl rfl rfl ?_
  refine on_iconst (pc' := 4) (v := 2) rfl rfl li_2 ?_
  refine on_icmp_ge (pc' := 7) (tgt := 72) rfl rfl rfl (fun cq => ?_) (fun cq => ?_)
  · exact absurd cq (by decide)
  · refine on_iconst (pc' := 8) (v := 0) rfl rfl li_0 ?_
    refine on_istore_n (pc' := 9) rfl rfl rfl (by decide) ?_
    have := ms_in (G := G) (a := a) (h := h) (X := X) (sz := sz) (bc := 0) (bs := 0) (Q := fun r h1 z => r = none ∧ z = sz ∧ ∃ Y, h1 = on_up h a (on_al 1 17 Y) ∧ m_r Y (mE (mE x)) 40000) (r := nI 0) ?_ 17 0 X rfl (fun _ => r0 X) (fun z => absurd z (by omega))
    · rw [on_up_self ha] at this
      exact on_relv (l := [(0, .ref a), (1, .int (nI 0)), (2, .int (nI 0))]) ⟨rfl, rfl, rfl, trivial⟩ this
    · intro F hF
      have hF2 : m_r F (mE x) 2199023255552 := (mE_rb hx).ext hF
      refine on_iinc1 (pc' := 69) rfl rfl rfl ?_
      refine on_goto (tgt := 2) rfl rfl ?_
      refine on_relv (l := [(0, .ref a), (1, .int (nI 1))]) ⟨rfl, rfl, trivial⟩ ?_
      refine on_iload_n (pc' := 3) rfl rfl rfl rfl ?_
      refine on_iconst (pc' := 4) (v := 2) rfl rfl li_2 ?_
      refine on_icmp_ge (pc' := 7) (tgt := 72) rfl rfl rfl (fun cq => ?_) (fun cq => ?_)
      · exact absurd cq (by decide)
      · refine on_iconst (pc' := 8) (v := 0) rfl rfl li_0 ?_
        refine on_istore_n (pc' := 9) rfl rfl rfl (by decide) ?_
        have := ms_in (G := G) (a := a) (h := on_up h a (on_al 1 17 F)) (X := F) (sz := sz) (bc := 0) (bs := 0) (Q := fun r h1 z => r = none ∧ z = sz ∧ ∃ Y, h1 = on_up h a (on_al 1 17 Y) ∧ m_r Y (mE (mE x)) 40000) (r := nI 1) ?_ 17 0 F rfl (fun _ => r0 F) (fun z => absurd z (by omega))
        · rw [on_up_up] at this
          exact on_relv (l := [(0, .ref a), (1, .int (nI 1)), (2, .int (nI 0))]) ⟨rfl, rfl, rfl, trivial⟩ this
        · intro F3 hF3
          have hF4 : m_r F3 (mE (mE x)) 2199023255552 := (mE_rb (hF2.le (by decide))).ext hF3
          have hw := mEE_w (x := x) (fun i hi => (hx i hi).2)
          rw [on_up_up]
          refine on_iinc1 (pc' := 69) rfl rfl rfl ?_
          refine on_goto (tgt := 2) rfl rfl ?_
          refine on_iload_n (pc' := 3) rfl rfl rfl rfl ?_
          refine on_iconst (pc' := 4) (v := 2) rfl rfl li_2 ?_
          refine on_icmp_ge (pc' := 7) (tgt := 72) rfl rfl rfl (fun cq => ?_) (fun cq => ?_)
          · refine on_vreturn rfl rfl ?_
            refine ⟨rfl, rfl, F3, rfl, fun i hi => ⟨(hF4 i hi).1, ?_⟩⟩
            by_cases e : i = 0
            · subst e; have := hw.1; omega
            · have := hw.2 i (by omega) hi; omega
          · exact absurd (by decide) cq
end MSE
