/-- how wide a limb is -/
def cv_w (i : Nat) : Nat := 26 - i % 2
/-- the carry into limb n, in whole numbers -/
def cy_o (x : Nat → Int) : Nat → Int
  | 0 => 0
  | n + 1 => (x n + cy_o x n) / 2 ^ cv_w n
def cy_y (x : Nat → Int) (n : Nat) : Int := (x n + cy_o x n) % 2 ^ cv_w n
/-- the same in the machine -/
def cy_O (X : Nat → Int64) : Nat → Int64
  | 0 => 0
  | n + 1 => sl_r (X n + cy_O X n) (nI (cv_w n))
def cy_Y (X : Nat → Int64) (n : Nat) : Int64 := X n + cy_O X n - sl_l (cy_O X (n + 1)) (nI (cv_w n))
theorem e_w {i : Nat} (hi : i < 2 ^ 31) : (26 : Int32) - (nI i &&& 1) = nI (cv_w i) := by
  rw [show nI i &&& 1 = nI (i % 2 ^ 1) from pk_andN (by omega) 1 rfl, show (26 : Int32) = nI 26 from rfl, pk_sub (by omega)]
  rfl
theorem sl_r_aux (x D : Int64) {d : Nat} (hD : (D.toBitVec.smod 64).toNat = d) : (x >>> D).toInt = x.toInt >>> d := by
  rw [← hD]
  exact BitVec.toInt_sshiftRight ..
theorem sl_r_int (x : Int64) {k : Nat} (hk : k < 64) : (sl_r x (nI k)).toInt = x.toInt / 2 ^ k := by
  unfold sl_r
  rw [wb_c k hk]
  have hD : ((lN k).toBitVec.smod 64).toNat = k := by rw [wb_tb, wb_sm k hk, BitVec.toNat_ofNat]; omega
  rw [sl_r_aux x (lN k) hD, Int.shiftRight_eq_div_pow]
  rfl
theorem sl_l_mul (x : Int64) {k : Nat} (hk : k < 64) : sl_l x (nI k) = x * lN (2 ^ k) := by
  unfold sl_l
  rw [wb_c k hk]
  apply wb_inj
  show x.toBitVec <<< ((lN k).toBitVec.smod 64) = x.toBitVec * (lN (2 ^ k)).toBitVec
  rw [wb_tb, wb_tb, wb_sm k hk]
  have e1 : x.toBitVec <<< BitVec.ofNat 64 k = x.toBitVec <<< k := by
    show x.toBitVec <<< (BitVec.ofNat 64 k).toNat = _
    rw [BitVec.toNat_ofNat, Nat.mod_eq_of_lt (by omega)]
  rw [e1, BitVec.shiftLeft_eq_mul_twoPow]
  congr 1
  apply BitVec.eq_of_toNat_eq
  rw [BitVec.toNat_twoPow, BitVec.toNat_ofNat]
theorem rb_pow {k : Nat} (hk : k < 62) : rb (lN (2 ^ k)) (2 ^ k : Int) (2 ^ k) := by
  have : (2 : Nat) ^ k < 2 ^ 62 := Nat.pow_lt_pow_right (by decide) hk
  have e : ((2 ^ k : Nat) : Int) = (2 : Int) ^ k := by simp
  refine ⟨?_, ?_⟩
  · rw [pf_lI (by omega), e]
  · rw [← e]; exact Nat.le_of_eq (Int.natAbs_natCast _)
/-- one limb: what goes on, what stays -/
theorem cy_step {x o : Int} {w : Nat} (hw : w = 25 ∨ w = 26) (h : (x + o).natAbs ≤ 2305843009213693952 + 68719484928) : ((x + o) / 2 ^ w).natAbs ≤ 68719484928 ∧ 0 ≤ (x + o) % 2 ^ w ∧ (x + o) % 2 ^ w < 2 ^ w ∧ (x + o) / 2 ^ w * 2 ^ w + (x + o) % 2 ^ w = x + o := by
  rcases hw with rfl | rfl <;> omega
theorem cv_w_or (i : Nat) : cv_w i = 25 ∨ cv_w i = 26 := by unfold cv_w; omega
theorem cy_rb {X : Nat → Int64} {x : Nat → Int} (h : ∀ k, k < 10 → rb (X k) (x k) 2305843009213693952) : ∀ n, n ≤ 10 → rb (cy_O X n) (cy_o x n) 68719484928
  | 0, _ => ⟨by show (0 : Int64).toInt = 0; decide, by show (0 : Int).natAbs ≤ _; decide⟩
  | n + 1, hn => by
    have ih := cy_rb h n (by omega)
    have h1 := rb_add (h n (by omega)) ih (by decide)
    have h2 := cy_step (cv_w_or n) h1.2
    refine ⟨?_, h2.1⟩
    show (sl_r _ _).toInt = _
    rw [sl_r_int _ (by unfold cv_w; omega), h1.1]
    rfl
theorem cy_rbY {X : Nat → Int64} {x : Nat → Int} (h : ∀ k, k < 10 → rb (X k) (x k) 2305843009213693952) (n : Nat) (hn : n < 10) : (cy_Y X n).toInt = cy_y x n ∧ 0 ≤ cy_y x n ∧ cy_y x n < 2 ^ cv_w n := by
  have h0 := cy_rb h n (by omega)
  have hs := cy_rb h (n + 1) (by omega)
  have h1 := rb_add (h n hn) h0 (by decide)
  have h2 := cy_step (cv_w_or n) h1.2
  refine ⟨?_, h2.2.1, h2.2.2.1⟩
  have hw : cv_w n < 62 := by unfold cv_w; omega
  have h3 : rb (cy_O X (n + 1) * lN (2 ^ cv_w n)) (cy_o x (n + 1) * 2 ^ cv_w n) (68719484928 * 67108864) := by
    rcases cv_w_or n with e | e
    · rw [e]; exact rb_le (rb_mul hs (rb_pow (by omega)) (by decide)) (by decide)
    · rw [e]; exact rb_le (rb_mul hs (rb_pow (by omega)) (by decide)) (by decide)
  have h4 := rb_sub h1 h3 (by decide)
  show (X n + cy_O X n - sl_l _ _).toInt = _
  rw [sl_l_mul _ (by omega), h4.1]
  have h5 := h2.2.2.2
  show _ - (x n + cy_o x n) / 2 ^ cv_w n * 2 ^ cv_w n = (x n + cy_o x n) % 2 ^ cv_w n
  omega
/-- the limbs behind the carries: what goes over the top comes back nineteen times -/
def cv_red (X : Nat → Int64) : Nat → Int64 := fun i => if i = 0 then (cy_Y X 0 + 19 * cy_O X 10) &&& 67108863 else if i = 1 then cy_Y X 1 + sl_r (cy_Y X 0 + 19 * cy_O X 10) 26 else cy_Y X i
/-- how large a limb of a product may be -/
def cv_R (i : Nat) : Nat := if i % 2 = 0 then 67108864 else 33556480
def cv_rd (F : Nat → Int64) (f : Nat → Int) : Prop := ∀ i, i < 10 → rb (F i) (f i) (cv_R i)
theorem cv_rd.in {F : Nat → Int64} {f : Nat → Int} (h : cv_rd F f) : cv_in F f := fun i hi => rb_le (h i hi) (by unfold cv_R cv_B; split <;> omega)
theorem l_and26 (x : Int64) : (x &&& 67108863).toInt = x.toInt % 67108864 := by
  have e : (x &&& 67108863).toBitVec.toNat = x.toBitVec.toNat % 67108864 := by
    show (x.toBitVec &&& 67108863#64).toNat = _
    rw [BitVec.toNat_and, show (67108863#64).toNat = 2 ^ 26 - 1 from by decide, Nat.and_two_pow_sub_one_eq_mod]
  have hl : x.toBitVec.toNat % 67108864 < 67108864 := Nat.mod_lt _ (by decide)
  have e2 : (x &&& 67108863).toInt = ((x &&& 67108863).toBitVec.toNat : Int) := by
    show (x &&& 67108863).toBitVec.toInt = _
    rw [BitVec.toInt_eq_toNat_cond, if_pos (by rw [e]; omega)]
  rw [e2, e]
  have e3 : x.toInt = if 2 * x.toBitVec.toNat < 2 ^ 64 then (x.toBitVec.toNat : Int) else (x.toBitVec.toNat : Int) - (2 ^ 64 : Nat) := BitVec.toInt_eq_toNat_cond _
  rw [e3]
  split <;> omega
theorem cy_sum (x : Nat → Int) : cv_v (cy_y x) + cy_o x 10 * 57896044618658097711785492504343953926634992332820282019728792003956564819968 = cv_v x := by
  have s : ∀ n, cy_o x (n + 1) * 2 ^ cv_w n + cy_y x n = x n + cy_o x n := fun n => by
    show (x n + cy_o x n) / 2 ^ cv_w n * 2 ^ cv_w n + (x n + cy_o x n) % 2 ^ cv_w n = _
    rcases cv_w_or n with e | e <;> rw [e] <;> omega
  have s0 := s 0
  have s1 := s 1
  have s2 := s 2
  have s3 := s 3
  have s4 := s 4
  have s5 := s 5
  have s6 := s 6
  have s7 := s 7
  have s8 := s 8
  have s9 := s 9
  have z : cy_o x 0 = 0 := rfl
  simp only [cv_w, Nat.reduceMod, Nat.reduceSub, Nat.zero_add, Nat.reduceAdd] at s0 s1 s2 s3 s4 s5 s6 s7 s8 s9
  unfold cv_v
  omega
theorem cv_red_ok {X : Nat → Int64} {x : Nat → Int} (h : ∀ k, k < 10 → rb (X k) (x k) 2305843009213693952) (h9 : (x 9).natAbs ≤ 90100000000000000) : ∃ r : Nat → Int, cv_rd (cv_red X) r ∧ cv_v r = cv_v x - cv_P * cy_o x 10 := by
  have hy := cy_rbY h
  have ho := cy_rb h 10 (by omega)
  obtain ⟨y0, y0a, y0b⟩ := hy 0 (by omega)
  obtain ⟨y1, y1a, y1b⟩ := hy 1 (by omega)
  simp only [cv_w, Nat.reduceMod, Nat.reduceSub] at y0b y1b
  have hf : rb (cy_Y X 0 + 19 * cy_O X 10) (cy_y x 0 + 19 * cy_o x 10) (67108864 + 19 * 68719484928) := rb_add ⟨y0, by omega⟩ (rb_mul rb_19 ho (by decide)) (by decide)
  have hf2 := hf.2
  have ho9 := (cy_rb h 9 (by omega)).2
  have ho10 : (cy_o x 10).natAbs ≤ 2685200000 := by
    show ((x 9 + cy_o x 9) / 2 ^ cv_w 9).natAbs ≤ _
    rw [show cv_w 9 = 25 from rfl]
    omega
  refine ⟨fun i => if i = 0 then (cy_y x 0 + 19 * cy_o x 10) % 67108864 else if i = 1 then cy_y x 1 + (cy_y x 0 + 19 * cy_o x 10) / 67108864 else cy_y x i, fun i hi => ?_, ?_⟩
  · by_cases h0 : i = 0
    · subst h0
      refine ⟨?_, ?_⟩
      · show ((cy_Y X 0 + 19 * cy_O X 10) &&& 67108863).toInt = _
        rw [l_and26, hf.1]; rfl
      · show ((cy_y x 0 + 19 * cy_o x 10) % 67108864).natAbs ≤ 67108864
        omega
    · by_cases h1 : i = 1
      · subst h1
        have hs : rb (sl_r (cy_Y X 0 + 19 * cy_O X 10) 26) ((cy_y x 0 + 19 * cy_o x 10) / 67108864) 38913 := by
          refine ⟨?_, by omega⟩
          have := sl_r_int (cy_Y X 0 + 19 * cy_O X 10) (k := 26) (by omega)
          rw [hf.1] at this
          exact this
        have h3 := rb_add (A := 33554431) (show rb (cy_Y X 1) (cy_y x 1) 33554431 from ⟨y1, by omega⟩) hs (by decide)
        refine ⟨h3.1, ?_⟩
        show (cy_y x 1 + (cy_y x 0 + 19 * cy_o x 10) / 67108864).natAbs ≤ 33556480
        omega
      · obtain ⟨y2, y2a, y2b⟩ := hy i hi
        have hw := cv_w_or i
        refine ⟨?_, ?_⟩
        · show (if i = 0 then _ else if i = 1 then _ else cy_Y X i : Int64).toInt = (if i = 0 then _ else if i = 1 then _ else cy_y x i : Int)
          rw [if_neg h0, if_neg h1, if_neg h0, if_neg h1, y2]
        · show (if i = 0 then _ else if i = 1 then _ else cy_y x i : Int).natAbs ≤ _
          rw [if_neg h0, if_neg h1]
          unfold cv_R
          unfold cv_w at y2b
          by_cases hp : i % 2 = 0
          · rw [if_pos hp]
            rw [hp] at y2b
            simp only [Nat.reduceSub] at y2b
            omega
          · rw [if_neg hp]
            rw [show i % 2 = 1 by omega] at y2b
            simp only [Nat.reduceSub] at y2b
            omega
  · have hs := cy_sum x
    unfold cv_P
    unfold cv_v at hs ⊢
    simp only [if_true, Nat.reduceEqDiff, if_false]
    omega
