section WR2
variable {G : on_G} {o a q sz bc bs : Nat} {h : on_H} {Q : Option Value → on_H → Nat → Prop} {at_ : Int32} {fs : List Value}
/-- one pass: the first limb with nineteen times what went over, then the carries -/
def wr_F (F : Nat → Int64) (D : Int64) : Nat → Int64 := vp_updL F 0 (F 0 + D)
def wr_G (F : Nat → Int64) (D : Int64) : Nat → Int64 := on_tk (cy_Y (wr_F F D)) (wr_F F D) 10
theorem rb_19o {O : Int64} {z : Int} (h : rb O z 68719484928) : rb (19 * O) (19 * z) 1152921504606846976 := rb_le (rb_mul rb_19 h (by decide)) (by decide)
/-- a pass in whole numbers -/
theorem wr_step {F : Nat → Int64} {f : Nat → Int} {D : Int64} {d : Int} (hf : ∀ k, k < 10 → rb (F k) (f k) 67108864) (hd : rb D d 1152921504606846976) : ∃ (g : Nat → Int) (e : Int), cv_ok (wr_G F D) g ∧ rb (cy_O (wr_F F D) 10) e 68719484928 ∧ cv_v g + e * cv_2 = cv_v f + d := by
  have h1 := cv_first hf hd
  obtain ⟨p1, p2, p3⟩ := cv_pass h1
  rw [cv_v_0] at p3
  exact ⟨_, _, p1, cy_rb h1 10 (by omega), p3⟩
set_option maxHeartbeats 4000000 in
theorem wr_p {F : Nat → Int64} {O : Int64} {n : Int32} {f : Nat → Int} {x : Int} (hao : a ≠ o) (ho : h o = some (.inr (1, fs))) (ha : h a = some (on_al 1 10 F)) (hf : ∀ k, k < 10 → rb (F k) (f k) 67108864) (hO : rb O x 68719484928)
    (k : ∀ (F2 : Nat → Int64) (O2 : Int64) (g : Nat → Int) (e : Int), cv_ok F2 g → rb O2 e 68719484928 → cv_v g + e * cv_2 = cv_v f + 19 * x → on_E G M_Curve_writeReduced 6 (on_l [(0, .ref o), (1, .ref a), (2, .ref q), (3, .int at_), (4, .long O2), (6, .int (n + 1))]) [] (on_up h a (on_al 1 10 F2)) sz bc bs Q) :
    on_E G M_Curve_writeReduced 12 (on_l [(0, .ref o), (1, .ref a), (2, .ref q), (3, .int at_), (4, .long O), (6, .int n)]) [] h sz bc bs Q := by
  obtain ⟨g, e, k1, k2, k3⟩ := wr_step hf (rb_19o hO)
  first | refine on_aload_n (pc' := 13) rfl rfl rfl rfl ?_ | refine on_aload_nQ (pc' := 13) rfl rfl rfl rfl ?_
  refine on_iconst (pc' := 14) (v := 0) rfl rfl li_0 ?_
  first | refine on_dup2_11 (pc' := 15) rfl rfl rfl rfl ?_ | refine on_dup2_2 (pc' := 15) rfl rfl rfl ?_
  apply on_laloadK (pc' := 16) (t := 1) rfl rfl
  · repeat (first | assumption | exact on_up_eq _ _ _ | refine (on_up_ne (by omega)).trans ?_)
  · rfl
  · first | assumption | exact on_lit _ | rfl
  · first | assumption | omega | decide
  refine on_ldc2 (pc' := 19) rfl rfl ld_Curve_80 ?_
  refine on_lload (pc' := 21) rfl rfl rfl ?_
  refine on_lmul (pc' := 22) rfl rfl ?_
  refine on_ladd (pc' := 23) rfl rfl ?_
  apply on_lastoreK (pc' := 24) (t := 1) rfl rfl
  · repeat (first | assumption | exact on_up_eq _ _ _ | refine (on_up_ne (by omega)).trans ?_)
  · rfl
  · first | assumption | exact on_lit _ | rfl
  · first | assumption | omega | decide
  first | refine on_aload_n (pc' := 25) rfl rfl rfl rfl ?_ | refine on_aload_nQ (pc' := 25) rfl rfl rfl rfl ?_
  first | refine on_aload_n (pc' := 26) rfl rfl rfl rfl ?_ | refine on_aload_nQ (pc' := 26) rfl rfl rfl rfl ?_
  refine on_callV (pc' := 29) (As := [.ref a]) (rest := []) (b := o) rfl rfl cw_Curve_writeReduced_88 ((on_up_ne (Ne.symm hao)).trans ho) rfl rfl (by decide) (Nat.zero_le _) (Nat.zero_le _) (c_Curve_carry (on_up_eq _ _ _)) ?_
  rintro r h1 z ⟨rfl, rfl, rfl⟩
  rw [on_up_up]
  have := k _ _ g e k1 k2 k3
  refine on_lstore (pc' := 31) rfl rfl (by decide) ?_
  refine on_iinc1 (pc' := 34) rfl rfl rfl ?_
  refine on_goto (tgt := 6) rfl rfl ?_
  exact on_relv (l := [(0, .ref o), (1, .ref a), (2, .ref q), (3, .int at_), (4, .long (cy_O (wr_F F (19 * O)) 10)), (6, .int (n + 1))]) ⟨rfl, rfl, rfl, rfl, rfl, rfl, trivial⟩ this
/-- the first limb changed by a constant, then the carries, at two places -/
theorem wr_c {F : Nat → Int64} {D : Int64} {f : Nat → Int} {d : Int} {pc pc' : Nat} {lv : on_V} (hd0 : on_tb M_Curve_writeReduced pc = some (.invokevirtual 88, 3)) (hp : pc + 3 = pc') (hao : a ≠ o) (ho : h o = some (.inr (1, fs))) (hf : ∀ k, k < 10 → rb (F k) (f k) 67108864) (hD : rb D d 1152921504606846976)
    (k : ∀ (F2 : Nat → Int64) (O2 : Int64) (g : Nat → Int) (e : Int), cv_ok F2 g → rb O2 e 68719484928 → cv_v g + e * cv_2 = cv_v f + d → on_E G M_Curve_writeReduced pc' lv [.long O2] (on_up h a (on_al 1 10 F2)) sz bc bs Q) :
    on_E G M_Curve_writeReduced pc lv [.ref a, .ref o] (on_up h a (on_al 1 10 (wr_F F D))) sz bc bs Q := by
  obtain ⟨g, e, k1, k2, k3⟩ := wr_step hf hD
  refine on_callV (As := [.ref a]) (rest := []) (b := o) hd0 hp cw_Curve_writeReduced_88 ((on_up_ne (Ne.symm hao)).trans ho) rfl rfl (by decide) (Nat.zero_le _) (Nat.zero_le _) (c_Curve_carry (on_up_eq _ _ _)) ?_
  rintro r h1 z ⟨rfl, rfl, rfl⟩
  rw [on_up_up]
  exact k _ _ g e k1 k2 k3
theorem wr_i4 {e : Int} (h1 : -2 ≤ e) (h2 : e ≤ 1) : e = -2 ∨ e = -1 ∨ e = 0 ∨ e = 1 := by omega
theorem wr_i3 {e : Int} (h1 : -1 ≤ e) (h2 : e ≤ 1) : e = -1 ∨ e = 0 ∨ e = 1 := by omega
theorem wr_ar {V a1 a2 a3 e1 e2 e3 : Int} (r1 : a1 + e1 * 57896044618658097711785492504343953926634992332820282019728792003956564819968 = V + 19 * 0) (r2 : a2 + e2 * 57896044618658097711785492504343953926634992332820282019728792003956564819968 = a1 + 19 * e1) (r3 : a3 + e3 * 57896044618658097711785492504343953926634992332820282019728792003956564819968 = a2 + 19 * e2) (v1 : 0 ≤ a1 ∧ a1 < 57896044618658097711785492504343953926634992332820282019728792003956564819968) (v2 : 0 ≤ a2 ∧ a2 < 57896044618658097711785492504343953926634992332820282019728792003956564819968) (v3 : 0 ≤ a3 ∧ a3 < 57896044618658097711785492504343953926634992332820282019728792003956564819968) (bf : -57896044618658097711785492504343953926634992332820282019728792003956564819968 * 2 < V ∧ V < 57896044618658097711785492504343953926634992332820282019728792003956564819968 * 2) : a3 = V + 57896044618658097711785492504343953926634992332820282019728792003956564819949 * (-(e1 + e2)) := by
  have a1' : -2 ≤ e1 := by clear r2 r3 v2 v3; omega
  have a2' : e1 ≤ 1 := by clear r2 r3 v2 v3; omega
  have b1' : -1 ≤ e2 := by clear r1 r3 v3 bf; omega
  have b2' : e2 ≤ 1 := by clear r1 r3 v3 bf; omega
  have c1' : e3 = 0 := by
    rcases wr_i3 b1' b2' with h | h | h <;> subst h <;> clear r1 bf <;> omega
  subst c1'
  clear v1 v2 v3 bf a1' a2' b1' b2'
  omega
theorem wr_ar1 {a3 a4 e4 : Int} (r4 : a4 + e4 * 57896044618658097711785492504343953926634992332820282019728792003956564819968 = a3 + 19) (v3 : 0 ≤ a3 ∧ a3 < 57896044618658097711785492504343953926634992332820282019728792003956564819968) (v4 : 0 ≤ a4 ∧ a4 < 57896044618658097711785492504343953926634992332820282019728792003956564819968) (h : e4 ≠ 0) : a4 < 57896044618658097711785492504343953926634992332820282019728792003956564819949 ∧ a4 = a3 + 57896044618658097711785492504343953926634992332820282019728792003956564819949 * (-1) := by
  have : e4 = 1 := by omega
  subst this
  omega
theorem wr_ar2 {a3 a4 a5 e4 e5 : Int} (r4 : a4 + e4 * 57896044618658097711785492504343953926634992332820282019728792003956564819968 = a3 + 19) (r5 : a5 + e5 * 57896044618658097711785492504343953926634992332820282019728792003956564819968 = a4 + -19) (v3 : 0 ≤ a3 ∧ a3 < 57896044618658097711785492504343953926634992332820282019728792003956564819968) (v4 : 0 ≤ a4 ∧ a4 < 57896044618658097711785492504343953926634992332820282019728792003956564819968) (v5 : 0 ≤ a5 ∧ a5 < 57896044618658097711785492504343953926634992332820282019728792003956564819968) : (e4 ≠ 0 → a4 < 57896044618658097711785492504343953926634992332820282019728792003956564819949 ∧ a4 = a3 + 57896044618658097711785492504343953926634992332820282019728792003956564819949 * (-1)) ∧ (e4 = 0 → a5 < 57896044618658097711785492504343953926634992332820282019728792003956564819949 ∧ a5 = a3 + 57896044618658097711785492504343953926634992332820282019728792003956564819949 * 0) := by
  refine ⟨fun h => ?_, fun h => ?_⟩
  · have : e4 = 1 := by omega
    subst this
    omega
  · subst h
    have : e5 = 0 := by omega
    subst this
    omega
theorem wr_bf {F : Nat → Int64} {f : Nat → Int} (f1 : cv_rd F f) : -57896044618658097711785492504343953926634992332820282019728792003956564819968 * 2 < cv_v f ∧ cv_v f < 57896044618658097711785492504343953926634992332820282019728792003956564819968 * 2 := by
  have t0 : (f 0).natAbs ≤ 67108864 := (f1 0 (by omega)).2
  have t1 : (f 1).natAbs ≤ 33556480 := (f1 1 (by omega)).2
  have t2 : (f 2).natAbs ≤ 67108864 := (f1 2 (by omega)).2
  have t3 : (f 3).natAbs ≤ 33556480 := (f1 3 (by omega)).2
  have t4 : (f 4).natAbs ≤ 67108864 := (f1 4 (by omega)).2
  have t5 : (f 5).natAbs ≤ 33556480 := (f1 5 (by omega)).2
  have t6 : (f 6).natAbs ≤ 67108864 := (f1 6 (by omega)).2
  have t7 : (f 7).natAbs ≤ 33556480 := (f1 7 (by omega)).2
  have t8 : (f 8).natAbs ≤ 67108864 := (f1 8 (by omega)).2
  have t9 : (f 9).natAbs ≤ 33556480 := (f1 9 (by omega)).2
  unfold cv_v
  clear f1
  omega
set_option maxHeartbeats 4000000 in
/-- the first half of writeReduced: the number itself, below the prime -/
theorem wr_half {F : Nat → Int64} {v : Int} (hao : a ≠ o) (ho : h o = some (.inr (1, fs))) (ha : h a = some (on_al 1 10 F)) (hv : rp F v)
    (k : ∀ (C : Nat → Int64) (g : Nat → Int), cv_ok C g → 0 ≤ cv_v g → cv_v g < cv_P → cg (cv_v g) v → on_E G M_Curve_writeReduced 75 (on_l [(1, .ref a), (2, .ref q), (3, .int at_)]) [] (on_up h a (on_al 1 10 C)) sz bc bs Q) :
    on_E G M_Curve_writeReduced 0 (on_l [(0, .ref o), (1, .ref a), (2, .ref q), (3, .int at_)]) [] h sz bc bs Q := by
  obtain ⟨f, f1, f2⟩ := hv
  have hf : ∀ k, k < 10 → rb (F k) (f k) 67108864 := fun k hk => rb_le (f1 k hk) (by unfold cv_R; split <;> omega)
  have b0 : rb (0 : Int64) 0 68719484928 := ⟨by decide, by decide⟩
  have m19 : rb (-19 : Int64) (-19) 1152921504606846976 := ⟨by decide, by decide⟩
  have p19 : rb (19 : Int64) 19 1152921504606846976 := rb_le rb_19 (by decide)
  refine on_lconst (pc' := 1) (v := 0) rfl rfl ll_0 ?_
  refine on_lstore (pc' := 3) rfl rfl (by decide) ?_
  refine on_iconst (pc' := 4) (v := 0) rfl rfl li_0 ?_
  refine on_istore (pc' := 6) rfl rfl (by decide) ?_
  refine on_relv (l := [(0, .ref o), (1, .ref a), (2, .ref q), (3, .int at_), (4, .long 0), (6, .int 0)]) ⟨rfl, rfl, rfl, rfl, rfl, rfl, trivial⟩ ?_
  refine on_iload (pc' := 8) rfl rfl rfl ?_
  refine on_iconst (pc' := 9) (v := 3) rfl rfl li_3 ?_
  refine on_icmp_ge (pc' := 12) (tgt := 37) rfl rfl rfl (fun cq => ?_) (fun cq => ?_)
  · exact absurd cq (by decide)
  refine wr_p hao ho ha hf b0 (fun F1 O1 g1 e1 k1 o1 r1 => ?_)
  refine on_iload (pc' := 8) rfl rfl rfl ?_
  refine on_iconst (pc' := 9) (v := 3) rfl rfl li_3 ?_
  refine on_icmp_ge (pc' := 12) (tgt := 37) rfl rfl rfl (fun cq => ?_) (fun cq => ?_)
  · exact absurd cq (by decide)
  refine wr_p hao ((on_up_ne (Ne.symm hao)).trans ho) (on_up_eq _ _ _) (cv_ok_rb k1) o1 (fun F2 O2 g2 e2 k2 o2 r2 => ?_)
  rw [on_up_up]
  refine on_iload (pc' := 8) rfl rfl rfl ?_
  refine on_iconst (pc' := 9) (v := 3) rfl rfl li_3 ?_
  refine on_icmp_ge (pc' := 12) (tgt := 37) rfl rfl rfl (fun cq => ?_) (fun cq => ?_)
  · exact absurd cq (by decide)
  refine wr_p hao ((on_up_ne (Ne.symm hao)).trans ho) (on_up_eq _ _ _) (cv_ok_rb k2) o2 (fun F3 O3 g3 e3 k3 o3 r3 => ?_)
  rw [on_up_up]
  have v3 := cv_ok_v k3
  have cgf : cg (cv_v g3) (cv_v f) := ⟨_, wr_ar r1 r2 r3 (cv_ok_v k1) (cv_ok_v k2) v3 (wr_bf f1)⟩
  clear r1 r2 r3 k1 k2 o1 o2 o3
  refine on_iload (pc' := 8) rfl rfl rfl ?_
  refine on_iconst (pc' := 9) (v := 3) rfl rfl li_3 ?_
  refine on_icmp_ge (pc' := 12) (tgt := 37) rfl rfl rfl (fun cq => ?_) (fun cq => ?_)
  rotate_left
  · exact absurd (by decide) cq
  have a3 : on_up h a (on_al 1 10 F3) a = some (on_al 1 10 F3) := on_up_eq _ _ _
  first | refine on_aload_n (pc' := 38) rfl rfl rfl rfl ?_ | refine on_aload_nQ (pc' := 38) rfl rfl rfl rfl ?_
  refine on_iconst (pc' := 39) (v := 0) rfl rfl li_0 ?_
  first | refine on_dup2_11 (pc' := 40) rfl rfl rfl rfl ?_ | refine on_dup2_2 (pc' := 40) rfl rfl rfl ?_
  apply on_laloadK (pc' := 41) (t := 1) rfl rfl
  · repeat (first | assumption | exact on_up_eq _ _ _ | refine (on_up_ne (by omega)).trans ?_)
  · rfl
  · first | assumption | exact on_lit _ | rfl
  · first | assumption | omega | decide
  refine on_ldc2 (pc' := 44) rfl rfl ld_Curve_80 ?_
  refine on_ladd (pc' := 45) rfl rfl ?_
  apply on_lastoreK (pc' := 46) (t := 1) rfl rfl
  · repeat (first | assumption | exact on_up_eq _ _ _ | refine (on_up_ne (by omega)).trans ?_)
  · rfl
  · first | assumption | exact on_lit _ | rfl
  · first | assumption | omega | decide
  first | refine on_aload_n (pc' := 47) rfl rfl rfl rfl ?_ | refine on_aload_nQ (pc' := 47) rfl rfl rfl rfl ?_
  first | refine on_aload_n (pc' := 48) rfl rfl rfl rfl ?_ | refine on_aload_nQ (pc' := 48) rfl rfl rfl rfl ?_
  rw [on_up_up]
  refine wr_c (pc' := 51) (F := F3) (D := 19) rfl rfl hao ho (cv_ok_rb k3) p19 (fun F4 O4 g4 e4 k4 o4 r4 => ?_)
  have a4 : on_up h a (on_al 1 10 F4) a = some (on_al 1 10 F4) := on_up_eq _ _ _
  refine on_lstore (pc' := 53) rfl rfl (by decide) ?_
  refine on_lload (pc' := 55) rfl rfl rfl ?_
  refine on_lconst (pc' := 56) (v := 0) rfl rfl ll_0 ?_
  refine on_lcmp (pc' := 57) rfl rfl ?_
  refine on_if_ne (pc' := 60) (tgt := 75) rfl rfl rfl (fun cq => ?_) (fun cq => ?_)
  · have hne : e4 ≠ 0 := fun w => cq ((lg_cmp_eq _ _).mpr (Int64.toInt_inj.mp (by rw [o4.1, w]; decide)))
    obtain ⟨u1, u2⟩ := wr_ar1 r4 v3 (cv_ok_v k4) hne
    exact on_relv (l := [(1, .ref a), (2, .ref q), (3, .int at_)]) ⟨rfl, rfl, rfl, trivial⟩ (k F4 g4 k4 (cv_ok_v k4).1 u1 (cg.trans ⟨_, u2⟩ (cg.trans cgf f2)))
  · have he : e4 = 0 := by
      have := (lg_cmp_eq _ _).mp cq
      rw [← o4.1, this]; decide
    first | refine on_aload_n (pc' := 61) rfl rfl rfl rfl ?_ | refine on_aload_nQ (pc' := 61) rfl rfl rfl rfl ?_
    refine on_iconst (pc' := 62) (v := 0) rfl rfl li_0 ?_
    first | refine on_dup2_11 (pc' := 63) rfl rfl rfl rfl ?_ | refine on_dup2_2 (pc' := 63) rfl rfl rfl ?_
    apply on_laloadK (pc' := 64) (t := 1) rfl rfl
    · repeat (first | assumption | exact on_up_eq _ _ _ | refine (on_up_ne (by omega)).trans ?_)
    · rfl
    · first | assumption | exact on_lit _ | rfl
    · first | assumption | omega | decide
    refine on_ldc2 (pc' := 67) rfl rfl ld_Curve_80 ?_
    refine on_lsub (pc' := 68) rfl rfl ?_
    apply on_lastoreK (pc' := 69) (t := 1) rfl rfl
    · repeat (first | assumption | exact on_up_eq _ _ _ | refine (on_up_ne (by omega)).trans ?_)
    · rfl
    · first | assumption | exact on_lit _ | rfl
    · first | assumption | omega | decide
    first | refine on_aload_n (pc' := 70) rfl rfl rfl rfl ?_ | refine on_aload_nQ (pc' := 70) rfl rfl rfl rfl ?_
    first | refine on_aload_n (pc' := 71) rfl rfl rfl rfl ?_ | refine on_aload_nQ (pc' := 71) rfl rfl rfl rfl ?_
    rw [on_up_up]
    have em : vp_updL F4 0 (F4 0 - 19) = wr_F F4 (-19) := by
      unfold wr_F
      rw [show F4 0 + -19 = F4 0 - 19 from Int64.toInt_inj.mp (by rw [Int64.toInt_add, Int64.toInt_sub]; rfl)]
    rw [em]
    refine wr_c (pc' := 74) (F := F4) (D := -19) rfl rfl hao ho (cv_ok_rb k4) m19 (fun F5 O5 g5 e5 k5 o5 r5 => ?_)
    refine on_pop2_2 (pc' := 75) rfl rfl rfl ?_
    obtain ⟨u1, u2⟩ := (wr_ar2 r4 r5 v3 (cv_ok_v k4) (cv_ok_v k5)).2 he
    exact on_relv (l := [(1, .ref a), (2, .ref q), (3, .int at_)]) ⟨rfl, rfl, rfl, trivial⟩ (k F5 g5 k5 (cv_ok_v k5).1 u1 (cg.trans ⟨_, u2⟩ (cg.trans cgf f2)))
end WR2
