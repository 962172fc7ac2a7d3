/-- seventeen limbs that stand for v -/
def mr (F : Nat → Int64) (v : Int) : Prop := ∃ f, m_r F f 40000 ∧ m_w f ∧ cg (mv f 17) v
theorem mr.cg {F : Nat → Int64} {u v : Int} (h : mr F u) (e : cg u v) : mr F v := by
  obtain ⟨f, f1, f2, f3⟩ := h
  exact ⟨f, f1, f2, f3.trans e⟩
theorem mv_0 : ∀ n, mv (fun _ => 0) n = 0
  | 0 => rfl
  | n + 1 => by
    show mv (fun _ => 0) n + 0 * _ = 0
    rw [mv_0 n]
    omega
section MMU
variable {G : on_G} {o w t a b sz bc bs : Nat} {h : on_H} {Q : Option Value → on_H → Nat → Prop} {fs : List Value} {A B T W : Nat → Int64} {x y : Nat → Int}
set_option maxHeartbeats 4000000 in
theorem mm_1 (ho : h o = some (.inr (17, fs))) (hf : fs[36]? = some (.ref w)) (hwo : w ≠ o)
    (k : ∀ W : Nat → Int64, (∀ i, i < 34 → W i = 0) → on_E G M_M_mulParts 24 (on_l [(0, .ref o), (1, .ref t), (2, .ref a), (3, .ref b)]) [] (on_up h w (on_al 1 34 W)) sz bc bs Q) :
    ∀ (m i : Nat) (W : Nat → Int64), i + m = 34 → (∀ j, j < i → W j = 0) → on_E G M_M_mulParts 3 (on_l [(0, .ref o), (1, .ref t), (2, .ref a), (3, .ref b), (4, .int (nI i))]) [] (on_up h w (on_al 1 34 W)) sz bc bs Q := by
  intro m
  induction m with
  | zero =>
    intro i W hi hW
    obtain rfl : i = 34 := by omega
    refine on_iload (pc' := 5) rfl rfl rfl ?_
    refine on_bipush (pc' := 7) (v := 34) rfl rfl lb_34 ?_
    refine on_icmp_ge (pc' := 10) (tgt := 24) rfl rfl rfl (fun cq => ?_) (fun cq => ?_)
    · exact on_relv (l := [(0, .ref o), (1, .ref t), (2, .ref a), (3, .ref b)]) ⟨rfl, rfl, rfl, rfl, trivial⟩ (k W hW)
    · exact absurd (nI_le (a := 34) (by omega) (by omega)) cq
  | succ m ih =>
    intro i W hi hW
    have hi2 : i < 34 ∧ 34 < 2 ^ 31 := by omega
    refine on_iload (pc' := 5) rfl rfl rfl ?_
    refine on_bipush (pc' := 7) (v := 34) rfl rfl lb_34 ?_
    refine on_icmp_ge (pc' := 10) (tgt := 24) rfl rfl rfl (fun cq => ?_) (fun cq => ?_)
    · exact absurd cq (nI_ge (b := 34) (by omega) (by omega))
    · first | refine on_aload_n (pc' := 11) rfl rfl rfl rfl ?_ | refine on_aload_nQ (pc' := 11) rfl rfl rfl rfl ?_
      apply on_get (pc' := 14) rfl rfl fl_M_121
      · repeat (first | assumption | exact on_up_eq _ _ _ | refine (on_up_ne (by omega)).trans ?_)
      · exact hf
      refine on_iload (pc' := 16) rfl rfl rfl ?_
      refine on_lconst (pc' := 17) (v := 0) rfl rfl ll_0 ?_
      apply on_lastoreK (pc' := 18) (t := 1) rfl rfl
      · repeat (first | assumption | exact on_up_eq _ _ _ | refine (on_up_ne (by omega)).trans ?_)
      · rfl
      · first | assumption | exact on_lit _ | rfl
      · first | assumption | omega | decide
      refine on_iinc1 (pc' := 21) rfl rfl rfl ?_
      refine on_goto (tgt := 3) rfl rfl ?_
      rw [on_up_up]
      refine on_relv (l := [(0, .ref o), (1, .ref t), (2, .ref a), (3, .ref b), (4, .int (nI (i + 1)))]) ⟨rfl, rfl, rfl, rfl, congrArg some (congrArg Value.int (nI_1 i)), trivial⟩ (ih (i + 1) _ (by omega) (fun j hj => ?_))
      by_cases e : j = i
      · subst e; exact pk_uLs
      · rw [pk_uLn e]; exact hW j (by omega)
/-- what the wide row holds after i rows and j columns -/
def mm_W (x y : Nat → Int) (i j : Nat) (W : Nat → Int64) : Prop := ∃ w : Nat → Int, (∀ k, k < 34 → rb (W k) (w k) ((17 * i + j) * 1600000000)) ∧ mv w 34 = mv x i * mv y 17 + x i * 2 ^ (15 * i) * mv y j
theorem mm_W_s {i j : Nat} (hi : i < 17) (hj : j < 17) (hA : m_r A x 40000) (hB : m_r B y 40000) (hW : mm_W x y i j W) : mm_W x y i (j + 1) (vp_updL W (i + j) (W (i + j) + A i * B j)) := by
  obtain ⟨w, w1, w2⟩ := hW
  refine ⟨fun m => if m = i + j then w m + x i * y j else w m, fun m hm => ?_, ?_⟩
  · by_cases e : m = i + j
    · subst e
      rw [pk_uLs]
      show rb _ (if i + j = i + j then _ else _) _
      rw [if_pos rfl]
      exact rb_le (rb_add (w1 (i + j) hm) (rb_mul (hA i hi) (hB j hj) (by decide)) (by omega)) (by omega)
    · rw [pk_uLn e]
      show rb _ (if m = i + j then _ else _) _
      rw [if_neg e]
      exact rb_le (w1 m hm) (by omega)
  · rw [mv_up (f := w) (d := x i * y j) (m := i + j) (fun _ => rfl) 34, if_pos (by omega), w2]
    show _ = _ + _ * (mv y j + y j * 2 ^ (15 * j))
    rw [Nat.mul_add, Int.pow_add]
    generalize (2 : Int) ^ (15 * i) = P
    generalize (2 : Int) ^ (15 * j) = R
    grind
theorem mm_W_r {i : Nat} (hW : mm_W x y i 17 W) : mm_W x y (i + 1) 0 W := by
  obtain ⟨w, w1, w2⟩ := hW
  refine ⟨w, fun k hk => rb_le (w1 k hk) (by omega), ?_⟩
  rw [w2]
  show _ = (mv x i + x i * 2 ^ (15 * i)) * mv y 17 + _ * 0
  rw [Int.add_mul]
  omega
set_option maxHeartbeats 4000000 in
theorem mm_2 (ho : h o = some (.inr (17, fs))) (hf : fs[36]? = some (.ref w)) (hwo : w ≠ o) (ha : h a = some (on_al 1 17 A)) (haw : a ≠ w) (hb : h b = some (on_al 1 17 B)) (hbw : b ≠ w) (hA : m_r A x 40000) (hB : m_r B y 40000) {i : Nat} (hi : i < 17)
    (k : ∀ W : Nat → Int64, mm_W x y (i + 1) 0 W → on_E G M_M_mulParts 27 (on_l [(0, .ref o), (1, .ref t), (2, .ref a), (3, .ref b), (4, .int (nI (i + 1)))]) [] (on_up h w (on_al 1 34 W)) sz bc bs Q) :
    ∀ (m j : Nat) (W : Nat → Int64), j + m = 17 → mm_W x y i j W → on_E G M_M_mulParts 37 (on_l [(0, .ref o), (1, .ref t), (2, .ref a), (3, .ref b), (4, .int (nI i)), (5, .int (nI j))]) [] (on_up h w (on_al 1 34 W)) sz bc bs Q := by
  intro m
  induction m with
  | zero =>
    intro j W hj hW
    obtain rfl : j = 17 := by omega
    refine on_iload (pc' := 39) rfl rfl rfl ?_
    refine on_bipush (pc' := 41) (v := 17) rfl rfl lb_17 ?_
    refine on_icmp_ge (pc' := 44) (tgt := 72) rfl rfl rfl (fun cq => ?_) (fun cq => ?_)
    · refine on_iinc1 (pc' := 75) rfl rfl rfl ?_
      refine on_goto (tgt := 27) rfl rfl ?_
      exact on_relv (l := [(0, .ref o), (1, .ref t), (2, .ref a), (3, .ref b), (4, .int (nI (i + 1)))]) ⟨rfl, rfl, rfl, rfl, congrArg some (congrArg Value.int (nI_1 i)), trivial⟩ (k W (mm_W_r hW))
    · exact absurd (nI_le (a := 17) (by omega) (by omega)) cq
  | succ m ih =>
    intro j W hj hW
    have hij : i + j < 34 ∧ 34 < 2 ^ 31 := by omega
    have hi2 : i < 17 ∧ 17 < 2 ^ 31 := by omega
    have hj2 : j < 17 ∧ 17 < 2 ^ 31 := by omega
    have eij : nI i + nI j = nI (i + j) := nI_add _ _
    have ha2 : on_up h w (on_al 1 34 W) a = some (on_al 1 17 A) := (on_up_ne haw).trans ha
    have hb2 : on_up h w (on_al 1 34 W) b = some (on_al 1 17 B) := (on_up_ne hbw).trans hb
    refine on_iload (pc' := 39) rfl rfl rfl ?_
    refine on_bipush (pc' := 41) (v := 17) rfl rfl lb_17 ?_
    refine on_icmp_ge (pc' := 44) (tgt := 72) rfl rfl rfl (fun cq => ?_) (fun cq => ?_)
    · exact absurd cq (nI_ge (b := 17) (by omega) (by omega))
    · first | refine on_aload_n (pc' := 45) rfl rfl rfl rfl ?_ | refine on_aload_nQ (pc' := 45) rfl rfl rfl rfl ?_
      apply on_get (pc' := 48) rfl rfl fl_M_121
      · repeat (first | assumption | exact on_up_eq _ _ _ | refine (on_up_ne (by omega)).trans ?_)
      · exact hf
      refine on_iload (pc' := 50) rfl rfl rfl ?_
      refine on_iload (pc' := 52) rfl rfl rfl ?_
      refine on_iadd (pc' := 53) rfl rfl ?_
      first | refine on_dup2_11 (pc' := 54) rfl rfl rfl rfl ?_ | refine on_dup2_2 (pc' := 54) rfl rfl rfl ?_
      apply on_laloadK (pc' := 55) (t := 1) rfl rfl
      · repeat (first | assumption | exact on_up_eq _ _ _ | refine (on_up_ne (by omega)).trans ?_)
      · rfl
      · first | assumption | exact on_lit _ | rfl
      · first | assumption | omega | decide
      first | refine on_aload_n (pc' := 56) rfl rfl rfl rfl ?_ | refine on_aload_nQ (pc' := 56) rfl rfl rfl rfl ?_
      refine on_iload (pc' := 58) rfl rfl rfl ?_
      apply on_laloadK (pc' := 59) (t := 1) rfl rfl
      · repeat (first | assumption | exact on_up_eq _ _ _ | refine (on_up_ne (by omega)).trans ?_)
      · rfl
      · first | assumption | exact on_lit _ | rfl
      · first | assumption | omega | decide
      first | refine on_aload_n (pc' := 60) rfl rfl rfl rfl ?_ | refine on_aload_nQ (pc' := 60) rfl rfl rfl rfl ?_
      refine on_iload (pc' := 62) rfl rfl rfl ?_
      apply on_laloadK (pc' := 63) (t := 1) rfl rfl
      · repeat (first | assumption | exact on_up_eq _ _ _ | refine (on_up_ne (by omega)).trans ?_)
      · rfl
      · first | assumption | exact on_lit _ | rfl
      · first | assumption | omega | decide
      refine on_lmul (pc' := 64) rfl rfl ?_
      refine on_ladd (pc' := 65) rfl rfl ?_
      apply on_lastoreK (pc' := 66) (t := 1) rfl rfl
      · repeat (first | assumption | exact on_up_eq _ _ _ | refine (on_up_ne (by omega)).trans ?_)
      · rfl
      · first | assumption | exact on_lit _ | rfl
      · first | assumption | omega | decide
      refine on_iinc1 (pc' := 69) rfl rfl rfl ?_
      refine on_goto (tgt := 37) rfl rfl ?_
      rw [on_up_up]
      exact on_relv (l := [(0, .ref o), (1, .ref t), (2, .ref a), (3, .ref b), (4, .int (nI i)), (5, .int (nI (j + 1)))]) ⟨rfl, rfl, rfl, rfl, rfl, congrArg some (congrArg Value.int (nI_1 j)), trivial⟩ (ih (j + 1) _ (by omega) (mm_W_s hi (by omega) hA hB hW))
set_option maxHeartbeats 4000000 in
theorem mm_3 (ho : h o = some (.inr (17, fs))) (hf : fs[36]? = some (.ref w)) (hwo : w ≠ o) (ha : h a = some (on_al 1 17 A)) (haw : a ≠ w) (hb : h b = some (on_al 1 17 B)) (hbw : b ≠ w) (hA : m_r A x 40000) (hB : m_r B y 40000)
    (k : ∀ W : Nat → Int64, mm_W x y 17 0 W → on_E G M_M_mulParts 78 (on_l [(0, .ref o), (1, .ref t)]) [] (on_up h w (on_al 1 34 W)) sz bc bs Q) :
    ∀ (m i : Nat) (W : Nat → Int64), i + m = 17 → mm_W x y i 0 W → on_E G M_M_mulParts 27 (on_l [(0, .ref o), (1, .ref t), (2, .ref a), (3, .ref b), (4, .int (nI i))]) [] (on_up h w (on_al 1 34 W)) sz bc bs Q := by
  intro m
  induction m with
  | zero =>
    intro i W hi hW
    obtain rfl : i = 17 := by omega
    refine on_iload (pc' := 29) rfl rfl rfl ?_
    refine on_bipush (pc' := 31) (v := 17) rfl rfl lb_17 ?_
    refine on_icmp_ge (pc' := 34) (tgt := 78) rfl rfl rfl (fun cq => ?_) (fun cq => ?_)
    · exact on_relv (l := [(0, .ref o), (1, .ref t)]) ⟨rfl, rfl, trivial⟩ (k W hW)
    · exact absurd (nI_le (a := 17) (by omega) (by omega)) cq
  | succ m ih =>
    intro i W hi hW
    refine on_iload (pc' := 29) rfl rfl rfl ?_
    refine on_bipush (pc' := 31) (v := 17) rfl rfl lb_17 ?_
    refine on_icmp_ge (pc' := 34) (tgt := 78) rfl rfl rfl (fun cq => ?_) (fun cq => ?_)
    · exact absurd cq (nI_ge (b := 17) (by omega) (by omega))
    · refine on_iconst (pc' := 35) (v := 0) rfl rfl li_0 ?_
      refine on_istore (pc' := 37) rfl rfl (by decide) ?_
      exact on_relv (l := [(0, .ref o), (1, .ref t), (2, .ref a), (3, .ref b), (4, .int (nI i)), (5, .int (nI 0))]) ⟨rfl, rfl, rfl, rfl, rfl, rfl, trivial⟩ (mm_2 ho hf hwo ha haw hb hbw hA hB (by omega) (fun W2 h2 => ih (i + 1) W2 (by omega) h2) 17 0 W rfl hW)
set_option maxHeartbeats 4000000 in
theorem mm_4 (ho : h o = some (.inr (17, fs))) (hf : fs[36]? = some (.ref w)) (hw : h w = some (on_al 1 34 W)) (hto : t ≠ o) (htw : t ≠ w)
    (k : ∀ T : Nat → Int64, (∀ i, i < 17 → T i = W i + 19 * W (i + 17)) → on_E G M_M_mulParts 120 (on_l [(1, .ref t)]) [] (on_up h t (on_al 1 17 T)) sz bc bs Q) :
    ∀ (m i : Nat) (T : Nat → Int64), i + m = 17 → (∀ j, j < i → T j = W j + 19 * W (j + 17)) → on_E G M_M_mulParts 81 (on_l [(0, .ref o), (1, .ref t), (4, .int (nI i))]) [] (on_up h t (on_al 1 17 T)) sz bc bs Q := by
  intro m
  induction m with
  | zero =>
    intro i T hi hT
    obtain rfl : i = 17 := by omega
    refine on_iload (pc' := 83) rfl rfl rfl ?_
    refine on_bipush (pc' := 85) (v := 17) rfl rfl lb_17 ?_
    refine on_icmp_ge (pc' := 88) (tgt := 120) rfl rfl rfl (fun cq => ?_) (fun cq => ?_)
    · exact on_relv (l := [(1, .ref t)]) ⟨rfl, trivial⟩ (k T hT)
    · exact absurd (nI_le (a := 17) (by omega) (by omega)) cq
  | succ m ih =>
    intro i T hi hT
    have hi2 : i < 17 ∧ 17 < 2 ^ 31 := by omega
    have hi3 : i < 34 ∧ 34 < 2 ^ 31 := by omega
    have hi4 : i + 17 < 34 ∧ 34 < 2 ^ 31 := by omega
    have ei : nI i + 17 = nI (i + 17) := nI_add i 17
    have hw2 : on_up h t (on_al 1 17 T) w = some (on_al 1 34 W) := (on_up_ne (Ne.symm htw)).trans hw
    refine on_iload (pc' := 83) rfl rfl rfl ?_
    refine on_bipush (pc' := 85) (v := 17) rfl rfl lb_17 ?_
    refine on_icmp_ge (pc' := 88) (tgt := 120) rfl rfl rfl (fun cq => ?_) (fun cq => ?_)
    · exact absurd cq (nI_ge (b := 17) (by omega) (by omega))
    · first | refine on_aload_n (pc' := 89) rfl rfl rfl rfl ?_ | refine on_aload_nQ (pc' := 89) rfl rfl rfl rfl ?_
      refine on_iload (pc' := 91) rfl rfl rfl ?_
      first | refine on_aload_n (pc' := 92) rfl rfl rfl rfl ?_ | refine on_aload_nQ (pc' := 92) rfl rfl rfl rfl ?_
      apply on_get (pc' := 95) rfl rfl fl_M_121
      · repeat (first | assumption | exact on_up_eq _ _ _ | refine (on_up_ne (by omega)).trans ?_)
      · exact hf
      refine on_iload (pc' := 97) rfl rfl rfl ?_
      apply on_laloadK (pc' := 98) (t := 1) rfl rfl
      · repeat (first | assumption | exact on_up_eq _ _ _ | refine (on_up_ne (by omega)).trans ?_)
      · rfl
      · first | assumption | exact on_lit _ | rfl
      · first | assumption | omega | decide
      refine on_ldc2 (pc' := 101) rfl rfl ld_M_181 ?_
      first | refine on_aload_n (pc' := 102) rfl rfl rfl rfl ?_ | refine on_aload_nQ (pc' := 102) rfl rfl rfl rfl ?_
      apply on_get (pc' := 105) rfl rfl fl_M_121
      · repeat (first | assumption | exact on_up_eq _ _ _ | refine (on_up_ne (by omega)).trans ?_)
      · exact hf
      refine on_iload (pc' := 107) rfl rfl rfl ?_
      refine on_bipush (pc' := 109) (v := 17) rfl rfl lb_17 ?_
      refine on_iadd (pc' := 110) rfl rfl ?_
      apply on_laloadK (pc' := 111) (t := 1) rfl rfl
      · repeat (first | assumption | exact on_up_eq _ _ _ | refine (on_up_ne (by omega)).trans ?_)
      · rfl
      · first | assumption | exact on_lit _ | rfl
      · first | assumption | omega | decide
      refine on_lmul (pc' := 112) rfl rfl ?_
      refine on_ladd (pc' := 113) rfl rfl ?_
      apply on_lastoreK (pc' := 114) (t := 1) rfl rfl
      · repeat (first | assumption | exact on_up_eq _ _ _ | refine (on_up_ne (by omega)).trans ?_)
      · rfl
      · first | assumption | exact on_lit _ | rfl
      · first | assumption | omega | decide
      refine on_iinc1 (pc' := 117) rfl rfl rfl ?_
      refine on_goto (tgt := 81) rfl rfl ?_
      rw [on_up_up]
      refine on_relv (l := [(0, .ref o), (1, .ref t), (4, .int (nI (i + 1)))]) ⟨rfl, rfl, congrArg some (congrArg Value.int (nI_1 i)), trivial⟩ (ih (i + 1) _ (by omega) (fun j hj => ?_))
      by_cases e : j = i
      · subst e; exact pk_uLs
      · rw [pk_uLn e]; exact hT j (by omega)
theorem mm_v {x y : Nat → Int} (hW : mm_W x y 17 0 W) (hT : ∀ i, i < 17 → T i = W i + 19 * W (i + 17)) : ∃ z, m_r T z 1125899906842624 ∧ cg (mv z 17) (mv x 17 * mv y 17) := by
  obtain ⟨w, w1, w2⟩ := hW
  refine ⟨fun i => w i + 19 * w (17 + i), fun i hi => ?_, ?_⟩
  · rw [hT i hi, Nat.add_comm i 17]
    exact rb_le (rb_add (w1 i (by omega)) (rb_mul rb_19 (w1 (17 + i) (by omega)) (by decide)) (by decide)) (by decide)
  · rw [mv_add (fun i => w i) (fun i => 19 * w (17 + i)), mv_mul 19 (fun i => w (17 + i))]
    have e := mv_app w 17 17
    rw [w2] at e
    have e0 : mv y 0 = 0 := rfl
    rw [e0, Int.mul_zero, Int.add_zero] at e
    refine ⟨- mv (fun i => w (17 + i)) 17, ?_⟩
    rw [e, show 15 * 17 = 255 from rfl]
    show mv w 17 + _ = _
    generalize mv w 17 = p
    generalize mv (fun i => w (17 + i)) 17 = q
    unfold cv_P
    omega
set_option maxHeartbeats 4000000 in
/-- mulParts: a product -/
theorem c_M_mulParts {u v : Int} (ho : h o = some (.inr (17, fs))) (hf : fs[36]? = some (.ref w)) (hw : h w = some (on_al 1 34 W)) (ht : h t = some (on_al 1 17 T)) (ha : h a = some (on_al 1 17 A)) (hb : h b = some (on_al 1 17 B)) (hA : mr A u) (hB : mr B v) :
    on_Ct G M_M_mulParts [.ref o, .ref t, .ref a, .ref b] h sz 0 0 (fun r h1 z => r = none ∧ z = sz ∧ ∃ Y W2, h1 = on_up (on_up h w (on_al 1 34 W2)) t (on_al 1 17 Y) ∧ mr Y (u * v)) := by
  obtain ⟨x, x1, x2, x3⟩ := hA
  obtain ⟨y, y1, y2, y3⟩ := hB
  have hwo : w ≠ o := fun e => by rw [e, ho] at hw; cases hw
  have haw : a ≠ w := fun e => by rw [e, hw] at ha; cases ha
  have hbw : b ≠ w := fun e => by rw [e, hw] at hb; cases hb
  have htw : t ≠ w := fun e => by rw [e, hw] at ht; cases ht
  have hto : t ≠ o := fun e => by rw [e, ho] at ht; cases ht
  refine on_Ct.of (by decide) v_M_mulParts (Nat.le_of_ble_eq_true rfl) ?_
  refine on_iconst (pc' := 1) (v := 0) rfl rfl li_0 ?_
  refine on_istore (pc' := 3) rfl rfl (by decide) ?_
  have := mm_1 (G := G) (h := h) (o := o) (w := w) (t := t) (a := a) (b := b) (sz := sz) (bc := 0) (bs := 0) (Q := fun r h1 z => r = none ∧ z = sz ∧ ∃ Y W2, h1 = on_up (on_up h w (on_al 1 34 W2)) t (on_al 1 17 Y) ∧ mr Y (u * v)) ho hf hwo ?_ 34 0 W rfl (fun j hj => absurd hj (by omega))
  · rw [on_up_self hw] at this
    exact on_relv (l := [(0, .ref o), (1, .ref t), (2, .ref a), (3, .ref b), (4, .int (nI 0))]) ⟨rfl, rfl, rfl, rfl, rfl, trivial⟩ this
  · intro W0 hW0
    refine on_iconst (pc' := 25) (v := 0) rfl rfl li_0 ?_
    refine on_istore (pc' := 27) rfl rfl (by decide) ?_
    refine on_relv (l := [(0, .ref o), (1, .ref t), (2, .ref a), (3, .ref b), (4, .int (nI 0))]) ⟨rfl, rfl, rfl, rfl, rfl, trivial⟩ (mm_3 ho hf hwo ha haw hb hbw x1 y1 (fun W1 hW1 => ?_) 17 0 W0 rfl ?_)
    · have ht2 : on_up h w (on_al 1 34 W1) t = some (on_al 1 17 T) := (on_up_ne htw).trans ht
      have ho2 : on_up h w (on_al 1 34 W1) o = some (.inr (17, fs)) := (on_up_ne (Ne.symm hwo)).trans ho
      refine on_iconst (pc' := 79) (v := 0) rfl rfl li_0 ?_
      refine on_istore (pc' := 81) rfl rfl (by decide) ?_
      have := mm_4 (G := G) (h := on_up h w (on_al 1 34 W1)) (o := o) (w := w) (t := t) (W := W1) (sz := sz) (bc := 0) (bs := 0) (Q := fun r h1 z => r = none ∧ z = sz ∧ ∃ Y W2, h1 = on_up (on_up h w (on_al 1 34 W2)) t (on_al 1 17 Y) ∧ mr Y (u * v)) ho2 hf (on_up_eq _ _ _) hto htw ?_ 17 0 T rfl (fun j hj => absurd hj (by omega))
      · rw [on_up_self ht2] at this
        exact on_relv (l := [(0, .ref o), (1, .ref t), (4, .int (nI 0))]) ⟨rfl, rfl, rfl, trivial⟩ this
      · intro T2 hT2
        obtain ⟨z0, z1, z2⟩ := mm_v hW1 hT2
        first | refine on_aload_n (pc' := 121) rfl rfl rfl rfl ?_ | refine on_aload_nQ (pc' := 121) rfl rfl rfl rfl ?_
        refine on_callS (pc' := 124) (As := [.ref t]) (rest := []) rfl rfl cw_M_mulParts_183 rfl rfl (by decide) (Nat.zero_le _) (Nat.zero_le _) (c_M_settleParts (on_up_eq _ _ _) z1) ?_
        rintro r h3 z ⟨rfl, rfl, Y, rfl, hY⟩
        first | refine on_aload_n (pc' := 125) rfl rfl rfl rfl ?_ | refine on_aload_nQ (pc' := 125) rfl rfl rfl rfl ?_
        refine on_callS (pc' := 128) (As := [.ref t]) (rest := []) rfl rfl cw_M_mulParts_183 rfl rfl (by decide) (Nat.zero_le _) (Nat.zero_le _) (c_M_settleParts (on_up_eq _ _ _) (hY.le (by decide))) ?_
        rintro r h4 z ⟨rfl, rfl, Y2, rfl, hY2⟩
        refine on_vreturn rfl rfl ?_
        refine ⟨rfl, rfl, Y2, W1, by rw [on_up_up, on_up_up], _, hY2, mEE_w (fun i hi => Nat.le_trans (hY i hi).2 (by decide)), (mEE_v _).trans ((mEE_v _).trans (z2.trans (x3.mul y3)))⟩
    · refine ⟨fun _ => 0, fun k hk => ⟨?_, Nat.zero_le _⟩, ?_⟩
      · rw [hW0 k hk]
        show Int64.toInt 0 = 0
        decide
      · rw [show mv x 0 = 0 from rfl, show mv y 0 = 0 from rfl, Int.zero_mul, Int.mul_zero, mv_0]
        rfl
end MMU
