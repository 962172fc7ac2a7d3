section WRR
variable {G : on_G} {o a sz bc bs : Nat} {h : on_H} {Q : Option Value → on_H → Nat → Prop} {X : Nat → Int64}
theorem cu_car_l (k : on_E G M_Curve_carry 52 (on_l [(2, .long (cy_O X 10))]) [] (on_up h a (on_al 1 10 (on_tk (cy_Y X) X 10))) sz bc bs Q) :
    ∀ (m i : Nat), i + m = 10 → on_E G M_Curve_carry 5 (on_l [(1, .ref a), (2, .long (cy_O X i)), (4, .int (nI i))]) [] (on_up h a (on_al 1 10 (on_tk (cy_Y X) X i))) sz bc bs Q := by
  intro m
  induction m with
  | zero =>
    intro i hi
    refine on_iload (pc' := 7) rfl rfl rfl ?_
    refine on_bipush (pc' := 9) (v := 10) rfl rfl lb_10 ?_
    refine on_icmp_ge (pc' := 12) (tgt := 52) rfl rfl rfl (fun cq => ?_) (fun cq => ?_)
    · rw [show i = 10 by omega]
      exact on_relv (l := [(2, .long (cy_O X 10))]) ⟨rfl, trivial⟩ k
    · exact absurd (nI_le (a := 10) (by omega) (by omega)) cq
  | succ m ih =>
    intro i hi
    refine on_iload (pc' := 7) rfl rfl rfl ?_
    refine on_bipush (pc' := 9) (v := 10) rfl rfl lb_10 ?_
    refine on_icmp_ge (pc' := 12) (tgt := 52) rfl rfl rfl (fun cq => ?_) (fun cq => ?_)
    · exact absurd cq (nI_ge (b := 10) (by omega) (by omega))
    · refine on_bipush (pc' := 14) (v := 26) rfl rfl lb_26 ?_
      refine on_iload (pc' := 16) rfl rfl rfl ?_
      refine on_iconst (pc' := 17) (v := 1) rfl rfl li_1 ?_
      refine on_iand (pc' := 18) rfl rfl ?_
      refine on_isub (pc' := 19) rfl rfl ?_
      rw [e_w (by omega)]
      refine on_istore (pc' := 21) rfl rfl (by decide) ?_
      first | refine on_aload_n (pc' := 22) rfl rfl rfl rfl ?_ | refine on_aload_nQ (pc' := 22) rfl rfl rfl rfl ?_
      refine on_iload (pc' := 24) rfl rfl rfl ?_
      apply on_laloadK (pc' := 25) (t := 1) rfl rfl
      · repeat (first | assumption | exact on_up_eq _ _ _ | refine (on_up_ne (by omega)).trans ?_)
      · rfl
      · first | assumption | exact on_lit _ | rfl
      · first | assumption | omega | decide
      rw [on_tk_at]
      refine on_lload_n (pc' := 26) rfl rfl rfl rfl ?_
      refine on_ladd (pc' := 27) rfl rfl ?_
      refine on_lstore (pc' := 29) rfl rfl (by decide) ?_
      refine on_lload (pc' := 31) rfl rfl rfl ?_
      refine on_iload (pc' := 33) rfl rfl rfl ?_
      refine on_lshr (pc' := 34) rfl rfl ?_
      refine on_lstore_n (pc' := 35) rfl rfl rfl (by decide) ?_
      first | refine on_aload_n (pc' := 36) rfl rfl rfl rfl ?_ | refine on_aload_nQ (pc' := 36) rfl rfl rfl rfl ?_
      refine on_iload (pc' := 38) rfl rfl rfl ?_
      refine on_lload (pc' := 40) rfl rfl rfl ?_
      refine on_lload_n (pc' := 41) rfl rfl rfl rfl ?_
      refine on_iload (pc' := 43) rfl rfl rfl ?_
      refine on_lshl (pc' := 44) rfl rfl ?_
      refine on_lsub (pc' := 45) rfl rfl ?_
      apply on_lastoreK (pc' := 46) (t := 1) rfl rfl
      · repeat (first | assumption | exact on_up_eq _ _ _ | refine (on_up_ne (by omega)).trans ?_)
      · rfl
      · first | assumption | exact on_lit _ | rfl
      · first | assumption | omega | decide
      refine on_iinc1 (pc' := 49) rfl rfl rfl ?_
      refine on_goto (tgt := 5) rfl rfl ?_
      rw [on_up_up]
      show on_E G M_Curve_carry 5 _ _ (on_up h a (on_al 1 10 (vp_updL (on_tk (cy_Y X) X i) i (cy_Y X i)))) sz bc bs Q
      rw [on_tk_sL]
      exact on_relv (l := [(1, .ref a), (2, .long (cy_O X (i + 1))), (4, .int (nI (i + 1)))]) ⟨rfl, rfl, congrArg some (congrArg Value.int (nI_1 i)), trivial⟩ (ih (i + 1) (by omega))
theorem c_Curve_carry (ha : h a = some (on_al 1 10 X)) :
    on_Ct G M_Curve_carry [.ref o, .ref a] h sz 0 0 (fun r h1 z => r = some (.long (cy_O X 10)) ∧ z = sz ∧ h1 = on_up h a (on_al 1 10 (on_tk (cy_Y X) X 10))) := by
  refine on_Ct.of (by decide) v_Curve_carry (Nat.le_of_ble_eq_true rfl) ?_
  refine on_lconst (pc' := 1) (v := 0) rfl rfl ll_0 ?_
  refine on_lstore_n (pc' := 2) rfl rfl rfl (by decide) ?_
  refine on_iconst (pc' := 3) (v := 0) rfl rfl li_0 ?_
  refine on_istore (pc' := 5) rfl rfl (by decide) ?_
  have := cu_car_l (G := G) (a := a) (h := h) (X := X) (sz := sz) (bc := 0) (bs := 0) (Q := fun r h1 z => r = some (.long (cy_O X 10)) ∧ z = sz ∧ h1 = on_up h a (on_al 1 10 (on_tk (cy_Y X) X 10))) ?_ 10 0 rfl
  · rw [on_tk_0, on_up_self ha] at this
    exact on_relv (l := [(1, .ref a), (2, .long (cy_O X 0)), (4, .int (nI 0))]) ⟨rfl, rfl, rfl, trivial⟩ this
  · refine on_lload_n (pc' := 53) rfl rfl rfl rfl ?_
    refine on_lreturn rfl rfl ?_
    exact ⟨rfl, rfl, rfl⟩
/-- limbs as they should be: each within its width -/
def cv_ok (F : Nat → Int64) (f : Nat → Int) : Prop := ∀ i, i < 10 → (F i).toInt = f i ∧ 0 ≤ f i ∧ f i < 2 ^ cv_w i
def cv_2 : Int := 57896044618658097711785492504343953926634992332820282019728792003956564819968
theorem cv_ok_v {F : Nat → Int64} {f : Nat → Int} (h : cv_ok F f) : 0 ≤ cv_v f ∧ cv_v f < cv_2 := by
  have h0 := h 0 (by omega)
  have h1 := h 1 (by omega)
  have h2 := h 2 (by omega)
  have h3 := h 3 (by omega)
  have h4 := h 4 (by omega)
  have h5 := h 5 (by omega)
  have h6 := h 6 (by omega)
  have h7 := h 7 (by omega)
  have h8 := h 8 (by omega)
  have h9 := h 9 (by omega)
  simp only [cv_w, Nat.reduceMod, Nat.reduceSub] at h0 h1 h2 h3 h4 h5 h6 h7 h8 h9
  unfold cv_v cv_2
  omega
/-- a carry over limbs of which the first may be a little off -/
theorem cv_pass {X : Nat → Int64} {x : Nat → Int} (h : ∀ k, k < 10 → rb (X k) (x k) 2305843009213693952) : cv_ok (on_tk (cy_Y X) X 10) (cy_y x) ∧ (cy_O X 10).toInt = cy_o x 10 ∧ cv_v (cy_y x) + cy_o x 10 * cv_2 = cv_v x := by
  refine ⟨fun i hi => ?_, (cy_rb h 10 (by omega)).1, cy_sum x⟩
  rw [on_tk_lt hi]
  exact cy_rbY h i hi
theorem cv_ok_rb {F : Nat → Int64} {f : Nat → Int} (h : cv_ok F f) : ∀ k, k < 10 → rb (F k) (f k) 67108864 := fun k hk => by
  obtain ⟨h1, h2, h3⟩ := h k hk
  refine ⟨h1, ?_⟩
  have : (2 : Int) ^ cv_w k ≤ 67108864 := by rcases cv_w_or k with e | e <;> rw [e] <;> decide
  omega
/-- the first limb changed -/
theorem cv_v_0 (f : Nat → Int) (d : Int) : cv_v (fun i => if i = 0 then f 0 + d else f i) = cv_v f + d := by
  unfold cv_v
  simp only [if_true, Nat.reduceEqDiff, if_false]
  omega
theorem cv_first {F : Nat → Int64} {f : Nat → Int} {D : Int64} {d : Int} (h : ∀ k, k < 10 → rb (F k) (f k) 67108864) (hd : rb D d 1152921504606846976) : ∀ k, k < 10 → rb (vp_updL F 0 (F 0 + D) k) (if k = 0 then f 0 + d else f k) 2305843009213693952 := fun k hk => by
  by_cases e : k = 0
  · subst e
    rw [pk_uLs, if_pos rfl]
    exact rb_le (rb_add (h 0 hk) hd (by decide)) (by decide)
  · rw [pk_uLn e, if_neg e]
    exact rb_le (h k hk) (by decide)
end WRR
