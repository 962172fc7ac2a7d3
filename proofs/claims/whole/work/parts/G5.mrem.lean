/-! the reference: an entry is taken out, sent back, destroyed -/
/-- two places of a row change -/
def sw (k0 m k : Nat) : Nat := if k = m then k0 else if k = k0 then m else k
theorem sw_inj {k0 m j k : Nat} (h : sw k0 m j = sw k0 m k) : j = k := by
  unfold sw at h
  split at h <;> split at h <;> (try split at h) <;> (try split at h) <;> omega
theorem sw_es {es : Nat → Nat} {k0 m : Nat} : fu (fu es k0 (es m)) m (es k0) = fun k => es (sw k0 m k) := funext fun k => by
  unfold fu sw
  split
  · rfl
  · split <;> rfl
section MRM
variable {G : on_G} {o R k0 n sz bc bs : Nat} {r : aR} {ord es : Nat → Nat} {h : on_H} {Q : Option Value → on_H → Nat → Prop}
/-- the row without place ord k0 -/
theorem mr_I.rem {en : Nat → Option aE} (I : mr_I R en n ord es) (hk : k0 < n) : mr_I R (fu en (ord k0) none) (n - 1) (fu ord k0 (ord (n - 1))) (fun k => es (sw k0 (n - 1) k)) := by
  obtain ⟨i1, i2, i3, i4, i5, i6⟩ := I
  have s12 : ∀ k, k < 12 → sw k0 (n - 1) k < 12 := fun k hk2 => by
    unfold sw
    split
    · omega
    · split <;> omega
  refine ⟨by omega, fun k hk2 => i2 _ (s12 k hk2), fun j k hj hk2 e => sw_inj (i3 _ _ (s12 j hj) (s12 k hk2) e), fun j k hj hk2 e => ?_, fun s e he => ?_, fun k hk2 => ?_⟩
  · unfold fu at e
    split at e <;> split at e
    · omega
    · have := i4 (n - 1) k (by omega) (by omega) e
      omega
    · have := i4 j (n - 1) (by omega) (by omega) e
      omega
    · exact i4 j k (by omega) (by omega) e
  · have ne : s ≠ ord k0 := fun z => by
      rw [z, fu_s] at he
      exact nomatch he
    rw [fu_n ne] at he
    obtain ⟨k, hk2, ek⟩ := i5 s e he
    by_cases z : k = n - 1
    · have : k0 ≠ n - 1 := fun w => ne (by rw [w, ← z, ek])
      exact ⟨k0, by omega, by rw [fu_s, ← z, ek]⟩
    · have : k ≠ k0 := fun w => ne (by rw [← w, ek])
      exact ⟨k, by omega, by rw [fu_n this, ek]⟩
  · by_cases z : k = k0
    · rw [z, fu_s]
      exact i6 _ (by omega)
    · rw [fu_n z]
      exact i6 _ (by omega)
set_option maxHeartbeats 4000000 in
theorem mrm_l (I : mr_I R r.en n ord es) (K : mr_S R r n ord es h) (hk : k0 < n) (kk : on_E G M_M_remove 18 (on_l [(1, .ref R), (2, .ref (es k0)), (3, .int (nI k0))]) [] h sz bc bs Q) :
    ∀ (m k : Nat), k + m = k0 → on_E G M_M_remove 2 (on_l [(1, .ref R), (2, .ref (es k0)), (3, .int (nI k))]) [] h sz bc bs Q := by
  have o1 : h R = some (.inr (15, [.long r.se, .int r.dr, .ref (R + 1), .ref (R + 2), .ref (R + 3), .int (nI r.we), .int (nI r.nx), .ref (R + 4), .int (nI n), .ref (R + 5), .int (nI r.ke.length)])) := K.1
  have f1 := K.2.2.2.2.1.1
  have l12 := I.1
  intro m
  induction m with
  | zero =>
    intro k hk2
    obtain rfl : k = k0 := by omega
    have i12 : k < 12 ∧ 12 < 2 ^ 31 := by omega
    first | refine on_aload_n (pc' := 3) rfl rfl rfl rfl ?_ | refine on_aload_nQ (pc' := 3) rfl rfl rfl rfl ?_
    first | apply on_get (pc' := 6) rfl rfl fl_M_324 | apply on_getN (pc' := 6) rfl rfl fl_M_324
    · repeat (first | assumption | exact on_up_eq _ _ _ | refine (on_up_ne (by omega)).trans ?_)
    · rfl
    refine on_iload_n (pc' := 7) rfl rfl rfl rfl ?_
    apply on_aaloadK (pc' := 8) rfl rfl
    · repeat (first | assumption | exact on_up_eq _ _ _ | refine (on_up_ne (by omega)).trans ?_)
    · rfl
    · first | assumption | exact on_lit _ | rfl
    · first | assumption | omega | decide
    first | refine on_aload_n (pc' := 9) rfl rfl rfl rfl ?_ | refine on_aload_nQ (pc' := 9) rfl rfl rfl rfl ?_
    refine on_acmp_eq (rx := some (es k)) (ry := some (es k)) (pc' := 12) (tgt := 18) rfl rfl rfl (fun _ => ?_) (fun z => absurd rfl z)
    exact on_relv (l := [(1, .ref R), (2, .ref (es k)), (3, .int (nI k))]) ⟨rfl, rfl, rfl, trivial⟩ kk
  | succ m ih =>
    intro k hk2
    have i12 : k < 12 ∧ 12 < 2 ^ 31 := by omega
    first | refine on_aload_n (pc' := 3) rfl rfl rfl rfl ?_ | refine on_aload_nQ (pc' := 3) rfl rfl rfl rfl ?_
    first | apply on_get (pc' := 6) rfl rfl fl_M_324 | apply on_getN (pc' := 6) rfl rfl fl_M_324
    · repeat (first | assumption | exact on_up_eq _ _ _ | refine (on_up_ne (by omega)).trans ?_)
    · rfl
    refine on_iload_n (pc' := 7) rfl rfl rfl rfl ?_
    apply on_aaloadK (pc' := 8) rfl rfl
    · repeat (first | assumption | exact on_up_eq _ _ _ | refine (on_up_ne (by omega)).trans ?_)
    · rfl
    · first | assumption | exact on_lit _ | rfl
    · first | assumption | omega | decide
    first | refine on_aload_n (pc' := 9) rfl rfl rfl rfl ?_ | refine on_aload_nQ (pc' := 9) rfl rfl rfl rfl ?_
    refine on_acmp_eq (rx := some (es k)) (ry := some (es k0)) (pc' := 12) (tgt := 18) rfl rfl rfl (fun z => ?_) (fun _ => ?_)
    · have := I.2.2.1 k k0 (by omega) (by omega) (Option.some.inj z)
      omega
    · refine on_iinc1 (pc' := 15) rfl rfl rfl ?_
      refine on_goto (tgt := 2) rfl rfl ?_
      exact on_relv (l := [(1, .ref R), (2, .ref (es k0)), (3, .int (nI (k + 1)))]) ⟨rfl, rfl, congrArg some (congrArg Value.int (nI_1 k)), trivial⟩ (ih (k + 1) (by omega))
set_option maxHeartbeats 8000000 in
/-- remove -/
theorem c_M_remove (I : mr_I R r.en n ord es) (K : mr_S R r n ord es h) (hk : k0 < n) :
    on_Ct G M_M_remove [.ref o, .ref R, .ref (es k0)] h sz 0 0 (fun v h1 z => v = none ∧ z = sz ∧ mr_S R (r_en r (fu r.en (ord k0) none)) (n - 1) (fu ord k0 (ord (n - 1))) (fun k => es (sw k0 (n - 1) k)) h1 ∧ ∀ b, b ≠ R → b ≠ R + 4 → h1 b = h b) := by
  have o1 : h R = some (.inr (15, [.long r.se, .int r.dr, .ref (R + 1), .ref (R + 2), .ref (R + 3), .int (nI r.we), .int (nI r.nx), .ref (R + 4), .int (nI n), .ref (R + 5), .int (nI r.ke.length)])) := K.1
  obtain ⟨k1, k2, k3, ⟨F, k4, k4'⟩, ⟨e1, e2, e3⟩, k6⟩ := id K
  have l12 := I.1
  have i1 : k0 < 12 ∧ 12 < 2 ^ 31 := by omega
  have i2 : n - 1 < 12 ∧ 12 < 2 ^ 31 := by omega
  have ob : ∀ k, k < 12 → ∃ fs, h (es k) = some (.inr (14, fs)) := fun k hk2 => by
    rcases Nat.lt_or_ge k n with w | w
    · obtain ⟨e, -, e4⟩ := e2 k w
      obtain ⟨tn, S, V, W, C, b, -⟩ := e4
      exact ⟨_, b.1⟩
    · obtain ⟨a1, a2, a3, a4, a5, a6, S, V, W, C, b, -⟩ := e3 k w hk2
      exact ⟨_, b.1⟩
  obtain ⟨fs0, ob0⟩ := ob k0 i1.1
  obtain ⟨fs1, ob1⟩ := ob (n - 1) i2.1
  have at0 := I.at i1.1
  have at1 := I.at i2.1
  refine on_Ct.of (by decide) v_M_remove (Nat.le_of_ble_eq_true rfl) ?_
  refine on_iconst (pc' := 1) (v := 0) rfl rfl li_0 ?_
  refine on_istore_n (pc' := 2) rfl rfl rfl (by decide) ?_
  refine on_relv (l := [(1, .ref R), (2, .ref (es k0)), (3, .int (nI 0))]) ⟨rfl, rfl, rfl, trivial⟩ (mrm_l I K hk ?_ k0 0 (by omega))
  first | refine on_aload_n (pc' := 19) rfl rfl rfl rfl ?_ | refine on_aload_nQ (pc' := 19) rfl rfl rfl rfl ?_
  refine on_dup (pc' := 20) rfl rfl rfl ?_
  first | apply on_get (pc' := 23) rfl rfl fl_M_333 | apply on_getN (pc' := 23) rfl rfl fl_M_333
  · repeat (first | assumption | exact on_up_eq _ _ _ | refine (on_up_ne (by omega)).trans ?_)
  · rfl
  refine on_iconst (pc' := 24) (v := 1) rfl rfl li_1 ?_
  refine on_isub (pc' := 25) rfl rfl ?_
  rw [show nI n - 1 = nI (n - 1) from pk_sub (a := n) (b := 1) (by omega)]
  first | apply on_put (pc' := 28) rfl rfl fp_M_333 | apply on_putN (pc' := 28) rfl rfl fp_M_333
  · repeat (first | assumption | exact on_up_eq _ _ _ | refine (on_up_ne (by omega)).trans ?_)
  · first | rfl | assumption
  · first | rfl | assumption
  · exact Nat.le_of_ble_eq_true rfl
  first | refine on_aload_n (pc' := 29) rfl rfl rfl rfl ?_ | refine on_aload_nQ (pc' := 29) rfl rfl rfl rfl ?_
  first | apply on_get (pc' := 32) rfl rfl fl_M_324 | apply on_getN (pc' := 32) rfl rfl fl_M_324
  · repeat (first | assumption | exact on_up_eq _ _ _ | refine (on_up_ne (by omega)).trans ?_)
  · rfl
  refine on_iload_n (pc' := 33) rfl rfl rfl rfl ?_
  first | refine on_aload_n (pc' := 34) rfl rfl rfl rfl ?_ | refine on_aload_nQ (pc' := 34) rfl rfl rfl rfl ?_
  first | apply on_get (pc' := 37) rfl rfl fl_M_324 | apply on_getN (pc' := 37) rfl rfl fl_M_324
  · repeat (first | assumption | exact on_up_eq _ _ _ | refine (on_up_ne (by omega)).trans ?_)
  · rfl
  first | refine on_aload_n (pc' := 38) rfl rfl rfl rfl ?_ | refine on_aload_nQ (pc' := 38) rfl rfl rfl rfl ?_
  first | apply on_get (pc' := 41) rfl rfl fl_M_333 | apply on_getN (pc' := 41) rfl rfl fl_M_333
  · repeat (first | assumption | exact on_up_eq _ _ _ | refine (on_up_ne (by omega)).trans ?_)
  · rfl
  apply on_aaloadK (pc' := 42) rfl rfl
  · repeat (first | assumption | exact on_up_eq _ _ _ | refine (on_up_ne (by omega)).trans ?_)
  · rfl
  · first | assumption | exact on_lit _ | rfl
  · first | assumption | omega | decide
  show on_E G M_M_remove 42 _ [.ref (es (n - 1)), .int (nI k0), .ref (R + 4)] _ _ _ _ _
  apply on_aastoreK (pc' := 43) rfl rfl
  · repeat (first | assumption | exact on_up_eq _ _ _ | refine (on_up_ne (by omega)).trans ?_)
  rotate_left 2
  · repeat (first | assumption | exact on_up_eq _ _ _ | refine (on_up_ne (by omega)).trans ?_)
  rotate_right 2
  · rfl
  · rfl
  · first | assumption | exact on_lit _ | rfl
  · first | assumption | omega | decide
  first | refine on_aload_n (pc' := 44) rfl rfl rfl rfl ?_ | refine on_aload_nQ (pc' := 44) rfl rfl rfl rfl ?_
  first | apply on_get (pc' := 47) rfl rfl fl_M_324 | apply on_getN (pc' := 47) rfl rfl fl_M_324
  · repeat (first | assumption | exact on_up_eq _ _ _ | refine (on_up_ne (by omega)).trans ?_)
  · rfl
  first | refine on_aload_n (pc' := 48) rfl rfl rfl rfl ?_ | refine on_aload_nQ (pc' := 48) rfl rfl rfl rfl ?_
  first | apply on_get (pc' := 51) rfl rfl fl_M_333 | apply on_getN (pc' := 51) rfl rfl fl_M_333
  · repeat (first | assumption | exact on_up_eq _ _ _ | refine (on_up_ne (by omega)).trans ?_)
  · rfl
  first | refine on_aload_n (pc' := 52) rfl rfl rfl rfl ?_ | refine on_aload_nQ (pc' := 52) rfl rfl rfl rfl ?_
  apply on_aastoreK (pc' := 53) rfl rfl
  · repeat (first | assumption | exact on_up_eq _ _ _ | refine (on_up_ne (by omega)).trans ?_)
  rotate_left 2
  · repeat (first | assumption | exact on_up_eq _ _ _ | refine (on_up_ne (by omega)).trans ?_)
  rotate_right 2
  · rfl
  · rfl
  · first | assumption | exact on_lit _ | rfl
  · first | assumption | omega | decide
  refine on_vreturn rfl rfl ?_
  have g4 : on_up (on_up (on_up h R (.inr (15, [.long r.se, .int r.dr, .ref (R + 1), .ref (R + 2), .ref (R + 3), .int (nI r.we), .int (nI r.nx), .ref (R + 4), .int (nI (n - 1)), .ref (R + 5), .int (nI r.ke.length)]))) (R + 4) (on_aq 11 12 (va_up (fun k => some (es k)) k0 (some (es (n - 1)))))) (R + 4) (on_aq 11 12 (va_up (va_up (fun k => some (es k)) k0 (some (es (n - 1)))) (n - 1) (some (es k0)))) (R + 4) = some (on_aq 11 12 (fun k => some (es (sw k0 (n - 1) k)))) := by
    rw [on_up_eq]
    refine congrArg some (congrArg (on_aq 11 12) (funext fun k => ?_))
    unfold va_up sw
    split
    · rfl
    · split <;> rfl
  have gR : on_up (on_up (on_up h R (.inr (15, [.long r.se, .int r.dr, .ref (R + 1), .ref (R + 2), .ref (R + 3), .int (nI r.we), .int (nI r.nx), .ref (R + 4), .int (nI (n - 1)), .ref (R + 5), .int (nI r.ke.length)]))) (R + 4) (on_aq 11 12 (va_up (fun k => some (es k)) k0 (some (es (n - 1)))))) (R + 4) (on_aq 11 12 (va_up (va_up (fun k => some (es k)) k0 (some (es (n - 1)))) (n - 1) (some (es k0)))) R = some (.inr (15, [.long r.se, .int r.dr, .ref (R + 1), .ref (R + 2), .ref (R + 3), .int (nI r.we), .int (nI r.nx), .ref (R + 4), .int (nI (n - 1)), .ref (R + 5), .int (nI r.ke.length)])) := (on_up_ne (by omega)).trans ((on_up_ne (by omega)).trans (on_up_eq _ _ _))
  have gg : ∀ b, b ≠ R → b ≠ R + 4 → on_up (on_up (on_up h R (.inr (15, [.long r.se, .int r.dr, .ref (R + 1), .ref (R + 2), .ref (R + 3), .int (nI r.we), .int (nI r.nx), .ref (R + 4), .int (nI (n - 1)), .ref (R + 5), .int (nI r.ke.length)]))) (R + 4) (on_aq 11 12 (va_up (fun k => some (es k)) k0 (some (es (n - 1)))))) (R + 4) (on_aq 11 12 (va_up (va_up (fun k => some (es k)) k0 (some (es (n - 1)))) (n - 1) (some (es k0)))) b = h b := fun b b1 b2 => (on_up_ne b2).trans ((on_up_ne b2).trans (on_up_ne b1))
  refine ⟨rfl, rfl, ?_, fun b b1 b2 => gg b b1 b2⟩
  show mr_S R _ _ _ _ (on_up (on_up (on_up h R (.inr (15, [.long r.se, .int r.dr, .ref (R + 1), .ref (R + 2), .ref (R + 3), .int (nI r.we), .int (nI r.nx), .ref (R + 4), .int (nI (n - 1)), .ref (R + 5), .int (nI r.ke.length)]))) (R + 4) (on_aq 11 12 (va_up (fun k => some (es k)) k0 (some (es (n - 1)))))) (R + 4) (on_aq 11 12 (va_up (va_up (fun k => some (es k)) k0 (some (es (n - 1)))) (n - 1) (some (es k0)))))
  generalize on_up (on_up (on_up h R (.inr (15, [.long r.se, .int r.dr, .ref (R + 1), .ref (R + 2), .ref (R + 3), .int (nI r.we), .int (nI r.nx), .ref (R + 4), .int (nI (n - 1)), .ref (R + 5), .int (nI r.ke.length)]))) (R + 4) (on_aq 11 12 (va_up (fun k => some (es k)) k0 (some (es (n - 1)))))) (R + 4) (on_aq 11 12 (va_up (va_up (fun k => some (es k)) k0 (some (es (n - 1)))) (n - 1) (some (es k0)))) = g at g4 gR gg ⊢
  have sl : ∀ k, k < n - 1 → sw k0 (n - 1) k < n ∧ sw k0 (n - 1) k ≠ k0 ∧ fu ord k0 (ord (n - 1)) k = ord (sw k0 (n - 1) k) := fun k hk2 => by
    unfold sw
    rw [if_neg (by omega)]
    by_cases z : k = k0
    · rw [if_pos z, z, fu_s]
      exact ⟨by omega, by omega, rfl⟩
    · rw [if_neg z, fu_n z]
      exact ⟨by omega, z, rfl⟩
  refine ⟨gR, k2.keep (gg _ (by omega) (by omega)), k3.keep (gg _ (by omega) (by omega)), ⟨F, (gg _ (by omega) (by omega)).trans k4, k4'⟩, ⟨g4, fun k hk2 => ?_, fun k hk2 hk3 => ?_⟩, k6.keep (gg _ (by omega) (by omega))⟩
  · obtain ⟨s1, s2, s3⟩ := sl k hk2
    obtain ⟨e, e4, e5⟩ := e2 _ s1
    have aa := I.at (show sw k0 (n - 1) k < 12 by omega)
    refine ⟨e, ?_, e5.keep (fun b b1 b2 => gg b (by omega) (by omega))⟩
    show fu r.en (ord k0) none (fu ord k0 (ord (n - 1)) k) = some e
    rw [s3, fu_n (fun z => s2 (I.2.2.2.1 _ _ s1 hk z))]
    exact e4
  · have w12 : sw k0 (n - 1) k < 12 := by
      unfold sw
      split
      · omega
      · split <;> omega
    have aa := I.at w12
    show me_W (es (sw k0 (n - 1) k)) g
    refine me_W.keep (h := h) ?_ (fun b b1 b2 => gg b (by omega) (by omega))
    rcases Nat.lt_or_ge (sw k0 (n - 1) k) n with w | w
    · obtain ⟨e, e4, e5⟩ := e2 _ w
      exact e5.w
    · exact e3 _ w w12
end MRM
