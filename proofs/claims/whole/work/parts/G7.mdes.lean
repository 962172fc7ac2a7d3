/-! the reference: an entry is destroyed; data comes -/
/-- the reference's relay R (number self), its rows, its links -/
def mR (o R self : Nat) (x3 : Int32 × Int32 × Int32) (F : Nat → Option Nat) (lk : Nat → List aB) (r : aR) (n : Nat) (ord es : Nat → Nat) (h : on_H) : Prop := mw o x3 h ∧ mk_L o lk h ∧ mr_S R r n ord es h ∧ mr_I R r.en n ord es ∧ h (o + 1) = some (on_aq 13 6 F) ∧ F self = some R ∧ (R + 174 ≤ o ∨ o + 42 ≤ R) ∧ self < 6
/-- what a step of relay R may change -/
def mf_R (o R : Nat) (h h1 : on_H) : Prop := ∀ b, (b < o ∨ o + 6 ≤ b ∧ o + 42 ≤ b ∨ o < b ∧ b < o + 6) → (b < R ∨ R + 174 ≤ b) → h1 b = h b
def mY (o R self : Nat) (x3 : Int32 × Int32 × Int32) (F : Nat → Option Nat) (lk : Nat → List aB) (p : aR × aO) (h h1 : on_H) : Prop := (∃ n ord es, mR o R self x3 F (n_sd self lk p.2) p.1 n ord es h1) ∧ mf_R o R h h1
theorem mf_R.trans {o R : Nat} {h h1 h2 : on_H} (a : mf_R o R h h1) (b : mf_R o R h1 h2) : mf_R o R h h2 := fun c c1 c2 => (b c c1 c2).trans (a c c1 c2)
section MDE
variable {G : on_G} {o y R self n k0 sz bc bs : Nat} {x3 : Int32 × Int32 × Int32} {F : Nat → Option Nat} {lk : Nat → List aB} {e : aE} {r : aR} {ord es : Nat → Nat} {h h1 : on_H} {Q : Option Value → on_H → Nat → Prop} {x : aB}
/-- only links have changed -/
theorem mR.lnk {lk2 : Nat → List aB} (K : mR o R self x3 F lk r n ord es h) (L : mk_L o lk2 h1) (t : ∀ b, b ≠ o + 6 → b ≠ o + 7 → h1 b = h b) : mR o R self x3 F lk2 r n ord es h1 := by
  obtain ⟨k1, k2, k3, k4, k5, k6, k7, k8⟩ := K
  exact ⟨k1.keep (fun a _ _ _ => t a (by omega) (by omega)), L, k3.keep k4 (fun a _ _ => t a (by omega) (by omega)), k4, (t _ (by omega) (by omega)).trans k5, k6, k7, k8⟩
set_option maxHeartbeats 8000000 in
/-- destroyEntry -/
theorem c_M_destroyEntry (K : mR o R self x3 F lk r n ord es h) (hk : k0 < n) (he : r.en (ord k0) = some e) (hf : e.fr < 10) (ho : ∀ q, e.on = some q → q.1 < 10) :
    on_Ct G M_M_destroyEntry [.ref o, .int (nI self), .ref (es k0)] h sz 0 0 (fun v h1 z => v = none ∧ z = sz ∧ mY o R self x3 F lk (r_en r (fu r.en (ord k0) none), e_ds e) h h1) := by
  obtain ⟨W, KL, K3, I, k5, k6, k7, k8⟩ := id K
  have o1 := W.ob.1
  obtain ⟨e', e1', E⟩ := K3.2.2.2.2.1.2.1 k0 hk
  cases he.symm.trans e1'
  obtain ⟨tn, S, V, WW, C, ⟨b0, -⟩, tq, -⟩ := id E
  have at0 := I.at (show k0 < 12 by have := I.1; omega)
  have ce := W.ce
  have i6 : self < 6 ∧ 6 < 2 ^ 31 := ⟨k8, by decide⟩
  have fin : ∀ (lv : on_V) (h2 : on_H) (lk2 : Nat → List aB), lv 0 = some (.ref o) → lv 1 = some (.int (nI self)) → lv 2 = some (.ref (es k0)) → n_sd self lk (e_ds e) = lk2 → mk_L o lk2 h2 → (∀ b, b ≠ o + 6 → b ≠ o + 7 → h2 b = h b) → on_E G M_M_destroyEntry 46 lv [] h2 sz 0 0 (fun v h1 z => v = none ∧ z = sz ∧ mY o R self x3 F lk (r_en r (fu r.en (ord k0) none), e_ds e) h h1) := fun lv h2 lk2 l0 l1 l2 el L2 t2 => by
    obtain ⟨j1, j2, j3, j4, j5, j6, j7, j8⟩ := K.lnk L2 t2
    have o2 := j1.ob.1
    have ro : h2 R = some (.inr (15, [.long r.se, .int r.dr, .ref (R + 1), .ref (R + 2), .ref (R + 3), .int (nI r.we), .int (nI r.nx), .ref (R + 4), .int (nI n), .ref (R + 5), .int (nI r.ke.length)])) := j3.1
    refine on_relv (l := [(0, .ref o), (1, .int (nI self)), (2, .ref (es k0))]) ⟨l0, l1, l2, trivial⟩ ?_
    first | refine on_aload_n (pc' := 47) rfl rfl rfl rfl ?_ | refine on_aload_nQ (pc' := 47) rfl rfl rfl rfl ?_
    first | refine on_aload_n (pc' := 48) rfl rfl rfl rfl ?_ | refine on_aload_nQ (pc' := 48) rfl rfl rfl rfl ?_
    first | apply on_get (pc' := 51) rfl rfl fl_M_9 | apply on_getN (pc' := 51) rfl rfl fl_M_9
    · repeat (first | assumption | exact on_up_eq _ _ _ | refine (on_up_ne (by omega)).trans ?_)
    · rfl
    refine on_iload_n (pc' := 52) rfl rfl rfl rfl ?_
    apply on_aaloadK (pc' := 53) rfl rfl
    · repeat (first | assumption | exact on_up_eq _ _ _ | refine (on_up_ne (by omega)).trans ?_)
    · rfl
    · first | assumption | exact on_lit _ | rfl
    · first | assumption | omega | decide
    rw [k6]
    show on_E G M_M_destroyEntry 53 _ [.ref R, .ref o] h2 sz _ _ _
    first | refine on_aload_n (pc' := 54) rfl rfl rfl rfl ?_ | refine on_aload_nQ (pc' := 54) rfl rfl rfl rfl ?_
    refine on_callV (pc' := 57) (As := [.ref R, .ref (es k0)]) (rest := []) (b := o) rfl rfl cw_M_destroyEntry_352 (o2) rfl rfl (Nat.le_of_ble_eq_true rfl) (Nat.zero_le _) (Nat.zero_le _) (c_M_remove j4 j3 hk) ?_
    rintro v h3 z ⟨rfl, rfl, S3, t3⟩
    refine on_vreturn rfl rfl ?_
    refine ⟨rfl, rfl, ⟨n - 1, _, _, j1.keep (fun a _ _ _ => t3 a (by omega) (by omega)), ?_, S3, I.rem hk, (t3 _ (by omega) (by omega)).trans j5, k6, k7, k8⟩, fun b c1 c2 => (t3 b (by omega) (by omega)).trans (t2 b (by omega) (by omega))⟩
    show mk_L o (n_sd self lk (e_ds e)) h3
    rw [el]
    exact L2.keep (t3 _ (by omega) (by omega)) (t3 _ (by omega) (by omega))
  refine on_Ct.of (by decide) v_M_destroyEntry (Nat.le_of_ble_eq_true rfl) ?_
  first | refine on_aload_n (pc' := 1) rfl rfl rfl rfl ?_ | refine on_aload_nQ (pc' := 1) rfl rfl rfl rfl ?_
  refine on_iload_n (pc' := 2) rfl rfl rfl rfl ?_
  first | refine on_aload_n (pc' := 3) rfl rfl rfl rfl ?_ | refine on_aload_nQ (pc' := 3) rfl rfl rfl rfl ?_
  first | apply on_get (pc' := 6) rfl rfl fl_M_336 | apply on_getN (pc' := 6) rfl rfl fl_M_336
  · repeat (first | assumption | exact on_up_eq _ _ _ | refine (on_up_ne (by omega)).trans ?_)
  · rfl
  first | refine on_aload_n (pc' := 7) rfl rfl rfl rfl ?_ | refine on_aload_nQ (pc' := 7) rfl rfl rfl rfl ?_
  first | apply on_get (pc' := 10) rfl rfl fl_M_339 | apply on_getN (pc' := 10) rfl rfl fl_M_339
  · repeat (first | assumption | exact on_up_eq _ _ _ | refine (on_up_ne (by omega)).trans ?_)
  · rfl
  refine on_iconst (pc' := 11) (v := 4) rfl rfl li_4 ?_
  first | refine on_aload_n (pc' := 12) rfl rfl rfl rfl ?_ | refine on_aload_nQ (pc' := 12) rfl rfl rfl rfl ?_
  first | apply on_get (pc' := 15) rfl rfl fl_M_73 | apply on_getN (pc' := 15) rfl rfl fl_M_73
  · repeat (first | assumption | exact on_up_eq _ _ _ | refine (on_up_ne (by omega)).trans ?_)
  · rfl
  refine on_iconst (pc' := 16) (v := 0) rfl rfl li_0 ?_
  refine on_callV (pc' := 19) (As := [.int (nI self), .int (nI e.fr), .int e.fn, .int (nI 4), .ref (o + 24), .int (nI 0)]) (rest := []) (b := o) rfl rfl cw_M_destroyEntry_348 (o1) rfl rfl (Nat.le_of_ble_eq_true rfl) (Nat.zero_le _) (Nat.zero_le _) (c_M_lay (x := fun _ => 0) (n := 0) o1 KL (by omega) hf (by decide) ce (by omega) (by omega) ⟨Nat.zero_le _, by decide⟩ (Nat.zero_le _) (fun f _ i hi => absurd hi (Nat.not_lt_zero i))) ?_
  rintro v h2 z ⟨rfl, rfl, L2, t2⟩
  have b2 := (t2 (es k0) (by omega) (by omega)).trans b0
  have o2 := (t2 o (by omega) (by omega)).trans o1
  first | refine on_aload_n (pc' := 20) rfl rfl rfl rfl ?_ | refine on_aload_nQ (pc' := 20) rfl rfl rfl rfl ?_
  first | apply on_get (pc' := 23) rfl rfl fl_M_342 | apply on_getN (pc' := 23) rfl rfl fl_M_342
  · repeat (first | assumption | exact on_up_eq _ _ _ | refine (on_up_ne (by omega)).trans ?_)
  · rfl
  refine on_iconst (pc' := 24) (v := (-1)) rfl rfl li_m1 ?_
  refine on_icmp_eq (pc' := 27) (tgt := 46) rfl rfl rfl (fun cq => ?_) (fun cq => ?_)
  · cases w : e.on with
    | none => exact fin _ h2 _ rfl rfl rfl (by unfold e_ds; rw [w]; rfl) L2 t2
    | some q =>
      rw [w] at cq
      exact absurd cq ((by decide : ∀ f, f < 10 → ¬ nI f = -1) q.1 (ho q w))
  · cases w : e.on with
    | none =>
      rw [w] at cq
      exact absurd rfl cq
    | some q =>
      clear cq
      rw [w] at b2
      have q10 := ho q w
      have et := tq q w
      have b2 : h2 (es k0) = some (.inr (14, [.int (nI e.fr), .int e.fn, .int (nI q.1), .int tn, .int (bI e.wt), .ref (es k0 + 1), .int (nI e.st.length), .ref (es k0 + 10), .ref (es k0 + 11), .ref (es k0 + 12), .ref (es k0 + 13)])) := b2
      rw [et] at b2
      first | refine on_aload_n (pc' := 28) rfl rfl rfl rfl ?_ | refine on_aload_nQ (pc' := 28) rfl rfl rfl rfl ?_
      refine on_iload_n (pc' := 29) rfl rfl rfl rfl ?_
      first | refine on_aload_n (pc' := 30) rfl rfl rfl rfl ?_ | refine on_aload_nQ (pc' := 30) rfl rfl rfl rfl ?_
      first | apply on_get (pc' := 33) rfl rfl fl_M_342 | apply on_getN (pc' := 33) rfl rfl fl_M_342
      · repeat (first | assumption | exact on_up_eq _ _ _ | refine (on_up_ne (by omega)).trans ?_)
      · rfl
      first | refine on_aload_n (pc' := 34) rfl rfl rfl rfl ?_ | refine on_aload_nQ (pc' := 34) rfl rfl rfl rfl ?_
      first | apply on_get (pc' := 37) rfl rfl fl_M_345 | apply on_getN (pc' := 37) rfl rfl fl_M_345
      · repeat (first | assumption | exact on_up_eq _ _ _ | refine (on_up_ne (by omega)).trans ?_)
      · rfl
      refine on_iconst (pc' := 38) (v := 4) rfl rfl li_4 ?_
      first | refine on_aload_n (pc' := 39) rfl rfl rfl rfl ?_ | refine on_aload_nQ (pc' := 39) rfl rfl rfl rfl ?_
      first | apply on_get (pc' := 42) rfl rfl fl_M_73 | apply on_getN (pc' := 42) rfl rfl fl_M_73
      · repeat (first | assumption | exact on_up_eq _ _ _ | refine (on_up_ne (by omega)).trans ?_)
      · rfl
      refine on_iconst (pc' := 43) (v := 0) rfl rfl li_0 ?_
      refine on_callV (pc' := 46) (As := [.int (nI self), .int (nI q.1), .int (nI q.2), .int (nI 4), .ref (o + 24), .int (nI 0)]) (rest := []) (b := o) rfl rfl cw_M_destroyEntry_348 (o2) rfl rfl (Nat.le_of_ble_eq_true rfl) (Nat.zero_le _) (Nat.zero_le _) (c_M_lay (x := fun _ => 0) (n := 0) o2 L2 (by omega) q10 (by decide) (ce.keep (t2 _ (by omega) (by omega))) (by omega) (by omega) ⟨Nat.zero_le _, by decide⟩ (Nat.zero_le _) (fun f _ i hi => absurd hi (Nat.not_lt_zero i))) ?_
      rintro v h3 z ⟨rfl, rfl, L3, t3⟩
      exact fin _ h3 _ rfl rfl rfl (by unfold e_ds; rw [w]; rfl) L3 (fun b c1 c2 => (t3 b c1 c2).trans (t2 b c1 c2))
end MDE
