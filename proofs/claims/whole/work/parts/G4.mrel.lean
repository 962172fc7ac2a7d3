/-! the reference's relays: entries in the order of their row -/
def mr_O (R : Nat) (r : aR) (n : Nat) (h : on_H) : Prop := h R = some (.inr (15, [.long r.se, .int r.dr, .ref (R + 1), .ref (R + 2), .ref (R + 3), .int (nI r.we), .int (nI r.nx), .ref (R + 4), .int (nI n), .ref (R + 5), .int (nI r.ke.length)]))
/-- entry k of the row lies at es k and is the entry of place ord k -/
def mr_E (R : Nat) (en : Nat → Option aE) (n : Nat) (ord es : Nat → Nat) (h : on_H) : Prop := h (R + 4) = some (on_aq 11 12 (fun k => some (es k))) ∧ (∀ k, k < n → ∃ e, en (ord k) = some e ∧ me_S (es k) e h) ∧ (∀ k, n ≤ k → k < 12 → me_W (es k) h)
def mr_I (R : Nat) (en : Nat → Option aE) (n : Nat) (ord es : Nat → Nat) : Prop := n ≤ 12 ∧ (∀ k, k < 12 → ∃ i, i < 12 ∧ es k = R + 6 + 14 * i) ∧ (∀ j k, j < 12 → k < 12 → es j = es k → j = k) ∧ (∀ j k, j < n → k < n → ord j = ord k → j = k) ∧ (∀ s e, en s = some e → ∃ k, k < n ∧ ord k = s) ∧ (∀ k, k < n → ord k < 12)
def mr_S (R : Nat) (r : aR) (n : Nat) (ord es : Nat → Nat) (h : on_H) : Prop := mr_O R r n h ∧ rB h (R + 1) 32 (rs_s r.se) ∧ rB h (R + 2) 32 (fun i => rs_i r.se (4 + i)) ∧ (∃ F, h (R + 3) = some (on_ai 0 32 F) ∧ on_by F (rs_i r.se) 4) ∧ mr_E R r.en n ord es h ∧ kp_S (R + 5) r.ke h
/-- the blocks of two entries lie apart -/
theorem mr_I.apart {R : Nat} {en : Nat → Option aE} {n : Nat} {ord es : Nat → Nat} (I : mr_I R en n ord es) {j k : Nat} (hj : j < 12) (hk : k < 12) (ne : j ≠ k) : es j + 14 ≤ es k ∨ es k + 14 ≤ es j := by
  obtain ⟨a, ha, ea⟩ := I.2.1 j hj
  obtain ⟨b, hb, eb⟩ := I.2.1 k hk
  have : a ≠ b := fun z => ne (I.2.2.1 j k hj hk (by rw [ea, eb, z]))
  omega
theorem mr_I.at {R : Nat} {en : Nat → Option aE} {n : Nat} {ord es : Nat → Nat} (I : mr_I R en n ord es) {k : Nat} (hk : k < 12) : R + 6 ≤ es k ∧ es k + 14 ≤ R + 174 := by
  obtain ⟨a, ha, ea⟩ := I.2.1 k hk
  omega
theorem mr_E.keep {R : Nat} {en : Nat → Option aE} {n : Nat} {ord es : Nat → Nat} {h h2 : on_H} (I : mr_I R en n ord es) (K : mr_E R en n ord es h) (e : ∀ a, R ≤ a → a < R + 174 → h2 a = h a) : mr_E R en n ord es h2 := by
  obtain ⟨k1, k2, k3⟩ := K
  refine ⟨(e _ (by omega) (by omega)).trans k1, fun k hk => ?_, fun k hk hk2 => ?_⟩
  · obtain ⟨x, x1, x2⟩ := k2 k hk
    have := I.at (show k < 12 by have := I.1; omega)
    exact ⟨x, x1, x2.keep (fun a a1 a2 => e a (by omega) (by omega))⟩
  · have := I.at hk2
    exact (k3 k hk hk2).keep (fun a a1 a2 => e a (by omega) (by omega))
theorem mr_S.keep {R : Nat} {r : aR} {n : Nat} {ord es : Nat → Nat} {h h2 : on_H} (I : mr_I R r.en n ord es) (K : mr_S R r n ord es h) (e : ∀ a, R ≤ a → a < R + 174 → h2 a = h a) : mr_S R r n ord es h2 := by
  obtain ⟨k1, k2, k3, ⟨F, k4, k4'⟩, k5, k6⟩ := K
  exact ⟨(e _ (by omega) (by omega)).trans k1, k2.keep (e _ (by omega) (by omega)), k3.keep (e _ (by omega) (by omega)), ⟨F, (e _ (by omega) (by omega)).trans k4, k4'⟩, k5.keep I e, k6.keep (e _ (by omega) (by omega))⟩
/-- found in the row, found by place -/
theorem ord_none {R : Nat} {en : Nat → Option aE} {n : Nat} {ord es : Nat → Nat} {p : Nat → Bool} (I : mr_I R en n ord es) (hp : ∀ s, p s = true → ∃ e, en s = some e) (h : (List.range n).find? (fun k => p (ord k)) = none) : (List.range 12).find? p = none := by
  refine rf_none (fun s hs => ?_)
  cases z : p s with
  | false => rfl
  | true =>
    obtain ⟨e, he⟩ := hp s z
    obtain ⟨k, hk, ek⟩ := I.2.2.2.2.1 s e he
    have := List.find?_eq_none.mp h k (List.mem_range.mpr hk)
    rw [ek] at this
    exact absurd z this
theorem ord_some {R : Nat} {en : Nat → Option aE} {n : Nat} {ord es : Nat → Nat} {p : Nat → Bool} {k : Nat} (I : mr_I R en n ord es) (hu : ∀ s t, p s = true → p t = true → s = t) (h : (List.range n).find? (fun k => p (ord k)) = some k) : k < n ∧ (List.range 12).find? p = some (ord k) := by
  have hk : k < n := List.mem_range.mp (List.mem_of_find?_eq_some h)
  have hp0 := List.find?_some h
  have hp : p (ord k) = true := hp0
  refine ⟨hk, rf_some (I.2.2.2.2.2 k hk) hp (fun j hj => ?_)⟩
  cases z : p j with
  | false => rfl
  | true => exact absurd (hu j _ z hp) (by omega)
theorem p_fr_some {en : Nat → Option aE} {fr s : Nat} {num : Int32} (h : p_fr en fr num s = true) : ∃ e, en s = some e ∧ e.fr = fr ∧ e.fn = num := by
  unfold p_fr at h
  cases z : en s with
  | none => rw [z] at h; exact nomatch h
  | some e =>
    rw [z] at h
    have := Bool.and_eq_true_iff.mp h
    exact ⟨e, rfl, of_decide_eq_true this.1, of_decide_eq_true this.2⟩
theorem p_to_some {en : Nat → Option aE} {fr s : Nat} {num : Int32} (h : p_to en fr num s = true) : ∃ e q, en s = some e ∧ e.on = some q ∧ q.1 = fr ∧ nI q.2 = num := by
  unfold p_to at h
  cases z : en s with
  | none => rw [z] at h; exact nomatch h
  | some e =>
    rw [z] at h
    dsimp only at h
    cases w : e.on with
    | none => rw [w] at h; exact nomatch h
    | some q =>
      rw [w] at h
      have := Bool.and_eq_true_iff.mp h
      exact ⟨e, q, rfl, w, of_decide_eq_true this.1, of_decide_eq_true this.2⟩
theorem r_ok.ufr {nr nk self B : Nat} {r : aR} {fr : Nat} {num : Int32} (K : r_ok nr nk self B r) : ∀ s t, p_fr r.en fr num s = true → p_fr r.en fr num t = true → s = t := fun s t h1 h2 => by
  obtain ⟨e, e1, e2, e3⟩ := p_fr_some h1
  obtain ⟨f, f1, f2, f3⟩ := p_fr_some h2
  exact K.2.2.2.1 s t e f e1 f1 (e2.trans f2.symm) (e3.trans f3.symm)
theorem r_ok.uto {nr nk self B : Nat} {r : aR} {fr : Nat} {num : Int32} (hB : B < 2 ^ 30) (K : r_ok nr nk self B r) : ∀ s t, p_to r.en fr num s = true → p_to r.en fr num t = true → s = t := fun s t h1 h2 => by
  obtain ⟨e, q, e1, e2, e3, e4⟩ := p_to_some h1
  obtain ⟨f, p, f1, f2, f3, f4⟩ := p_to_some h2
  have b1 := ((K.2.2.1 s e e1).2.1 q e2).2.2
  have b2 := ((K.2.2.1 t f f1).2.1 p f2).2.2
  have b3 := K.2.1
  exact K.2.2.2.2.1 s t e f q p e1 f1 e2 f2 ((nI_eq (by omega) (by omega)).mp (e4.trans f4.symm))
section MRF
variable {G : on_G} {o R fr sz bc bs : Nat} {num : Int32} {r : aR} {n : Nat} {ord es : Nat → Nat} {h : on_H} {Q : Option Value → on_H → Nat → Prop}
set_option maxHeartbeats 8000000 in
theorem mcf_l (I : mr_I R r.en n ord es) (K : mr_S R r n ord es h) (hfr : fr < 10) (hen : ∀ s e, r.en s = some e → e.fr < 10)
    (kn : (List.range n).find? (fun k => p_fr r.en fr num (ord k)) = none → ∀ lv, on_E G M_M_cameFrom 54 lv [] h sz bc bs Q) (ks : ∀ k, k < n → (List.range n).find? (fun k => p_fr r.en fr num (ord k)) = some k → on_E G M_M_cameFrom 40 (on_l [(1, .ref R), (4, .int (nI k))]) [] h sz bc bs Q) :
    ∀ (m k : Nat), k + m = n → (∀ j, j < k → p_fr r.en fr num (ord j) = false) → on_E G M_M_cameFrom 3 (on_l [(1, .ref R), (2, .int (nI fr)), (3, .int num), (4, .int (nI k))]) [] h sz bc bs Q := by
  have o1 : h R = some (.inr (15, [.long r.se, .int r.dr, .ref (R + 1), .ref (R + 2), .ref (R + 3), .int (nI r.we), .int (nI r.nx), .ref (R + 4), .int (nI n), .ref (R + 5), .int (nI r.ke.length)])) := K.1
  have f1 := K.2.2.2.2.1.1
  have l12 := I.1
  intro m
  induction m with
  | zero =>
    intro k hk hj
    have ek : k = n := by omega
    subst ek
    refine on_iload (pc' := 5) rfl rfl rfl ?_
    first | refine on_aload_n (pc' := 6) rfl rfl rfl rfl ?_ | refine on_aload_nQ (pc' := 6) rfl rfl rfl rfl ?_
    first | apply on_get (pc' := 9) rfl rfl fl_M_333 | apply on_getN (pc' := 9) rfl rfl fl_M_333
    · repeat (first | assumption | exact on_up_eq _ _ _ | refine (on_up_ne (by omega)).trans ?_)
    · rfl
    refine on_icmp_ge (pc' := 12) (tgt := 54) rfl rfl rfl (fun cq => ?_) (fun cq => ?_)
    · exact kn (rf_none hj) _
    · exact absurd (nI_le (a := k) (Nat.le_refl _) (by omega)) cq
  | succ m ih =>
    intro k hk hj
    obtain ⟨e, e1, e2⟩ := K.2.2.2.2.1.2.1 k (by omega)
    obtain ⟨tn, S, V, W, C, ⟨b1, -⟩, -⟩ := id e2
    have i12 : k < 12 ∧ 12 < 2 ^ 31 := by omega
    have fr10 := hen _ _ e1
    have next : p_fr r.en fr num (ord k) = false → ∀ lv, lv 1 = some (.ref R) → lv 2 = some (.int (nI fr)) → lv 3 = some (.int num) → lv 4 = some (.int (nI k)) → on_E G M_M_cameFrom 48 lv [] h sz bc bs Q := fun hn lv l1 l2 l3 l4 => by
      refine on_relv (l := [(1, .ref R), (2, .int (nI fr)), (3, .int num), (4, .int (nI k))]) ⟨l1, l2, l3, l4, trivial⟩ ?_
      refine on_iinc1 (pc' := 51) rfl rfl rfl ?_
      refine on_goto (tgt := 3) rfl rfl ?_
      refine on_relv (l := [(1, .ref R), (2, .int (nI fr)), (3, .int num), (4, .int (nI (k + 1)))]) ⟨rfl, rfl, rfl, congrArg some (congrArg Value.int (nI_1 k)), trivial⟩ (ih (k + 1) (by omega) (fun j hj2 => ?_))
      by_cases z : j = k
      · rw [z]; exact hn
      · exact hj j (by omega)
    have pe : p_fr r.en fr num (ord k) = (decide (e.fr = fr) && decide (e.fn = num)) := by
      unfold p_fr
      rw [e1]
    refine on_iload (pc' := 5) rfl rfl rfl ?_
    first | refine on_aload_n (pc' := 6) rfl rfl rfl rfl ?_ | refine on_aload_nQ (pc' := 6) rfl rfl rfl rfl ?_
    first | apply on_get (pc' := 9) rfl rfl fl_M_333 | apply on_getN (pc' := 9) rfl rfl fl_M_333
    · repeat (first | assumption | exact on_up_eq _ _ _ | refine (on_up_ne (by omega)).trans ?_)
    · rfl
    refine on_icmp_ge (pc' := 12) (tgt := 54) rfl rfl rfl (fun cq => ?_) (fun cq => ?_)
    · exact absurd cq (nI_ge (b := n) (by omega) (by omega))
    · clear cq
      first | refine on_aload_n (pc' := 13) rfl rfl rfl rfl ?_ | refine on_aload_nQ (pc' := 13) rfl rfl rfl rfl ?_
      first | apply on_get (pc' := 16) rfl rfl fl_M_324 | apply on_getN (pc' := 16) rfl rfl fl_M_324
      · repeat (first | assumption | exact on_up_eq _ _ _ | refine (on_up_ne (by omega)).trans ?_)
      · rfl
      refine on_iload (pc' := 18) rfl rfl rfl ?_
      apply on_aaloadK (pc' := 19) rfl rfl
      · repeat (first | assumption | exact on_up_eq _ _ _ | refine (on_up_ne (by omega)).trans ?_)
      · rfl
      · first | assumption | exact on_lit _ | rfl
      · first | assumption | omega | decide
      show on_E G M_M_cameFrom 19 _ [.ref (es k)] h sz _ _ _
      first | apply on_get (pc' := 22) rfl rfl fl_M_336 | apply on_getN (pc' := 22) rfl rfl fl_M_336
      · repeat (first | assumption | exact on_up_eq _ _ _ | refine (on_up_ne (by omega)).trans ?_)
      · rfl
      refine on_iload_n (pc' := 23) rfl rfl rfl rfl ?_
      refine on_icmp_ne (pc' := 26) (tgt := 48) rfl rfl rfl (fun cq => ?_) (fun cq => ?_)
      · have ne : ¬ e.fr = fr := fun z => cq (by rw [z])
        exact next (by rw [pe, decide_eq_false ne]; rfl) _ rfl rfl rfl rfl
      · have q1 : e.fr = fr := (nI_eq (a := e.fr) (b := fr) (by omega) (by omega)).mp cq
        clear cq
        first | refine on_aload_n (pc' := 27) rfl rfl rfl rfl ?_ | refine on_aload_nQ (pc' := 27) rfl rfl rfl rfl ?_
        first | apply on_get (pc' := 30) rfl rfl fl_M_324 | apply on_getN (pc' := 30) rfl rfl fl_M_324
        · repeat (first | assumption | exact on_up_eq _ _ _ | refine (on_up_ne (by omega)).trans ?_)
        · rfl
        refine on_iload (pc' := 32) rfl rfl rfl ?_
        apply on_aaloadK (pc' := 33) rfl rfl
        · repeat (first | assumption | exact on_up_eq _ _ _ | refine (on_up_ne (by omega)).trans ?_)
        · rfl
        · first | assumption | exact on_lit _ | rfl
        · first | assumption | omega | decide
        show on_E G M_M_cameFrom 33 _ [.ref (es k)] h sz _ _ _
        first | apply on_get (pc' := 36) rfl rfl fl_M_339 | apply on_getN (pc' := 36) rfl rfl fl_M_339
        · repeat (first | assumption | exact on_up_eq _ _ _ | refine (on_up_ne (by omega)).trans ?_)
        · rfl
        refine on_iload_n (pc' := 37) rfl rfl rfl rfl ?_
        refine on_icmp_ne (pc' := 40) (tgt := 48) rfl rfl rfl (fun cq => ?_) (fun cq => ?_)
        · exact next (by rw [pe, decide_eq_false cq, Bool.and_false]) _ rfl rfl rfl rfl
        · exact on_relv (l := [(1, .ref R), (4, .int (nI k))]) ⟨rfl, rfl, trivial⟩ (ks k (by omega) (rf_some (by omega) (by show p_fr r.en fr num (ord k) = true; rw [pe, decide_eq_true q1, decide_eq_true cq]; rfl) hj))
theorem c_M_cameFrom (I : mr_I R r.en n ord es) (K : mr_S R r n ord es h) (hfr : fr < 10) (hen : ∀ s e, r.en s = some e → e.fr < 10) :
    on_Ct G M_M_cameFrom [.ref o, .ref R, .int (nI fr), .int num] h sz 0 0 (fun v h1 z => v = some (va_rf (((List.range n).find? (fun k => p_fr r.en fr num (ord k))).map (fun k => es k))) ∧ z = sz ∧ h1 = h) := by
  have o1 : h R = some (.inr (15, [.long r.se, .int r.dr, .ref (R + 1), .ref (R + 2), .ref (R + 3), .int (nI r.we), .int (nI r.nx), .ref (R + 4), .int (nI n), .ref (R + 5), .int (nI r.ke.length)])) := K.1
  have f1 := K.2.2.2.2.1.1
  have l12 := I.1
  refine on_Ct.of (by decide) v_M_cameFrom (Nat.le_of_ble_eq_true rfl) ?_
  refine on_iconst (pc' := 1) (v := 0) rfl rfl li_0 ?_
  refine on_istore (pc' := 3) rfl rfl (by decide) ?_
  refine on_relv (l := [(1, .ref R), (2, .int (nI fr)), (3, .int num), (4, .int (nI 0))]) ⟨rfl, rfl, rfl, rfl, trivial⟩ (mcf_l I K hfr hen (fun hn lv => ?_) (fun k hk he => ?_) n 0 (by omega) (fun j hj => absurd hj (Nat.not_lt_zero j)))
  · refine on_null (pc' := 55) rfl rfl ?_
    first | refine on_areturn (r := some _) (M := M_M_cameFrom) (pc := 55) (rt := (Jvm.ClassFile.FieldType.object "OnionNetModel$Entry")) rfl rfl (Or.inl ⟨_, rfl⟩) ?_ | refine on_areturn (r := none) (M := M_M_cameFrom) (pc := 55) (rt := (Jvm.ClassFile.FieldType.object "OnionNetModel$Entry")) rfl rfl (Or.inl ⟨_, rfl⟩) ?_ | refine on_areturn (M := M_M_cameFrom) (pc := 55) (rt := (Jvm.ClassFile.FieldType.object "OnionNetModel$Entry")) rfl rfl (Or.inl ⟨_, rfl⟩) ?_
    exact ⟨by rw [hn]; rfl, rfl, rfl⟩
  · have i12 : k < 12 ∧ 12 < 2 ^ 31 := by omega
    first | refine on_aload_n (pc' := 41) rfl rfl rfl rfl ?_ | refine on_aload_nQ (pc' := 41) rfl rfl rfl rfl ?_
    first | apply on_get (pc' := 44) rfl rfl fl_M_324 | apply on_getN (pc' := 44) rfl rfl fl_M_324
    · repeat (first | assumption | exact on_up_eq _ _ _ | refine (on_up_ne (by omega)).trans ?_)
    · rfl
    refine on_iload (pc' := 46) rfl rfl rfl ?_
    apply on_aaloadK (pc' := 47) rfl rfl
    · repeat (first | assumption | exact on_up_eq _ _ _ | refine (on_up_ne (by omega)).trans ?_)
    · rfl
    · first | assumption | exact on_lit _ | rfl
    · first | assumption | omega | decide
    first | refine on_areturn (r := some _) (M := M_M_cameFrom) (pc := 47) (rt := (Jvm.ClassFile.FieldType.object "OnionNetModel$Entry")) rfl rfl (Or.inl ⟨_, rfl⟩) ?_ | refine on_areturn (r := none) (M := M_M_cameFrom) (pc := 47) (rt := (Jvm.ClassFile.FieldType.object "OnionNetModel$Entry")) rfl rfl (Or.inl ⟨_, rfl⟩) ?_ | refine on_areturn (M := M_M_cameFrom) (pc := 47) (rt := (Jvm.ClassFile.FieldType.object "OnionNetModel$Entry")) rfl rfl (Or.inl ⟨_, rfl⟩) ?_
    exact ⟨by rw [he]; rfl, rfl, rfl⟩
set_option maxHeartbeats 8000000 in
theorem mgo_l (I : mr_I R r.en n ord es) (K : mr_S R r n ord es h) (hfr : fr < 10) (hen : ∀ s e q, r.en s = some e → e.on = some q → q.1 < 10)
    (kn : (List.range n).find? (fun k => p_to r.en fr num (ord k)) = none → ∀ lv, on_E G M_M_goesOn 54 lv [] h sz bc bs Q) (ks : ∀ k, k < n → (List.range n).find? (fun k => p_to r.en fr num (ord k)) = some k → on_E G M_M_goesOn 40 (on_l [(1, .ref R), (4, .int (nI k))]) [] h sz bc bs Q) :
    ∀ (m k : Nat), k + m = n → (∀ j, j < k → p_to r.en fr num (ord j) = false) → on_E G M_M_goesOn 3 (on_l [(1, .ref R), (2, .int (nI fr)), (3, .int num), (4, .int (nI k))]) [] h sz bc bs Q := by
  have o1 : h R = some (.inr (15, [.long r.se, .int r.dr, .ref (R + 1), .ref (R + 2), .ref (R + 3), .int (nI r.we), .int (nI r.nx), .ref (R + 4), .int (nI n), .ref (R + 5), .int (nI r.ke.length)])) := K.1
  have f1 := K.2.2.2.2.1.1
  have l12 := I.1
  intro m
  induction m with
  | zero =>
    intro k hk hj
    have ek : k = n := by omega
    subst ek
    refine on_iload (pc' := 5) rfl rfl rfl ?_
    first | refine on_aload_n (pc' := 6) rfl rfl rfl rfl ?_ | refine on_aload_nQ (pc' := 6) rfl rfl rfl rfl ?_
    first | apply on_get (pc' := 9) rfl rfl fl_M_333 | apply on_getN (pc' := 9) rfl rfl fl_M_333
    · repeat (first | assumption | exact on_up_eq _ _ _ | refine (on_up_ne (by omega)).trans ?_)
    · rfl
    refine on_icmp_ge (pc' := 12) (tgt := 54) rfl rfl rfl (fun cq => ?_) (fun cq => ?_)
    · exact kn (rf_none hj) _
    · exact absurd (nI_le (a := k) (Nat.le_refl _) (by omega)) cq
  | succ m ih =>
    intro k hk hj
    obtain ⟨e, e1, e2⟩ := K.2.2.2.2.1.2.1 k (by omega)
    obtain ⟨tn, S, V, W, C, ⟨b1, -⟩, tq, -⟩ := id e2
    have i12 : k < 12 ∧ 12 < 2 ^ 31 := by omega
    have next : p_to r.en fr num (ord k) = false → ∀ lv, lv 1 = some (.ref R) → lv 2 = some (.int (nI fr)) → lv 3 = some (.int num) → lv 4 = some (.int (nI k)) → on_E G M_M_goesOn 48 lv [] h sz bc bs Q := fun hn lv l1 l2 l3 l4 => by
      refine on_relv (l := [(1, .ref R), (2, .int (nI fr)), (3, .int num), (4, .int (nI k))]) ⟨l1, l2, l3, l4, trivial⟩ ?_
      refine on_iinc1 (pc' := 51) rfl rfl rfl ?_
      refine on_goto (tgt := 3) rfl rfl ?_
      refine on_relv (l := [(1, .ref R), (2, .int (nI fr)), (3, .int num), (4, .int (nI (k + 1)))]) ⟨rfl, rfl, rfl, congrArg some (congrArg Value.int (nI_1 k)), trivial⟩ (ih (k + 1) (by omega) (fun j hj2 => ?_))
      by_cases z : j = k
      · rw [z]; exact hn
      · exact hj j (by omega)
    have pe : p_to r.en fr num (ord k) = (match e.on with | some q => decide (q.1 = fr) && decide (nI q.2 = num) | none => false) := by
      unfold p_to
      rw [e1]
      rfl
    refine on_iload (pc' := 5) rfl rfl rfl ?_
    first | refine on_aload_n (pc' := 6) rfl rfl rfl rfl ?_ | refine on_aload_nQ (pc' := 6) rfl rfl rfl rfl ?_
    first | apply on_get (pc' := 9) rfl rfl fl_M_333 | apply on_getN (pc' := 9) rfl rfl fl_M_333
    · repeat (first | assumption | exact on_up_eq _ _ _ | refine (on_up_ne (by omega)).trans ?_)
    · rfl
    refine on_icmp_ge (pc' := 12) (tgt := 54) rfl rfl rfl (fun cq => ?_) (fun cq => ?_)
    · exact absurd cq (nI_ge (b := n) (by omega) (by omega))
    · clear cq
      first | refine on_aload_n (pc' := 13) rfl rfl rfl rfl ?_ | refine on_aload_nQ (pc' := 13) rfl rfl rfl rfl ?_
      first | apply on_get (pc' := 16) rfl rfl fl_M_324 | apply on_getN (pc' := 16) rfl rfl fl_M_324
      · repeat (first | assumption | exact on_up_eq _ _ _ | refine (on_up_ne (by omega)).trans ?_)
      · rfl
      refine on_iload (pc' := 18) rfl rfl rfl ?_
      apply on_aaloadK (pc' := 19) rfl rfl
      · repeat (first | assumption | exact on_up_eq _ _ _ | refine (on_up_ne (by omega)).trans ?_)
      · rfl
      · first | assumption | exact on_lit _ | rfl
      · first | assumption | omega | decide
      show on_E G M_M_goesOn 19 _ [.ref (es k)] h sz _ _ _
      first | apply on_get (pc' := 22) rfl rfl fl_M_342 | apply on_getN (pc' := 22) rfl rfl fl_M_342
      · repeat (first | assumption | exact on_up_eq _ _ _ | refine (on_up_ne (by omega)).trans ?_)
      · rfl
      refine on_iload_n (pc' := 23) rfl rfl rfl rfl ?_
      refine on_icmp_ne (pc' := 26) (tgt := 48) rfl rfl rfl (fun cq => ?_) (fun cq => ?_)
      · refine next ?_ _ rfl rfl rfl rfl
        rw [pe]
        cases w : e.on with
        | none => rfl
        | some q =>
          rw [w] at cq
          have ne : ¬ q.1 = fr := fun z => cq (by show nI q.1 = nI fr; rw [z])
          show (decide (q.1 = fr) && decide (nI q.2 = num)) = false
          rw [decide_eq_false ne]
          rfl
      · cases w : e.on with
        | none =>
          rw [w] at cq
          exact absurd cq ((by decide : ∀ f, f < 10 → ¬ (-1 : Int32) = nI f) fr hfr)
        | some q =>
          rw [w] at cq pe
          have q1 : q.1 = fr := (nI_eq (a := q.1) (b := fr) (by have := hen _ _ q e1 w; omega) (by omega)).mp cq
          clear cq
          have et := tq q w
          first | refine on_aload_n (pc' := 27) rfl rfl rfl rfl ?_ | refine on_aload_nQ (pc' := 27) rfl rfl rfl rfl ?_
          first | apply on_get (pc' := 30) rfl rfl fl_M_324 | apply on_getN (pc' := 30) rfl rfl fl_M_324
          · repeat (first | assumption | exact on_up_eq _ _ _ | refine (on_up_ne (by omega)).trans ?_)
          · rfl
          refine on_iload (pc' := 32) rfl rfl rfl ?_
          apply on_aaloadK (pc' := 33) rfl rfl
          · repeat (first | assumption | exact on_up_eq _ _ _ | refine (on_up_ne (by omega)).trans ?_)
          · rfl
          · first | assumption | exact on_lit _ | rfl
          · first | assumption | omega | decide
          show on_E G M_M_goesOn 33 _ [.ref (es k)] h sz _ _ _
          first | apply on_get (pc' := 36) rfl rfl fl_M_345 | apply on_getN (pc' := 36) rfl rfl fl_M_345
          · repeat (first | assumption | exact on_up_eq _ _ _ | refine (on_up_ne (by omega)).trans ?_)
          · rfl
          rw [et]
          refine on_iload_n (pc' := 37) rfl rfl rfl rfl ?_
          refine on_icmp_ne (pc' := 40) (tgt := 48) rfl rfl rfl (fun cq => ?_) (fun cq => ?_)
          · refine next ?_ _ rfl rfl rfl rfl
            rw [pe]
            show (decide (q.1 = fr) && decide (nI q.2 = num)) = false
            rw [decide_eq_false cq, Bool.and_false]
          · refine on_relv (l := [(1, .ref R), (4, .int (nI k))]) ⟨rfl, rfl, trivial⟩ (ks k (by omega) (rf_some (by omega) ?_ hj))
            show p_to r.en fr num (ord k) = true
            rw [pe]
            show (decide (q.1 = fr) && decide (nI q.2 = num)) = true
            rw [decide_eq_true q1, decide_eq_true cq]
            rfl
theorem c_M_goesOn (I : mr_I R r.en n ord es) (K : mr_S R r n ord es h) (hfr : fr < 10) (hen : ∀ s e q, r.en s = some e → e.on = some q → q.1 < 10) :
    on_Ct G M_M_goesOn [.ref o, .ref R, .int (nI fr), .int num] h sz 0 0 (fun v h1 z => v = some (va_rf (((List.range n).find? (fun k => p_to r.en fr num (ord k))).map (fun k => es k))) ∧ z = sz ∧ h1 = h) := by
  have o1 : h R = some (.inr (15, [.long r.se, .int r.dr, .ref (R + 1), .ref (R + 2), .ref (R + 3), .int (nI r.we), .int (nI r.nx), .ref (R + 4), .int (nI n), .ref (R + 5), .int (nI r.ke.length)])) := K.1
  have f1 := K.2.2.2.2.1.1
  have l12 := I.1
  refine on_Ct.of (by decide) v_M_goesOn (Nat.le_of_ble_eq_true rfl) ?_
  refine on_iconst (pc' := 1) (v := 0) rfl rfl li_0 ?_
  refine on_istore (pc' := 3) rfl rfl (by decide) ?_
  refine on_relv (l := [(1, .ref R), (2, .int (nI fr)), (3, .int num), (4, .int (nI 0))]) ⟨rfl, rfl, rfl, rfl, trivial⟩ (mgo_l I K hfr hen (fun hn lv => ?_) (fun k hk he => ?_) n 0 (by omega) (fun j hj => absurd hj (Nat.not_lt_zero j)))
  · refine on_null (pc' := 55) rfl rfl ?_
    first | refine on_areturn (r := some _) (M := M_M_goesOn) (pc := 55) (rt := (Jvm.ClassFile.FieldType.object "OnionNetModel$Entry")) rfl rfl (Or.inl ⟨_, rfl⟩) ?_ | refine on_areturn (r := none) (M := M_M_goesOn) (pc := 55) (rt := (Jvm.ClassFile.FieldType.object "OnionNetModel$Entry")) rfl rfl (Or.inl ⟨_, rfl⟩) ?_ | refine on_areturn (M := M_M_goesOn) (pc := 55) (rt := (Jvm.ClassFile.FieldType.object "OnionNetModel$Entry")) rfl rfl (Or.inl ⟨_, rfl⟩) ?_
    exact ⟨by rw [hn]; rfl, rfl, rfl⟩
  · have i12 : k < 12 ∧ 12 < 2 ^ 31 := by omega
    first | refine on_aload_n (pc' := 41) rfl rfl rfl rfl ?_ | refine on_aload_nQ (pc' := 41) rfl rfl rfl rfl ?_
    first | apply on_get (pc' := 44) rfl rfl fl_M_324 | apply on_getN (pc' := 44) rfl rfl fl_M_324
    · repeat (first | assumption | exact on_up_eq _ _ _ | refine (on_up_ne (by omega)).trans ?_)
    · rfl
    refine on_iload (pc' := 46) rfl rfl rfl ?_
    apply on_aaloadK (pc' := 47) rfl rfl
    · repeat (first | assumption | exact on_up_eq _ _ _ | refine (on_up_ne (by omega)).trans ?_)
    · rfl
    · first | assumption | exact on_lit _ | rfl
    · first | assumption | omega | decide
    first | refine on_areturn (r := some _) (M := M_M_goesOn) (pc := 47) (rt := (Jvm.ClassFile.FieldType.object "OnionNetModel$Entry")) rfl rfl (Or.inl ⟨_, rfl⟩) ?_ | refine on_areturn (r := none) (M := M_M_goesOn) (pc := 47) (rt := (Jvm.ClassFile.FieldType.object "OnionNetModel$Entry")) rfl rfl (Or.inl ⟨_, rfl⟩) ?_ | refine on_areturn (M := M_M_goesOn) (pc := 47) (rt := (Jvm.ClassFile.FieldType.object "OnionNetModel$Entry")) rfl rfl (Or.inl ⟨_, rfl⟩) ?_
    exact ⟨by rw [he]; rfl, rfl, rfl⟩
end MRF
