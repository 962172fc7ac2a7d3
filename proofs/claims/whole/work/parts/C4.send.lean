/-! OnionNet: sendAll -/
/-- the links: which there are, where they lie, what they hold -/
def lks_S (ex : Nat → Bool) (A : Nat → Nat) (lk : Nat → List aB) (h : on_H) : Prop := ∀ j, j < 100 → ex j = true → lk_S (A j) (lk j) h
def lks_F (ex : Nat → Bool) (A : Nat → Nat) (F : Nat → Option Nat) : Prop := ∀ j, j < 100 → F j = if ex j = true then some (A j) else none
def lks_D (lo : Nat) (ex : Nat → Bool) (A : Nat → Nat) : Prop := ∀ i, i < 100 → ex i = true → lo ≤ A i ∧ ∀ j, j < 100 → ex j = true → i ≠ j → A i + 2 ≤ A j ∨ A j + 2 ≤ A i
theorem lks_S.add {lo i : Nat} {ex : Nat → Bool} {A : Nat → Nat} {lk : Nat → List aB} {l : List aB} {h h2 : on_H} (K : lks_S ex A lk h) (D : lks_D lo ex A) (hi : i < 100) (he : ex i = true) (k : lk_S (A i) l h2) (e : ∀ b, b ≠ A i → b ≠ A i + 1 → h2 b = h b) : lks_S ex A (fu lk i l) h2 := fun j hj ej => by
  by_cases z : j = i
  · subst z
    rw [fu_s]
    exact k
  · rw [fu_n z]
    have := (D i hi he).2 j hj ej (fun w => z w.symm)
    exact (K j hj ej).keep (e _ (by omega) (by omega)) (e _ (by omega) (by omega))
theorem n_sd_snoc (fr : Nat) : ∀ (L : aO) (lk : Nat → List aB) (q : Nat × aB), n_sd fr lk (L ++ [q]) = fu (n_sd fr lk L) (10 * fr + q.1) (l_ad (n_sd fr lk L (10 * fr + q.1)) q.2)
  | [], _, _ => rfl
  | _ :: L, lk, q => n_sd_snoc fr L _ q
/-- only the first 140 bytes of a cell count -/
theorem lk_S.to {o : Nat} {l : List aB} {x y : aB} {h : on_H} (k : lk_S o (l_ad l x) h) (e : ∀ j, j < 140 → x j = y j) : lk_S o (l_ad l y) h := by
  unfold l_ad at k ⊢
  by_cases z : l.length < 8
  · rw [if_pos z] at k ⊢
    obtain ⟨f, X, k1, k2, k3, k4, k5⟩ := k
    rw [List.length_append] at k1 k4
    refine ⟨f, X, by rw [List.length_append]; exact k1, k2, k3, by rw [List.length_append]; exact k4, fun i hi j hj => ?_⟩
    rw [List.length_append] at hi
    have := k5 i (by rw [List.length_append]; exact hi) j hj
    rw [getD_snoc] at this ⊢
    have hi : i < l.length + 1 := hi
    by_cases w : i < l.length
    · rw [if_pos w] at this ⊢
      exact this
    · rw [if_neg w, if_pos (by omega)] at this ⊢
      rw [← e j hj]
      exact this
  · rw [if_neg z] at k ⊢
    exact k
section SND
variable {G : on_G} {o fr sz bc bs : Nat} {rc cc kc : Int32} {F : Nat → Option Nat} {ex : Nat → Bool} {A : Nat → Nat} {lk : Nat → List aB} {L : aO} {h : on_H} {Q : Option Value → on_H → Nat → Prop} {c : Nat → aB} {to : Nat → Nat} {pl : Nat → Bool}
set_option maxHeartbeats 8000000 in
theorem snd_l (hO : n_O o rc cc kc h) (hfr : fr < 10) (hR : h (o + 4) = some (on_aq 10 100 F)) (hF : lks_F ex A F) (D : lks_D (o + 44) ex A) (hn : L.length ≤ 4) (O : ob_S (o + 34) L.length c to pl h) (O' : ∀ i, i < L.length → to i = (L.getD i o0).1 ∧ ∀ j, j < 140 → c i j = (L.getD i o0).2 j) (hto : ∀ i, i < L.length → (L.getD i o0).1 < 10)
    (hex : ∀ i, i < L.length → ex (10 * fr + (L.getD i o0).1) = true)
    (kk : ∀ h2, lks_S ex A (n_sd fr lk L) h2 → (∀ b, b < o + 44 → h2 b = h b) → (∀ b, (∀ j, j < 100 → ex j = true → b ≠ A j ∧ b ≠ A j + 1) → h2 b = h b) → on_E G M_N_sendAll 51 (on_l [(0, .ref o)]) [] h2 sz bc bs Q) :
    ∀ (m i : Nat) (h1 : on_H), i + m = L.length → lks_S ex A (n_sd fr lk (L.take i)) h1 → (∀ b, b < o + 44 → h1 b = h b) → (∀ b, (∀ j, j < 100 → ex j = true → b ≠ A j ∧ b ≠ A j + 1) → h1 b = h b) → on_E G M_N_sendAll 2 (on_l [(0, .ref o), (1, .int (nI fr)), (2, .int (nI i))]) [] h1 sz bc bs Q := by
  intro m
  induction m with
  | zero =>
    intro i h1 hi K1 t1 t2
    obtain rfl : i = L.length := by omega
    have o1 : h1 o = some (.inr (11, [.ref (o + 1), .ref (o + 2), .ref (o + 3), .ref (o + 4), .ref (o + 5), .ref (o + 34), .ref (o + 42), .ref (o + 43), .int rc, .int cc, .int kc])) := (t1 o (by omega)).trans hO
    have u1 := (t1 (o + 34) (by omega)).trans O.1
    rw [List.take_length] at K1
    refine on_iload_n (pc' := 3) rfl rfl rfl rfl ?_
    first | refine on_aload_n (pc' := 4) rfl rfl rfl rfl ?_ | refine on_aload_nQ (pc' := 4) rfl rfl rfl rfl ?_
    first | apply on_get (pc' := 7) rfl rfl fl_N_43 | apply on_getN (pc' := 7) rfl rfl fl_N_43
    · repeat (first | assumption | exact on_up_eq _ _ _ | refine (on_up_ne (by omega)).trans ?_)
    · rfl
    first | apply on_get (pc' := 10) rfl rfl fl_N_236 | apply on_getN (pc' := 10) rfl rfl fl_N_236
    · repeat (first | assumption | exact on_up_eq _ _ _ | refine (on_up_ne (by omega)).trans ?_)
    · rfl
    refine on_icmp_ge (pc' := 13) (tgt := 51) rfl rfl rfl (fun cq => ?_) (fun cq => ?_)
    · exact on_relv (l := [(0, .ref o)]) ⟨rfl, trivial⟩ (kk h1 K1 t1 t2)
    · exact absurd (nI_le (a := L.length) (Nat.le_refl _) (by omega)) cq
  | succ m ih =>
    intro i h1 hi K1 t1 t2
    have iL : i < L.length := by omega
    have o1 : h1 o = some (.inr (11, [.ref (o + 1), .ref (o + 2), .ref (o + 3), .ref (o + 4), .ref (o + 5), .ref (o + 34), .ref (o + 42), .ref (o + 43), .int rc, .int cc, .int kc])) := (t1 o (by omega)).trans hO
    have O1 := O.keep (h2 := h1) (fun b b1 b2 => t1 b (by omega))
    obtain ⟨u1, u2, u3, ⟨T, u4, u4'⟩, -⟩ := id O1
    have i4 : i < 4 ∧ 4 < 2 ^ 31 := by omega
    have eT := (u4' i iL).trans (congrArg nI (O' i iL).1)
    have d10 := hto i iL
    have hi100 : 10 * fr + (L.getD i o0).1 < 100 := by omega
    have he := hex i iL
    refine on_iload_n (pc' := 3) rfl rfl rfl rfl ?_
    first | refine on_aload_n (pc' := 4) rfl rfl rfl rfl ?_ | refine on_aload_nQ (pc' := 4) rfl rfl rfl rfl ?_
    first | apply on_get (pc' := 7) rfl rfl fl_N_43 | apply on_getN (pc' := 7) rfl rfl fl_N_43
    · repeat (first | assumption | exact on_up_eq _ _ _ | refine (on_up_ne (by omega)).trans ?_)
    · rfl
    first | apply on_get (pc' := 10) rfl rfl fl_N_236 | apply on_getN (pc' := 10) rfl rfl fl_N_236
    · repeat (first | assumption | exact on_up_eq _ _ _ | refine (on_up_ne (by omega)).trans ?_)
    · rfl
    refine on_icmp_ge (pc' := 13) (tgt := 51) rfl rfl rfl (fun cq => ?_) (fun cq => ?_)
    · exact absurd cq (nI_ge (b := L.length) iL (by omega))
    · clear cq
      first | refine on_aload_n (pc' := 14) rfl rfl rfl rfl ?_ | refine on_aload_nQ (pc' := 14) rfl rfl rfl rfl ?_
      refine on_iload_n (pc' := 15) rfl rfl rfl rfl ?_
      first | refine on_aload_n (pc' := 16) rfl rfl rfl rfl ?_ | refine on_aload_nQ (pc' := 16) rfl rfl rfl rfl ?_
      first | apply on_get (pc' := 19) rfl rfl fl_N_43 | apply on_getN (pc' := 19) rfl rfl fl_N_43
      · repeat (first | assumption | exact on_up_eq _ _ _ | refine (on_up_ne (by omega)).trans ?_)
      · rfl
      first | apply on_get (pc' := 22) rfl rfl fl_N_237 | apply on_getN (pc' := 22) rfl rfl fl_N_237
      · repeat (first | assumption | exact on_up_eq _ _ _ | refine (on_up_ne (by omega)).trans ?_)
      · rfl
      refine on_iload_n (pc' := 23) rfl rfl rfl rfl ?_
      apply on_ialoadK (pc' := 24) (t := 0) rfl rfl
      · repeat (first | assumption | exact on_up_eq _ _ _ | refine (on_up_ne (by omega)).trans ?_)
      · rfl
      · first | assumption | exact on_lit _ | rfl
      · first | assumption | omega | decide
      rw [eT]
      refine on_callV (pc' := 27) (As := [.int (nI fr), .int (nI (L.getD i o0).1)]) (rest := []) (b := o) rfl rfl cw_N_sendAll_172 (o1) rfl rfl (Nat.le_of_ble_eq_true rfl) (Nat.zero_le _) (Nat.zero_le _) (c_linkAt o1 ((t1 (o + 4) (by omega)).trans hR)) ?_
      rintro v h1 sz ⟨rfl, rfl, rfl⟩
      have eA : n_la F (nI fr) (nI (L.getD i o0).1) = some (A (10 * fr + (L.getD i o0).1)) := by
        unfold n_la
        rw [if_pos ⟨⟨nI_pos (by omega), nI_lt hfr (by decide)⟩, nI_pos (by omega), nI_lt d10 (by decide)⟩, nI_clamp (by omega), nI_clamp (by omega), hF _ hi100, if_pos he]
      rw [eA]
      show on_E G M_N_sendAll 27 _ [.ref (A (10 * fr + (L.getD i o0).1))] h1 sz _ _ _
      have lkS := K1 _ hi100 he
      have dA := (D _ hi100 he).1
      have lo := lkS
      obtain ⟨f, X, k1, -⟩ := lo
      first | refine on_astore_n (pc' := 28) rfl rfl rfl (by decide) ?_ | refine on_astore_nQ (pc' := 28) rfl rfl rfl (by decide) ?_
      first | refine on_aload_n (pc' := 29) rfl rfl rfl rfl ?_ | refine on_aload_nQ (pc' := 29) rfl rfl rfl rfl ?_
      refine on_ifnullR (pc' := 32) rfl rfl ?_
      first | refine on_aload_n (pc' := 33) rfl rfl rfl rfl ?_ | refine on_aload_nQ (pc' := 33) rfl rfl rfl rfl ?_
      first | refine on_aload_n (pc' := 34) rfl rfl rfl rfl ?_ | refine on_aload_nQ (pc' := 34) rfl rfl rfl rfl ?_
      first | apply on_get (pc' := 37) rfl rfl fl_N_43 | apply on_getN (pc' := 37) rfl rfl fl_N_43
      · repeat (first | assumption | exact on_up_eq _ _ _ | refine (on_up_ne (by omega)).trans ?_)
      · rfl
      first | apply on_get (pc' := 40) rfl rfl fl_N_240 | apply on_getN (pc' := 40) rfl rfl fl_N_240
      · repeat (first | assumption | exact on_up_eq _ _ _ | refine (on_up_ne (by omega)).trans ?_)
      · rfl
      refine on_iload_n (pc' := 41) rfl rfl rfl rfl ?_
      apply on_aaloadA (pc' := 42) (k := i) rfl rfl
      · repeat (first | assumption | exact on_up_eq _ _ _ | refine (on_up_ne (by omega)).trans ?_)
      · rfl
      · rfl
      · exact i4
      show on_E G M_N_sendAll 42 _ [.ref (o + 34 + 2 + i), .ref (A (10 * fr + (L.getD i o0).1))] _ _ _ _ _
      refine on_callV (pc' := 45) (As := [.ref (o + 34 + 2 + i)]) (rest := []) (b := A (10 * fr + (L.getD i o0).1)) rfl rfl cw_N_sendAll_244 (k1) rfl rfl (Nat.le_of_ble_eq_true rfl) (Nat.zero_le _) (Nat.zero_le _) (c_Link_add lkS (rB.ite (u3 i i4.1) iL) ⟨by omega, by omega⟩) ?_
      rintro v h2 sz ⟨rfl, rfl, k2, t3⟩
      have k3 := k2.to (O' i iL).2
      have K3 := K1.add D hi100 he k3 t3
      refine on_iinc1 (pc' := 48) rfl rfl rfl ?_
      refine on_goto (tgt := 2) rfl rfl ?_
      refine on_relv (l := [(0, .ref o), (1, .int (nI fr)), (2, .int (nI (i + 1)))]) ⟨rfl, rfl, congrArg some (congrArg Value.int (nI_1 i)), trivial⟩ (ih (i + 1) h2 (by omega) ?_ (fun b hb => (t3 b (by omega) (by omega)).trans (t1 b hb)) (fun b hb => (t3 b (hb _ hi100 he).1 (hb _ hi100 he).2).trans (t2 b hb)))
      rw [show L.take (i + 1) = L.take i ++ [L.getD i o0] by rw [List.take_succ, List.getD_eq_getElem?_getD, List.getElem?_eq_getElem iL]; rfl, n_sd_snoc]
      exact K3
/-- sendAll: what lies in the Outbox goes on the links -/
theorem c_sendAll (hO : n_O o rc cc kc h) (hfr : fr < 10) (hR : h (o + 4) = some (on_aq 10 100 F)) (hF : lks_F ex A F) (D : lks_D (o + 44) ex A) (hn : L.length ≤ 4) (O : ob_L (o + 34) L h) (hto : ∀ i, i < L.length → (L.getD i o0).1 < 10) (hex : ∀ i, i < L.length → ex (10 * fr + (L.getD i o0).1) = true) (K : lks_S ex A lk h) :
    on_Ct G M_N_sendAll [.ref o, .int (nI fr)] h sz 0 0 (fun v h1 z => v = none ∧ z = sz ∧ lks_S ex A (n_sd fr lk L) h1 ∧ ob_E (o + 34) h1 ∧ ∀ b, (b < o + 34 ∨ o + 42 ≤ b) → (∀ j, j < 100 → ex j = true → b ≠ A j ∧ b ≠ A j + 1) → h1 b = h b) := by
  obtain ⟨c, to, pl, O1, O2⟩ := O
  refine on_Ct.of (by decide) v_N_sendAll (Nat.le_of_ble_eq_true rfl) ?_
  refine on_iconst (pc' := 1) (v := 0) rfl rfl li_0 ?_
  refine on_istore_n (pc' := 2) rfl rfl rfl (by decide) ?_
  refine on_relv (l := [(0, .ref o), (1, .int (nI fr)), (2, .int (nI 0))]) ⟨rfl, rfl, rfl, trivial⟩ (snd_l (h := h) (lk := lk) hO hfr hR hF D hn O1 O2 hto hex (fun h2 K2 t2 t3 => ?_) L.length 0 h (by omega) K (fun _ _ => rfl) (fun _ _ => rfl))
  have o1 : h2 o = some (.inr (11, [.ref (o + 1), .ref (o + 2), .ref (o + 3), .ref (o + 4), .ref (o + 5), .ref (o + 34), .ref (o + 42), .ref (o + 43), .int rc, .int cc, .int kc])) := (t2 o (by omega)).trans hO
  have O3 := O1.keep (h2 := h2) (fun b b1 b2 => t2 b (by omega))
  first | refine on_aload_n (pc' := 52) rfl rfl rfl rfl ?_ | refine on_aload_nQ (pc' := 52) rfl rfl rfl rfl ?_
  first | apply on_get (pc' := 55) rfl rfl fl_N_43 | apply on_getN (pc' := 55) rfl rfl fl_N_43
  · repeat (first | assumption | exact on_up_eq _ _ _ | refine (on_up_ne (by omega)).trans ?_)
  · rfl
  refine on_callV (pc' := 58) (As := []) (rest := []) (b := o + 34) rfl rfl cw_N_sendAll_248 (O3.1) rfl rfl (Nat.le_of_ble_eq_true rfl) (Nat.zero_le _) (Nat.zero_le _) (c_empty O3 hn) ?_
  rintro v h3 sz ⟨rfl, rfl, E3, t4⟩
  refine on_vreturn rfl rfl ?_
  exact ⟨rfl, rfl, fun j hj ej => (K2 j hj ej).keep (t4 _ (by have := (D j hj ej).1; omega)) (t4 _ (by have := (D j hj ej).1; omega)), E3, fun b b1 b2 => (t4 b b1).trans (t3 b b2)⟩
end SND
