/-! a Relay destroys entries, and takes up a new one -/
section RDE
variable {G : on_G} {a ot hs u n e sz bc bs : Nat} {c : Nat → aB} {to : Nat → Nat} {pl : Nat → Bool} {h : on_H} {Q : Option Value → on_H → Nat → Prop} {sc fn on_ onn us wt kc w : Int32} {S V W C : Nat → Int32}
set_option maxHeartbeats 4000000 in
theorem c_destroyBack {fr : Nat} (K : en_B e sc (nI fr) fn on_ onn us wt S V W C h) (O : ob_S u n c to pl h) (hn : n < 4) (heu : e + 21 ≤ u ∨ u + 8 ≤ e) :
    on_Ct G M_Relay_destroyBack [.ref a, .ref e, .ref u] h sz 0 0 (fun r h1 z => r = none ∧ z = sz ∧ en_B e sc (nI fr) fn on_ onn 0 wt S V W C h1 ∧ ob_S u (n + 1) (fu c n (ce_k fn 4 (fun _ => 0) 0)) (fu to n fr) (fu pl n false) h1 ∧ ∀ x, x ≠ e → (x < u ∨ u + 8 ≤ x) → h1 x = h x) := by
  obtain ⟨k0, k1, k2, k3, k4⟩ := id K
  refine on_Ct.of (by decide) v_Relay_destroyBack (Nat.le_of_ble_eq_true rfl) ?_
  first | refine on_aload_n (pc' := 1) rfl rfl rfl rfl ?_ | refine on_aload_nQ (pc' := 1) rfl rfl rfl rfl ?_
  first | refine on_aload_n (pc' := 2) rfl rfl rfl rfl ?_ | refine on_aload_nQ (pc' := 2) rfl rfl rfl rfl ?_
  first | apply on_get (pc' := 5) rfl rfl fl_Relay_93 | apply on_getN (pc' := 5) rfl rfl fl_Relay_93
  · repeat (first | assumption | exact on_up_eq _ _ _ | refine (on_up_ne (by omega)).trans ?_)
  · rfl
  first | refine on_aload_n (pc' := 6) rfl rfl rfl rfl ?_ | refine on_aload_nQ (pc' := 6) rfl rfl rfl rfl ?_
  first | apply on_get (pc' := 9) rfl rfl fl_Relay_96 | apply on_getN (pc' := 9) rfl rfl fl_Relay_96
  · repeat (first | assumption | exact on_up_eq _ _ _ | refine (on_up_ne (by omega)).trans ?_)
  · rfl
  refine on_iconst (pc' := 10) (v := 4) rfl rfl li_4 ?_
  refine on_callV (pc' := 13) (As := [.int (nI fr), .int fn, .int (nI 4)]) (rest := []) (b := u) rfl rfl cw_Relay_destroyBack_126 O.1 rfl rfl (by decide) (Nat.zero_le _) (Nat.zero_le _) (c_addCell O hn (by decide)) ?_
  rintro r h1 sz ⟨rfl, rfl, O1, t1⟩
  have g0 := (t1 e (by omega)).trans k0
  refine on_pop (pc' := 14) rfl rfl rfl ?_
  first | refine on_aload_n (pc' := 15) rfl rfl rfl rfl ?_ | refine on_aload_nQ (pc' := 15) rfl rfl rfl rfl ?_
  refine on_iconst (pc' := 16) (v := 0) rfl rfl li_0 ?_
  first | apply on_put (pc' := 19) rfl rfl fp_Relay_55 | apply on_putN (pc' := 19) rfl rfl fp_Relay_55
  · repeat (first | assumption | exact on_up_eq _ _ _ | refine (on_up_ne (by omega)).trans ?_)
  · first | rfl | assumption
  · first | rfl | assumption
  · exact Nat.le_of_ble_eq_true rfl
  refine on_vreturn rfl rfl ?_
  exact ⟨rfl, rfl, ⟨on_up_eq _ _ _, (on_up_ne (by omega)).trans ((t1 _ (by omega)).trans k1), (on_up_ne (by omega)).trans ((t1 _ (by omega)).trans k2), (on_up_ne (by omega)).trans ((t1 _ (by omega)).trans k3), (on_up_ne (by omega)).trans ((t1 _ (by omega)).trans k4)⟩, O1.keep (fun x h1 h2 => on_up_ne (by omega)), fun x h1 h2 => (on_up_ne h1).trans (t1 x h2)⟩
/-- the cells of destroyOn -/
def do_n (q : Option (Nat × Nat)) (n : Nat) : Nat := match q with | none => n | some _ => n + 1
def do_c (q : Option (Nat × Nat)) (c : Nat → aB) (n : Nat) : Nat → aB := match q with | none => c | some p => fu c n (ce_k (nI p.2) 4 (fun _ => 0) 0)
def do_t (q : Option (Nat × Nat)) (to : Nat → Nat) (n : Nat) : Nat → Nat := match q with | none => to | some p => fu to n p.1
def do_p (q : Option (Nat × Nat)) (pl : Nat → Bool) (n : Nat) : Nat → Bool := match q with | none => pl | some _ => fu pl n false
set_option maxHeartbeats 4000000 in
theorem c_destroyOn {fr : Int32} {q : Option (Nat × Nat)} (hq : ∀ p, q = some p → p.1 < 10 ∧ onn = nI p.2) (K : en_B e sc fr fn (oI q) onn us wt S V W C h) (O : ob_S u n c to pl h) (hn : n < 4) (heu : e + 21 ≤ u ∨ u + 8 ≤ e) :
    on_Ct G M_Relay_destroyOn [.ref a, .ref e, .ref u] h sz 0 0 (fun r h1 z => r = none ∧ z = sz ∧ en_B e sc fr fn (oI q) onn 0 wt S V W C h1 ∧ ob_S u (do_n q n) (do_c q c n) (do_t q to n) (do_p q pl n) h1 ∧ ∀ x, x ≠ e → (x < u ∨ u + 8 ≤ x) → h1 x = h x) := by
  obtain ⟨k0, k1, k2, k3, k4⟩ := id K
  refine on_Ct.of (by decide) v_Relay_destroyOn (Nat.le_of_ble_eq_true rfl) ?_
  cases q with
  | none =>
    first | refine on_aload_n (pc' := 1) rfl rfl rfl rfl ?_ | refine on_aload_nQ (pc' := 1) rfl rfl rfl rfl ?_
    first | apply on_get (pc' := 4) rfl rfl fl_Relay_112 | apply on_getN (pc' := 4) rfl rfl fl_Relay_112
    · repeat (first | assumption | exact on_up_eq _ _ _ | refine (on_up_ne (by omega)).trans ?_)
    · rfl
    refine on_iconst (pc' := 5) (v := (-1)) rfl rfl li_m1 ?_
    refine on_icmp_eq (pc' := 8) (tgt := 22) rfl rfl rfl (fun cq => ?_) (fun cq => ?_)
    · first | refine on_aload_n (pc' := 23) rfl rfl rfl rfl ?_ | refine on_aload_nQ (pc' := 23) rfl rfl rfl rfl ?_
      refine on_iconst (pc' := 24) (v := 0) rfl rfl li_0 ?_
      first | apply on_put (pc' := 27) rfl rfl fp_Relay_55 | apply on_putN (pc' := 27) rfl rfl fp_Relay_55
      · repeat (first | assumption | exact on_up_eq _ _ _ | refine (on_up_ne (by omega)).trans ?_)
      · first | rfl | assumption
      · first | rfl | assumption
      · exact Nat.le_of_ble_eq_true rfl
      refine on_vreturn rfl rfl ?_
      exact ⟨rfl, rfl, ⟨on_up_eq _ _ _, (on_up_ne (by omega)).trans k1, (on_up_ne (by omega)).trans k2, (on_up_ne (by omega)).trans k3, (on_up_ne (by omega)).trans k4⟩, O.keep (fun x h1 h2 => on_up_ne (by omega)), fun x h1 h2 => on_up_ne h1⟩
    · exact absurd rfl cq
  | some p =>
    obtain ⟨hp, rfl⟩ := hq p rfl
    have ne : ¬ nI p.1 = -1 := fun z => by
      have : ∀ f, f < 10 → ¬ (nI f = (-1 : Int32)) := by decide
      exact this _ hp z
    first | refine on_aload_n (pc' := 1) rfl rfl rfl rfl ?_ | refine on_aload_nQ (pc' := 1) rfl rfl rfl rfl ?_
    first | apply on_get (pc' := 4) rfl rfl fl_Relay_112 | apply on_getN (pc' := 4) rfl rfl fl_Relay_112
    · repeat (first | assumption | exact on_up_eq _ _ _ | refine (on_up_ne (by omega)).trans ?_)
    · rfl
    refine on_iconst (pc' := 5) (v := (-1)) rfl rfl li_m1 ?_
    refine on_icmp_eq (pc' := 8) (tgt := 22) rfl rfl rfl (fun cq => ?_) (fun cq => ?_)
    · exact absurd cq ne
    · first | refine on_aload_n (pc' := 9) rfl rfl rfl rfl ?_ | refine on_aload_nQ (pc' := 9) rfl rfl rfl rfl ?_
      first | refine on_aload_n (pc' := 10) rfl rfl rfl rfl ?_ | refine on_aload_nQ (pc' := 10) rfl rfl rfl rfl ?_
      first | apply on_get (pc' := 13) rfl rfl fl_Relay_112 | apply on_getN (pc' := 13) rfl rfl fl_Relay_112
      · repeat (first | assumption | exact on_up_eq _ _ _ | refine (on_up_ne (by omega)).trans ?_)
      · rfl
      first | refine on_aload_n (pc' := 14) rfl rfl rfl rfl ?_ | refine on_aload_nQ (pc' := 14) rfl rfl rfl rfl ?_
      first | apply on_get (pc' := 17) rfl rfl fl_Relay_115 | apply on_getN (pc' := 17) rfl rfl fl_Relay_115
      · repeat (first | assumption | exact on_up_eq _ _ _ | refine (on_up_ne (by omega)).trans ?_)
      · rfl
      refine on_iconst (pc' := 18) (v := 4) rfl rfl li_4 ?_
      refine on_callV (pc' := 21) (As := [.int (nI p.1), .int (nI p.2), .int (nI 4)]) (rest := []) (b := u) rfl rfl cw_Relay_destroyOn_126 O.1 rfl rfl (by decide) (Nat.zero_le _) (Nat.zero_le _) (c_addCell O hn (by decide)) ?_
      rintro r h1 sz ⟨rfl, rfl, O1, t1⟩
      have g0 := (t1 e (by omega)).trans k0
      refine on_pop (pc' := 22) rfl rfl rfl ?_
      first | refine on_aload_n (pc' := 23) rfl rfl rfl rfl ?_ | refine on_aload_nQ (pc' := 23) rfl rfl rfl rfl ?_
      refine on_iconst (pc' := 24) (v := 0) rfl rfl li_0 ?_
      first | apply on_put (pc' := 27) rfl rfl fp_Relay_55 | apply on_putN (pc' := 27) rfl rfl fp_Relay_55
      · repeat (first | assumption | exact on_up_eq _ _ _ | refine (on_up_ne (by omega)).trans ?_)
      · first | rfl | assumption
      · first | rfl | assumption
      · exact Nat.le_of_ble_eq_true rfl
      refine on_vreturn rfl rfl ?_
      exact ⟨rfl, rfl, ⟨on_up_eq _ _ _, (on_up_ne (by omega)).trans ((t1 _ (by omega)).trans k1), (on_up_ne (by omega)).trans ((t1 _ (by omega)).trans k2), (on_up_ne (by omega)).trans ((t1 _ (by omega)).trans k3), (on_up_ne (by omega)).trans ((t1 _ (by omega)).trans k4)⟩, O1.keep (fun x h1 h2 => on_up_ne (by omega)), fun x h1 h2 => (on_up_ne h1).trans (t1 x h2)⟩
set_option maxHeartbeats 4000000 in
theorem c_destroyBoth {fr : Nat} {q : Option (Nat × Nat)} (ho : rl_O a ot hs kc w h) (hau : a + 8 ≤ u ∨ u + 8 ≤ a) (hae : a ≠ e) (hq : ∀ p, q = some p → p.1 < 10 ∧ onn = nI p.2) (K : en_B e sc (nI fr) fn (oI q) onn us wt S V W C h) (O : ob_S u n c to pl h) (hn : n < 3) (heu : e + 21 ≤ u ∨ u + 8 ≤ e) :
    on_Ct G M_Relay_destroyBoth [.ref a, .ref e, .ref u] h sz 0 0 (fun r h1 z => r = none ∧ z = sz ∧ en_B e sc (nI fr) fn (oI q) onn 0 wt S V W C h1 ∧ ob_S u (do_n q (n + 1)) (do_c q (fu c n (ce_k fn 4 (fun _ => 0) 0)) (n + 1)) (do_t q (fu to n fr) (n + 1)) (do_p q (fu pl n false) (n + 1)) h1 ∧ ∀ x, x ≠ e → (x < u ∨ u + 8 ≤ x) → h1 x = h x) := by
  have o1 : h a = some (.inr (8, [.ref (a + 1), .ref ot, .ref hs, .ref (a + 3), .ref (a + 4), .ref (a + 5), .ref (a + 6), .ref (a + 7), .int kc, .int w])) := ho
  refine on_Ct.of (by decide) v_Relay_destroyBoth (Nat.le_of_ble_eq_true rfl) ?_
  first | refine on_aload_n (pc' := 1) rfl rfl rfl rfl ?_ | refine on_aload_nQ (pc' := 1) rfl rfl rfl rfl ?_
  first | refine on_aload_n (pc' := 2) rfl rfl rfl rfl ?_ | refine on_aload_nQ (pc' := 2) rfl rfl rfl rfl ?_
  first | refine on_aload_n (pc' := 3) rfl rfl rfl rfl ?_ | refine on_aload_nQ (pc' := 3) rfl rfl rfl rfl ?_
  refine on_callV (pc' := 6) (As := [.ref e, .ref u]) (rest := []) (b := a) rfl rfl cw_Relay_destroyBoth_109 o1 rfl rfl (by decide) (Nat.zero_le _) (Nat.zero_le _) (c_destroyBack K O (by omega) heu) ?_
  rintro r h1 sz ⟨rfl, rfl, K1, O1, t1⟩
  have o2 := (t1 a hae (by omega)).trans o1
  first | refine on_aload_n (pc' := 7) rfl rfl rfl rfl ?_ | refine on_aload_nQ (pc' := 7) rfl rfl rfl rfl ?_
  first | refine on_aload_n (pc' := 8) rfl rfl rfl rfl ?_ | refine on_aload_nQ (pc' := 8) rfl rfl rfl rfl ?_
  first | refine on_aload_n (pc' := 9) rfl rfl rfl rfl ?_ | refine on_aload_nQ (pc' := 9) rfl rfl rfl rfl ?_
  refine on_callV (pc' := 12) (As := [.ref e, .ref u]) (rest := []) (b := a) rfl rfl cw_Relay_destroyBoth_105 o2 rfl rfl (by decide) (Nat.zero_le _) (Nat.zero_le _) (c_destroyOn hq K1 O1 (by omega) heu) ?_
  rintro r h2 sz ⟨rfl, rfl, K2, O2, t2⟩
  refine on_vreturn rfl rfl ?_
  exact ⟨rfl, rfl, K2, O2, fun x h1 h2 => (t2 x h1 h2).trans (t1 x h1 h2)⟩
/-- a Relay at a: its number, and what it knows -/
def rl_S (a ot hs num : Nat) (r : aR) (h : on_H) : Prop := rl_O a ot hs (nI r.ke.length) (nI r.we) h ∧ nd_S (a + 1) (nI num) r.se r.dr (nI r.nx) h ∧ rB h (a + 3) 32 (rs_s r.se) ∧ rW h (a + 4) 32 ∧ rB h (a + 5) 36 (rs_i r.se) ∧ rl_E a (hs + 4) r.en h ∧ (∃ F, h (a + 7) = some (on_ai 0 2000 F) ∧ ∀ i, i < r.ke.length → F i = nI (r.ke.getD i 0) ∧ r.ke.getD i 0 < 256) ∧ r.ke.length ≤ 2000
theorem rl_S.keep {num : Nat} {r : aR} {h2 : on_H} (k : rl_S a ot hs num r h) (q : ∀ x, a ≤ x → x < a + 260 → h2 x = h x) : rl_S a ot hs num r h2 := by
  obtain ⟨k1, k2, k3, k4, k5, k6, ⟨F, k7, k7'⟩, k8⟩ := k
  exact ⟨(q _ (by omega) (by omega)).trans k1, k2.keep (q _ (by omega) (by omega)) (q _ (by omega) (by omega)), k3.keep (q _ (by omega) (by omega)), k4.keep (q _ (by omega) (by omega)), k5.keep (q _ (by omega) (by omega)), k6.keep (fun x h1 h2 h3 => q x (by omega) (by omega)), ⟨F, (q _ (by omega) (by omega)).trans k7, k7'⟩, k8⟩
/-- one entry is changed -/
theorem rl_S.ent {num k : Nat} {r : aR} {h2 : on_H} {oe : Option aE} (K : rl_S a ot hs num r h) (hk : k < 12) (he : en_S (a + 8 + 21 * k) (hs + 4) oe h2) (q : ∀ x, a ≤ x → x < a + 260 → (x < a + 8 + 21 * k ∨ a + 8 + 21 * k + 21 ≤ x) → h2 x = h x) : rl_S a ot hs num (r_en r (fu r.en k oe)) h2 := by
  obtain ⟨k1, k2, k3, k4, k5, k6, ⟨F, k7, k7'⟩, k8⟩ := K
  refine ⟨(q _ (by omega) (by omega) (by omega)).trans k1, k2.keep (q _ (by omega) (by omega) (by omega)) (q _ (by omega) (by omega) (by omega)), k3.keep (q _ (by omega) (by omega) (by omega)), k4.keep (q _ (by omega) (by omega) (by omega)), k5.keep (q _ (by omega) (by omega) (by omega)), ⟨(q _ (by omega) (by omega) (by omega)).trans k6.1, fun j hj => ?_⟩, ⟨F, (q _ (by omega) (by omega) (by omega)).trans k7, k7'⟩, k8⟩
  show en_S _ _ (fu r.en k oe j) h2
  by_cases z : j = k
  · subst z
    rw [fu_s]
    exact he
  · rw [fu_n z]
    exact (k6.2 j hj).keep (fun x h1 h2 => q x (by omega) (by omega) (by omega))
end RDE
