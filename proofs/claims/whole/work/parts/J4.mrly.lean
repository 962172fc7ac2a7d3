/-! the reference: a relay more -/
/-- what a call that may make cells leaves of the reference -/
def m_R (o sz z : Nat) (RA CA : Nat → Nat) (a a2 : aN) (h h1 : on_H) : Prop := ∃ RA2 CA2, sz ≤ z ∧ mX o z RA2 CA2 a2 h1 ∧ (∀ b, b < sz → ¬ m_own o a.nr a.nc RA CA b → h1 b = h b) ∧ ∀ b, b < sz → m_own o a2.nr a2.nc RA2 CA2 b → m_own o a.nr a.nc RA CA b
section MRQ
variable {G : on_G} {M : on_M} {pc sz bc bs : Nat} {lv : on_V} {st : List Value} {h : on_H} {Q : Option Value → on_H → Nat → Prop}
/-- a row is named by another that holds the same -/
theorem on_reQ {a t n : Nat} {f g : Nat → Option Nat} (ha : h a = some (on_aq t n f)) (e : ∀ j, j < n → f j = g j) (k : on_E G M pc lv st (on_up h a (on_aq t n g)) sz bc bs Q) : on_E G M pc lv st h sz bc bs Q := by
  intro p l e' R s m args below meth c H locs cells slots ls S hl hR hS hc hs
  refine k p l e' R s m args below meth c H locs cells slots ls S hl (hR.set rfl (fun _ _ => rfl) (hR.2 a _ ha).1 ?_) hS hc hs
  show H[a]? = some (vp_cell (G.2.1 t) (n, .inr (.inr (.inr (.inr g)))))
  have hcell : H[a]? = some (vp_cell (G.2.1 t) (n, .inr (.inr (.inr (.inr f))))) := (hR.2 a _ ha).2
  have ef : (fun j : Fin n => va_rf (f j.val)) = fun j : Fin n => va_rf (g j.val) := funext fun j => by rw [e j.val j.isLt]
  rw [hcell, vp_cell_q, vp_cell_q]
  unfold arrV
  rw [ef]
/-- what is known of the heap -/
theorem on_gen {P : on_H → Prop} (hp : P h) (k : ∀ g, P g → on_E G M pc lv st g sz bc bs Q) : on_E G M pc lv st h sz bc bs Q := k h hp
end MRQ
section MRY
variable {G : on_G} {o sz B bc bs R : Nat} {RA CA : Nat → Nat} {a : aN} {h : on_H} {seed : Int64} {Q : Option Value → on_H → Nat → Prop}
theorem m_R.same (X : mX o sz RA CA a h) : m_R o sz sz RA CA a a h h := ⟨RA, CA, Nat.le_refl _, X, fun _ _ _ => rfl, fun _ _ z => z⟩
theorem m_R.of {a2 : aN} {h1 : on_H} (X : mX o sz RA CA a2 h1) (f : m_fr o a.nr a.nc RA CA h h1) (e1 : a2.nr = a.nr) (e2 : a2.nc = a.nc) : m_R o sz sz RA CA a a2 h h1 := ⟨RA, CA, Nat.le_refl _, X, fun b _ z => f b z, fun b _ z => by rw [e1, e2] at z; exact z⟩
set_option maxHeartbeats 8000000 in
theorem mry_l {f0 : Int64} {f1 f2 f3 f4 f5 : Int32} (r0 : h R = some (.inr (15, [.long f0, .int f1, .ref (R + 1), .ref (R + 2), .ref (R + 3), .int f2, .int f3, .ref (R + 4), .int f4, .ref (R + 5), .int f5])))
    (kk : ∀ (h2 : on_H) (bc bs : Nat), h2 (R + 4) = some (on_aq 11 12 (fun j => some (R + 6 + 14 * j))) → (∀ j, j < 12 → me_W (R + 6 + 14 * j) h2) → (∀ b, b < R + 6 → b ≠ R + 4 → h2 b = h b) → on_E G M_M_relay 151 (on_l [(0, .ref o), (3, .ref R)]) [] h2 (R + 174) bc bs Q) :
    ∀ (m k bc bs : Nat) (h1 : on_H), k + m = 12 → 14 * m ≤ bc → 247 * m ≤ bs → (∃ F : Nat → Option Nat, h1 (R + 4) = some (on_aq 11 12 F) ∧ ∀ j, j < k → F j = some (R + 6 + 14 * j)) → (∀ j, j < k → me_W (R + 6 + 14 * j) h1) → (∀ b, b < R + 6 → b ≠ R + 4 → h1 b = h b) → on_E G M_M_relay 124 (on_l [(0, .ref o), (3, .ref R), (4, .int (nI k))]) [] h1 (R + 6 + 14 * k) bc bs Q := by
  intro m
  induction m with
  | zero =>
    intro k bc bs h1 hk _ _ ⟨F, F1, F2⟩ E t
    obtain rfl : k = 12 := by omega
    refine on_iload (pc' := 126) rfl rfl rfl ?_
    refine on_bipush (pc' := 128) (v := 12) rfl rfl lb_12 ?_
    refine on_icmp_ge (pc' := 131) (tgt := 151) rfl rfl rfl (fun cq => ?_) (fun cq => ?_)
    · refine on_reQ (g := fun j => some (R + 6 + 14 * j)) F1 F2 ?_
      exact on_relv (l := [(0, .ref o), (3, .ref R)]) ⟨rfl, rfl, trivial⟩ (kk _ bc bs (on_up_eq _ _ _) (fun j hj => (E j hj).keep (fun b _ _ => on_up_ne (by omega))) (fun b b1 b2 => (on_up_ne b2).trans (t b b1 b2)))
    · exact absurd (by decide) cq
  | succ m ih =>
    intro k bc bs h1 hk hc hs ⟨F, F1, F2⟩ E t
    have i12 : k < 12 ∧ 12 < 2 ^ 31 := by omega
    have r1 := (t R (by omega) (by omega)).trans r0
    refine on_iload (pc' := 126) rfl rfl rfl ?_
    refine on_bipush (pc' := 128) (v := 12) rfl rfl lb_12 ?_
    refine on_icmp_ge (pc' := 131) (tgt := 151) rfl rfl rfl (fun cq => ?_) (fun cq => ?_)
    · exact absurd cq (nI_ge (b := 12) i12.1 (by decide))
    clear cq
    first | refine on_aload_n (pc' := 132) rfl rfl rfl rfl ?_ | refine on_aload_nQ (pc' := 132) rfl rfl rfl rfl ?_
    first | apply on_get (pc' := 135) rfl rfl fl_M_324 | apply on_getN (pc' := 135) rfl rfl fl_M_324
    · repeat (first | assumption | exact on_up_eq _ _ _ | refine (on_up_ne (by omega)).trans ?_)
    · rfl
    refine on_iload (pc' := 137) rfl rfl rfl ?_
    refine on_new (pc' := 140) (fs := [.int 0, .int 0, .int 0, .int 0, .int 0, .null, .int 0, .null, .null, .null, .null]) rfl rfl nw_M_328 (by intro j hj; match j, hj with | 0, _ => rfl | 1, _ => rfl | 2, _ => rfl | 3, _ => rfl | 4, _ => rfl | 5, _ => rfl | 6, _ => rfl | 7, _ => rfl | 8, _ => rfl | 9, _ => rfl | 10, _ => rfl | j + 11, hj => exact absurd hj (by omega)) (by omega) (by omega) ?_
    refine on_dup (pc' := 141) rfl rfl rfl ?_
    first | refine on_callI (pc' := 144) (As := []) (rest := [.ref (R + 6 + 14 * k), .int (nI k), .ref (R + 4)]) (b := R + 6 + 14 * k) rfl rfl cw_M_relay_330 rfl rfl (Nat.le_of_ble_eq_true rfl) (by omega) (by omega) (c_MEntry_init (on_up_eq _ _ _) rfl) ?_ | refine on_callIN (pc' := 144) (As := []) (rest := [.ref (R + 6 + 14 * k), .int (nI k), .ref (R + 4)]) (b := R + 6 + 14 * k) rfl rfl cw_M_relay_330 rfl rfl (Nat.le_of_ble_eq_true rfl) (by omega) (by omega) (c_MEntry_init (on_up_eq _ _ _) rfl) ?_
    rintro v h2 z ⟨rfl, rfl, E2, t2⟩
    have T2 : ∀ b, b < R + 6 + 14 * k → h2 b = h1 b := fun b hb => (t2 b (by omega)).trans (on_up_ne (by omega))
    have F3 := (T2 (R + 4) (by omega)).trans F1
    obtain ⟨fr, fn, to, tn, wt, sc, S, VV, WW, CC, ⟨y0, -⟩, -⟩ := id E2
    show on_E G M_M_relay 144 _ [.ref (R + 6 + 14 * k), .int (nI k), .ref (R + 4)] h2 (R + 6 + 14 * k + 14) _ _ _
    apply on_aastoreK (pc' := 145) rfl rfl
    · repeat (first | assumption | exact on_up_eq _ _ _ | refine (on_up_ne (by omega)).trans ?_)
    rotate_left 2
    · repeat (first | assumption | exact on_up_eq _ _ _ | refine (on_up_ne (by omega)).trans ?_)
    rotate_right 2
    · rfl
    · rfl
    · first | assumption | exact on_lit _ | rfl
    · first | assumption | omega | decide
    refine on_iinc1 (pc' := 148) rfl rfl rfl ?_
    refine on_goto (tgt := 124) rfl rfl ?_
    rw [show R + 6 + 14 * k + 14 = R + 6 + 14 * (k + 1) by omega]
    have g4 : on_up h2 (R + 4) (on_aq 11 12 (va_up F k (some (R + 6 + 14 * k)))) (R + 4) = _ := on_up_eq _ _ _
    have gg : ∀ b, b ≠ R + 4 → on_up h2 (R + 4) (on_aq 11 12 (va_up F k (some (R + 6 + 14 * k)))) b = h2 b := fun b hb => on_up_ne hb
    generalize on_up h2 (R + 4) (on_aq 11 12 (va_up F k (some (R + 6 + 14 * k)))) = g at g4 gg ⊢
    refine on_relv (l := [(0, .ref o), (3, .ref R), (4, .int (nI (k + 1)))]) ⟨rfl, rfl, congrArg some (congrArg Value.int (nI_1 k)), trivial⟩ (ih (k + 1) _ _ g (by omega) (by omega) (by omega) ⟨_, g4, fun j hj => ?_⟩ (fun j hj => ?_) (fun b b1 b2 => (gg b b2).trans ((T2 b (by omega)).trans (t b b1 b2))))
    · unfold va_up
      by_cases z : j = k
      · rw [z, if_pos rfl]
      · rw [if_neg z]
        exact F2 j (by omega)
    · by_cases z : j = k
      · rw [z]
        exact E2.keep (fun b _ _ => gg b (by omega))
      · exact (E j (by omega)).keep (fun b _ _ => (gg b (by omega)).trans (T2 b (by omega)))
set_option maxHeartbeats 16000000 in
theorem c_M_relay (X : mX o sz RA CA a h) (V : n_V B a) (hb : a.nr < 6 → 174 ≤ bc ∧ 5083 ≤ bs) : on_Ct G M_M_relay [.ref o, .long seed] h sz bc bs (fun v h1 z => v = some (.int (q_relay a seed).1) ∧ m_R o sz z RA CA a (q_relay a seed).2 h h1) := by
  obtain ⟨x1, x2, ⟨b1, ⟨SD, b2, b2'⟩, ⟨DR, b3, b3'⟩, ⟨NU, b4, b4'⟩, b5⟩, x4, x5, x6⟩ := id X
  have o1 := x1.ob.1
  have v1 := V.1.1
  have so := x4.1
  refine on_Ct.of (by decide) v_M_relay (Nat.le_of_ble_eq_true rfl) ?_
  first | refine on_aload_n (pc' := 1) rfl rfl rfl rfl ?_ | refine on_aload_nQ (pc' := 1) rfl rfl rfl rfl ?_
  first | apply on_get (pc' := 4) rfl rfl fl_M_271 | apply on_getN (pc' := 4) rfl rfl fl_M_271
  · repeat (first | assumption | exact on_up_eq _ _ _ | refine (on_up_ne (by omega)).trans ?_)
  · rfl
  refine on_bipush (pc' := 6) (v := 6) rfl rfl lb_6 ?_
  refine on_icmp_ne (pc' := 9) (tgt := 11) rfl rfl rfl (fun cq => ?_) (fun cq => ?_)
  rotate_left
  · have e2 : a.nr = 6 := (nI_eq (a := a.nr) (b := 6) (by omega) (by decide)).mp cq
    have eq : q_relay a seed = (-1, a) := if_neg (by omega)
    refine on_iconst (pc' := 10) (v := (-1)) rfl rfl li_m1 ?_
    refine on_ireturn rfl rfl ?_
    rw [eq]
    exact ⟨rfl, m_R.same X⟩
  have k6 : a.nr < 6 := by
    rcases Nat.lt_or_ge a.nr 6 with z | z
    · exact z
    · exact absurd (by rw [show a.nr = 6 by omega]; rfl) cq
  clear cq
  have hb1 := hb k6
  have eq : q_relay a seed = (nI a.nr, (a.nr + 1, fu a.r a.nr (seed, 0, 10, 1000, (fun _ => none), []), a.nk, a.k, a.nc, a.c, a.lk)) := if_pos k6
  rw [eq]
  refine on_new (pc' := 14) (fs := [.long 0, .int 0, .null, .null, .null, .int 0, .int 0, .null, .int 0, .null, .int 0]) rfl rfl nw_M_7 (by intro j hj; match j, hj with | 0, _ => rfl | 1, _ => rfl | 2, _ => rfl | 3, _ => rfl | 4, _ => rfl | 5, _ => rfl | 6, _ => rfl | 7, _ => rfl | 8, _ => rfl | 9, _ => rfl | 10, _ => rfl | j + 11, hj => exact absurd hj (by omega)) (by omega) (by omega) ?_
  refine on_dup (pc' := 15) rfl rfl rfl ?_
  first | refine on_callI (pc' := 18) (As := []) (rest := [.ref sz]) (b := sz) rfl rfl cw_M_relay_307 rfl rfl (Nat.le_of_ble_eq_true rfl) (by omega) (by omega) (c_MRelay_init (on_up_eq _ _ _) rfl) ?_ | refine on_callIN (pc' := 18) (As := []) (rest := [.ref sz]) (b := sz) rfl rfl cw_M_relay_307 rfl rfl (Nat.le_of_ble_eq_true rfl) (by omega) (by omega) (c_MRelay_init (on_up_eq _ _ _) rfl) ?_
  rintro v h1 z ⟨rfl, rfl, R0, R1, R2, R3, R4, R5, t1⟩
  have T1 : ∀ b, b < sz → h1 b = h b := fun b hb => (t1 b (by omega)).trans (on_up_ne (by omega))
  show on_E G M_M_relay 18 _ [.ref sz] h1 (sz + 6) _ _ _
  first | refine on_astore_n (pc' := 19) rfl rfl rfl (by decide) ?_ | refine on_astore_nQ (pc' := 19) rfl rfl rfl (by decide) ?_
  first | refine on_aload_n (pc' := 20) rfl rfl rfl rfl ?_ | refine on_aload_nQ (pc' := 20) rfl rfl rfl rfl ?_
  refine on_lload_n (pc' := 21) rfl rfl rfl rfl ?_
  first | apply on_put (pc' := 24) rfl rfl fp_M_308 | apply on_putN (pc' := 24) rfl rfl fp_M_308
  · repeat (first | assumption | exact on_up_eq _ _ _ | refine (on_up_ne (by omega)).trans ?_)
  · first | rfl | assumption
  · first | rfl | assumption
  · exact Nat.le_of_ble_eq_true rfl
  first | refine on_aload_n (pc' := 25) rfl rfl rfl rfl ?_ | refine on_aload_nQ (pc' := 25) rfl rfl rfl rfl ?_
  refine on_bipush (pc' := 27) (v := 10) rfl rfl lb_10 ?_
  first | apply on_put (pc' := 30) rfl rfl fp_M_311 | apply on_putN (pc' := 30) rfl rfl fp_M_311
  · repeat (first | assumption | exact on_up_eq _ _ _ | refine (on_up_ne (by omega)).trans ?_)
  · first | rfl | assumption
  · first | rfl | assumption
  · exact Nat.le_of_ble_eq_true rfl
  have g0 : on_up (on_up h1 sz (.inr (15, [.long seed, .int 0, .ref (sz + 1), .ref (sz + 2), .ref (sz + 3), .int 0, .int 1000, .ref (sz + 4), .int 0, .ref (sz + 5), .int 0]))) sz (.inr (15, [.long seed, .int 0, .ref (sz + 1), .ref (sz + 2), .ref (sz + 3), .int 10, .int 1000, .ref (sz + 4), .int 0, .ref (sz + 5), .int 0])) sz = some (.inr (15, [.long seed, .int 0, .ref (sz + 1), .ref (sz + 2), .ref (sz + 3), .int 10, .int 1000, .ref (sz + 4), .int 0, .ref (sz + 5), .int 0])) := on_up_eq _ _ _
  have gg : ∀ b, b ≠ sz → on_up (on_up h1 sz (.inr (15, [.long seed, .int 0, .ref (sz + 1), .ref (sz + 2), .ref (sz + 3), .int 0, .int 1000, .ref (sz + 4), .int 0, .ref (sz + 5), .int 0]))) sz (.inr (15, [.long seed, .int 0, .ref (sz + 1), .ref (sz + 2), .ref (sz + 3), .int 10, .int 1000, .ref (sz + 4), .int 0, .ref (sz + 5), .int 0])) b = h1 b := fun b hb => (on_up_ne hb).trans (on_up_ne hb)
  show on_E G M_M_relay 30 _ [] (on_up (on_up h1 sz (.inr (15, [.long seed, .int 0, .ref (sz + 1), .ref (sz + 2), .ref (sz + 3), .int 0, .int 1000, .ref (sz + 4), .int 0, .ref (sz + 5), .int 0]))) sz (.inr (15, [.long seed, .int 0, .ref (sz + 1), .ref (sz + 2), .ref (sz + 3), .int 10, .int 1000, .ref (sz + 4), .int 0, .ref (sz + 5), .int 0]))) (sz + 6) _ _ _
  generalize on_up (on_up h1 sz (.inr (15, [.long seed, .int 0, .ref (sz + 1), .ref (sz + 2), .ref (sz + 3), .int 0, .int 1000, .ref (sz + 4), .int 0, .ref (sz + 5), .int 0]))) sz (.inr (15, [.long seed, .int 0, .ref (sz + 1), .ref (sz + 2), .ref (sz + 3), .int 10, .int 1000, .ref (sz + 4), .int 0, .ref (sz + 5), .int 0])) = h2 at g0 gg ⊢
  have T2 : ∀ b, b < sz → h2 b = h b := fun b hb => (gg b (by omega)).trans (T1 b hb)
  have W2 : mw o (nI a.nr, nI a.nk, nI a.nc) h2 := x1.keep (fun b _ _ _ => T2 b (by omega))
  have o2 := W2.ob.1
  have sa := W2.sa
  obtain ⟨f2, g2, l2, s2⟩ := id sa
  first | refine on_aload_n (pc' := 31) rfl rfl rfl rfl ?_ | refine on_aload_nQ (pc' := 31) rfl rfl rfl rfl ?_
  first | apply on_get (pc' := 34) rfl rfl fl_M_42 | apply on_getN (pc' := 34) rfl rfl fl_M_42
  · repeat (first | assumption | exact on_up_eq _ _ _ | refine (on_up_ne (by omega)).trans ?_)
  · rfl
  refine on_callV (pc' := 37) (As := []) (rest := []) (b := o + 8) rfl rfl cw_M_relay_161 (s2.1) rfl rfl (Nat.le_of_ble_eq_true rfl) (Nat.zero_le _) (Nat.zero_le _) (c_MSha_begin sa) ?_
  rintro v h3 z ⟨rfl, rfl, X3, t3⟩
  have O3 : mo_O o (nI a.nr, nI a.nk, nI a.nc) h3 := W2.ob.keep (t3 _ (by omega)) (t3 _ (by omega))
  have o3 := O3.1
  first | refine on_aload_n (pc' := 38) rfl rfl rfl rfl ?_ | refine on_aload_nQ (pc' := 38) rfl rfl rfl rfl ?_
  refine on_iconst (pc' := 39) (v := 2) rfl rfl li_2 ?_
  refine on_callV (pc' := 42) (As := [.int (nI 2)]) (rest := []) (b := o) rfl rfl cw_M_relay_172 (o3) rfl rfl (Nat.le_of_ble_eq_true rfl) (Nat.zero_le _) (Nat.zero_le _) (c_M_hashName (tag := 2) O3 X3 (by decide) (by decide)) ?_
  rintro v h4 z ⟨rfl, rfl, X4, t4⟩
  have O4 : mo_O o (nI a.nr, nI a.nk, nI a.nc) h4 := O3.keep (t4 _ (by omega)) (t4 _ (by omega))
  have o4 := O4.1
  rw [List.nil_append] at X4
  first | refine on_aload_n (pc' := 43) rfl rfl rfl rfl ?_ | refine on_aload_nQ (pc' := 43) rfl rfl rfl rfl ?_
  refine on_lload_n (pc' := 44) rfl rfl rfl rfl ?_
  refine on_callV (pc' := 47) (As := [.long seed]) (rest := []) (b := o) rfl rfl cw_M_relay_175 (o4) rfl rfl (Nat.le_of_ble_eq_true rfl) (Nat.zero_le _) (Nat.zero_le _) (c_M_hashLong O4 X4 (by rw [List.length_append, sp_sl_len]; decide)) ?_
  rintro v h5 z ⟨rfl, rfl, X5, t5⟩
  have O5 : mo_O o (nI a.nr, nI a.nk, nI a.nc) h5 := O4.keep (t5 _ (by omega)) (t5 _ (by omega))
  have o5 := O5.1
  have T5 : ∀ b, (b < o + 8 ∨ o + 11 ≤ b) → h5 b = h2 b := fun b hb => (t5 b hb).trans ((t4 b hb).trans (t3 b hb))
  have r5 := (T5 sz (by omega)).trans g0
  obtain ⟨F1, f1⟩ := R1
  have s5 := (T5 (sz + 1) (by omega)).trans ((gg (sz + 1) (by omega)).trans f1)
  obtain ⟨f5, g5, X5', -⟩ := id X5
  first | refine on_aload_n (pc' := 48) rfl rfl rfl rfl ?_ | refine on_aload_nQ (pc' := 48) rfl rfl rfl rfl ?_
  first | apply on_get (pc' := 51) rfl rfl fl_M_42 | apply on_getN (pc' := 51) rfl rfl fl_M_42
  · repeat (first | assumption | exact on_up_eq _ _ _ | refine (on_up_ne (by omega)).trans ?_)
  · rfl
  first | refine on_aload_n (pc' := 52) rfl rfl rfl rfl ?_ | refine on_aload_nQ (pc' := 52) rfl rfl rfl rfl ?_
  first | apply on_get (pc' := 55) rfl rfl fl_M_314 | apply on_getN (pc' := 55) rfl rfl fl_M_314
  · repeat (first | assumption | exact on_up_eq _ _ _ | refine (on_up_ne (by omega)).trans ?_)
  · rfl
  refine on_iconst (pc' := 56) (v := 0) rfl rfl li_0 ?_
  first | refine on_aload_n (pc' := 57) rfl rfl rfl rfl ?_ | refine on_aload_nQ (pc' := 57) rfl rfl rfl rfl ?_
  first | apply on_get (pc' := 60) rfl rfl fl_M_52 | apply on_getN (pc' := 60) rfl rfl fl_M_52
  · repeat (first | assumption | exact on_up_eq _ _ _ | refine (on_up_ne (by omega)).trans ?_)
  · rfl
  refine on_callV (pc' := 63) (As := [.ref (sz + 1), .int 0, .ref (o + 17)]) (rest := []) (b := o + 8) rfl rfl cw_M_relay_164 (X5'.1) rfl rfl (Nat.le_of_ble_eq_true rfl) (Nat.zero_le _) (Nat.zero_le _) (c_MSha_end X5 (by rw [List.length_append, List.length_append, sp_sl_len, sp_sl_len]; decide) O5.2 (by omega) s5 (by omega)) ?_
  rintro v h6 z ⟨rfl, rfl, S6, d6, t6⟩
  have T6 : ∀ b, b ≠ sz + 1 → (b < o + 8 ∨ o + 11 ≤ b) → h6 b = h2 b := fun b b1 b2 => (t6 b b1 (by omega)).trans (T5 b b2)
  have D6 : rB h6 (sz + 1) 32 (rs_s seed) := ⟨_, d6, fun i hi => ⟨on_tk_lt hi, sp_d_lt _ _⟩⟩
  have W6 : mw o (nI a.nr, nI a.nk, nI a.nc) h6 := W2.has (q := sz + 1) S6 (W2.si.keep (fun b _ _ => T6 b (by omega) (by omega))) (W2.st.keep (fun b _ _ => T6 b (by omega) (by omega))) (W2.dg.keep (T6 _ (by omega) (by omega))) (W2.ky.keep (T6 _ (by omega) (by omega))) (fun _ z => absurd z (by omega)) (by omega) (fun b c1 c2 _ _ => T6 b c1 (by omega))
  have o6 := W6.ob.1
  first | refine on_aload_n (pc' := 64) rfl rfl rfl rfl ?_ | refine on_aload_nQ (pc' := 64) rfl rfl rfl rfl ?_
  refine on_callV (pc' := 67) (As := []) (rest := []) (b := o) rfl rfl cw_M_relay_317 (o6) rfl rfl (Nat.le_of_ble_eq_true rfl) (Nat.zero_le _) (Nat.zero_le _) (c_M_baseW W6) ?_
  rintro v h7 z ⟨rfl, rfl, W7, P7, t7⟩
  have o7 := W7.ob.1
  have r7 := (t7 sz (by omega)).trans ((T6 sz (by omega) (by omega)).trans g0)
  first | refine on_aload_n (pc' := 68) rfl rfl rfl rfl ?_ | refine on_aload_nQ (pc' := 68) rfl rfl rfl rfl ?_
  first | refine on_aload_n (pc' := 69) rfl rfl rfl rfl ?_ | refine on_aload_nQ (pc' := 69) rfl rfl rfl rfl ?_
  first | apply on_get (pc' := 72) rfl rfl fl_M_314 | apply on_getN (pc' := 72) rfl rfl fl_M_314
  · repeat (first | assumption | exact on_up_eq _ _ _ | refine (on_up_ne (by omega)).trans ?_)
  · rfl
  first | refine on_aload_n (pc' := 73) rfl rfl rfl rfl ?_ | refine on_aload_nQ (pc' := 73) rfl rfl rfl rfl ?_
  first | apply on_get (pc' := 76) rfl rfl fl_M_64 | apply on_getN (pc' := 76) rfl rfl fl_M_64
  · repeat (first | assumption | exact on_up_eq _ _ _ | refine (on_up_ne (by omega)).trans ?_)
  · rfl
  first | refine on_aload_n (pc' := 77) rfl rfl rfl rfl ?_ | refine on_aload_nQ (pc' := 77) rfl rfl rfl rfl ?_
  first | apply on_get (pc' := 80) rfl rfl fl_M_284 | apply on_getN (pc' := 80) rfl rfl fl_M_284
  · repeat (first | assumption | exact on_up_eq _ _ _ | refine (on_up_ne (by omega)).trans ?_)
  · rfl
  refine on_callV (pc' := 83) (As := [.ref (sz + 1), .ref (o + 21), .ref (sz + 2)]) (rest := []) (b := o) rfl rfl cw_M_relay_320 (o7) rfl rfl (Nat.le_of_ble_eq_true rfl) (Nat.zero_le _) (Nat.zero_le _) (c_M_curveW W7 (D6.keep (t7 _ (by omega))) (by omega) P7 (R2.keep ((t7 _ (by omega)).trans ((T6 _ (by omega) (by omega)).trans (gg _ (by omega))))) (by omega)) ?_
  rintro v h8 z ⟨rfl, rfl, W8, K8, t8⟩
  have T8 : ∀ b, (b < o ∨ o + 42 ≤ b) → b ≠ sz + 1 → b ≠ sz + 2 → h8 b = h2 b := fun b c0 c1 c2 => (t8 b c2 (by omega)).trans ((t7 b (by omega)).trans (T6 b c1 (by omega)))
  have D8 : rB h8 (sz + 1) 32 (rs_s seed) := D6.keep ((t8 _ (by omega) (by omega)).trans (t7 _ (by omega)))
  have o8 := W8.ob.1
  have r8 := (T8 sz (by omega) (by omega) (by omega)).trans g0
  have sa8 := W8.sa
  obtain ⟨f8, g8, l8, s8⟩ := id sa8
  first | refine on_aload_n (pc' := 84) rfl rfl rfl rfl ?_ | refine on_aload_nQ (pc' := 84) rfl rfl rfl rfl ?_
  first | apply on_get (pc' := 87) rfl rfl fl_M_42 | apply on_getN (pc' := 87) rfl rfl fl_M_42
  · repeat (first | assumption | exact on_up_eq _ _ _ | refine (on_up_ne (by omega)).trans ?_)
  · rfl
  refine on_callV (pc' := 90) (As := []) (rest := []) (b := o + 8) rfl rfl cw_M_relay_161 (s8.1) rfl rfl (Nat.le_of_ble_eq_true rfl) (Nat.zero_le _) (Nat.zero_le _) (c_MSha_begin sa8) ?_
  rintro v h9 z ⟨rfl, rfl, X9, t9⟩
  have O9 : mo_O o (nI a.nr, nI a.nk, nI a.nc) h9 := W8.ob.keep (t9 _ (by omega)) (t9 _ (by omega))
  have o9 := O9.1
  first | refine on_aload_n (pc' := 91) rfl rfl rfl rfl ?_ | refine on_aload_nQ (pc' := 91) rfl rfl rfl rfl ?_
  refine on_iconst (pc' := 92) (v := 3) rfl rfl li_3 ?_
  refine on_callV (pc' := 95) (As := [.int (nI 3)]) (rest := []) (b := o) rfl rfl cw_M_relay_172 (o9) rfl rfl (Nat.le_of_ble_eq_true rfl) (Nat.zero_le _) (Nat.zero_le _) (c_M_hashName (tag := 3) O9 X9 (by decide) (by decide)) ?_
  rintro v hA z ⟨rfl, rfl, XA, tA⟩
  have OA : mo_O o (nI a.nr, nI a.nk, nI a.nc) hA := O9.keep (tA _ (by omega)) (tA _ (by omega))
  have oA := OA.1
  rw [List.nil_append] at XA
  have rA := (tA sz (by omega)).trans ((t9 sz (by omega)).trans r8)
  obtain ⟨KA, kA, KA'⟩ := K8.keep ((tA (sz + 2) (by omega)).trans (t9 (sz + 2) (by omega)))
  first | refine on_aload_n (pc' := 96) rfl rfl rfl rfl ?_ | refine on_aload_nQ (pc' := 96) rfl rfl rfl rfl ?_
  first | refine on_aload_n (pc' := 97) rfl rfl rfl rfl ?_ | refine on_aload_nQ (pc' := 97) rfl rfl rfl rfl ?_
  first | apply on_get (pc' := 100) rfl rfl fl_M_284 | apply on_getN (pc' := 100) rfl rfl fl_M_284
  · repeat (first | assumption | exact on_up_eq _ _ _ | refine (on_up_ne (by omega)).trans ?_)
  · rfl
  refine on_bipush (pc' := 102) (v := 32) rfl rfl lb_32 ?_
  refine on_callV (pc' := 105) (As := [.ref (sz + 2), .int (nI 32)]) (rest := []) (b := o) rfl rfl cw_M_relay_168 (oA) rfl rfl (Nat.le_of_ble_eq_true rfl) (Nat.zero_le _) (Nat.zero_le _) (c_M_hashAll OA XA kA (by omega) (by decide) (by decide) KA' (by rw [List.length_append, sp_sl_len]; decide)) ?_
  rintro v hB z ⟨rfl, rfl, XB, tB⟩
  have OB : mo_O o (nI a.nr, nI a.nk, nI a.nc) hB := OA.keep (tB _ (by omega)) (tB _ (by omega))
  have oB := OB.1
  have TB : ∀ b, (b < o + 8 ∨ o + 11 ≤ b) → hB b = h8 b := fun b hb => (tB b hb).trans ((tA b hb).trans (t9 b hb))
  have rB' := (TB sz (by omega)).trans r8
  obtain ⟨F3, f3⟩ := R3
  have sB := (TB (sz + 3) (by omega)).trans ((T8 (sz + 3) (by omega) (by omega) (by omega)).trans ((gg (sz + 3) (by omega)).trans f3))
  obtain ⟨fB, gB, XB', -⟩ := id XB
  first | refine on_aload_n (pc' := 106) rfl rfl rfl rfl ?_ | refine on_aload_nQ (pc' := 106) rfl rfl rfl rfl ?_
  first | apply on_get (pc' := 109) rfl rfl fl_M_42 | apply on_getN (pc' := 109) rfl rfl fl_M_42
  · repeat (first | assumption | exact on_up_eq _ _ _ | refine (on_up_ne (by omega)).trans ?_)
  · rfl
  first | refine on_aload_n (pc' := 110) rfl rfl rfl rfl ?_ | refine on_aload_nQ (pc' := 110) rfl rfl rfl rfl ?_
  first | apply on_get (pc' := 113) rfl rfl fl_M_285 | apply on_getN (pc' := 113) rfl rfl fl_M_285
  · repeat (first | assumption | exact on_up_eq _ _ _ | refine (on_up_ne (by omega)).trans ?_)
  · rfl
  refine on_iconst (pc' := 114) (v := 0) rfl rfl li_0 ?_
  first | refine on_aload_n (pc' := 115) rfl rfl rfl rfl ?_ | refine on_aload_nQ (pc' := 115) rfl rfl rfl rfl ?_
  first | apply on_get (pc' := 118) rfl rfl fl_M_52 | apply on_getN (pc' := 118) rfl rfl fl_M_52
  · repeat (first | assumption | exact on_up_eq _ _ _ | refine (on_up_ne (by omega)).trans ?_)
  · rfl
  refine on_callV (pc' := 121) (As := [.ref (sz + 3), .int 0, .ref (o + 17)]) (rest := []) (b := o + 8) rfl rfl cw_M_relay_164 (XB'.1) rfl rfl (Nat.le_of_ble_eq_true rfl) (Nat.zero_le _) (Nat.zero_le _) (c_MSha_end XB (by rw [List.length_append, List.length_append, sp_sl_len, sp_sl_len]; decide) OB.2 (by omega) sB (by omega)) ?_
  rintro v hC z ⟨rfl, rfl, SC, dC, tC⟩
  have TC : ∀ b, b ≠ sz + 3 → (b < o + 8 ∨ o + 11 ≤ b) → hC b = h8 b := fun b c1 c2 => (tC b c1 (by omega)).trans (TB b c2)
  have WC : mw o (nI a.nr, nI a.nk, nI a.nc) hC := W8.has (q := sz + 3) SC (W8.si.keep (fun b _ _ => TC b (by omega) (by omega))) (W8.st.keep (fun b _ _ => TC b (by omega) (by omega))) (W8.dg.keep (TC _ (by omega) (by omega))) (W8.ky.keep (TC _ (by omega) (by omega))) (fun _ z => absurd z (by omega)) (by omega) (fun b c1 c2 _ _ => TC b c1 (by omega))
  have rC := (TC sz (by omega) (by omega)).trans r8
  have DC : rB hC (sz + 1) 32 (rs_s seed) := D8.keep (TC _ (by omega) (by omega))
  have KC := K8.keep (TC (sz + 2) (by omega) (by omega))
  have UC : ∀ b, (b < o + 8 ∨ o + 42 ≤ b) → (b < sz ∨ sz + 3 < b) → hC b = h2 b := fun b c1 c2 => (TC b (by omega) (by omega)).trans ((t8 b (by omega) (by omega)).trans ((t7 b (by omega)).trans (T6 b (by omega) (by omega))))
  have E4 := (UC (sz + 4) (by omega) (by omega)).trans ((gg (sz + 4) (by omega)).trans R4)
  have KP : rW hC (sz + 5) 2000 := R5.keep ((UC (sz + 5) (by omega) (by omega)).trans (gg (sz + 5) (by omega)))
  refine on_iconst (pc' := 122) (v := 0) rfl rfl li_0 ?_
  refine on_istore (pc' := 124) rfl rfl (by decide) ?_
  refine on_relv (l := [(0, .ref o), (3, .ref sz), (4, .int (nI 0))]) ⟨rfl, rfl, rfl, trivial⟩ (mry_l (h := hC) rC (fun hD bc bs e4 E tD => ?_) 12 0 _ _ hC rfl (by omega) (by omega) ⟨_, E4, fun j hj => absurd hj (Nat.not_lt_zero j)⟩ (fun j hj => absurd hj (Nat.not_lt_zero j)) (fun _ _ _ => rfl))
  have WD : mw o (nI a.nr, nI a.nk, nI a.nc) hD := WC.keep (fun b _ _ _ => tD b (by omega) (by omega))
  have oD := WD.ob.1
  have UD : ∀ b, b < sz → (b < o + 8 ∨ o + 42 ≤ b) → hD b = h b := fun b c1 c2 => (tD b (by omega) (by omega)).trans ((UC b c2 (by omega)).trans (T2 b c1))
  have rD := (tD sz (by omega) (by omega)).trans rC
  have rr := (UD (o + 1) (by omega) (by omega)).trans b1
  have i6 : a.nr < 6 ∧ 6 < 2 ^ 31 := ⟨k6, by decide⟩
  first | refine on_aload_n (pc' := 152) rfl rfl rfl rfl ?_ | refine on_aload_nQ (pc' := 152) rfl rfl rfl rfl ?_
  first | apply on_get (pc' := 155) rfl rfl fl_M_9 | apply on_getN (pc' := 155) rfl rfl fl_M_9
  · repeat (first | assumption | exact on_up_eq _ _ _ | refine (on_up_ne (by omega)).trans ?_)
  · rfl
  first | refine on_aload_n (pc' := 156) rfl rfl rfl rfl ?_ | refine on_aload_nQ (pc' := 156) rfl rfl rfl rfl ?_
  first | apply on_get (pc' := 159) rfl rfl fl_M_271 | apply on_getN (pc' := 159) rfl rfl fl_M_271
  · repeat (first | assumption | exact on_up_eq _ _ _ | refine (on_up_ne (by omega)).trans ?_)
  · rfl
  first | refine on_aload_n (pc' := 160) rfl rfl rfl rfl ?_ | refine on_aload_nQ (pc' := 160) rfl rfl rfl rfl ?_
  apply on_aastoreK (pc' := 161) rfl rfl
  · repeat (first | assumption | exact on_up_eq _ _ _ | refine (on_up_ne (by omega)).trans ?_)
  rotate_left 2
  · repeat (first | assumption | exact on_up_eq _ _ _ | refine (on_up_ne (by omega)).trans ?_)
  rotate_right 2
  · rfl
  · rfl
  · first | assumption | exact on_lit _ | rfl
  · first | assumption | omega | decide
  first | refine on_aload_n (pc' := 162) rfl rfl rfl rfl ?_ | refine on_aload_nQ (pc' := 162) rfl rfl rfl rfl ?_
  refine on_dup (pc' := 163) rfl rfl rfl ?_
  first | apply on_get (pc' := 166) rfl rfl fl_M_271 | apply on_getN (pc' := 166) rfl rfl fl_M_271
  · repeat (first | assumption | exact on_up_eq _ _ _ | refine (on_up_ne (by omega)).trans ?_)
  · rfl
  refine on_iconst (pc' := 167) (v := 1) rfl rfl li_1 ?_
  refine on_iadd (pc' := 168) rfl rfl ?_
  rw [nI_1]
  first | apply on_put (pc' := 171) rfl rfl fp_M_271 | apply on_putN (pc' := 171) rfl rfl fp_M_271
  · repeat (first | assumption | exact on_up_eq _ _ _ | refine (on_up_ne (by omega)).trans ?_)
  · first | rfl | assumption
  · first | rfl | assumption
  · exact Nat.le_of_ble_eq_true rfl
  first | refine on_aload_n (pc' := 172) rfl rfl rfl rfl ?_ | refine on_aload_nQ (pc' := 172) rfl rfl rfl rfl ?_
  first | apply on_get (pc' := 175) rfl rfl fl_M_271 | apply on_getN (pc' := 175) rfl rfl fl_M_271
  · repeat (first | assumption | exact on_up_eq _ _ _ | refine (on_up_ne (by omega)).trans ?_)
  · rfl
  refine on_iconst (pc' := 176) (v := 1) rfl rfl li_1 ?_
  refine on_isub (pc' := 177) rfl rfl ?_
  rw [show nI (a.nr + 1) - 1 = nI a.nr by rw [← nI_1]; exact Int32.add_sub_cancel _ _]
  refine on_ireturn rfl rfl ?_
  have q0 : on_up (on_up hD (o + 1) (on_aq 13 6 (va_up (rf a.nr RA) a.nr (some sz)))) o (.inr (17, mo_f o (nI (a.nr + 1)) (nI a.nk) (nI a.nc))) o = some (.inr (17, mo_f o (nI (a.nr + 1)) (nI a.nk) (nI a.nc))) := on_up_eq _ _ _
  have q1 : on_up (on_up hD (o + 1) (on_aq 13 6 (va_up (rf a.nr RA) a.nr (some sz)))) o (.inr (17, mo_f o (nI (a.nr + 1)) (nI a.nk) (nI a.nc))) (o + 1) = some (on_aq 13 6 (rf (a.nr + 1) (fu RA a.nr sz))) := by
    rw [on_up_ne (by omega), on_up_eq, rf_up]
  have qq : ∀ b, b ≠ o → b ≠ o + 1 → on_up (on_up hD (o + 1) (on_aq 13 6 (va_up (rf a.nr RA) a.nr (some sz)))) o (.inr (17, mo_f o (nI (a.nr + 1)) (nI a.nk) (nI a.nc))) b = hD b := fun b c1 c2 => (on_up_ne c1).trans (on_up_ne c2)
  show _ ∧ m_R o sz (sz + 174) RA CA a (a.nr + 1, fu a.r a.nr (seed, 0, 10, 1000, (fun _ => none), []), a.nk, a.k, a.nc, a.c, a.lk) h (on_up (on_up hD (o + 1) (on_aq 13 6 (va_up (rf a.nr RA) a.nr (some sz)))) o (.inr (17, mo_f o (nI (a.nr + 1)) (nI a.nk) (nI a.nc))))
  generalize on_up (on_up hD (o + 1) (on_aq 13 6 (va_up (rf a.nr RA) a.nr (some sz)))) o (.inr (17, mo_f o (nI (a.nr + 1)) (nI a.nk) (nI a.nc))) = g at q0 q1 qq ⊢
  have GG : ∀ b, b < sz → (b < o ∨ o + 42 ≤ b ∨ o + 1 < b ∧ b < o + 8) → g b = h b := fun b c1 c2 => (qq b (by omega) (by omega)).trans (UD b c1 (by omega))
  have GN : ∀ b, sz ≤ b → b < sz + 6 → b ≠ sz + 4 → g b = hC b := fun b c1 c2 c3 => (qq b (by omega) (by omega)).trans (tD b c2 c3)
  refine ⟨rfl, fu RA a.nr sz, CA, by omega, ⟨WD.cnt q0 (fun b _ _ => qq b (by omega) (by omega)), x2.keep (GG _ (by omega) (by omega)) (GG _ (by omega) (by omega)), ⟨q1, ⟨SD, (GG _ (by omega) (by omega)).trans b2, b2'⟩, ⟨DR, (GG _ (by omega) (by omega)).trans b3, b3'⟩, ⟨NU, (GG _ (by omega) (by omega)).trans b4, b4'⟩, (GG _ (by omega) (by omega)).trans b5⟩, ?_, fun i hi => ?_, fun i hi => ?_⟩, fun b c1 c2 => ?_, fun b c1 c2 => ?_⟩
  · obtain ⟨d1, d2, d3, d4, d5, d6⟩ := x4
    have fi : ∀ i, i < a.nr + 1 → fu RA a.nr sz i = sz ∧ i = a.nr ∨ fu RA a.nr sz i = RA i ∧ i < a.nr := fun i hi => by
      by_cases z : i = a.nr
      · exact Or.inl ⟨by rw [z, fu_s], z⟩
      · exact Or.inr ⟨fu_n z, by omega⟩
    refine ⟨by omega, fun i hi => ?_, fun i hi => ?_, fun i j hi hj ne => ?_, d5, fun i j hi hj => ?_⟩
    · rcases fi i hi with ⟨e, -⟩ | ⟨e, w⟩
      · rw [e]
        omega
      · have := d2 i w
        rw [e]
        omega
    · have := d3 i hi
      omega
    · rcases fi i hi with ⟨e, w⟩ | ⟨e, w⟩
      · rcases fi j hj with ⟨e2, w2⟩ | ⟨e2, w2⟩
        · omega
        · have := d2 j w2
          rw [e, e2]
          omega
      · rcases fi j hj with ⟨e2, w2⟩ | ⟨e2, w2⟩
        · have := d2 i w
          rw [e, e2]
          omega
        · rw [e, e2]
          exact d4 i j w w2 ne
    · rcases fi i hi with ⟨e, w⟩ | ⟨e, w⟩
      · have := d3 j hj
        rw [e]
        omega
      · rw [e]
        exact d6 i j w hj
  · show ∃ n ord es, mr_S (fu RA a.nr sz i) (fu a.r a.nr (seed, 0, 10, 1000, (fun _ => none), []) i) n ord es g ∧ mr_I (fu RA a.nr sz i) (fu a.r a.nr (seed, 0, 10, 1000, (fun _ => none), []) i).en n ord es
    by_cases z : i = a.nr
    · subst z
      rw [fu_s, fu_s]
      refine ⟨0, fun k => k, fun k => sz + 6 + 14 * k, ⟨(GN _ (by omega) (by omega) (by omega)).trans rC, DC.keep (GN _ (by omega) (by omega) (by omega)), ?_, ⟨_, (GN _ (by omega) (by omega) (by omega)).trans dC, fun j hj => ?_⟩, ⟨(qq _ (by omega) (by omega)).trans e4, fun k hk => absurd hk (Nat.not_lt_zero k), fun k _ hk => (E k hk).keep (fun b _ _ => qq b (by omega) (by omega))⟩, ?_⟩, Nat.zero_le _, fun k hk => ⟨k, hk, rfl⟩, fun j k _ _ e => ?_, fun j k hj => absurd hj (Nat.not_lt_zero j), fun s e he => (nomatch he), fun k hk => absurd hk (Nat.not_lt_zero k)⟩
      · obtain ⟨KK, k1, k2⟩ := KC.keep (GN (sz + 2) (by omega) (by omega) (by omega))
        refine ⟨KK, k1, fun j hj => ?_⟩
        have e : rs_i seed (4 + j) = rs_k seed j := by
          unfold rs_i
          rw [if_neg (by omega), show 4 + j - 4 = j by omega]
        show _ = nI (rs_i seed (4 + j)) ∧ rs_i seed (4 + j) < 256
        rw [e]
        exact k2 j hj
      · have e : rs_i seed j = rs_m seed j := if_pos hj
        rw [on_tk_lt (by omega)]
        show _ = nI (rs_i seed j) ∧ rs_i seed j < 256
        rw [e]
        exact ⟨rfl, sp_d_lt _ _⟩
      · obtain ⟨FK, fk⟩ := KP
        exact ⟨⟨FK, (GN _ (by omega) (by omega) (by omega)).trans fk, fun j hj => absurd hj (Nat.not_lt_zero j)⟩, Nat.zero_le _⟩
      · have e : sz + 6 + 14 * j = sz + 6 + 14 * k := e
        omega
    · have hi : i < a.nr + 1 := hi
      obtain ⟨n, ord, es, z1, z2⟩ := x5 i (by omega)
      have ri := x4.2.1 i (by omega)
      rw [fu_n z, fu_n z]
      exact ⟨n, ord, es, z1.keep z2 (fun b _ _ => GG b (by omega) (by omega)), z2⟩
  · have ci := x4.2.2.1 i hi
    exact ⟨(x6 i hi).1.keep (x6 i hi).2 (fun b _ _ => GG b (by omega) (by omega)), (x6 i hi).2⟩
  · refine GG b c1 ?_
    rcases Nat.lt_or_ge b o with z | z
    · exact Or.inl z
    · rcases Nat.lt_or_ge b (o + 42) with w | w
      · exact absurd (Or.inl ⟨z, w⟩) c2
      · exact Or.inr (Or.inl w)
  · rcases c2 with c2 | ⟨i, hi, c2⟩ | c2
    · exact Or.inl c2
    · have hi : i < a.nr + 1 := hi
      by_cases z : i = a.nr
      · rw [z, fu_s] at c2
        omega
      · rw [fu_n z] at c2
        exact Or.inr (Or.inl ⟨i, by omega, c2⟩)
    · exact Or.inr (Or.inr c2)
end MRY
