/-! OnionNet: a hand-over -/
theorem lks_S.add2 {lo i : Nat} {ex : Nat → Bool} {A : Nat → Nat} {lk : Nat → List aB} {l : List aB} {h h2 : on_H} (K : lks_S ex A lk h) (D : lks_D lo ex A) (hi : i < 100) (he : ex i = true) (k : lk_S (A i) l h2) (e : ∀ b, lo ≤ b → b ≠ A i → b ≠ A i + 1 → (∃ j, j < 100 ∧ ex j = true ∧ (b = A j ∨ b = A j + 1)) → h2 b = h b) : lks_S ex A (fu lk i l) h2 := fun j hj ej => by
  by_cases z : j = i
  · subst z
    rw [fu_s]
    exact k
  · rw [fu_n z]
    have := (D i hi he).2 j hj ej (fun w => z w.symm)
    have w := (D j hj ej).1
    exact (K j hj ej).keep (e _ (by omega) (by omega) (by omega) ⟨j, hj, ej, Or.inl rfl⟩) (e _ (by omega) (by omega) (by omega) ⟨j, hj, ej, Or.inr rfl⟩)
theorem lks_S.kp {lo : Nat} {ex : Nat → Bool} {A : Nat → Nat} {lk : Nat → List aB} {h h2 : on_H} (K : lks_S ex A lk h) (e : ∀ b, (∃ j, j < 100 ∧ ex j = true ∧ (b = A j ∨ b = A j + 1)) → h2 b = h b) : lks_S ex A lk h2 := fun j hj ej => (K j hj ej).keep (e _ ⟨j, hj, ej, Or.inl rfl⟩) (e _ ⟨j, hj, ej, Or.inr rfl⟩)
section HND
variable {G : on_G} {o sz B fr to bc bs : Nat} {L : nL} {a : aN} {M : aO} {h h2 : on_H} {x : aB} {l : List aB}
theorem n_ex_pr {nr nk : Nat} (ht : to < 10) (he : n_ex nr nk (10 * fr + to) = true) : n_pr nr nk fr = true ∧ n_pr nr nk to = true ∧ fr ≠ to := by
  rw [n_ex_at ht] at he
  have h1 := Bool.and_eq_true_iff.mp he
  have h2 := Bool.and_eq_true_iff.mp h1.1
  exact ⟨h2.1, h2.2, of_decide_eq_true h1.2⟩
theorem n_pr_lo {nr nk : Nat} (h8 : to < 8) (he : n_pr nr nk to = true) : to < nr := by
  unfold n_pr at he
  rcases Bool.or_eq_true_iff.mp he with w | w
  · exact of_decide_eq_true w
  · have := of_decide_eq_true (Bool.and_eq_true_iff.mp w).1
    omega
/-- the owner of a link's cells -/
theorem nw_T.lk (T : nw_T o sz L a) {b : Nat} (k : ∃ j, j < 100 ∧ n_ex a.nr a.nk j = true ∧ (b = L.A j ∨ b = L.A j + 1)) : b < sz ∧ o + 44 ≤ b ∧ L.ow b = 1 := by
  obtain ⟨j, hj, ej, k⟩ := k
  have t := T.2.2.2.2.2.2 j hj ej
  have d := (T.2.2.2.2.2.1 j hj ej).1
  exact ⟨by omega, by omega, t.2 b (by omega) (by omega)⟩
/-- the object's own addresses -/
theorem nw_B.keep (W : nw_B o L a M h) (e : ∀ b, o ≤ b → b < o + 44 → h2 b = h b) : nw_B o L a M h2 := by
  obtain ⟨b1, b2, b3, b4, b5, b6, b7, b8, b9⟩ := W
  exact ⟨(e _ (by omega) (by omega)).trans b1, (e _ (by omega) (by omega)).trans b2, (e _ (by omega) (by omega)).trans b3, (e _ (by omega) (by omega)).trans b4, (e _ (by omega) (by omega)).trans b5, b6.keep (fun b _ _ => e b (by omega) (by omega)), b7.keep (fun b _ _ => e b (by omega) (by omega)), b8.keep (e _ (by omega) (by omega)), b9.keep (e _ (by omega) (by omega))⟩
theorem nw_B.wk {M2 : aO} (W : nw_B o L a M h) (H : hk_W (o + 5) h2) (O : ob_L (o + 34) M2 h2) (Q : rW h2 (o + 42) 140) (e : ∀ b, o ≤ b → b < o + 44 → (b < o + 5 ∨ o + 43 ≤ b) → h2 b = h b) : nw_B o L a M2 h2 := by
  obtain ⟨b1, b2, b3, b4, b5, b6, b7, b8, b9⟩ := W
  exact ⟨(e _ (by omega) (by omega) (by omega)).trans b1, (e _ (by omega) (by omega) (by omega)).trans b2, (e _ (by omega) (by omega) (by omega)).trans b3, (e _ (by omega) (by omega) (by omega)).trans b4, (e _ (by omega) (by omega) (by omega)).trans b5, H, O, Q, b9.keep (e _ (by omega) (by omega) (by omega))⟩
/-- the first cell is taken off its link -/
theorem nx_take {h1 : on_H} (X : n_X o sz L a [] h) (hf : fr < 10) (ht : to < 10) (he : n_ex a.nr a.nk (10 * fr + to) = true) (K1 : lk_S (L.A (10 * fr + to)) l h1) (Q1 : rW h1 (o + 42) 140) (e : ∀ b, b ≠ L.A (10 * fr + to) → b ≠ L.A (10 * fr + to) + 1 → b ≠ o + 42 → h1 b = h b) : n_X o sz L (n_lk a (fu a.lk (10 * fr + to) l)) [] h1 ∧ ∀ b, b < sz → ¬ L.ow b = 0 → ¬ L.ow b = 1 → h1 b = h b := by
  obtain ⟨W, T, P, K⟩ := X
  have tl := T.2.2.2.2.2.2
  have D := T.2.2.2.2.2.1
  have j100 : 10 * fr + to < 100 := by omega
  have dA := (D _ j100 he).1
  have f2 : ∀ b, b < sz → ¬ L.ow b = 0 → ¬ L.ow b = 1 → h1 b = h b := fun b c0 c1 c2 => e b (fun w => c2 ((tl _ j100 he).2 b (by omega) (by omega))) (fun w => c2 ((tl _ j100 he).2 b (by omega) (by omega))) (fun w => c1 (T.2.1 b (by omega) (by omega)))
  exact ⟨⟨W.wk (W.2.2.2.2.2.1.keep (fun b _ _ => e b (by omega) (by omega) (by omega))) (W.2.2.2.2.2.2.1.keep (fun b _ _ => e b (by omega) (by omega) (by omega))) Q1 (fun b _ _ _ => e b (by omega) (by omega) (by omega)), T, nw_P.keep T P (fun b c1 c2 => f2 b c1 (by omega) (by omega)), K.add2 D j100 he K1 (fun b c0 c1 c2 _ => e b c1 c2 (by omega))⟩, f2⟩
/-- a relay has taken a cell -/
theorem nx_rel {p : aR × aO} (X : n_X o sz L a [] h) (ht : to < a.nr) (hs : p.1.se = (a.r to).se) (Y : ry_P (L.ra to) (o + 1) (o + 5) to (o + 34) (o + 42) p h h2) : n_X o sz L (a.nr, fu a.r to p.1, a.nk, a.k, a.nc, a.c, a.lk) p.2 h2 ∧ ∀ b, b < sz → ¬ L.ow b = 0 → ¬ L.ow b = 10 + 3 * to → h2 b = h b := by
  obtain ⟨W, T, P, K⟩ := X
  obtain ⟨Y1, Y2, Y3, Y4, Y5⟩ := Y
  obtain ⟨r1, r2, r3⟩ := T.2.2.1 to ht
  have f2 : ∀ b, b < sz → ¬ L.ow b = 0 → ¬ L.ow b = 10 + 3 * to → h2 b = h b := fun b c0 c1 c2 => by
    have nb : b < o ∨ o + 44 ≤ b := by
      rcases Nat.lt_or_ge b o with w | w
      · exact Or.inl w
      · rcases Nat.lt_or_ge b (o + 44) with u | u
        · exact absurd (T.2.1 b w u) c1
        · exact Or.inr u
    refine Y5 b ?_ (by omega) (by omega) (by omega)
    rcases Nat.lt_or_ge b (L.ra to) with w | w
    · exact Or.inl w
    · rcases Nat.lt_or_ge b (L.ra to + 260) with u | u
      · exact absurd (r3 b w u) c2
      · exact Or.inr u
  have es : ∀ j, (fu a.r to p.1 j).se = (a.r j).se := fun j => by
    by_cases z : j = to
    · rw [z, fu_s]
      exact hs
    · rw [fu_n z]
  refine ⟨⟨?_, T, ⟨fun i hi => ?_, fun i hi => T.nd hi (P.2.1 i hi) (fun b c1 c2 => f2 b c1 (by omega) (by omega)), fun i hi => (T.cr hi (P.2.2 i hi) (fun b c1 c2 => f2 b c1 (by omega) (by omega))).rs es⟩, K.kp (lo := 0) (fun b kb => ?_)⟩, f2⟩
  · exact nw_B.wk (a := a) W Y2 Y3 Y4 (fun b c1 c2 c3 => Y5 b (by omega) (by omega) (by omega) (by omega))
  · show rl_S (L.ra i) (o + 1) (o + 5) i (fu a.r to p.1 i) h2
    by_cases z : i = to
    · subst z
      rw [fu_s]
      exact Y1
    · rw [fu_n z]
      exact T.rl hi (P.1 i hi) (fun b c1 c2 => f2 b c1 (by omega) (by omega))
  · obtain ⟨t1, t2, t3⟩ := T.lk kb
    exact f2 b t1 (by omega) (by omega)
/-- the layout with another circuit i -/
def nL_c (L : nL) (sz i : Nat) (la2 sa2 : Nat → Nat) : nL := (L.ra, L.ka, L.ca, fu L.la i la2, fu L.sa i sa2, L.A, fun b => if b < sz then L.ow b else 12 + 3 * i)
theorem n_T.new {ow : Nat → Nat} {lo hi t sz u : Nat} (k : n_T ow lo hi t) (h : hi ≤ sz) : n_T (fun b => if b < sz then ow b else u) lo hi t := fun b b1 b2 => (if_pos (by omega)).trans (k b b1 b2)
theorem n_T.fresh {ow : Nat → Nat} {lo hi sz u : Nat} (h : sz ≤ lo) : n_T (fun b => if b < sz then ow b else u) lo hi u := fun b b1 b2 => if_neg (by omega)
/-- circuit i has another state -/
theorem nw_T.cir {i z : Nat} {c2 : aC} {k2 : aK} {la2 sa2 : Nat → Nat} (T : nw_T o sz L a) (hi : i < a.nc) (hz : sz ≤ z) (e1 : c2.cl = (a.c i).cl) (e2 : c2.pa = (a.c i).pa) (I : cr_I (L.ca i) la2 sa2 c2) (t1 : ∀ j, j < c2.hp → la2 j + 16 ≤ z ∧ (la2 j = L.la i j ∧ j < (a.c i).hp ∨ sz ≤ la2 j)) (t2 : ∀ j, j < c2.st.length → sa2 j + 3 ≤ z ∧ (sa2 j = L.sa i j ∧ j < (a.c i).st.length ∨ sz ≤ sa2 j)) :
    nw_T o z (nL_c L sz i la2 sa2) (a.nr, a.r, a.nk, fu a.k (a.c i).cl k2, a.nc, fu a.c i c2, a.lk) := by
  obtain ⟨u1, u2, u3, u4, u5, u6, u7⟩ := T
  refine ⟨by omega, u2.new u1, fun j hj => ?_, fun j hj => ?_, fun j hj => ?_, u6, fun j hj ej => ?_⟩
  · obtain ⟨v1, v2, v3⟩ := u3 j hj
    exact ⟨v1, (show L.ra j + 260 ≤ z by omega), v3.new v2⟩
  · obtain ⟨v1, v2, v3⟩ := u4 j hj
    exact ⟨v1, (show L.ka j + 2 ≤ z by omega), v3.new v2⟩
  · obtain ⟨v1, v2, v3, v4, v5, v6, v7⟩ := u5 j hj
    show nw_I z (nL_c L sz i la2 sa2) j (fu a.c i c2 j)
    by_cases w : j = i
    · subst w
      rw [fu_s]
      refine ⟨?_, (show L.ca j + 7 ≤ z by omega), v3.new v2, fun m hm => ?_, fun m hm => ?_, ?_, ?_⟩
      · show cr_I (L.ca j) (fu L.la j la2 j) (fu L.sa j sa2 j) c2
        rw [fu_s, fu_s]
        exact I
      · show fu L.la j la2 j m + 16 ≤ z ∧ n_T _ (fu L.la j la2 j m) (fu L.la j la2 j m + 16) (12 + 3 * j)
        rw [fu_s]
        refine ⟨(t1 m hm).1, ?_⟩
        rcases (t1 m hm).2 with q | q
        · rw [q.1]
          exact (v4 m q.2).2.new (v4 m q.2).1
        · exact n_T.fresh q
      · show fu L.sa j sa2 j m + 3 ≤ z ∧ n_T _ (fu L.sa j sa2 j m) (fu L.sa j sa2 j m + 3) (12 + 3 * j)
        rw [fu_s]
        refine ⟨(t2 m hm).1, ?_⟩
        rcases (t2 m hm).2 with q | q
        · rw [q.1]
          exact (v5 m q.2).2.new (v5 m q.2).1
        · exact n_T.fresh q
      · rw [e1]
        exact v6
      · rw [e2]
        exact v7
    · rw [fu_n w]
      refine ⟨?_, (show L.ca j + 7 ≤ z by omega), v3.new v2, fun m hm => ?_, fun m hm => ?_, v6, v7⟩
      · show cr_I (L.ca j) (fu L.la i la2 j) (fu L.sa i sa2 j) (a.c j)
        rw [fu_n w, fu_n w]
        exact v1
      · show fu L.la i la2 j m + 16 ≤ z ∧ n_T _ (fu L.la i la2 j m) (fu L.la i la2 j m + 16) (12 + 3 * j)
        rw [fu_n w]
        exact ⟨by have := (v4 m hm).1; omega, (v4 m hm).2.new (v4 m hm).1⟩
      · show fu L.sa i sa2 j m + 3 ≤ z ∧ n_T _ (fu L.sa i sa2 j m) (fu L.sa i sa2 j m + 3) (12 + 3 * j)
        rw [fu_n w]
        exact ⟨by have := (v5 m hm).1; omega, (v5 m hm).2.new (v5 m hm).1⟩
  · obtain ⟨v1, v2⟩ := u7 j hj ej
    exact ⟨(show L.A j + 2 ≤ z by omega), v2.new v1⟩
/-- a circuit has done something: its parts, its client, the object, nothing else -/
theorem nx_cir {i z : Nat} {c2 : aC} {k2 : aK} {la2 sa2 : Nat → Nat} (X : n_X o sz L a [] h) (hi : i < a.nc) (hcl : (a.c i).cl < a.nk) (hz : sz ≤ z) (e1 : c2.cl = (a.c i).cl) (e2 : c2.pa = (a.c i).pa) (I : cr_I (L.ca i) la2 sa2 c2) (t1 : ∀ j, j < c2.hp → la2 j + 16 ≤ z ∧ (la2 j = L.la i j ∧ j < (a.c i).hp ∨ sz ≤ la2 j)) (t2 : ∀ j, j < c2.st.length → sa2 j + 3 ≤ z ∧ (sa2 j = L.sa i j ∧ j < (a.c i).st.length ∨ sz ≤ sa2 j))
    (C : cr_S (L.ca i) (L.ka (a.c i).cl) (o + 5) L.ra la2 sa2 a.r c2 h2) (N : nd_S (L.ka (a.c i).cl) (nI (8 + (a.c i).cl)) k2.se k2.dr (nI (k2.nu + 1)) h2) (H : hk_W (o + 5) h2) (O : ob_L (o + 34) M h2) (Q : rW h2 (o + 42) 140) (e : ∀ b, b < sz → (b < o + 5 ∨ o + 43 ≤ b) → ¬ L.ow b = 12 + 3 * i → ¬ L.ow b = 11 + 3 * (a.c i).cl → h2 b = h b) :
    n_X o z (nL_c L sz i la2 sa2) (a.nr, a.r, a.nk, fu a.k (a.c i).cl k2, a.nc, fu a.c i c2, a.lk) M h2 := by
  obtain ⟨W, T, P, K⟩ := X
  have nb : ∀ b, ¬ L.ow b = 0 → (b < o + 5 ∨ o + 43 ≤ b) := fun b c => by
    rcases Nat.lt_or_ge b (o + 5) with w | w
    · exact Or.inl w
    · rcases Nat.lt_or_ge b (o + 44) with u | u
      · exact absurd (T.2.1 b (by omega) u) c
      · exact Or.inr (by omega)
  have t0 := T.1
  have et : ∀ j, (fu a.c i c2 j).cl = (a.c j).cl := fun j => by
    by_cases w : j = i
    · rw [w, fu_s]
      exact e1
    · rw [fu_n w]
  refine ⟨?_, T.cir hi hz e1 e2 I t1 t2, ⟨fun j hj => ?_, fun j hj => ?_, fun j hj => ?_⟩, K.kp (lo := 0) (fun b kb => ?_)⟩
  · refine nw_B.wk (a := a) W H O Q (fun b c1 c2 c3 => e b (by omega) c3 ?_ ?_)
    · rw [T.2.1 b c1 c2]; omega
    · rw [T.2.1 b c1 c2]; omega
  · exact T.rl hj (P.1 j hj) (fun b c1 c2 => e b c1 (nb b (by omega)) (by have := hj; have := hi; omega) (by omega))
  · show nd_S (L.ka j) (nI (8 + j)) (fu a.k (a.c i).cl k2 j).se (fu a.k (a.c i).cl k2 j).dr (nI ((fu a.k (a.c i).cl k2 j).nu + 1)) h2
    by_cases w : j = (a.c i).cl
    · rw [w, fu_s]
      exact N
    · rw [fu_n w]
      exact T.nd hj (P.2.1 j hj) (fun b c1 c2 => e b c1 (nb b (by omega)) (by omega) (by omega))
  · show cr_S (L.ca j) (L.ka (fu a.c i c2 j).cl) (o + 5) L.ra (fu L.la i la2 j) (fu L.sa i sa2 j) a.r (fu a.c i c2 j) h2
    rw [et]
    by_cases w : j = i
    · subst w
      rw [fu_s, fu_s, fu_s]
      exact C
    · rw [fu_n w, fu_n w, fu_n w]
      exact T.cr hj (P.2.2 j hj) (fun b c1 c2 => e b c1 (nb b (by omega)) (by omega) (by omega))
  · obtain ⟨g1, g2, g3⟩ := T.lk kb
    exact e b g1 (by omega) (by omega) (by omega)
end HND
