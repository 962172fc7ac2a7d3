/-! the class's heap: where everything lies, and who owns which address -/
def s6 (f : Nat → Nat) : Nat := f 0 + f 1 + f 2 + f 3 + f 4 + f 5
/-- cells and slots that the calls to come may make -/
def n_pc (a : aN) : Nat := (6 - a.nr) * 400 + (2 - a.nk) * 60 + s6 (fun i => if i < a.nc then 16 * (3 - (a.c i).hp) + 3 * (4 - (a.c i).st.length) else 80)
def n_ps (a : aN) : Nat := (6 - a.nr) * 40000 + (2 - a.nk) * 23000 + s6 (fun i => if i < a.nc then 420 * (3 - (a.c i).hp) + 2408 * (4 - (a.c i).st.length) else 12000)
theorem s6_le {f g : Nat → Nat} (h : ∀ i, i < 6 → g i ≤ f i) : s6 g ≤ s6 f := by
  unfold s6
  have := h 0 (by decide)
  have := h 1 (by decide)
  have := h 2 (by decide)
  have := h 3 (by decide)
  have := h 4 (by decide)
  have := h 5 (by decide)
  omega
theorem s6_up {f g : Nat → Nat} {i d : Nat} (hi : i < 6) (h : ∀ j, j < 6 → j ≠ i → g j = f j) (hd : g i + d = f i) : s6 g + d = s6 f := by
  unfold s6
  match i, hi with
  | 0, _ => rw [h 1 (by decide) (by decide), h 2 (by decide) (by decide), h 3 (by decide) (by decide), h 4 (by decide) (by decide), h 5 (by decide) (by decide)]; omega
  | 1, _ => rw [h 0 (by decide) (by decide), h 2 (by decide) (by decide), h 3 (by decide) (by decide), h 4 (by decide) (by decide), h 5 (by decide) (by decide)]; omega
  | 2, _ => rw [h 0 (by decide) (by decide), h 1 (by decide) (by decide), h 3 (by decide) (by decide), h 4 (by decide) (by decide), h 5 (by decide) (by decide)]; omega
  | 3, _ => rw [h 0 (by decide) (by decide), h 1 (by decide) (by decide), h 2 (by decide) (by decide), h 4 (by decide) (by decide), h 5 (by decide) (by decide)]; omega
  | 4, _ => rw [h 0 (by decide) (by decide), h 1 (by decide) (by decide), h 2 (by decide) (by decide), h 3 (by decide) (by decide), h 5 (by decide) (by decide)]; omega
  | 5, _ => rw [h 0 (by decide) (by decide), h 1 (by decide) (by decide), h 2 (by decide) (by decide), h 3 (by decide) (by decide), h 4 (by decide) (by decide)]; omega
  | n + 6, z => exact absurd z (by omega)
/-- relays, clients, circuits, lanes, streams, links, owners (0 the object, 1 links, 2 not ours, 10 + 3 * i relay i, 11 + 3 i client i, 12 + 3 i circuit i) -/
abbrev nL : Type := (Nat → Nat) × (Nat → Nat) × (Nat → Nat) × (Nat → Nat → Nat) × (Nat → Nat → Nat) × (Nat → Nat) × (Nat → Nat)
abbrev nL.ra (L : nL) : Nat → Nat := L.1
abbrev nL.ka (L : nL) : Nat → Nat := L.2.1
abbrev nL.ca (L : nL) : Nat → Nat := L.2.2.1
abbrev nL.la (L : nL) : Nat → Nat → Nat := L.2.2.2.1
abbrev nL.sa (L : nL) : Nat → Nat → Nat := L.2.2.2.2.1
abbrev nL.A (L : nL) : Nat → Nat := L.2.2.2.2.2.1
abbrev nL.ow (L : nL) : Nat → Nat := L.2.2.2.2.2.2
def n_T (ow : Nat → Nat) (lo hi t : Nat) : Prop := ∀ b, lo ≤ b → b < hi → ow b = t
def lf (ex : Nat → Bool) (A : Nat → Nat) : Nat → Option Nat := fun j => if ex j = true then some (A j) else none
theorem lf_F {ex : Nat → Bool} {A : Nat → Nat} : lks_F ex A (lf ex A) := fun _ _ => rfl
/-- the object itself; M lies in its Outbox -/
def nw_B (o : Nat) (L : nL) (a : aN) (M : aO) (h : on_H) : Prop := n_O o (nI a.nr) (nI a.nk) (nI a.nc) h ∧ h (o + 1) = some (on_aq 4 6 (rf a.nr L.ra)) ∧ h (o + 2) = some (on_aq 8 2 (rf a.nk L.ka)) ∧ h (o + 3) = some (on_aq 9 6 (rf a.nc (fun i => L.ca i + 1))) ∧ h (o + 4) = some (on_aq 10 100 (lf (n_ex a.nr a.nk) L.A)) ∧ hk_W (o + 5) h ∧ ob_L (o + 34) M h ∧ rW h (o + 42) 140 ∧ rW h (o + 43) 32
/-- a circuit's places -/
def nw_I (sz : Nat) (L : nL) (i : Nat) (c : aC) : Prop := cr_I (L.ca i) (L.la i) (L.sa i) c ∧ L.ca i + 7 ≤ sz ∧ n_T L.ow (L.ca i) (L.ca i + 7) (12 + 3 * i) ∧ (∀ j, j < c.hp → L.la i j + 16 ≤ sz ∧ n_T L.ow (L.la i j) (L.la i j + 16) (12 + 3 * i)) ∧ (∀ j, j < c.st.length → L.sa i j + 3 ≤ sz ∧ n_T L.ow (L.sa i j) (L.sa i j + 3) (12 + 3 * i)) ∧ L.ka c.cl + 2 ≤ L.ca i ∧ ∀ j, j < c.pa.length → L.ra (c.pa.getD j 0) + 260 ≤ L.ca i
def nw_T (o sz : Nat) (L : nL) (a : aN) : Prop := o + 44 ≤ sz ∧ n_T L.ow o (o + 44) 0 ∧ (∀ i, i < a.nr → o + 44 ≤ L.ra i ∧ L.ra i + 260 ≤ sz ∧ n_T L.ow (L.ra i) (L.ra i + 260) (10 + 3 * i)) ∧ (∀ i, i < a.nk → o + 44 ≤ L.ka i ∧ L.ka i + 2 ≤ sz ∧ n_T L.ow (L.ka i) (L.ka i + 2) (11 + 3 * i)) ∧ (∀ i, i < a.nc → nw_I sz L i (a.c i)) ∧ lks_D (o + 44) (n_ex a.nr a.nk) L.A ∧ ∀ j, j < 100 → n_ex a.nr a.nk j = true → L.A j + 2 ≤ sz ∧ n_T L.ow (L.A j) (L.A j + 2) 1
/-- relays, clients and circuits -/
def nw_P (o : Nat) (L : nL) (a : aN) (h : on_H) : Prop := (∀ i, i < a.nr → rl_S (L.ra i) (o + 1) (o + 5) i (a.r i) h) ∧ (∀ i, i < a.nk → nd_S (L.ka i) (nI (8 + i)) (a.k i).se (a.k i).dr (nI ((a.k i).nu + 1)) h) ∧ ∀ i, i < a.nc → cr_S (L.ca i) (L.ka (a.c i).cl) (o + 5) L.ra (L.la i) (L.sa i) a.r (a.c i) h
def n_X (o sz : Nat) (L : nL) (a : aN) (M : aO) (h : on_H) : Prop := nw_B o L a M h ∧ nw_T o sz L a ∧ nw_P o L a h ∧ lks_S (n_ex a.nr a.nk) L.A a.lk h
/-- behind a call -/
def n_R (o sz z : Nat) (L : nL) (a : aN) (h h1 : on_H) : Prop := ∃ L2, n_X o z L2 a [] h1 ∧ sz ≤ z ∧ (∀ b, b < sz → L2.ow b = L.ow b) ∧ ∀ b, b < sz → L.ow b = 2 → h1 b = h b
theorem ob_L.e {u : Nat} {h : on_H} (K : ob_L u [] h) : ob_E u h := by
  obtain ⟨c, to, pl, ⟨k1, k2, k3, ⟨T, k4, -⟩, ⟨P, k5, k5'⟩⟩, -⟩ := K
  refine ⟨k1, k2, fun i hi => ?_, ⟨T, k4, fun i hi => absurd hi (Nat.not_lt_zero i)⟩, ⟨P, k5, fun i hi => ?_⟩⟩
  · have := k3 i hi
    rw [if_neg (show ¬ i < ([] : aO).length from Nat.not_lt_zero i)] at this
    rw [if_neg (Nat.not_lt_zero i)]
    exact this
  · rw [k5' i hi, if_neg (fun z => absurd z.1 (Nat.not_lt_zero i)), if_neg (fun z => absurd z.1 (Nat.not_lt_zero i))]
theorem cr_S.rs {c cl hs : Nat} {ra la sa : Nat → Nat} {rs rs2 : Nat → aR} {k : aC} {h : on_H} (K : cr_S c cl hs ra la sa rs k h) (e : ∀ j, (rs2 j).se = (rs j).se) : cr_S c cl hs ra la sa rs2 k h := by
  obtain ⟨k1, k2, k3, k4, k5, k6, k7⟩ := K
  exact ⟨k1, k2, k3, k4, k5, k6, fun z => ⟨(k7 z).1, by rw [e]; exact (k7 z).2⟩⟩
theorem cr_S.keep {c cl hs : Nat} {ra la sa : Nat → Nat} {rs : Nat → aR} {k : aC} {h h2 : on_H} (K : cr_S c cl hs ra la sa rs k h) (e1 : ∀ b, c ≤ b → b < c + 7 → h2 b = h b) (e2 : ∀ j, j < k.hp → ∀ b, la j ≤ b → b < la j + 16 → h2 b = h b) (e3 : ∀ j, j < k.st.length → ∀ b, sa j ≤ b → b < sa j + 3 → h2 b = h b) : cr_S c cl hs ra la sa rs k h2 := by
  obtain ⟨k1, k2, ⟨⟨F, f1, f2⟩, ⟨Bq, b1, b2⟩, k3⟩, k4, k5, k6, k7⟩ := K
  exact ⟨(e1 _ (by omega) (by omega)).trans k1, k2.keep (e1 _ (by omega) (by omega)), ⟨⟨F, (e1 _ (by omega) (by omega)).trans f1, f2⟩, ⟨Bq, (e1 _ (by omega) (by omega)).trans b1, b2⟩, fun i hi => ⟨(k3 i hi).1.keep (fun b _ _ => e2 i hi b (by omega) (by omega)), (k3 i hi).2.keep (fun b _ _ => e2 i hi b (by omega) (by omega))⟩⟩, k4.keep (e1 _ (by omega) (by omega)) (fun i hi b b1 b2 => e3 i hi b b1 b2), k5.keep (e1 _ (by omega) (by omega)), k6.keep (e1 _ (by omega) (by omega)), fun z => ⟨(k7 z).1.keep (e1 _ (by omega) (by omega)), (k7 z).2.keep (e1 _ (by omega) (by omega))⟩⟩
/-- a contract's end made weaker -/
theorem on_Ct.to {G : on_G} {M : on_M} {av : List Value} {h : on_H} {sz mc ms : Nat} {Q Q2 : Option Value → on_H → Nat → Prop} (k : on_Ct G M av h sz mc ms Q) (hq : ∀ r h1 z, Q r h1 z → Q2 r h1 z) : on_Ct G M av h sz mc ms Q2 := by
  intro l p e ha hc hk s m args below hf happ hP hK
  obtain ⟨n, o, h1, h2, h3, h4, L, h5⟩ := k l p e ha hc hk s m args below hf happ hP hK
  obtain ⟨⟨r, hh, z, e1, e2, e3⟩, e4⟩ := h4
  exact ⟨n, o, h1, h2, h3, ⟨⟨r, hh, z, e1, hq _ _ _ e2, e3⟩, e4⟩, L, h5⟩
section WLD
variable {G : on_G} {o sz B : Nat} {L : nL} {a : aN} {M : aO} {h h2 : on_H}
/-- relays and clients lie apart -/
theorem n_T.apart {ow : Nat → Nat} {lo hi lo2 hi2 t t2 : Nat} (k : n_T ow lo hi t) (k2 : n_T ow lo2 hi2 t2) (ne : t ≠ t2) (h1 : lo < hi) (h2 : lo2 < hi2) : hi ≤ lo2 ∨ hi2 ≤ lo := by
  rcases Nat.lt_or_ge lo2 hi with z | z
  · rcases Nat.lt_or_ge lo hi2 with w | w
    · rcases Nat.le_total lo lo2 with u | u
      · exact absurd ((k lo2 u z).symm.trans (k2 lo2 (Nat.le_refl _) h2)) ne
      · exact absurd ((k lo (Nat.le_refl _) h1).symm.trans (k2 lo u w)) ne
    · exact Or.inr w
  · exact Or.inl z
theorem nw_T.rl (T : nw_T o sz L a) {i : Nat} (hi : i < a.nr) (R : rl_S (L.ra i) (o + 1) (o + 5) i (a.r i) h) (e : ∀ b, b < sz → L.ow b = 10 + 3 * i → h2 b = h b) : rl_S (L.ra i) (o + 1) (o + 5) i (a.r i) h2 := by
  obtain ⟨t1, t2, t3⟩ := T.2.2.1 i hi
  exact R.keep (fun b b1 b2 => e b (by omega) (t3 b b1 b2))
theorem nw_T.nd (T : nw_T o sz L a) {i : Nat} {x y z w} (hi : i < a.nk) (R : nd_S (L.ka i) x y z w h) (e : ∀ b, b < sz → L.ow b = 11 + 3 * i → h2 b = h b) : nd_S (L.ka i) x y z w h2 := by
  obtain ⟨t1, t2, t3⟩ := T.2.2.2.1 i hi
  exact R.keep (e _ (by omega) (t3 _ (by omega) (by omega))) (e _ (by omega) (t3 _ (by omega) (by omega)))
theorem nw_T.cr (T : nw_T o sz L a) {i cl : Nat} (hi : i < a.nc) (R : cr_S (L.ca i) cl (o + 5) L.ra (L.la i) (L.sa i) a.r (a.c i) h) (e : ∀ b, b < sz → L.ow b = 12 + 3 * i → h2 b = h b) : cr_S (L.ca i) cl (o + 5) L.ra (L.la i) (L.sa i) a.r (a.c i) h2 := by
  obtain ⟨t1, t2, t3, t4, t5, -⟩ := T.2.2.2.2.1 i hi
  exact R.keep (fun b b1 b2 => e b (by omega) (t3 b b1 b2)) (fun j hj b b1 b2 => e b (by have := (t4 j hj).1; omega) ((t4 j hj).2 b b1 b2)) (fun j hj b b1 b2 => e b (by have := (t5 j hj).1; omega) ((t5 j hj).2 b b1 b2))
theorem nw_P.keep (T : nw_T o sz L a) (P : nw_P o L a h) (e : ∀ b, b < sz → 10 ≤ L.ow b → h2 b = h b) : nw_P o L a h2 :=
  ⟨fun i hi => T.rl hi (P.1 i hi) (fun b b1 b2 => e b b1 (by omega)), fun i hi => T.nd hi (P.2.1 i hi) (fun b b1 b2 => e b b1 (by omega)), fun i hi => T.cr hi (P.2.2 i hi) (fun b b1 b2 => e b b1 (by omega))⟩
theorem aO_mem {M : aO} {i : Nat} (hi : i < M.length) : M.getD i o0 ∈ M := by
  rw [List.getD_eq_getElem?_getD, List.getElem?_eq_getElem hi]
  exact List.getElem_mem hi
/-- sendAll: what lies in the Outbox goes on the links -/
theorem c_sendW {fr : Nat} (X : n_X o sz L a M h) (hfr : fr < 10) (hM : m_ok a.nr a.nk fr M) :
    on_Ct G M_N_sendAll [.ref o, .int (nI fr)] h sz 0 0 (fun v h1 z => v = none ∧ z = sz ∧ n_X o sz L (n_lk a (n_sd fr a.lk M)) [] h1 ∧ ∀ b, b < sz → ¬ L.ow b = 0 → ¬ L.ow b = 1 → h1 b = h b) := by
  obtain ⟨⟨b1, b2, b3, b4, b5, b6, b7, b8, b9⟩, T, P, K⟩ := X
  have tl := T.2.2.2.2.2.2
  have D := T.2.2.2.2.2.1
  refine on_Ct.to (c_sendAll (L := M) (lk := a.lk) b1 hfr b5 lf_F D hM.1 b7 (fun i hi => (hM.2 _ (aO_mem hi)).1) (fun i hi => (hM.2 _ (aO_mem hi)).2) K) ?_
  rintro v h1 z ⟨rfl, rfl, K1, O1, t1⟩
  have off : ∀ b, b < o + 44 → ∀ j, j < 100 → n_ex a.nr a.nk j = true → b ≠ L.A j ∧ b ≠ L.A j + 1 := fun b hb j hj ej => by
    have := (D j hj ej).1
    omega
  have fb : ∀ b, (b < o + 34 ∨ o + 42 ≤ b) → b < o + 44 → h1 b = h b := fun b c1 c2 => t1 b c1 (off b c2)
  have fr1 : ∀ b, b < z → ¬ L.ow b = 0 → ¬ L.ow b = 1 → h1 b = h b := fun b c0 c1 c2 => t1 b (by
    rcases Nat.lt_or_ge b (o + 34) with w | w
    · exact Or.inl w
    · rcases Nat.lt_or_ge b (o + 42) with u | u
      · exact absurd (T.2.1 b (by omega) (by omega)) c1
      · exact Or.inr u) (fun j hj ej => ⟨fun w => c2 ((tl j hj ej).2 b (by omega) (by omega)), fun w => c2 ((tl j hj ej).2 b (by omega) (by omega))⟩)
  exact ⟨rfl, rfl, ⟨⟨(fb _ (by omega) (by omega)).trans b1, (fb _ (by omega) (by omega)).trans b2, (fb _ (by omega) (by omega)).trans b3, (fb _ (by omega) (by omega)).trans b4, (fb _ (by omega) (by omega)).trans b5, b6.keep (fun b _ _ => fb b (by omega) (by omega)), ob_0 O1, b8.keep (fb _ (by omega) (by omega)), b9.keep (fb _ (by omega) (by omega))⟩, T, nw_P.keep T P (fun b c1 c2 => fr1 b c1 (by omega) (by omega)), K1⟩, fr1⟩
end WLD
