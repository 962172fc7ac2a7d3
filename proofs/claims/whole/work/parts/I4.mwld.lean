/-! the reference's heap -/
def mX_D (o sz nr nc : Nat) (RA CA : Nat → Nat) : Prop := o + 42 ≤ sz ∧ (∀ i, i < nr → o + 42 ≤ RA i ∧ RA i + 174 ≤ sz) ∧ (∀ i, i < nc → o + 42 ≤ CA i ∧ CA i + 38 ≤ sz) ∧ (∀ i j, i < nr → j < nr → i ≠ j → RA i + 174 ≤ RA j ∨ RA j + 174 ≤ RA i) ∧ (∀ i j, i < nc → j < nc → i ≠ j → CA i + 38 ≤ CA j ∨ CA j + 38 ≤ CA i) ∧ (∀ i j, i < nr → j < nc → RA i + 174 ≤ CA j ∨ CA j + 38 ≤ RA i)
def mX_B (o : Nat) (RA CA : Nat → Nat) (a : aN) (h : on_H) : Prop := h (o + 1) = some (on_aq 13 6 (rf a.nr RA)) ∧ (∃ SD, h (o + 2) = some (on_al 1 2 SD) ∧ ∀ i, i < a.nk → SD i = (a.k i).se) ∧ (∃ DR, h (o + 3) = some (on_ai 0 2 DR) ∧ ∀ i, i < 2 → DR i = if i < a.nk then (a.k i).dr else 0) ∧ (∃ NU, h (o + 4) = some (on_ai 0 2 NU) ∧ ∀ i, i < 2 → NU i = if i < a.nk then nI (a.k i).nu else 0) ∧ h (o + 5) = some (on_aq 14 6 (rf a.nc CA))
def mX (o sz : Nat) (RA CA : Nat → Nat) (a : aN) (h : on_H) : Prop := mw o (nI a.nr, nI a.nk, nI a.nc) h ∧ mk_L o a.lk h ∧ mX_B o RA CA a h ∧ mX_D o sz a.nr a.nc RA CA ∧ (∀ i, i < a.nr → ∃ n ord es, mr_S (RA i) (a.r i) n ord es h ∧ mr_I (RA i) (a.r i).en n ord es) ∧ (∀ i, i < a.nc → mq_S (CA i) (a.c i) h ∧ (a.c i).hp ≤ 3)
/-- what is the reference's -/
def m_own (o nr nc : Nat) (RA CA : Nat → Nat) (b : Nat) : Prop := (o ≤ b ∧ b < o + 42) ∨ (∃ i, i < nr ∧ RA i ≤ b ∧ b < RA i + 174) ∨ ∃ i, i < nc ∧ CA i ≤ b ∧ b < CA i + 38
def m_fr (o nr nc : Nat) (RA CA : Nat → Nat) (h h1 : on_H) : Prop := ∀ b, ¬ m_own o nr nc RA CA b → h1 b = h b
theorem m_fr.trans {o nr nc : Nat} {RA CA : Nat → Nat} {h h1 h2 : on_H} (a : m_fr o nr nc RA CA h h1) (b : m_fr o nr nc RA CA h1 h2) : m_fr o nr nc RA CA h h2 := fun d c1 => (b d c1).trans (a d c1)
theorem m_fr.id {o nr nc : Nat} {RA CA : Nat → Nat} {h : on_H} : m_fr o nr nc RA CA h h := fun _ _ => rfl
theorem mX_B.keep {o : Nat} {RA CA : Nat → Nat} {a : aN} {h h1 : on_H} (K : mX_B o RA CA a h) (e : ∀ b, o < b → b < o + 6 → h1 b = h b) : mX_B o RA CA a h1 := by
  obtain ⟨k1, ⟨SD, k2, k2'⟩, ⟨DR, k3, k3'⟩, ⟨NU, k4, k4'⟩, k5⟩ := K
  exact ⟨(e _ (by omega) (by omega)).trans k1, ⟨SD, (e _ (by omega) (by omega)).trans k2, k2'⟩, ⟨DR, (e _ (by omega) (by omega)).trans k3, k3'⟩, ⟨NU, (e _ (by omega) (by omega)).trans k4, k4'⟩, (e _ (by omega) (by omega)).trans k5⟩
section MXS
variable {o sz i : Nat} {RA CA : Nat → Nat} {a : aN} {h h1 : on_H} {lk2 : Nat → List aB}
theorem rf_at {n j : Nat} {A : Nat → Nat} (hj : j < n) : rf n A j = some (A j) := if_pos hj
/-- only working rows and links have changed -/
theorem mX.wk (X : mX o sz RA CA a h) (W : mw o (nI a.nr, nI a.nk, nI a.nc) h1) (L : mk_L o lk2 h1) (t : ∀ b, (b < o ∨ o + 42 ≤ b ∨ o < b ∧ b < o + 6) → h1 b = h b) : mX o sz RA CA (n_lk a lk2) h1 ∧ m_fr o a.nr a.nc RA CA h h1 := by
  obtain ⟨x1, x2, x3, x4, x5, x6⟩ := X
  refine ⟨⟨W, L, x3.keep (fun b _ _ => t b (by omega)), x4, fun i hi => ?_, fun i hi => ?_⟩, fun b hb => t b ?_⟩
  · obtain ⟨n, ord, es, y1, y2⟩ := x5 i hi
    have := x4.2.1 i hi
    exact ⟨n, ord, es, y1.keep y2 (fun b _ _ => t b (by omega)), y2⟩
  · have := x4.2.2.1 i hi
    exact ⟨(x6 i hi).1.keep (x6 i hi).2 (fun b _ _ => t b (by omega)), (x6 i hi).2⟩
  · rcases Nat.lt_or_ge b o with z | z
    · exact Or.inl z
    · rcases Nat.lt_or_ge b (o + 42) with w | w
      · exact absurd (Or.inl ⟨z, w⟩) hb
      · exact Or.inr (Or.inl w)
theorem mX.toR (X : mX o sz RA CA a h) (hi : i < a.nr) (h6 : a.nr ≤ 6) : ∃ n ord es, mR o (RA i) i (nI a.nr, nI a.nk, nI a.nc) (rf a.nr RA) a.lk (a.r i) n ord es h := by
  obtain ⟨x1, x2, x3, x4, x5, x6⟩ := X
  obtain ⟨n, ord, es, y1, y2⟩ := x5 i hi
  exact ⟨n, ord, es, x1, x2, y1, y2, x3.1, rf_at hi, Or.inr (x4.2.1 i hi).1, by omega⟩
theorem mX.ofR {r : aR} {n : Nat} {ord es : Nat → Nat} (X : mX o sz RA CA a h) (hi : i < a.nr) (Y : mR o (RA i) i (nI a.nr, nI a.nk, nI a.nc) (rf a.nr RA) lk2 r n ord es h1) (f : mf_R o (RA i) h h1) : mX o sz RA CA (a.nr, fu a.r i r, a.nk, a.k, a.nc, a.c, lk2) h1 ∧ m_fr o a.nr a.nc RA CA h h1 := by
  obtain ⟨x1, x2, x3, x4, x5, x6⟩ := X
  obtain ⟨y1, y2, y3, y4, y5, y6, y7, y8⟩ := Y
  have ri := x4.2.1 i hi
  refine ⟨⟨y1, y2, x3.keep (fun b _ _ => f b (by omega) (by omega)), x4, fun j hj => ?_, fun j hj => ?_⟩, fun b hb => f b ?_ ?_⟩
  · by_cases z : j = i
    · show ∃ n ord es, mr_S (RA j) (fu a.r i r j) n ord es h1 ∧ mr_I (RA j) (fu a.r i r j).en n ord es
      rw [z, fu_s]
      exact ⟨n, ord, es, y3, y4⟩
    · obtain ⟨n, ord, es, z1, z2⟩ := x5 j hj
      have rj := x4.2.1 j hj
      have ap := x4.2.2.2.1 j i hj hi z
      show ∃ n ord es, mr_S (RA j) (fu a.r i r j) n ord es h1 ∧ mr_I (RA j) (fu a.r i r j).en n ord es
      rw [fu_n z]
      exact ⟨n, ord, es, z1.keep z2 (fun b _ _ => f b (by omega) (by omega)), z2⟩
  · have cj := x4.2.2.1 j hj
    have ap := x4.2.2.2.2.2 i j hi hj
    exact ⟨(x6 j hj).1.keep (x6 j hj).2 (fun b _ _ => f b (by omega) (by omega)), (x6 j hj).2⟩
  · rcases Nat.lt_or_ge b o with z | z
    · exact Or.inl z
    · rcases Nat.lt_or_ge b (o + 42) with w | w
      · exact absurd (Or.inl ⟨z, w⟩) hb
      · exact Or.inr (Or.inl (by omega))
  · rcases Nat.lt_or_ge b (RA i) with z | z
    · exact Or.inl z
    · rcases Nat.lt_or_ge b (RA i + 174) with w | w
      · exact absurd (Or.inr (Or.inl ⟨i, hi, z, w⟩)) hb
      · exact Or.inr w
/-- circuit i, and its client -/
theorem mX.toC (X : mX o sz RA CA a h) (hi : i < a.nc) (hk : (a.c i).cl < a.nk) (h2 : a.nk ≤ 2) : ∃ SD DR, mC o (CA i) (a.c i).cl a.nr (nI a.nr, nI a.nk, nI a.nc) (rf a.nr RA) a.r SD DR a.lk (a.c i) (a.k (a.c i).cl) h ∧ (∀ j, j < 2 → DR j = if j < a.nk then (a.k j).dr else 0) ∧ ∀ j, j < a.nk → SD j = (a.k j).se := by
  obtain ⟨x1, x2, ⟨b1, ⟨SD, b2, b2'⟩, ⟨DR, b3, b3'⟩, ⟨NU, b4, b4'⟩, b5⟩, x4, x5, x6⟩ := X
  refine ⟨SD, DR, ⟨x1, x2, (x6 i hi).1, Or.inr (x4.2.2.1 i hi).1, b1, fun j hj => ?_, ⟨b2, b2' _ hk⟩, ?_, rfl, by omega, (x6 i hi).2⟩, b3', b2'⟩
  · obtain ⟨n, ord, es, z1, z2⟩ := x5 j hj
    have rj := x4.2.1 j hj
    exact ⟨RA j, rf_at hj, ⟨⟨_, _, _, _, _, z1.1⟩, z1.2.2.1, z1.2.2.2.1⟩, Or.inr rj.1, x4.2.2.2.2.2 j i hj hi⟩
  · rw [b3]
    refine congrArg some (congrArg (on_ai 0 2) (funext fun j => ?_))
    by_cases z : j = (a.c i).cl
    · rw [z, pk_us, b3' _ (by omega), if_pos hk]
    · rw [pk_un z]
theorem mX.ofC {q : aC} {k : aK} {SD : Nat → Int64} {DR : Nat → Int32} (X : mX o sz RA CA a h) (hi : i < a.nc) (hk : (a.c i).cl < a.nk) (h2 : a.nk ≤ 2) (hD : ∀ j, j < 2 → DR j = if j < a.nk then (a.k j).dr else 0) (hS : ∀ j, j < a.nk → SD j = (a.k j).se) (Z : mC o (CA i) (a.c i).cl a.nr (nI a.nr, nI a.nk, nI a.nc) (rf a.nr RA) a.r SD DR lk2 q k h1) (hn : k.nu = (a.k (a.c i).cl).nu) (f : mf_C o (CA i) h h1) : mX o sz RA CA (a.nr, a.r, a.nk, fu a.k (a.c i).cl k, a.nc, fu a.c i q, lk2) h1 ∧ m_fr o a.nr a.nc RA CA h h1 := by
  obtain ⟨x1, x2, ⟨b1, ⟨SD', b2, b2'⟩, ⟨DR', b3, b3'⟩, ⟨NU, b4, b4'⟩, b5⟩, x4, x5, x6⟩ := X
  obtain ⟨W, KL, C, k4, k5, k6, k7, k8, k9, k10, k11⟩ := Z
  have ci := x4.2.2.1 i hi
  refine ⟨⟨W, KL, ⟨k5, ⟨SD, k7.1, fun j hj => ?_⟩, ⟨_, k8, fun j hj => ?_⟩, ⟨NU, (f _ (by omega) (by omega)).trans b4, fun j hj => ?_⟩, (f _ (by omega) (by omega)).trans b5⟩, x4, fun j hj => ?_, fun j hj => ?_⟩, fun b hb => f b ?_ ?_⟩
  · show SD j = (fu a.k (a.c i).cl k j).se
    by_cases z : j = (a.c i).cl
    · rw [z, fu_s]
      exact k7.2
    · rw [fu_n z]
      exact hS j hj
  · show upd DR (a.c i).cl k.dr j = if j < a.nk then (fu a.k (a.c i).cl k j).dr else 0
    by_cases z : j = (a.c i).cl
    · rw [z, fu_s, pk_us, if_pos hk]
    · rw [fu_n z, pk_un z]
      exact hD j hj
  · show NU j = if j < a.nk then nI (fu a.k (a.c i).cl k j).nu else 0
    by_cases z : j = (a.c i).cl
    · rw [z, fu_s, if_pos hk, hn, b4' _ (by omega), if_pos hk]
    · rw [fu_n z]
      exact b4' j hj
  · obtain ⟨n, ord, es, z1, z2⟩ := x5 j hj
    have rj := x4.2.1 j hj
    have ap := x4.2.2.2.2.2 j i hj hi
    exact ⟨n, ord, es, z1.keep z2 (fun b _ _ => f b (by omega) (by omega)), z2⟩
  · show mq_S (CA j) (fu a.c i q j) h1 ∧ (fu a.c i q j).hp ≤ 3
    by_cases z : j = i
    · rw [z, fu_s]
      exact ⟨C, k11⟩
    · rw [fu_n z]
      have cj := x4.2.2.1 j hj
      have ap := x4.2.2.2.2.1 j i hj hi z
      exact ⟨(x6 j hj).1.keep (x6 j hj).2 (fun b _ _ => f b (by omega) (by omega)), (x6 j hj).2⟩
  · rcases Nat.lt_or_ge b o with z | z
    · exact Or.inl z
    · rcases Nat.lt_or_ge b (o + 42) with w | w
      · exact absurd (Or.inl ⟨z, w⟩) hb
      · exact Or.inr (Or.inl (by omega))
  · rcases Nat.lt_or_ge b (CA i) with z | z
    · exact Or.inl z
    · rcases Nat.lt_or_ge b (CA i + 38) with w | w
      · exact absurd (Or.inr (Or.inr ⟨i, hi, z, w⟩)) hb
      · exact Or.inr w
end MXS
theorem find_s {p : Nat → Bool} {j : Nat} : (List.range (j + 1)).find? p = match (List.range j).find? p with | some i => some i | none => if p j = true then some j else none := by
  rw [List.range_succ, List.find?_append]
  cases (List.range j).find? p with
  | some i => rfl
  | none =>
    show ([j] : List Nat).find? p = _
    rw [List.find?_cons]
    cases p j with
    | true => rfl
    | false => rfl
