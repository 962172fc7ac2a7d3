/-! both sides in one heap -/
def m_pc (a : aN) : Nat := (6 - a.nr) * 174 + (6 - a.nc) * 38
def m_ps (a : aN) : Nat := (6 - a.nr) * 5083 + (6 - a.nc) * 10334
def lw_J (o p sz : Nat) (L : nL) (RA CA : Nat → Nat) (B : Nat) (a : aN) (h : on_H) : Prop := n_X o sz L a [] h ∧ mX p sz RA CA a h ∧ n_V B a ∧ ∀ b, m_own p a.nr a.nc RA CA b → b < sz ∧ L.ow b = 2
section LWJ
variable {o p sz z z2 B B2 : Nat} {L : nL} {RA CA : Nat → Nat} {a a2 : aN} {h h1 h2 : on_H}
theorem mX.lt (X : mX p sz RA CA a h) {b : Nat} (hb : m_own p a.nr a.nc RA CA b) : b < sz := by
  obtain ⟨x1, x2, x3, x4, x5, x6⟩ := X
  rcases hb with hb | ⟨i, hi, hb⟩ | ⟨i, hi, hb⟩
  · have := x4.1
    omega
  · have := x4.2.1 i hi
    omega
  · have := x4.2.2.1 i hi
    omega
/-- nothing of the reference has changed -/
theorem mX.frn (X : mX p sz RA CA a h) (hz : sz ≤ z) (e : ∀ b, m_own p a.nr a.nc RA CA b → h1 b = h b) : mX p z RA CA a h1 := by
  obtain ⟨x1, x2, x3, ⟨d1, d2, d3, d4, d5, d6⟩, x5, x6⟩ := X
  refine ⟨x1.keep (fun b b1 b2 _ => e b (Or.inl ⟨b1, b2⟩)), x2.keep (e _ (Or.inl ⟨by omega, by omega⟩)) (e _ (Or.inl ⟨by omega, by omega⟩)), x3.keep (fun b b1 b2 => e b (Or.inl ⟨by omega, by omega⟩)), ⟨by omega, fun i hi => ?_, fun i hi => ?_, d4, d5, d6⟩, fun i hi => ?_, fun i hi => ?_⟩
  · have := d2 i hi
    omega
  · have := d3 i hi
    omega
  · obtain ⟨n, ord, es, y1, y2⟩ := x5 i hi
    exact ⟨n, ord, es, y1.keep y2 (fun b b1 b2 => e b (Or.inr (Or.inl ⟨i, hi, b1, b2⟩))), y2⟩
  · exact ⟨(x6 i hi).1.keep (x6 i hi).2 (fun b b1 b2 => e b (Or.inr (Or.inr ⟨i, hi, b1, b2⟩))), (x6 i hi).2⟩
/-- nothing of the class has changed; new cells aren't its own -/
theorem n_X.frn (X : n_X o sz L a [] h) (hz : sz ≤ z) (e : ∀ b, b < sz → ¬ L.ow b = 2 → h1 b = h b) : n_X o z (L.ra, L.ka, L.ca, L.la, L.sa, L.A, fun b => if b < sz then L.ow b else 2) a [] h1 := by
  obtain ⟨⟨b1, b2, b3, b4, b5, b6, b7, b8, b9⟩, ⟨u1, u2, u3, u4, u5, u6, u7⟩, P, K⟩ := id X
  have eb : ∀ b, o ≤ b → b < o + 44 → h1 b = h b := fun b c1 c2 => e b (by omega) (by rw [u2 b c1 c2]; decide)
  refine ⟨⟨(eb _ (by omega) (by omega)).trans b1, (eb _ (by omega) (by omega)).trans b2, (eb _ (by omega) (by omega)).trans b3, (eb _ (by omega) (by omega)).trans b4, (eb _ (by omega) (by omega)).trans b5, b6.keep (fun b _ _ => eb b (by omega) (by omega)), b7.keep (fun b _ _ => eb b (by omega) (by omega)), b8.keep (eb _ (by omega) (by omega)), b9.keep (eb _ (by omega) (by omega))⟩, ⟨by omega, u2.nw u1, fun i hi => ?_, fun i hi => ?_, fun i hi => ?_, u6, fun j hj ej => ?_⟩, ?_, ?_⟩
  · obtain ⟨c1, c2, c3⟩ := u3 i hi
    exact ⟨c1, (show L.ra i + 260 ≤ z by omega), c3.nw c2⟩
  · obtain ⟨c1, c2, c3⟩ := u4 i hi
    exact ⟨c1, (show L.ka i + 2 ≤ z by omega), c3.nw c2⟩
  · obtain ⟨c1, c2, c3, c4, c5, c6, c7⟩ := u5 i hi
    exact ⟨c1, (show L.ca i + 7 ≤ z by omega), c3.nw c2, fun j hj => ⟨(show L.la i j + 16 ≤ z by have := (c4 j hj).1; omega), (c4 j hj).2.nw (c4 j hj).1⟩, fun j hj => ⟨(show L.sa i j + 3 ≤ z by have := (c5 j hj).1; omega), (c5 j hj).2.nw (c5 j hj).1⟩, c6, c7⟩
  · exact ⟨(show L.A j + 2 ≤ z by have := (u7 j hj ej).1; omega), (u7 j hj ej).2.nw (u7 j hj ej).1⟩
  · show nw_P o L a h1
    exact nw_P.keep X.2.1 P (fun b c1 c2 => e b c1 (by omega))
  · show lks_S (n_ex a.nr a.nk) L.A a.lk h1
    exact K.kp (lo := 0) (fun b kb => by
      obtain ⟨k1, k2, k3⟩ := X.2.1.lk kb
      exact e b k1 (by omega))
/-- the class has answered -/
theorem lw_J.cls (J : lw_J o p sz L RA CA B a h) (R : n_R o sz z L a2 h h1) : mX p z RA CA a h1 := by
  obtain ⟨L2, X2, hz, e1, e2⟩ := R
  exact J.2.1.frn hz (fun b hb => e2 b (J.2.2.2 b hb).1 (J.2.2.2 b hb).2)
/-- both have -/
theorem lw_J.ref (J : lw_J o p sz L RA CA B a h) (R : n_R o sz z L a2 h h1) (R2 : m_R p z z2 RA CA a a2 h1 h2) (V2 : n_V B2 a2) : ∃ L3 RA2 CA2, lw_J o p z2 L3 RA2 CA2 B2 a2 h2 := by
  obtain ⟨L2, X2, hz, e1, e2⟩ := R
  obtain ⟨RA2, CA2, hz2, Y2, f1, f2⟩ := R2
  have own : ∀ b, m_own p a.nr a.nc RA CA b → L2.ow b = 2 := fun b hb => (e1 b (J.2.2.2 b hb).1).trans (J.2.2.2 b hb).2
  refine ⟨_, RA2, CA2, X2.frn hz2 (fun b c1 c2 => f1 b c1 (fun w => c2 (own b w))), Y2, V2, fun b hb => ⟨Y2.lt hb, ?_⟩⟩
  show (if b < z then L2.ow b else 2) = 2
  by_cases w : b < z
  · rw [if_pos w]
    exact own b (f2 b w hb)
  · exact if_neg w
theorem lw_J.up (J : lw_J o p sz L RA CA B a h) (hB : B ≤ B2) : lw_J o p sz L RA CA B2 a h := ⟨J.1, J.2.1, J.2.2.1.up hB, J.2.2.2⟩
/-- a call by which the reference makes no cell -/
theorem m_pc_le (e1 : a2.nr = a.nr) (e2 : a2.nc = a.nc) : m_pc a2 = m_pc a ∧ m_ps a2 = m_ps a := by
  unfold m_pc m_ps
  rw [e1, e2]
  exact ⟨rfl, rfl⟩
end LWJ
section QNR
variable {a : aN} {x y w i m : Int32} {seed : Int64}
theorem q_weigh_n : (q_weigh a x w).2.nr = a.nr ∧ (q_weigh a x w).2.nc = a.nc := by
  unfold q_weigh
  split
  · exact ⟨rfl, rfl⟩
  · split <;> exact ⟨rfl, rfl⟩
theorem q_drop_n : (q_drop a x y).2.nr = a.nr ∧ (q_drop a x y).2.nc = a.nc := by
  unfold q_drop
  split
  · exact ⟨rfl, rfl⟩
  · split <;> exact ⟨rfl, rfl⟩
theorem q_alter_n : (q_alter a x y i m).2.nr = a.nr ∧ (q_alter a x y i m).2.nc = a.nc := by
  unfold q_alter
  split
  · exact ⟨rfl, rfl⟩
  · split
    · exact ⟨rfl, rfl⟩
    · split
      · exact ⟨rfl, rfl⟩
      · split <;> exact ⟨rfl, rfl⟩
theorem q_deliver_n : (q_deliver a x y).2.nr = a.nr ∧ (q_deliver a x y).2.nc = a.nc := by
  unfold q_deliver
  split
  · exact ⟨rfl, rfl⟩
  · split
    · exact ⟨rfl, rfl⟩
    · exact n_ho_n3
theorem q_put_n : (q_put a x y w).2.nr = a.nr ∧ (q_put a x y w).2.nc = a.nc := by
  unfold q_put
  split
  · exact ⟨rfl, rfl⟩
  · dsimp only
    split <;> exact ⟨rfl, rfl⟩
theorem q_destroy_n : (q_destroy a x).2.nr = a.nr ∧ (q_destroy a x).2.nc = a.nc := by
  unfold q_destroy
  split
  · exact ⟨rfl, rfl⟩
  · split <;> exact ⟨rfl, rfl⟩
theorem q_client_n : (q_client a seed).2.nr = a.nr ∧ (q_client a seed).2.nc = a.nc := by
  unfold q_client
  split <;> exact ⟨rfl, rfl⟩
theorem q_close_n : (q_close a x y).2.nr = a.nr ∧ (q_close a x y).2.nc = a.nc := by
  unfold q_close
  split
  · exact ⟨rfl, rfl⟩
  · dsimp only
    split <;> exact ⟨rfl, rfl⟩
theorem q_push_n : (q_push a x y).2.nr = a.nr ∧ (q_push a x y).2.nc = a.nc := by
  unfold q_push
  split
  · exact ⟨rfl, rfl⟩
  · dsimp only
    split <;> exact ⟨rfl, rfl⟩
theorem q_stream_n : (q_stream a x y).2.nr = a.nr ∧ (q_stream a x y).2.nc = a.nc := by
  unfold q_stream
  split
  · exact ⟨rfl, rfl⟩
  · split
    · exact ⟨rfl, rfl⟩
    · split <;> exact ⟨rfl, rfl⟩
theorem q_relay_m : m_pc (q_relay a seed).2 ≤ m_pc a ∧ m_ps (q_relay a seed).2 ≤ m_ps a ∧ (a.nr < 6 → 174 ≤ m_pc a - m_pc (q_relay a seed).2 ∧ 5083 ≤ m_ps a - m_ps (q_relay a seed).2) := by
  unfold q_relay
  split
  next h =>
    have e1 : m_pc (a.nr + 1, fu a.r a.nr (seed, 0, 10, 1000, (fun _ => none), []), a.nk, a.k, a.nc, a.c, a.lk) + 174 = m_pc a := by
      show (6 - (a.nr + 1)) * 174 + (6 - a.nc) * 38 + 174 = (6 - a.nr) * 174 + (6 - a.nc) * 38
      omega
    have e2 : m_ps (a.nr + 1, fu a.r a.nr (seed, 0, 10, 1000, (fun _ => none), []), a.nk, a.k, a.nc, a.c, a.lk) + 5083 = m_ps a := by
      show (6 - (a.nr + 1)) * 5083 + (6 - a.nc) * 10334 + 5083 = (6 - a.nr) * 5083 + (6 - a.nc) * 10334
      omega
    dsimp only at *
    omega
  next h => exact ⟨Nat.le_refl _, Nat.le_refl _, fun w => absurd w h⟩
/-- of a call to circuit: what it answers is decided, or it makes one -/
theorem q_circuit_m {cl z : Int32} : m_pc (q_circuit a cl x y z).2 ≤ m_pc a ∧ m_ps (q_circuit a cl x y z).2 ≤ m_ps a ∧ ((q_circuit a cl x y z).2.nc = a.nc + 1 → a.nc < 6 → m_pc a - m_pc (q_circuit a cl x y z).2 = 38 ∧ m_ps a - m_ps (q_circuit a cl x y z).2 = 10334) := by
  unfold q_circuit
  split
  · exact ⟨Nat.le_refl _, Nat.le_refl _, fun w => absurd w (by show ¬ a.nc = a.nc + 1; omega)⟩
  next k e =>
    split
    next w =>
      have e1 : ∀ (c : aN), c.nr = a.nr → c.nc = a.nc + 1 → m_pc c + 38 = m_pc a ∧ m_ps c + 10334 = m_ps a := fun c c1 c2 => by
        unfold m_pc m_ps
        rw [c1, c2]
        have := w.1
        omega
      have e2 := e1 (n_lk (n_nw a k (q_pa x y z)) (n_sd (8 + k) a.lk [((q_pa x y z).getD 0 0, ce_k (nI ((a.k k).nu + 1)) 10 (of_b (a.r ((q_pa x y z).getD 0 0)).se (an_d (a.k k).se (a.k k).dr)) 68)])) rfl rfl
      dsimp only at *
      omega
    next w => exact ⟨Nat.le_refl _, Nat.le_refl _, fun u => absurd u (by show ¬ a.nc = a.nc + 1; omega)⟩
end QNR
