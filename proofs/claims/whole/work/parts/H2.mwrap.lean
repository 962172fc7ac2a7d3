/-! the reference's small steps, with its working rows kept -/
theorem php : ∀ (n m : Nat) (f : Nat → Nat), (∀ k, k < m → f k < n) → (∀ j k, j < m → k < m → f j = f k → j = k) → m ≤ n
  | 0, m, f, h1, _ => by
    rcases Nat.eq_zero_or_pos m with z | z
    · omega
    · exact absurd (h1 0 z) (Nat.not_lt_zero _)
  | n + 1, 0, f, _, _ => Nat.zero_le _
  | n + 1, m + 1, f, h1, h2 => by
    have hv := h1 m (by omega)
    have ne : ∀ k, k < m → f k ≠ f m := fun k hk e => absurd (h2 k m (by omega) (by omega) e) (by omega)
    have := php n m (fun k => if f k < f m then f k else f k - 1) (fun k hk => by
      have a := h1 k (by omega)
      have b := ne k hk
      split <;> omega) (fun j k hj hk e => by
      have a := ne j hj
      have b := ne k hk
      refine h2 j k (by omega) (by omega) ?_
      split at e <;> split at e <;> omega)
    omega
theorem e_fe_n {R : Nat} {en : Nat → Option aE} {n : Nat} {ord es : Nat → Nat} (I : mr_I R en n ord es) (hs : ∀ k, k < n → ∃ e, en (ord k) = some e) : n = 12 ↔ e_fe en = none := by
  obtain ⟨i1, i2, i3, i4, i5, i6⟩ := I
  constructor
  · intro e
    subst e
    refine rf_none (fun s hs2 => ?_)
    cases z : en s with
    | some e => rfl
    | none =>
      have ne : ∀ k, k < 12 → ord k ≠ s := fun k hk e => by
        obtain ⟨x, hx⟩ := hs k hk
        rw [e, z] at hx
        cases hx
      have := php 11 12 (fun k => if ord k < s then ord k else ord k - 1) (fun k hk => by
        have a := i6 k hk
        have b := ne k hk
        split <;> omega) (fun j k hj hk e => by
        have a := ne j hj
        have b := ne k hk
        refine i4 j k hj hk ?_
        split at e <;> split at e <;> omega)
      omega
  · intro e
    have all : ∀ s, s < 12 → ∃ k, k < n ∧ ord k = s := fun s hs2 => by
      have := List.find?_eq_none.mp e s (List.mem_range.mpr hs2)
      cases z : en s with
      | none => exact absurd (by rw [z]; rfl) this
      | some x => exact i5 s x z
    have ch : ∀ s, ∃ k, s < 12 → k < n ∧ ord k = s := fun s => by
      by_cases z : s < 12
      · obtain ⟨k, hk⟩ := all s z
        exact ⟨k, fun _ => hk⟩
      · exact ⟨0, fun w => absurd w z⟩
    have := php n 12 (fun s => Classical.choose (ch s)) (fun s hs2 => (Classical.choose_spec (ch s) hs2).1) (fun s t h1 h2 e2 => by
      have a := (Classical.choose_spec (ch s) h1).2
      have b := (Classical.choose_spec (ch t) h2).2
      rw [e2, b] at a
      exact a.symm)
    omega
section MWR
variable {G : on_G} {o q s sz bc bs : Nat} {x3 : Int32 × Int32 × Int32} {h : on_H} {Q : Option Value → on_H → Nat → Prop} {k p : Nat → Nat}
theorem c_M_drawW {seed : Int64} {n : Int32} (W : mw o x3 h) (hq : rW h q 32) (hqo : q < o ∨ o + 42 ≤ q ∨ q = o + 22 ∨ q = o + 23) :
    on_Ct G M_M_draw [.ref o, .long seed, .int n, .ref q] h sz 0 0 (fun r h1 z => r = none ∧ z = sz ∧ mw o x3 h1 ∧ rB h1 q 32 (an_d seed n) ∧ ∀ a, a ≠ q → (a < o + 8 ∨ o + 11 ≤ a) → h1 a = h a) := by
  obtain ⟨R, q1⟩ := hq
  refine on_Ct.to (c_M_draw W.ob W.sa q1 (by omega) (by omega)) ?_
  rintro r h1 z ⟨e1, e2, O1, A1, ⟨R2, r1, r2⟩, t⟩
  refine ⟨e1, e2, ?_, ⟨R2, r1, r2⟩, t⟩
  have K1 : rW h1 (o + 19) 64 := W.ky.keep (t _ (by omega) (by omega))
  refine W.has (q := q) A1 (W.si.keep (fun a _ _ => t a (by omega) (by omega))) (W.st.keep (fun a _ _ => t a (by omega) (by omega))) (W.dg.keep (t _ (by omega) (by omega))) K1 (fun h2 h3 => ?_) (by omega) (fun a h1 h2 h3 h4 => t a h1 (by omega))
  rcases (show q = o + 22 ∨ q = o + 23 by omega) with rfl | rfl
  · rw [show o + 22 - o = 22 by omega]; exact ⟨R2, r1⟩
  · rw [show o + 23 - o = 23 by omega]; exact ⟨R2, r1⟩
theorem c_M_baseW (W : mw o x3 h) :
    on_Ct G M_M_base [.ref o] h sz 0 0 (fun r h1 z => r = none ∧ z = sz ∧ mw o x3 h1 ∧ rB h1 (o + 21) 32 bs_p ∧ ∀ a, a ≠ o + 21 → h1 a = h a) := by
  obtain ⟨P, p1⟩ := W.pt
  refine on_Ct.to (c_M_base W.ob.1 p1) ?_
  rintro r h1 z ⟨e1, e2, T, rfl, hT⟩
  have t : ∀ a, a ≠ o + 21 → on_up h (o + 21) (on_ai 0 32 T) a = h a := fun a ha => on_up_ne ha
  exact ⟨e1, e2, W.row (q := o + 21) (fun _ _ => by rw [show o + 21 - o = 21 by omega]; exact ⟨T, on_up_eq _ _ _⟩) (by omega) t, ⟨T, on_up_eq _ _ _, fun i hi => ⟨hT i hi, bs_lt i⟩⟩, t⟩
/-- the limbs have been written, and a row -/
theorem mw.lim {h1 : on_H} (W : mw o x3 h) (C : ∃ c, mc_S o x3 c h1) (hr : o ≤ q → q < o + 42 → rW h1 q (mw_n (q - o))) (hq : q < o ∨ o + 42 ≤ q ∨ (o + 18 ≤ q ∧ q < o + 29) ∨ q = o + 41) (e : ∀ a, a ≠ q → (a < o + 29 ∨ o + 41 ≤ a) → h1 a = h a) : mw o x3 h1 := by
  have K2 : mw o x3 (fun a => if o + 29 ≤ a ∧ a < o + 41 then h a else h1 a) := W.row (q := q) (fun a1 a2 => by
      obtain ⟨f, hf⟩ := hr a1 a2
      refine ⟨f, ?_⟩
      dsimp only
      rw [if_neg (by omega)]
      exact hf) hq (fun a ha => by
      split
      · rfl
      · exact e a ha (by omega))
  obtain ⟨k1, k2, k3, k4, k5, k6, k7, k8, k9, k10, k11, k12, k13, k14, k15, k16, k17⟩ := K2
  have g : ∀ a, (a < o + 29 ∨ o + 41 ≤ a) → h1 a = (fun a => if o + 29 ≤ a ∧ a < o + 41 then h a else h1 a) a := fun a ha => by
    dsimp only
    rw [if_neg (by omega)]
  exact ⟨k1.keep (g _ (by omega)) (g _ (by omega)), k2.keep (fun a _ _ => g a (by omega)), k3.keep (fun a _ _ => g a (by omega)), k4.keep (fun a _ _ => g a (by omega)), k5.keep (g _ (by omega)), k6.keep (g _ (by omega)), k7.keep (g _ (by omega)), k8.keep (g _ (by omega)), k9.keep (g _ (by omega)), k10.keep (g _ (by omega)), k11.keep (g _ (by omega)), k12.keep (g _ (by omega)), k13.keep (g _ (by omega)), k14.keep (g _ (by omega)), k15.keep (g _ (by omega)), C, k17.keep (g _ (by omega))⟩
theorem c_M_curveW {b : Nat} (W : mw o x3 h) (hs : rB h s 32 k) (hso : s < o + 29 ∨ o + 41 ≤ s) (hb : rB h b 32 p) (hq : rW h q 32) (hqo : q < o ∨ o + 42 ≤ q ∨ q = o + 22 ∨ q = o + 23) :
    on_Ct G M_M_curve [.ref o, .ref s, .ref b, .ref q] h sz 0 0 (fun r h1 z => r = none ∧ z = sz ∧ mw o x3 h1 ∧ rB h1 q 32 (nb (cv_x k p)) ∧ ∀ a, a ≠ q → (a < o + 29 ∨ o + 41 ≤ a) → h1 a = h a) := by
  obtain ⟨R, q1⟩ := hq
  obtain ⟨c, C⟩ := W.li
  obtain ⟨F, f1, f2⟩ := hs
  obtain ⟨P, p1, p2⟩ := hb
  refine on_Ct.to (c_M_curve C f1 hso (by decide) (fun i hi => (f2 i hi).1) (fun i hi => (f2 i hi).2) p1 (by decide) (fun i hi => (p2 i hi).1) (fun i hi => (p2 i hi).2) q1 (by decide) (by omega)) ?_
  rintro r h1 z ⟨e1, e2, C1, r1, t⟩
  refine ⟨e1, e2, W.lim (q := q) C1 (fun h2 h3 => ?_) (by omega) t, ⟨_, r1, fun i hi => ⟨?_, nb_lt _ _⟩⟩, t⟩
  · rcases (show q = o + 22 ∨ q = o + 23 by omega) with rfl | rfl
    · rw [show o + 22 - o = 22 by omega]; exact ⟨_, r1⟩
    · rw [show o + 23 - o = 23 by omega]; exact ⟨_, r1⟩
  · have := wr_in (R := R) (rat := 0) (V := cv_x k p) hi
    rw [Nat.zero_add] at this
    exact this
theorem c_M_keyNameW {tag : Nat} (W : mw o x3 h) (ht : tag < 256) :
    on_Ct G M_M_keyName [.ref o, .int (nI tag)] h sz 0 0 (fun r h1 z => r = none ∧ z = sz ∧ mw o x3 h1 ∧ (∃ T, h1 (o + 19) = some (on_ai 0 64 T) ∧ on_by T (nt_b tag) 9) ∧ ∀ a, a ≠ o + 19 → h1 a = h a) := by
  obtain ⟨P, p1⟩ := W.ky
  refine on_Ct.to (c_M_keyName W.ob.1 p1 ht) ?_
  rintro r h1 z ⟨e1, e2, T, rfl, hT⟩
  have t : ∀ a, a ≠ o + 19 → on_up h (o + 19) (on_ai 0 64 T) a = h a := fun a ha => on_up_ne ha
  exact ⟨e1, e2, W.row (q := o + 19) (fun _ _ => by rw [show o + 19 - o = 19 by omega]; exact ⟨T, on_up_eq _ _ _⟩) (by omega) t, ⟨T, on_up_eq _ _ _, hT⟩, t⟩
theorem c_M_macW {n kl : Nat} {K T : Nat → Int32} {k0 t : Nat → Nat} (W : mw o x3 h) (hk : h (o + 19) = some (on_ai 0 64 K)) (hkl : kl ≤ 64) (hK : on_by K k0 kl) (ht : h (o + 20) = some (on_ai 0 256 T)) (hn : n ≤ 256) (hT : on_by T t n) (hq : rW h q 32) (hqo : q < o ∨ o + 42 ≤ q ∨ q = o + 22 ∨ q = o + 23) :
    on_Ct G M_M_mac [.ref o, .int (nI kl), .int (nI n), .ref q] h sz 0 0 (fun r h1 z => r = none ∧ z = sz ∧ mw o x3 h1 ∧ rB h1 q 32 (hm k0 kl t n) ∧ ∀ a, a ≠ q → (a < o + 8 ∨ (o + 14 ≤ a ∧ a ≠ o + 18 ∧ a ≠ o + 19)) → h1 a = h a) := by
  obtain ⟨R, q1⟩ := hq
  obtain ⟨D, d1⟩ := W.dg
  refine on_Ct.to (c_M_mac W.ob W.sa W.si hk hkl hK ht hn hT d1 q1 (by omega)) ?_
  rintro r h1 z ⟨e1, e2, O1, A1, B1, ⟨K2, k2, -⟩, ⟨D2, d2⟩, ⟨R2, r1, r2⟩, t⟩
  exact ⟨e1, e2, W.mac A1 B1 ⟨K2, k2⟩ ⟨D2, d2⟩ ⟨R2, r1⟩ hqo t, ⟨R2, r1, r2⟩, t⟩
end MWR
