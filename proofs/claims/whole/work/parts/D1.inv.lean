/-! what holds of the state of the network: relays -/
/-- a node is there -/
def n_pr (nr nk x : Nat) : Bool := decide (x < nr) || (decide (8 ≤ x) && decide (x < 8 + nk))
/-- a link is there -/
def n_ex (nr nk j : Nat) : Bool := n_pr nr nk (j / 10) && n_pr nr nk (j % 10) && decide (j / 10 ≠ j % 10)
theorem n_ex_at {nr nk x y : Nat} (hy : y < 10) : n_ex nr nk (10 * x + y) = (n_pr nr nk x && n_pr nr nk y && decide (x ≠ y)) := by
  unfold n_ex
  rw [show (10 * x + y) / 10 = x by omega, show (10 * x + y) % 10 = y by omega]
theorem n_pr_r {nr nk x : Nat} (h : x < nr) : n_pr nr nk x = true := by
  unfold n_pr
  rw [decide_eq_true h]
  rfl
theorem n_ex_r {nr nk x y : Nat} (hnr : nr ≤ 6) (hx : x < nr) (hy : y < nr) (ne : y ≠ x) : y < 10 ∧ n_ex nr nk (10 * x + y) = true := by
  refine ⟨by omega, ?_⟩
  rw [n_ex_at (by omega), n_pr_r hx, n_pr_r hy, decide_eq_true (show x ≠ y from fun z => ne z.symm)]
  rfl
/-- how long a direction has become -/
def lz (l : aL) : Nat := max l.ms.length l.pos
theorem lz_ms (l : aL) : l.ms.length ≤ lz l := Nat.le_max_left _ _
theorem lz_po (l : aL) : l.pos ≤ lz l := Nat.le_max_right _ _
theorem lz_le {l : aL} {B : Nat} (h1 : l.ms.length ≤ B) (h2 : l.pos ≤ B) : lz l ≤ B := Nat.max_le.mpr ⟨h1, h2⟩
theorem rc_len {ms : List Nat} {x : aB} : (rc_m ms x).length = ms.length + 135 := by
  unfold rc_m
  rw [List.length_append, sp_sl_len]
theorem bk_len {l : aL} {cmd n m : Nat} {d : Nat → Nat} : lz (bk_l l cmd n m d) = lz l + 135 := by
  show max (l.ms ++ sp_sl (mk_c cmd n m d) 5 135).length (l.pos + 135) = max l.ms.length l.pos + 135
  rw [List.length_append, sp_sl_len]
  omega
theorem lz_rc (l : aL) (x : aB) : lz (rc_l (cv_l l) x) ≤ lz l + 135 := by
  have h1 := lz_ms l
  have h2 := lz_po l
  exact lz_le (show (rc_m l.ms x).length ≤ _ by rw [rc_len]; omega) (show l.pos + 135 ≤ _ by omega)
theorem lz_cv (l : aL) : lz (cv_l l) ≤ lz l + 135 := by
  have h1 := lz_ms l
  have h2 := lz_po l
  exact lz_le (show l.ms.length ≤ _ by omega) (show l.pos + 135 ≤ _ by omega)
theorem ks_f_len (tx : Nat → Nat) : lz (ks_f tx) = 32 := by
  show max (sp_sl _ 0 32).length 0 = 32
  rw [sp_sl_len]
  rfl
theorem ks_b_len (tx : Nat → Nat) : lz (ks_b tx) = 32 := by
  show max (sp_sl _ 0 32).length 0 = 32
  rw [sp_sl_len]
  rfl
/-- an entry of relay self -/
def e_ok (nr nk self B nx : Nat) (e : aE) : Prop := (e.fr < 10 ∧ n_ex nr nk (10 * self + e.fr) = true) ∧ (∀ q, e.on = some q → q.1 < nr ∧ q.1 ≠ self ∧ q.2 < nx) ∧ lz e.fw ≤ B ∧ lz e.bw ≤ B
/-- a relay -/
def r_ok (nr nk self B : Nat) (r : aR) : Prop := r.we ≤ 1000 ∧ r.nx ≤ 1000 + B ∧ (∀ j e, r.en j = some e → e_ok nr nk self B r.nx e) ∧ (∀ j k e f, r.en j = some e → r.en k = some f → e.fr = f.fr → e.fn = f.fn → j = k) ∧ (∀ j k e f p q, r.en j = some e → r.en k = some f → e.on = some p → f.on = some q → p.2 = q.2 → j = k) ∧ (∀ j, 12 ≤ j → r.en j = none)
/-- what a node may send -/
def m_ok (nr nk self : Nat) (L : aO) : Prop := L.length ≤ 4 ∧ ∀ q, q ∈ L → q.1 < 10 ∧ n_ex nr nk (10 * self + q.1) = true
/-- behind a step of a relay -/
def r_go (nr nk self B : Nat) (r : aR) (p : aR × aO) : Prop := r_ok nr nk self (B + 540) p.1 ∧ p.1.se = r.se ∧ m_ok nr nk self p.2
section RINV
variable {nr nk self B s : Nat} {r : aR} {e e2 : aE} {L : aO}
theorem e_ok.up {nx nx2 B2 : Nat} (k : e_ok nr nk self B nx e) (h1 : nx ≤ nx2) (h2 : B ≤ B2) : e_ok nr nk self B2 nx2 e := by
  obtain ⟨k1, k2, k3, k4⟩ := k
  exact ⟨k1, fun q hq => ⟨(k2 q hq).1, (k2 q hq).2.1, by have := (k2 q hq).2.2; omega⟩, by omega, by omega⟩
theorem r_ok.up {B2 : Nat} (k : r_ok nr nk self B r) (h : B ≤ B2) : r_ok nr nk self B2 r := by
  obtain ⟨k1, k2, k3, k4⟩ := k
  exact ⟨k1, by omega, fun j e he => (k3 j e he).up (Nat.le_refl _) h, k4⟩
theorem m_nil : m_ok nr nk self [] := ⟨Nat.zero_le _, fun q hq => nomatch hq⟩
theorem m_one {q : Nat × aB} (h : q.1 < 10 ∧ n_ex nr nk (10 * self + q.1) = true) : m_ok nr nk self [q] := ⟨by show 1 ≤ 4; omega, fun p hp => by cases List.mem_singleton.mp hp; exact h⟩
theorem m_two {q p : Nat × aB} (h : q.1 < 10 ∧ n_ex nr nk (10 * self + q.1) = true) (h2 : p.1 < 10 ∧ n_ex nr nk (10 * self + p.1) = true) : m_ok nr nk self [q, p] := ⟨by show 2 ≤ 4; omega, fun w hw => by
  rcases List.mem_cons.mp hw with z | z
  · rw [z]; exact h
  · rw [List.mem_singleton.mp z]; exact h2⟩
theorem r_ok.same (R : r_ok nr nk self B r) (hL : m_ok nr nk self L) : r_go nr nk self B r (r, L) := ⟨R.up (by omega), rfl, hL⟩
/-- an entry is changed, not its numbers -/
theorem r_ok.set {dr : Int32} {ke : List Nat} (R : r_ok nr nk self B r) (he : r.en s = some e) (h1 : e2.fr = e.fr) (h2 : e2.fn = e.fn) (h3 : e2.on = e.on) (h4 : lz e2.fw ≤ lz e.fw + 540) (h5 : lz e2.bw ≤ lz e.bw + 540) (hL : m_ok nr nk self L) : r_go nr nk self B r ((r.se, dr, r.we, r.nx, fu r.en s (some e2), ke), L) := by
  obtain ⟨k1, k2, k3, k4, k5, k6⟩ := R
  have fe : ∀ j f, fu r.en s (some e2) j = some f → ∃ g, r.en j = some g ∧ f.fr = g.fr ∧ f.fn = g.fn ∧ f.on = g.on ∧ lz f.fw ≤ lz g.fw + 540 ∧ lz f.bw ≤ lz g.bw + 540 := fun j f hj => by
    by_cases z : j = s
    · subst z
      rw [fu_s] at hj
      cases hj
      exact ⟨e, he, h1, h2, h3, h4, h5⟩
    · rw [fu_n z] at hj
      exact ⟨f, hj, rfl, rfl, rfl, by omega, by omega⟩
  refine ⟨⟨k1, (show r.nx ≤ 1000 + (B + 540) by omega), fun j f hj => ?_, fun j k f g hj hk e1 e2 => ?_, fun j k f g p q hj hk e1 e2 e3 => ?_, fun j hj => ?_⟩, rfl, hL⟩
  · obtain ⟨g, g0, g1, g2, g3, g4, g5⟩ := fe j f hj
    obtain ⟨a1, a2, a3, a4⟩ := k3 j g g0
    exact ⟨by rw [g1]; exact a1, by rw [g3]; exact a2, by omega, by omega⟩
  · obtain ⟨g', g0, g1, g2, g3, g4, g5⟩ := fe j f hj
    obtain ⟨f', f0, f1, f2, f3, f4, f5⟩ := fe k g hk
    exact k4 j k g' f' g0 f0 (by rw [← g1, ← f1]; exact e1) (by rw [← g2, ← f2]; exact e2)
  · obtain ⟨g', g0, g1, g2, g3, g4, g5⟩ := fe j f hj
    obtain ⟨f', f0, f1, f2, f3, f4, f5⟩ := fe k g hk
    exact k5 j k g' f' p q g0 f0 (by rw [← g3]; exact e1) (by rw [← f3]; exact e2) e3
  · have ne : j ≠ s := fun z => by
      rw [z] at hj
      rw [k6 s hj] at he
      exact nomatch he
    exact (fu_n ne).trans (k6 j hj)
/-- an entry is taken out -/
theorem r_ok.del (R : r_ok nr nk self B r) (hL : m_ok nr nk self L) : r_go nr nk self B r (r_en r (fu r.en s none), L) := by
  obtain ⟨k1, k2, k3, k4, k5, k6⟩ := R
  have fe : ∀ j f, fu r.en s none j = some f → r.en j = some f := fun j f hj => by
    by_cases z : j = s
    · subst z
      rw [fu_s] at hj
      exact nomatch hj
    · rw [fu_n z] at hj
      exact hj
  refine ⟨⟨k1, (show r.nx ≤ 1000 + (B + 540) by omega), fun j f hj => (k3 j f (fe j f hj)).up (Nat.le_refl _) (by omega), fun j k f g hj hk => k4 j k f g (fe _ _ hj) (fe _ _ hk), fun j k f g p q hj hk => k5 j k f g p q (fe _ _ hj) (fe _ _ hk), fun j hj => ?_⟩, rfl, hL⟩
  show fu r.en s none j = none
  by_cases z : j = s
  · subst z
    exact fu_s
  · rw [fu_n z]
    exact k6 j hj
/-- both sides of an entry -/
theorem e_ok.ds {nx : Nat} (hnr : nr ≤ 6) (hs : self < nr) (k : e_ok nr nk self B nx e) : m_ok nr nk self (e_ds e) := by
  unfold e_ds
  cases h : e.on with
  | none => exact m_one k.1
  | some q => exact m_two k.1 (n_ex_r hnr hs (k.2.1 q h).1 (k.2.1 q h).2.1)
/-- what a relay does with a recognized cell -/
theorem r_do_ok {y : aB} {f : aL} (hnr : nr ≤ 6) (hs : self < nr) (R : r_ok nr nk self B r) (he : r.en s = some e) (hf : lz f ≤ lz e.fw + 135) : r_go nr nk self B r (r_do nr self r s (e.fr, e.fn, e.on, e.wt, f, e.bw, e.st) y) := by
  have E := R.2.2.1 s e he
  have E2 : e_ok nr nk self (B + 135) r.nx (e.fr, e.fn, e.on, e.wt, f, e.bw, e.st) := ⟨E.1, E.2.1, (show lz f ≤ B + 135 by have := E.2.2.1; omega), (show lz e.bw ≤ B + 135 by have := E.2.2.2; omega)⟩
  have out : r_go nr nk self B r (r_en r (fu r.en s none), e_ds (e.fr, e.fn, e.on, e.wt, f, e.bw, e.st)) := R.del (E2.ds hnr hs)
  have fr1 : ∀ c : aB, m_ok nr nk self [(e.fr, c)] := fun c => m_one E.1
  have st : ∀ (b : aL) (wt : Bool) (S : List aS) (dr : Int32) (ke : List Nat) (L : aO), lz b ≤ lz e.bw + 540 → m_ok nr nk self L → r_go nr nk self B r ((r.se, dr, r.we, r.nx, fu r.en s (some (e.fr, e.fn, e.on, wt, f, b, S)), ke), L) := fun b wt S dr ke L hb hL => R.set he rfl rfl rfl (show lz f ≤ _ by omega) hb hL
  unfold r_do
  dsimp only
  split
  · split
    next z =>
      obtain ⟨k1, k2, k3, k4, k5, k6⟩ := R
      have s12 : s < 12 := by
        rcases Nat.lt_or_ge s 12 with w | w
        · exact w
        · rw [k6 s w] at he; exact nomatch he
      refine ⟨⟨k1, (show r.nx + 1 ≤ 1000 + (B + 540) by omega), fun j g hj => ?_, fun j k g g2 hj hk e1 e2 => ?_, fun j k g g2 p q hj hk e1 e2 e3 => ?_, fun j hj => (fu_n (by omega)).trans (k6 j hj)⟩, rfl, m_one (n_ex_r hnr hs z.2.1 z.2.2.1)⟩
      · have hj : fu r.en s _ j = some g := hj
        by_cases w : j = s
        · subst w
          rw [fu_s] at hj
          cases hj
          exact ⟨E.1, fun q hq => by cases hq; exact ⟨z.2.1, z.2.2.1, Nat.lt_succ_self _⟩, (show lz f ≤ _ by have := E.2.2.1; omega), (show lz e.bw ≤ _ by have := E.2.2.2; omega)⟩
        · rw [fu_n w] at hj
          exact (k3 j g hj).up (Nat.le_succ _) (by omega)
      · have hj : fu r.en s _ j = some g := hj
        have hk : fu r.en s _ k = some g2 := hk
        have fe : ∀ j g, fu r.en s (some ((e.fr, e.fn, some (y 16, r.nx), true, f, e.bw, e.st) : aE)) j = some g → ∃ g0, r.en j = some g0 ∧ g.fr = g0.fr ∧ g.fn = g0.fn := fun j g hj => by
          by_cases w : j = s
          · subst w
            rw [fu_s] at hj
            cases hj
            exact ⟨e, he, rfl, rfl⟩
          · rw [fu_n w] at hj
            exact ⟨g, hj, rfl, rfl⟩
        obtain ⟨g0, a1, a2, a3⟩ := fe j g hj
        obtain ⟨h0, b1, b2, b3⟩ := fe k g2 hk
        exact k4 j k g0 h0 a1 b1 (by rw [← a2, ← b2]; exact e1) (by rw [← a3, ← b3]; exact e2)
      · have hj : fu r.en s _ j = some g := hj
        have hk : fu r.en s _ k = some g2 := hk
        have fe : ∀ j g p, fu r.en s (some ((e.fr, e.fn, some (y 16, r.nx), true, f, e.bw, e.st) : aE)) j = some g → g.on = some p → (j = s ∧ p.2 = r.nx) ∨ (r.en j = some g ∧ p.2 < r.nx) := fun j g p hj hp => by
          by_cases w : j = s
          · subst w
            rw [fu_s] at hj
            cases hj
            cases hp
            exact Or.inl ⟨rfl, rfl⟩
          · rw [fu_n w] at hj
            exact Or.inr ⟨hj, ((k3 j g hj).2.1 p hp).2.2⟩
        rcases fe j g p hj e1 with ⟨a1, a2⟩ | ⟨a1, a2⟩ <;> rcases fe k g2 q hk e2 with ⟨b1, b2⟩ | ⟨b1, b2⟩
        · rw [a1, b1]
        · omega
        · omega
        · exact k5 j k g g2 p q a1 b1 e1 e2 e3
    next z => exact out
  split
  · split
    · split
      · exact st _ _ _ _ _ _ (by rw [bk_len]; show lz e.bw + 135 ≤ lz e.bw + 540; omega) (fr1 _)
      · exact st _ _ _ _ _ _ (by rw [bk_len]; show lz e.bw + 135 ≤ lz e.bw + 540; omega) (fr1 _)
    · exact out
  split
  · split
    next k hk =>
      unfold r_ca
      dsimp only
      generalize i_rem _ 2 = rm
      by_cases z : rm = 0
      · simp only [if_pos z]
        split
        · exact st _ _ _ _ _ _ (by rw [bk_len]; show lz e.bw + 135 ≤ lz e.bw + 540; omega) (fr1 _)
        · split
          · refine st _ _ _ _ _ _ ?_ (m_two E.1 E.1)
            rw [bk_len]
            show lz (bk_l _ _ _ _ _) + 135 ≤ _
            rw [bk_len]
            show lz e.bw + 135 + 135 ≤ _
            omega
          · exact st _ _ _ _ _ _ (by rw [bk_len]; show lz e.bw + 135 ≤ lz e.bw + 540; omega) (fr1 _)
      · simp only [if_neg z]
        split
        · exact st _ _ _ _ _ _ (by show lz e.bw ≤ lz e.bw + 540; omega) m_nil
        · split
          · exact st _ _ _ _ _ _ (by rw [bk_len]; show lz e.bw + 135 ≤ lz e.bw + 540; omega) (fr1 _)
          · exact st _ _ _ _ _ _ (by show lz e.bw ≤ lz e.bw + 540; omega) m_nil
    next hk => exact st _ _ _ _ _ _ (by show lz e.bw ≤ lz e.bw + 540; omega) m_nil
  split
  · split
    · exact st _ _ _ _ _ _ (by show lz e.bw ≤ lz e.bw + 540; omega) m_nil
    · exact st _ _ _ _ _ _ (by show lz e.bw ≤ lz e.bw + 540; omega) m_nil
  split
  · split
    · exact st _ _ _ _ _ _ (by show lz e.bw ≤ lz e.bw + 540; omega) m_nil
    · exact st _ _ _ _ _ _ (by show lz e.bw ≤ lz e.bw + 540; omega) m_nil
  exact out
theorem e_fr_so {en : Nat → Option aE} {fr s : Nat} {num : Int32} (h : e_fr en fr num = some s) : ∃ e, en s = some e ∧ e.fr = fr ∧ e.fn = num := by
  have := List.find?_some h
  cases z : en s with
  | none => rw [z] at this; exact nomatch this
  | some e =>
    rw [z] at this
    have := Bool.and_eq_true_iff.mp this
    exact ⟨e, rfl, of_decide_eq_true this.1, of_decide_eq_true this.2⟩
theorem e_fr_no {en : Nat → Option aE} {fr j : Nat} {num : Int32} {e : aE} (h : e_fr en fr num = none) (hj : j < 12) (he : en j = some e) (h1 : e.fr = fr) (h2 : e.fn = num) : False := by
  have := List.find?_eq_none.mp h j (List.mem_range.mpr hj)
  rw [he] at this
  apply this
  show (decide (e.fr = fr) && decide (e.fn = num)) = true
  rw [decide_eq_true h1, decide_eq_true h2]
  rfl
/-- a relay takes a cell -/
theorem r_tk_ok {fr : Nat} {x : aB} (hnr : nr ≤ 6) (hs : self < nr) (hfr : fr < 10 ∧ n_ex nr nk (10 * self + fr) = true) (R : r_ok nr nk self B r) : r_go nr nk self B r (r_tk nr self r fr x) := by
  have same : r_go nr nk self B r (r, []) := R.same m_nil
  unfold r_tk
  dsimp only
  split
  · split
    next s hsm =>
      obtain ⟨k1, k2, k3, k4, k5, k6⟩ := id R
      split at hsm
      next z =>
        have hn := List.find?_some hsm
        have s12 : s < 12 := List.mem_range.mp (List.mem_of_find?_eq_some hsm)
        have es : r.en s = none := Option.isNone_iff_eq_none.mp hn
        have fe : ∀ (v : aE) j f, fu r.en s (some v) j = some f → (j = s ∧ f = v) ∨ (j ≠ s ∧ r.en j = some f) := fun v j f hj => by
          by_cases w : j = s
          · subst w
            rw [fu_s] at hj
            cases hj
            exact Or.inl ⟨rfl, rfl⟩
          · rw [fu_n w] at hj
            exact Or.inr ⟨w, hj⟩
        have no : ∀ j f, r.en j = some f → f.fr = fr → f.fn = ce_n x → False := fun j f hj e1 e2 => by
          rcases Nat.lt_or_ge j 12 with w | w
          · exact e_fr_no z.1 w hj e1 e2
          · rw [k6 j w] at hj
            exact nomatch hj
        refine ⟨⟨k1, (show r.nx ≤ 1000 + (B + 540) by omega), fun j f hj => ?_, fun j k f g hj hk e1 e2 => ?_, fun j k f g p q hj hk e1 e2 e3 => ?_, fun j hj => (fu_n (by omega)).trans (k6 j hj)⟩, rfl, m_one hfr⟩
        · rcases fe _ j f hj with ⟨w1, w2⟩ | ⟨w1, w2⟩
          · rw [w2]
            exact ⟨hfr, (fun q hq => nomatch hq), by show lz (ks_f _) ≤ _; rw [ks_f_len]; omega, by show lz (ks_b _) ≤ _; rw [ks_b_len]; omega⟩
          · exact (k3 j f w2).up (Nat.le_refl _) (by omega)
        · rcases fe _ j f hj with ⟨w1, w2⟩ | ⟨w1, w2⟩ <;> rcases fe _ k g hk with ⟨u1, u2⟩ | ⟨u1, u2⟩
          · rw [w1, u1]
          · rw [w2] at e1 e2
            exact absurd (no k g u2 e1.symm e2.symm) id
          · rw [u2] at e1 e2
            exact absurd (no j f w2 e1 e2) id
          · exact k4 j k f g w2 u2 e1 e2
        · rcases fe _ j f hj with ⟨w1, w2⟩ | ⟨w1, w2⟩ <;> rcases fe _ k g hk with ⟨u1, u2⟩ | ⟨u1, u2⟩
          · rw [w1, u1]
          · rw [w2] at e1
            exact nomatch e1
          · rw [u2] at e2
            exact nomatch e2
          · exact k5 j k f g p q w2 u2 e1 e2 e3
      next z => exact nomatch hsm
    next => exact R.same (m_one hfr)
  split
  · split
    next s hsm =>
      split
      next e he =>
        split
        · exact R.set he rfl rfl rfl (show lz e.fw ≤ _ by omega) (by rw [show ∀ (E : aE) c a n d, (e_bk E c a n d).1.bw = bk_l E.bw c a n d from fun _ _ _ _ _ => rfl, bk_len]; show lz e.bw + 135 ≤ _; omega) (m_one (R.2.2.1 s e he).1)
        · exact same
      next => exact same
    next => exact same
  split
  · split
    next s hsm =>
      split
      next e he =>
        have E := R.2.2.1 s e he
        unfold r_fw
        dsimp only
        split
        next ok => exact r_do_ok hnr hs R he (lz_rc _ _)
        next ok =>
          split
          next q hq =>
            split
            · exact R.del (E.ds hnr hs)
            · exact R.set he rfl rfl rfl (show lz (cv_l e.fw) ≤ _ by have := lz_cv e.fw; omega) (show lz e.bw ≤ _ by omega) (m_one (n_ex_r hnr hs (E.2.1 q hq).1 (E.2.1 q hq).2.1))
          next => exact R.del (E.ds hnr hs)
      next => exact same
    next =>
      split
      next s hsm =>
        split
        next e he =>
          split
          · exact same
          · exact R.set he rfl rfl rfl (show lz e.fw ≤ _ by omega) (show lz (cv_l e.bw) ≤ _ by have := lz_cv e.bw; omega) (m_one (R.2.2.1 s e he).1)
        next => exact same
      next => exact same
  split
  · split
    next s hsm =>
      split
      next e he =>
        have E := R.2.2.1 s e he
        refine R.del ?_
        split
        next q hq => exact m_one (n_ex_r hnr hs (E.2.1 q hq).1 (E.2.1 q hq).2.1)
        next => exact m_nil
      next => exact same
    next =>
      split
      next s hsm =>
        split
        next e he => exact R.del (m_one (R.2.2.1 s e he).1)
        next => exact same
      next => exact same
  exact same
end RINV
