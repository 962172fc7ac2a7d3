/-! what holds of the state of the network: circuits, and a hand-over -/
def c_ok (nr nk B : Nat) (c : aC) : Prop := c.cl < nk ∧ (1 ≤ c.pa.length ∧ c.pa.length ≤ 3) ∧ (∀ j, j < c.pa.length → c.pa.getD j 0 < nr) ∧ c.hp ≤ c.pa.length ∧ c.ph ≤ 2 ∧ (c.ph = 0 → c.hp < c.pa.length ∧ c.st = []) ∧ (c.ph = 1 → c.hp = c.pa.length) ∧ (∀ j, j < c.hp → lz (c.la j).1 ≤ B ∧ lz (c.la j).2 ≤ B) ∧ c.st.length ≤ 4 ∧ (0 < c.st.length → 0 < c.hp)
def c_gg (nr nk B : Nat) (c : aC) (k : aK) (p : aC × aK × aO) : Prop := c_ok nr nk (B + 540) p.1 ∧ p.1.cl = c.cl ∧ p.1.nu = c.nu ∧ p.1.pa = c.pa ∧ c.hp ≤ p.1.hp ∧ p.1.st.length = c.st.length ∧ p.2.1.se = k.se ∧ p.2.1.nu = k.nu ∧ m_ok nr nk (8 + c.cl) p.2.2
theorem c_cv_ge : ∀ (k : Nat) (la : Nat → aL × aL) (p : Nat → Nat) (i : Nat), k ≤ i → (c_cv la k p).1 i = la i
  | 0, _, _, _, _ => rfl
  | k + 1, la, p, i, h => by
    have e : c_cv la (k + 1) p = c_cv (fu la k (cv_l (la k).1, (la k).2)) k (cv_p (la k).1.K (la k).1.pos p) := rfl
    rw [e, c_cv_ge k _ _ i (by omega), fu_n (by omega)]
theorem c_cv_la : ∀ (k : Nat) (la : Nat → aL × aL) (p : Nat → Nat) (i : Nat), (((c_cv la k p).1 i).1.ms = (la i).1.ms ∧ ((c_cv la k p).1 i).1.pos ≤ (la i).1.pos + 135) ∧ ((c_cv la k p).1 i).2 = (la i).2
  | 0, _, _, _ => ⟨⟨rfl, Nat.le_add_right _ _⟩, rfl⟩
  | k + 1, la, p, i => by
    have e : c_cv la (k + 1) p = c_cv (fu la k (cv_l (la k).1, (la k).2)) k (cv_p (la k).1.K (la k).1.pos p) := rfl
    rw [e]
    by_cases z : i = k
    · subst z
      rw [c_cv_ge i _ _ i (Nat.le_refl _), fu_s]
      exact ⟨⟨rfl, Nat.le_refl _⟩, rfl⟩
    · have := c_cv_la k (fu la k (cv_l (la k).1, (la k).2)) (cv_p (la k).1.K (la k).1.pos p) i
      rw [fu_n z] at this
      exact this
theorem c_pe_ln {hp : Nat} : ∀ (m k : Nat) (la : Nat → aL × aL) (y : aB) (i : Nat), (i < k → ((c_pe la hp m k y).1 i).2 = (la i).2) ∧ lz ((c_pe la hp m k y).1 i).2 ≤ lz (la i).2 + 135
  | 0, _, _, _, _ => ⟨fun _ => rfl, Nat.le_add_right _ _⟩
  | m + 1, k, la, y, i => by
    have ep : c_pe la hp (m + 1) k y = if rc_ok (la k).2.ms (ce_p y (cv_p (la k).2.K (la k).2.pos (fun j => y (5 + j)))) then (fu la k ((la k).1, rc_l (cv_l (la k).2) (ce_p y (cv_p (la k).2.K (la k).2.pos (fun j => y (5 + j))))), ce_p y (cv_p (la k).2.K (la k).2.pos (fun j => y (5 + j))), some k) else c_pe (fu la k ((la k).1, cv_l (la k).2)) hp m (k + 1) (ce_p y (cv_p (la k).2.K (la k).2.pos (fun j => y (5 + j)))) := rfl
    rw [ep]
    split
    · refine ⟨fun hi => ?_, ?_⟩
      · show (fu la k _ i).2 = _
        rw [fu_n (by omega)]
      · show lz (fu la k _ i).2 ≤ _
        by_cases z : i = k
        · subst z
          rw [fu_s]
          exact lz_rc _ _
        · rw [fu_n z]
          omega
    · have := c_pe_ln (hp := hp) m (k + 1) (fu la k ((la k).1, cv_l (la k).2)) (ce_p y (cv_p (la k).2.K (la k).2.pos (fun j => y (5 + j)))) i
      refine ⟨fun hi => ?_, ?_⟩
      · rw [this.1 (by omega), fu_n (by omega)]
      · by_cases z : i = k
        · subst z
          rw [this.1 (Nat.lt_succ_self _), fu_s]
          exact lz_cv _
        · rw [fu_n z] at this
          exact this.2
theorem n_ex_k {nr nk x y : Nat} (hnr : nr ≤ 6) (hx : x < nk) (hy : y < nr) : y < 10 ∧ n_ex nr nk (10 * (8 + x) + y) = true := by
  refine ⟨by omega, ?_⟩
  rw [n_ex_at (by omega), n_pr_r hy, decide_eq_true (show 8 + x ≠ y by omega)]
  unfold n_pr
  rw [decide_eq_true (show 8 ≤ 8 + x by omega), decide_eq_true (show 8 + x < 8 + nk by omega), Bool.and_self, Bool.or_true]
  rfl
section CINV
variable {nr nk B : Nat} {c : aC} {k : aK}
theorem c_ok.up {B2 : Nat} (K : c_ok nr nk B c) (h : B ≤ B2) : c_ok nr nk B2 c := by
  obtain ⟨a1, a2, a3, a4, a5, a6, a7, a8, a9⟩ := K
  exact ⟨a1, a2, a3, a4, a5, a6, a7, fun j hj => ⟨by have := (a8 j hj).1; omega, by have := (a8 j hj).2; omega⟩, a9⟩
theorem c_ok.ms1 {cb : aB} (hnr : nr ≤ 6) (K : c_ok nr nk B c) : m_ok nr nk (8 + c.cl) [(c.pa.getD 0 0, cb)] := m_one (n_ex_k hnr K.1 (K.2.2.1 0 (by have := K.2.1; omega)))
/-- other lanes, other streams -/
theorem c_ok.la {f : Nat → aL × aL} {B2 : Nat} (K : c_ok nr nk B c) (hf : ∀ j, j < c.hp → lz (f j).1 ≤ B2 ∧ lz (f j).2 ≤ B2) : c_ok nr nk B2 (c_la c f) := by
  obtain ⟨a1, a2, a3, a4, a5, a6, a7, a8, a9⟩ := K
  exact ⟨a1, a2, a3, a4, a5, a6, a7, hf, a9⟩
theorem c_ok.st {st : List aT} (K : c_ok nr nk B c) (h : st.length = c.st.length) : c_ok nr nk B (c_st c st) := by
  obtain ⟨a1, a2, a3, a4, a5, a6, a7, a8, a9⟩ := K
  refine ⟨a1, a2, a3, a4, a5, fun z => ⟨(a6 z).1, ?_⟩, a7, a8, (show st.length ≤ 4 by omega), fun z => a9.2 (by have z : 0 < st.length := z; omega)⟩
  have := (a6 z).2
  rw [this] at h
  exact List.eq_nil_of_length_eq_zero h
theorem c_ok.go (K : c_ok nr nk B c) : c_ok nr nk B (c_go c) := by
  obtain ⟨a1, a2, a3, a4, a5, a6, a7, a8, a9⟩ := K
  exact ⟨a1, a2, a3, a4, Nat.le_refl 2, (fun z => nomatch z), (fun z => nomatch z), a8, Nat.le_trans (Nat.le_of_eq (List.length_map _)) a9.1, fun z => a9.2 (Nat.lt_of_lt_of_eq z (List.length_map _))⟩
theorem c_fo_la {cmd s n : Nat} {d : Nat → Nat} (i : Nat) : lz ((c_fo c cmd s n d).1.la i).1 ≤ lz (c.la i).1 + 135 ∧ ((c_fo c cmd s n d).1.la i).2 = (c.la i).2 := by
  have e := c_cv_la c.hp (fu c.la (c.hp - 1) (((c.la (c.hp - 1)).1.ms ++ sp_sl (mk_c cmd s n d) 5 135, (c.la (c.hp - 1)).1.K, (c.la (c.hp - 1)).1.pos), (c.la (c.hp - 1)).2)) (fun k => rc_s (c.la (c.hp - 1)).1.ms (mk_c cmd s n d) (5 + k)) i
  have g1 := lz_ms (c.la i).1
  have g2 := lz_po (c.la i).1
  show (lz ((c_cv _ c.hp _).1 i).1 ≤ _) ∧ ((c_cv _ c.hp _).1 i).2 = _
  by_cases z : i = c.hp - 1
  · subst z
    rw [fu_s] at e
    refine ⟨lz_le ?_ ?_, e.2⟩
    · rw [e.1.1]
      show (_ ++ sp_sl _ 5 135).length ≤ _
      rw [List.length_append, sp_sl_len]
      omega
    · exact Nat.le_trans e.1.2 (by show (c.la (c.hp - 1)).1.pos + 135 ≤ _; omega)
  · rw [fu_n z] at e
    exact ⟨lz_le (by rw [e.1.1]; omega) (by omega), e.2⟩
theorem c_ok.fo {cmd s n : Nat} {d : Nat → Nat} (K : c_ok nr nk B c) : c_ok nr nk (B + 135) (c_fo c cmd s n d).1 := by
  refine K.la (B2 := B + 135) (f := (c_fo c cmd s n d).1.la) (fun j hj => ?_)
  have := c_fo_la (c := c) (cmd := cmd) (s := s) (n := n) (d := d) j
  have w := K.2.2.2.2.2.2.2.1 j hj
  rw [this.2]
  omega
/-- an answer has come -/
theorem c_an_ok {rs : Nat → aR} {b : Nat → Nat} (hnr : nr ≤ 6) (K : c_ok nr nk (B + 135) c) (hp : c.hp < c.pa.length) (hp2 : c.ph = 0) : c_gg nr nk B c k (c_an rs c k b) := by
  obtain ⟨a1, a2, a3, a4, a5, a6, a7, a8, a9⟩ := id K
  have s0 := (a6 hp2).2
  unfold c_an
  dsimp only
  have lan : ∀ tx j, j < c.hp + 1 → lz (fu c.la c.hp (ks_f tx, ks_b tx) j).1 ≤ B + 135 ∧ lz (fu c.la c.hp (ks_f tx, ks_b tx) j).2 ≤ B + 135 := fun tx j hj => by
    by_cases z : j = c.hp
    · subst z
      rw [fu_s]
      exact ⟨by show lz (ks_f _) ≤ _; rw [ks_f_len]; omega, by show lz (ks_b _) ≤ _; rw [ks_b_len]; omega⟩
    · rw [fu_n z]
      exact a8 j (by omega)
  split
  · split
    next z =>
      refine ⟨⟨a1, a2, a3, (show c.hp + 1 ≤ c.pa.length by omega), Nat.le_succ 1, (fun w => nomatch w), fun _ => z, fun j hj => ?_, a9.1, fun _ => Nat.succ_pos _⟩, rfl, rfl, rfl, Nat.le_succ _, rfl, rfl, rfl, m_nil⟩
      exact ⟨Nat.le_trans (lan _ j hj).1 (by omega), Nat.le_trans (lan _ j hj).2 (by omega)⟩
    next z =>
      have K2 : c_ok nr nk (B + 135) (c.cl, c.nu, c.pa, c.hp + 1, c.ph, fu c.la c.hp (ks_f (is_t (rs (c.pa.getD c.hp 0)).se c.x b), ks_b (is_t (rs (c.pa.getD c.hp 0)).se c.x b)), (c_be k).2, c.st) := ⟨a1, a2, a3, (show c.hp + 1 ≤ c.pa.length by omega), a5, fun _ => ⟨(show c.hp + 1 < c.pa.length by omega), s0⟩, fun w => absurd (hp2.symm.trans w) (by decide), fun j hj => lan _ j hj, a9.1, fun _ => Nat.succ_pos _⟩
      exact ⟨(K2.fo).up (by omega), rfl, rfl, rfl, Nat.le_succ _, rfl, rfl, rfl, m_one (n_ex_k hnr a1 (a3 0 (by omega)))⟩
  · exact ⟨(K.go).up (by omega), rfl, rfl, rfl, Nat.le_refl _, List.length_map _, rfl, rfl, m_one (n_ex_k hnr a1 (a3 0 (by omega)))⟩
theorem c_do_ok {rs : Nat → aR} {y : aB} (hnr : nr ≤ 6) (K : c_ok nr nk (B + 135) c) : c_gg nr nk B c k (c_do rs c k y) := by
  have ds : c_gg nr nk B c k ((c_ds c).1, k, (c_ds c).2) := ⟨(K.go).up (by omega), rfl, rfl, rfl, Nat.le_refl _, List.length_map _, rfl, rfl, K.ms1 hnr⟩
  have same : c_gg nr nk B c k (c, k, []) := ⟨K.up (by omega), rfl, rfl, rfl, Nat.le_refl _, rfl, rfl, rfl, m_nil⟩
  have set : ∀ j t, c_gg nr nk B c k (c_st c (c.st.set j t), k, []) := fun j t => ⟨(K.st List.length_set).up (by omega), rfl, rfl, rfl, Nat.le_refl _, List.length_set, rfl, rfl, m_nil⟩
  unfold c_do
  dsimp only
  split
  · split
    next z => exact c_an_ok hnr K (K.2.2.2.2.2.1 z.2).1 z.2
    next => exact ds
  split
  · split
    · exact set _ _
    · exact same
  split
  · split
    · split
      · exact ⟨((K.st (st := c.st.set (y 8 * 256 + y 9 - 1) _) List.length_set).fo).up (by omega), rfl, rfl, rfl, Nat.le_refl _, List.length_set, rfl, rfl, K.ms1 hnr⟩
      · exact set _ _
    · exact same
  split
  · split
    · exact set _ _
    · exact same
  split
  · split
    · exact set _ _
    · exact same
  exact ds
/-- a circuit takes a cell -/
theorem c_tk_ok {rs : Nat → aR} {x : aB} (hnr : nr ≤ 6) (hg : c.ph ≠ 2) (K : c_ok nr nk B c) : c_gg nr nk B c k (c_tk rs c k x) := by
  have same : c_gg nr nk B c k (c, k, []) := ⟨K.up (by omega), rfl, rfl, rfl, Nat.le_refl _, rfl, rfl, rfl, m_nil⟩
  unfold c_tk
  dsimp only
  split
  · split
    next z =>
      obtain ⟨a1, a2, a3, a4, a5, a6, a7, a8, a9⟩ := id K
      have p0 : c.ph = 0 := by
        rcases (by omega : c.ph = 0 ∨ c.ph = 1 ∨ c.ph = 2) with w | w | w
        · exact w
        · have := a7 w
          omega
        · exact absurd w hg
      exact c_an_ok hnr (K.up (by omega)) (by omega) p0
    next => exact same
  split
  · split
    next => exact same
    next z =>
      have K2 : c_ok nr nk (B + 135) (c_la c (c_pe c.la c.hp c.hp 0 x).1) := K.la (fun j hj => by
        have w := K.2.2.2.2.2.2.2.1 j hj
        have u := (c_pe_ln (hp := c.hp) c.hp 0 c.la x j).2
        rw [c_pe_f]
        omega)
      split
      · exact c_do_ok (c := c_la c (c_pe c.la c.hp c.hp 0 x).1) hnr K2
      · exact ⟨(K2.go).up (by omega), rfl, rfl, rfl, Nat.le_refl _, List.length_map _, rfl, rfl, K.ms1 hnr⟩
  split
  · exact ⟨(K.go).up (by omega), rfl, rfl, rfl, Nat.le_refl _, List.length_map _, rfl, rfl, m_nil⟩
  exact same
end CINV
/-- the whole state -/
def n_V (B : Nat) (a : aN) : Prop := (a.nr ≤ 6 ∧ a.nk ≤ 2 ∧ a.nc ≤ 6) ∧ (∀ i, i < a.nr → r_ok a.nr a.nk i B (a.r i)) ∧ (∀ i, i < a.nk → (a.k i).nu ≤ a.nc) ∧ (∀ i, i < a.nc → c_ok a.nr a.nk B (a.c i) ∧ 1 ≤ (a.c i).nu ∧ (a.c i).nu ≤ (a.k (a.c i).cl).nu) ∧ (∀ i j, i < a.nc → j < a.nc → (a.c i).cl = (a.c j).cl → (a.c i).nu = (a.c j).nu → i = j) ∧ (∀ j, j < 100 → n_ex a.nr a.nk j = false → a.lk j = []) ∧ (∀ j, j < 100 → (a.lk j).length ≤ 8)
theorem n_V.up {B B2 : Nat} {a : aN} (K : n_V B a) (h : B ≤ B2) : n_V B2 a := by
  obtain ⟨k1, k2, k3, k4, k5⟩ := K
  exact ⟨k1, fun i hi => (k2 i hi).up h, k3, fun i hi => ⟨(k4 i hi).1.up h, (k4 i hi).2⟩, k5⟩
/-- the links behind a sending -/
theorem n_sd_ok {ex : Nat → Bool} {fr : Nat} (hfr : fr < 10) : ∀ (L : aO) (lk : Nat → List aB), (∀ q, q ∈ L → q.1 < 10 ∧ ex (10 * fr + q.1) = true) → (∀ j, j < 100 → ex j = false → lk j = []) → (∀ j, j < 100 → (lk j).length ≤ 8) → (∀ j, j < 100 → ex j = false → n_sd fr lk L j = []) ∧ (∀ j, j < 100 → (n_sd fr lk L j).length ≤ 8)
  | [], lk, _, h1, h2 => ⟨h1, h2⟩
  | q :: L, lk, hq, h1, h2 => by
    have hq0 := hq q List.mem_cons_self
    refine n_sd_ok hfr L _ (fun p hp => hq p (List.mem_cons_of_mem _ hp)) (fun j hj e => ?_) (fun j hj => ?_)
    · rw [fu_n (fun z => by rw [z, hq0.2] at e; exact nomatch e)]
      exact h1 j hj e
    · by_cases z : j = 10 * fr + q.1
      · rw [z, fu_s]
        have := h2 (10 * fr + q.1) (by omega)
        unfold l_ad
        split
        · rw [List.length_append]
          show _ + 1 ≤ 8
          omega
        · exact this
      · rw [fu_n z]
        exact h2 j hj
theorem n_ho_ok {B fr to : Nat} {a : aN} (hf : fr < 10) (ht : to < 10) (he : n_ex a.nr a.nk (10 * fr + to) = true) (K : n_V B a) : n_V (B + 540) (n_ho a fr to) := by
  obtain ⟨⟨k0, k0', k0''⟩, k2, k3, k4, k5, k6, k7⟩ := id K
  unfold n_ho
  split
  next => exact K.up (by omega)
  next x l hl =>
    have j100 : 10 * fr + to < 100 := by omega
    have l1 : ∀ j, j < 100 → n_ex a.nr a.nk j = false → fu a.lk (10 * fr + to) l j = [] := fun j hj e => by
      rw [fu_n (fun z => by rw [z, he] at e; exact nomatch e)]
      exact k6 j hj e
    have l2 : ∀ j, j < 100 → (fu a.lk (10 * fr + to) l j).length ≤ 8 := fun j hj => by
      by_cases z : j = 10 * fr + to
      · rw [z, fu_s]
        have := k7 _ j100
        rw [hl] at this
        have : l.length + 1 ≤ 8 := this
        omega
      · rw [fu_n z]
        exact k7 j hj
    have hn : n_pr a.nr a.nk fr = true ∧ n_pr a.nr a.nk to = true ∧ fr ≠ to := by
      rw [n_ex_at ht] at he
      have h1 := Bool.and_eq_true_iff.mp he
      have h2 := Bool.and_eq_true_iff.mp h1.1
      exact ⟨h2.1, h2.2, of_decide_eq_true h1.2⟩
    dsimp only
    split
    next t8 =>
      have tr : to < a.nr := by
        have := hn.2.1
        unfold n_pr at this
        rcases Bool.or_eq_true_iff.mp this with w | w
        · exact of_decide_eq_true w
        · have := of_decide_eq_true (Bool.and_eq_true_iff.mp w).1
          omega
      have back : fr < 10 ∧ n_ex a.nr a.nk (10 * to + fr) = true := ⟨hf, by rw [n_ex_at hf, hn.1, hn.2.1, decide_eq_true (show to ≠ fr from fun z => hn.2.2 z.symm)]; rfl⟩
      have G := r_tk_ok (x := x) k0 tr back (k2 to tr)
      have S := n_sd_ok (ex := n_ex a.nr a.nk) (fr := to) ht (r_tk a.nr to (a.r to) fr x).2 (fu a.lk (10 * fr + to) l) G.2.2.2 l1 l2
      refine ⟨⟨k0, k0', k0''⟩, fun i hi => ?_, k3, fun i hi => ⟨(k4 i hi).1.up (by omega), (k4 i hi).2⟩, k5, S.1, S.2⟩
      show r_ok a.nr a.nk i (B + 540) (fu a.r to _ i)
      by_cases z : i = to
      · rw [z, fu_s]
        exact G.1
      · rw [fu_n z]
        exact (k2 i hi).up (by omega)
    next t8 =>
      split
      next => exact ⟨⟨k0, k0', k0''⟩, fun i hi => (k2 i hi).up (by omega), k3, fun i hi => ⟨(k4 i hi).1.up (by omega), (k4 i hi).2⟩, k5, l1, l2⟩
      next i hci =>
        have hp := List.find?_some hci
        have hin : i < a.nc := List.mem_range.mp (List.mem_of_find?_eq_some hci)
        have h1 := Bool.and_eq_true_iff.mp hp
        have h2 := Bool.and_eq_true_iff.mp h1.1
        have h3 := Bool.and_eq_true_iff.mp h2.1
        have ecl : (a.c i).cl + 8 = to := of_decide_eq_true h3.1
        have G := c_tk_ok (rs := a.r) (k := a.k (to - 8)) (x := x) k0 (of_decide_eq_true h1.2) (k4 i hin).1
        have e8 : to - 8 = (a.c i).cl := by omega
        have Gm := G.2.2.2.2.2.2.2.2
        rw [show 8 + (a.c i).cl = to by omega] at Gm
        have S := n_sd_ok (ex := n_ex a.nr a.nk) (fr := to) ht (c_tk a.r (a.c i) (a.k (to - 8)) x).2.2 (fu a.lk (10 * fr + to) l) Gm.2 l1 l2
        have ku : ∀ j, (fu a.k (to - 8) (c_tk a.r (a.c i) (a.k (to - 8)) x).2.1 j).nu = (a.k j).nu := fun j => by
          by_cases z : j = to - 8
          · rw [z, fu_s]
            exact G.2.2.2.2.2.2.2.1
          · rw [fu_n z]
        have cu : ∀ j, (fu a.c i (c_tk a.r (a.c i) (a.k (to - 8)) x).1 j).nu = (a.c j).nu ∧ (fu a.c i (c_tk a.r (a.c i) (a.k (to - 8)) x).1 j).cl = (a.c j).cl := fun j => by
          by_cases z : j = i
          · rw [z, fu_s]
            exact ⟨G.2.2.1, G.2.1⟩
          · rw [fu_n z]
            exact ⟨rfl, rfl⟩
        refine ⟨⟨k0, k0', k0''⟩, fun j hj => (k2 j hj).up (by omega), fun j hj => ?_, fun j hj => ?_, fun j m hj hm e1 e2 => ?_, S.1, S.2⟩
        · show (fu a.k (to - 8) _ j).nu ≤ a.nc
          rw [ku]
          exact k3 j hj
        · show c_ok a.nr a.nk (B + 540) (fu a.c i _ j) ∧ 1 ≤ (fu a.c i _ j).nu ∧ (fu a.c i _ j).nu ≤ (fu a.k (to - 8) _ (fu a.c i _ j).cl).nu
          rw [(cu j).1, (cu j).2, ku]
          refine ⟨?_, (k4 j hj).2⟩
          by_cases z : j = i
          · rw [z, fu_s]
            exact G.1
          · rw [fu_n z]
            exact (k4 j hj).1.up (by omega)
        · have e1 : (fu a.c i _ j).cl = (fu a.c i _ m).cl := e1
          have e2 : (fu a.c i _ j).nu = (fu a.c i _ m).nu := e2
          rw [(cu j).2, (cu m).2] at e1
          rw [(cu j).1, (cu m).1] at e2
          exact k5 j m hj hm e1 e2
