/-! the invariants stand over every call -/
section QOK
variable {B B2 : Nat} {a : aN} {x y z w m cl i : Int32} {seed : Int64}
/-- what stands behind a call -/
def q_V (B : Nat) (a b : aN) : Prop := n_V B b ∧ n_pc b ≤ n_pc a ∧ n_ps b ≤ n_ps a
theorem q_V.same (V : n_V B a) (h : B ≤ B2) : q_V B2 a a := ⟨V.up h, Nat.le_refl _, Nat.le_refl _⟩
theorem n_V.c {i : Nat} {c2 : aC} (V : n_V B a) (h : B ≤ B2) (hi : i < a.nc) (K : c_ok a.nr a.nk B2 c2) (e1 : c2.cl = (a.c i).cl) (e2 : c2.nu = (a.c i).nu) : n_V B2 (n_c a i c2) := by
  obtain ⟨k1, k2, k3, k4, k5, k6, k7⟩ := V
  have cu : ∀ j, (fu a.c i c2 j).nu = (a.c j).nu ∧ (fu a.c i c2 j).cl = (a.c j).cl := fun j => by
    by_cases z : j = i
    · rw [z, fu_s]
      exact ⟨e2, e1⟩
    · rw [fu_n z]
      exact ⟨rfl, rfl⟩
  refine ⟨k1, fun j hj => (k2 j hj).up h, k3, fun j hj => ?_, fun j m hj hm f1 f2 => ?_, k6, k7⟩
  · show c_ok a.nr a.nk B2 (fu a.c i c2 j) ∧ 1 ≤ (fu a.c i c2 j).nu ∧ (fu a.c i c2 j).nu ≤ (a.k (fu a.c i c2 j).cl).nu
    rw [(cu j).1, (cu j).2]
    refine ⟨?_, (k4 j hj).2⟩
    by_cases z : j = i
    · rw [z, fu_s]
      exact K
    · rw [fu_n z]
      exact (k4 j hj).1.up h
  · have f1 : (fu a.c i c2 j).cl = (fu a.c i c2 m).cl := f1
    have f2 : (fu a.c i c2 j).nu = (fu a.c i c2 m).nu := f2
    rw [(cu j).2, (cu m).2] at f1
    rw [(cu j).1, (cu m).1] at f2
    exact k5 j m hj hm f1 f2
theorem n_V.lk {lk : Nat → List aB} (V : n_V B a) (h1 : ∀ j, j < 100 → n_ex a.nr a.nk j = false → lk j = []) (h2 : ∀ j, j < 100 → (lk j).length ≤ 8) : n_V B (n_lk a lk) := by
  obtain ⟨k1, k2, k3, k4, k5, -, -⟩ := V
  exact ⟨k1, k2, k3, k4, k5, h1, h2⟩
theorem n_V.sd {fr : Nat} {M : aO} (V : n_V B a) (hf : fr < 10) (hM : m_ok a.nr a.nk fr M) : n_V B (n_lk a (n_sd fr a.lk M)) := by
  have := n_sd_ok (ex := n_ex a.nr a.nk) hf M a.lk hM.2 V.2.2.2.2.2.1 V.2.2.2.2.2.2
  exact V.lk this.1 this.2
/-- a link has other cells -/
theorem n_V.l1 {j : Nat} {l : List aB} (V : n_V B a) (he : n_ex a.nr a.nk j = true) (hl : l.length ≤ 8) : n_V B (n_lk a (fu a.lk j l)) := by
  refine V.lk (fun i hi e => ?_) (fun i hi => ?_)
  · rw [fu_n (fun z => by rw [z, he] at e; exact nomatch e)]
    exact V.2.2.2.2.2.1 i hi e
  · by_cases z : i = j
    · rw [z, fu_s]
      exact hl
    · rw [fu_n z]
      exact V.2.2.2.2.2.2 i hi
theorem n_pc_e {i : Nat} {c2 : aC} {lk2 : Nat → List aB} (V : n_V B a) (hi : i < a.nc) (h1 : c2.hp = (a.c i).hp) (h3 : c2.st.length = (a.c i).st.length) : n_pc (n_lk (n_c a i c2) lk2) ≤ n_pc a ∧ n_ps (n_lk (n_c a i c2) lk2) ≤ n_ps a := by
  have h2 := (V.2.2.2.1 i hi).1
  have := n_pc_c (a := a) (c2 := c2) (k2 := a.k) (lk2 := lk2) hi V.1.2.2 (by omega) (by have := h2.2.1; have := h2.2.2.2.1; omega) h3
  have e1 : n_pc (n_lk (n_c a i c2) lk2) + 16 * (c2.hp - (a.c i).hp) = n_pc a := this.1
  have e2 : n_ps (n_lk (n_c a i c2) lk2) + 420 * (c2.hp - (a.c i).hp) = n_ps a := this.2
  omega
theorem q_weigh_ok (V : n_V B a) (h : B ≤ B2) : q_V B2 a (q_weigh a x w).2 := by
  unfold q_weigh
  cases e : p_i a.nr x with
  | none => exact q_V.same V h
  | some r =>
    dsimp only
    cases e2 : p_i 1001 w with
    | none => exact q_V.same V h
    | some n =>
      obtain ⟨n1, -⟩ := p_i_some (by decide) e2
      obtain ⟨k1, k2, k3, k4, k5⟩ := V.up h
      refine ⟨⟨k1, fun i hi => ?_, k3, k4, k5⟩, Nat.le_refl _, Nat.le_refl _⟩
      show r_ok a.nr a.nk i B2 (fu a.r r _ i)
      by_cases z : i = r
      · subst z
        rw [fu_s]
        obtain ⟨q1, q2⟩ := k2 i hi
        exact ⟨(show n ≤ 1000 by omega), q2⟩
      · rw [fu_n z]
        exact k2 i hi
theorem q_drop_ok (V : n_V B a) (h : B ≤ B2) : q_V B2 a (q_drop a x y).2 := by
  unfold q_drop
  cases e : q_lk a x y with
  | none => exact q_V.same V h
  | some j =>
    dsimp only
    cases el : a.lk j with
    | nil => exact q_V.same V h
    | cons c l =>
      obtain ⟨f, t, hf, ht, -, -, rfl, he⟩ := q_lk_some e
      have := V.2.2.2.2.2.2 (10 * f + t) (by omega)
      rw [el] at this
      have : l.length + 1 ≤ 8 := this
      exact ⟨(V.up h).l1 he (by omega), Nat.le_refl _, Nat.le_refl _⟩
theorem q_alter_ok (V : n_V B a) (h : B ≤ B2) : q_V B2 a (q_alter a x y i m).2 := by
  unfold q_alter
  cases e : q_lk a x y with
  | none => exact q_V.same V h
  | some j =>
    dsimp only
    cases el : a.lk j with
    | nil => exact q_V.same V h
    | cons c l =>
      dsimp only
      cases p_i 140 i with
      | none => exact q_V.same V h
      | some n =>
        dsimp only
        cases p_s 255 m with
        | none => exact q_V.same V h
        | some k =>
          obtain ⟨f, t, hf, ht, -, -, rfl, he⟩ := q_lk_some e
          have := V.2.2.2.2.2.2 (10 * f + t) (by omega)
          rw [el] at this
          exact ⟨(V.up h).l1 he this, Nat.le_refl _, Nat.le_refl _⟩
theorem q_deliver_ok (V : n_V B a) (h : B + 540 ≤ B2) : q_V B2 a (q_deliver a x y).2 := by
  unfold q_deliver
  cases e : q_lk a x y with
  | none => exact q_V.same V (by omega)
  | some j =>
    dsimp only
    cases el : a.lk j with
    | nil => exact q_V.same V (by omega)
    | cons c l =>
      obtain ⟨f, t, hf, ht, -, -, rfl, he⟩ := q_lk_some e
      have e1 : (10 * f + t) / 10 = f := by omega
      have e2 : (10 * f + t) % 10 = t := by omega
      dsimp only
      rw [e1, e2]
      exact ⟨(n_ho_ok hf ht he V).up h, (n_ho_pc V).1, (n_ho_pc V).2⟩
theorem n_V.st4 (V : n_V B a) : ∀ i, i < a.nc → (a.c i).st.length ≤ 4 := fun i hi => (V.2.2.2.1 i hi).1.2.2.2.2.2.2.2.2.1
theorem q_put_ok (V : n_V B a) (h : B ≤ B2) : q_V B2 a (q_put a x y w).2 := by
  unfold q_put
  cases e : q_st a x y with
  | none => exact q_V.same V h
  | some p =>
    obtain ⟨c, s⟩ := p
    obtain ⟨-, hc, hs, -⟩ := q_st_some V.1.2.2 V.st4 e
    dsimp only
    split
    · refine ⟨V.c h hc (((V.2.2.2.1 c hc).1.st List.length_set).up h) rfl rfl, ?_⟩
      exact n_pc_e (lk2 := a.lk) V hc rfl List.length_set
    · exact q_V.same V h
theorem q_destroy_ok (V : n_V B a) (h : B ≤ B2) : q_V B2 a (q_destroy a x).2 := by
  unfold q_destroy
  cases e : p_i a.nc x with
  | none => exact q_V.same V h
  | some i =>
    have hi := (p_i_some (by have := V.1.2.2; omega) e).1
    have ck := (V.2.2.2.1 i hi).1
    dsimp only
    split
    · exact q_V.same V h
    · have V1 := V.c (c2 := (c_ds (a.c i)).1) h hi (ck.go.up h) rfl rfl
      exact ⟨V1.sd (by have := ck.1; have := V.1.2.1; omega) (ck.ms1 V.1.1), n_pc_e V hi rfl (List.length_map _)⟩
theorem n_fo_ok {i : Nat} {st : List aT} {cmd s n : Nat} {d : Nat → Nat} (V : n_V B a) (h : B + 135 ≤ B2) (hi : i < a.nc) (hl : st.length = (a.c i).st.length) : q_V B2 a (n_fo a i (c_st (a.c i) st) cmd s n d) := by
  have ck := (V.2.2.2.1 i hi).1
  have V1 := V.c (B2 := B2) (c2 := (c_fo (c_st (a.c i) st) cmd s n d).1) (by omega) hi ((ck.st hl).fo.up h) rfl rfl
  exact ⟨V1.sd (by have := ck.1; have := V.1.2.1; omega) (ck.ms1 V.1.1), n_pc_e V hi rfl hl⟩
theorem q_close_ok (V : n_V B a) (h : B + 135 ≤ B2) : q_V B2 a (q_close a x y).2 := by
  unfold q_close
  cases e : q_st a x y with
  | none => exact q_V.same V (by omega)
  | some p =>
    obtain ⟨c, s⟩ := p
    obtain ⟨-, hc, hs, -⟩ := q_st_some V.1.2.2 V.st4 e
    dsimp only
    split
    · exact q_V.same V (by omega)
    · exact n_fo_ok V h hc List.length_set
theorem q_push_ok (V : n_V B a) (h : B + 135 ≤ B2) : q_V B2 a (q_push a x y).2 := by
  unfold q_push
  cases e : q_st a x y with
  | none => exact q_V.same V (by omega)
  | some p =>
    obtain ⟨c, s⟩ := p
    obtain ⟨-, hc, hs, -⟩ := q_st_some V.1.2.2 V.st4 e
    dsimp only
    split
    · exact q_V.same V (by omega)
    · exact n_fo_ok V h hc List.length_set
theorem q_stream_ok (V : n_V B a) (h : B + 135 ≤ B2) : q_V B2 a (q_stream a x y).2 := by
  unfold q_stream
  cases e : p_i a.nc x with
  | none => exact q_V.same V (by omega)
  | some i =>
    have hi := (p_i_some (by have := V.1.2.2; omega) e).1
    have ck := (V.2.2.2.1 i hi).1
    dsimp only
    cases p_i 256 y with
    | none => exact q_V.same V (by omega)
    | some port =>
      dsimp only
      split
      next z =>
        have el : ((a.c i).st ++ [t_nw]).length = (a.c i).st.length + 1 := List.length_append
        obtain ⟨a1, a2, a3, a4, a5, a6, a7, a8, a9⟩ := id ck
        have c1 : c_ok a.nr a.nk B (c_st (a.c i) ((a.c i).st ++ [t_nw])) := ⟨a1, a2, a3, a4, a5, fun w => absurd (z.1.symm.trans w) (by decide), a7, a8, (show ((a.c i).st ++ [t_nw]).length ≤ 4 by omega), fun _ => (show 0 < (a.c i).hp by have := a7 z.1; omega)⟩
        have V1 := V.c (B2 := B2) (c2 := (c_fo (c_st (a.c i) ((a.c i).st ++ [t_nw])) 1 ((a.c i).st.length + 1) 1 (fun _ => port)).1) (by omega) hi (c1.fo.up h) rfl rfl
        have pc := n_pc_s (a := a) (c2 := (c_fo (c_st (a.c i) ((a.c i).st ++ [t_nw])) 1 ((a.c i).st.length + 1) 1 (fun _ => port)).1) (lk2 := n_sd (8 + (a.c i).cl) a.lk [(c_fo (c_st (a.c i) ((a.c i).st ++ [t_nw])) 1 ((a.c i).st.length + 1) 1 (fun _ => port)).2]) hi V.1.2.2 rfl el z.2
        exact ⟨V1.sd (by have := ck.1; have := V.1.2.1; omega) (ck.ms1 V.1.1), Nat.le_of_add_right_le (Nat.le_of_eq pc.1), Nat.le_of_add_right_le (Nat.le_of_eq pc.2)⟩
      next => exact q_V.same V (by omega)
theorem q_settle_ok (V : n_V B a) (h : B + 540 * 200 ≤ B2) : q_V B2 a (q_settle a x).2 := by
  unfold q_settle
  cases e : p_s 200 x with
  | none => exact q_V.same V (by omega)
  | some k =>
    have hk := (p_s_some (by decide) e).1
    obtain ⟨k1, k2, k3, k4, k5⟩ := st_o_ok (B := B) (n := k + 1) (k + 1) 0 a V (Nat.zero_le _)
    exact ⟨k1.up (by omega), k4, k5⟩
/-- a node more -/
theorem n_ex_up {nr nk nr2 nk2 j : Nat} (hp : ∀ x, n_pr nr nk x = true → n_pr nr2 nk2 x = true) (h : n_ex nr nk j = true) : n_ex nr2 nk2 j = true := n_ex_iff.mpr ⟨⟨hp _ (n_ex_iff.mp h).1.1, hp _ (n_ex_iff.mp h).1.2⟩, (n_ex_iff.mp h).2⟩
theorem r_ok.gr {nr nk nr2 nk2 self : Nat} {r : aR} (hp : ∀ x, n_pr nr nk x = true → n_pr nr2 nk2 x = true) (hr : nr ≤ nr2) (R : r_ok nr nk self B r) : r_ok nr2 nk2 self B r := by
  obtain ⟨k1, k2, k3, k4⟩ := R
  exact ⟨k1, k2, fun j e he => by
    obtain ⟨q1, q2, q3⟩ := k3 j e he
    exact ⟨⟨q1.1, n_ex_up hp q1.2⟩, fun q hq => ⟨by have := (q2 q hq).1; omega, (q2 q hq).2⟩, q3⟩, k4⟩
theorem c_ok.gr {nr nk nr2 nk2 : Nat} {c : aC} (hr : nr ≤ nr2) (hk : nk ≤ nk2) (K : c_ok nr nk B c) : c_ok nr2 nk2 B c := by
  obtain ⟨a1, a2, a3, a4⟩ := K
  exact ⟨by omega, a2, fun j hj => by have := a3 j hj; omega, a4⟩
theorem q_client_ok (V : n_V B a) (h : B ≤ B2) : q_V B2 a (q_client a seed).2 := by
  unfold q_client
  split
  next z =>
    obtain ⟨⟨q1, q2, q3⟩, k2, k3, k4, k5, k6, k7⟩ := V.up h
    have hp : ∀ x, n_pr a.nr a.nk x = true → n_pr a.nr (a.nk + 1) x = true := fun x hx => (n_pr_c q1 x).mpr (Or.inl hx)
    have ku : ∀ j, j < a.nk → (fu a.k a.nk (seed, 0, 0) j).nu = (a.k j).nu := fun j hj => by rw [fu_n (by omega)]
    refine ⟨⟨⟨q1, (show a.nk + 1 ≤ 2 by omega), q3⟩, fun i hi => (k2 i hi).gr hp (Nat.le_refl _), fun i hi => ?_, fun i hi => ?_, k5, fun j hj e => ?_, k7⟩, ?_, ?_⟩
    · have hi : i < a.nk + 1 := hi
      show (fu a.k a.nk (seed, 0, 0) i).nu ≤ a.nc
      by_cases w : i = a.nk
      · rw [w, fu_s]
        exact Nat.zero_le _
      · rw [fu_n w]
        exact k3 i (by omega)
    · obtain ⟨c1, c2, c3⟩ := k4 i hi
      refine ⟨c1.gr (Nat.le_refl _) (Nat.le_succ _), c2, ?_⟩
      show (a.c i).nu ≤ (fu a.k a.nk (seed, 0, 0) (a.c i).cl).nu
      rw [ku _ c1.1]
      exact c3
    · refine k6 j hj ?_
      cases w : n_ex a.nr a.nk j with
      | false => rfl
      | true =>
        have e : n_ex a.nr (a.nk + 1) j = false := e
        rw [n_ex_up hp w] at e
        exact nomatch e
    · show (6 - a.nr) * 400 + (2 - (a.nk + 1)) * 60 + s6 (fun i => if i < a.nc then 16 * (3 - (a.c i).hp) + 3 * (4 - (a.c i).st.length) else 80) ≤ (6 - a.nr) * 400 + (2 - a.nk) * 60 + s6 (fun i => if i < a.nc then 16 * (3 - (a.c i).hp) + 3 * (4 - (a.c i).st.length) else 80)
      omega
    · show (6 - a.nr) * 40000 + (2 - (a.nk + 1)) * 23000 + s6 (fun i => if i < a.nc then 420 * (3 - (a.c i).hp) + 2408 * (4 - (a.c i).st.length) else 12000) ≤ (6 - a.nr) * 40000 + (2 - a.nk) * 23000 + s6 (fun i => if i < a.nc then 420 * (3 - (a.c i).hp) + 2408 * (4 - (a.c i).st.length) else 12000)
      omega
  next => exact q_V.same V h
theorem q_relay_ok (V : n_V B a) (h : B ≤ B2) : q_V B2 a (q_relay a seed).2 := by
  unfold q_relay
  split
  next z =>
    obtain ⟨⟨q1, q2, q3⟩, k2, k3, k4, k5, k6, k7⟩ := V.up h
    have hp : ∀ x, n_pr a.nr a.nk x = true → n_pr (a.nr + 1) a.nk x = true := fun x hx => (n_pr_R z x).mpr (Or.inl hx)
    refine ⟨⟨⟨(show a.nr + 1 ≤ 6 by omega), q2, q3⟩, fun i hi => ?_, k3, fun i hi => ⟨(k4 i hi).1.gr (Nat.le_succ _) (Nat.le_refl _), (k4 i hi).2⟩, k5, fun j hj e => ?_, k7⟩, ?_, ?_⟩
    · have hi : i < a.nr + 1 := hi
      show r_ok (a.nr + 1) a.nk i B2 (fu a.r a.nr (seed, 0, 10, 1000, (fun _ => none), []) i)
      by_cases w : i = a.nr
      · rw [w, fu_s]
        exact ⟨(show 10 ≤ 1000 by decide), Nat.le_add_right _ _, (fun j e he => nomatch he), (fun j k e f he => nomatch he), (fun j k e f p q he => nomatch he), fun _ _ => rfl⟩
      · rw [fu_n w]
        exact (k2 i (by omega)).gr hp (Nat.le_succ _)
    · refine k6 j hj ?_
      cases w : n_ex a.nr a.nk j with
      | false => rfl
      | true =>
        have e : n_ex (a.nr + 1) a.nk j = false := e
        rw [n_ex_up hp w] at e
        exact nomatch e
    · show (6 - (a.nr + 1)) * 400 + (2 - a.nk) * 60 + s6 (fun i => if i < a.nc then 16 * (3 - (a.c i).hp) + 3 * (4 - (a.c i).st.length) else 80) ≤ (6 - a.nr) * 400 + (2 - a.nk) * 60 + s6 (fun i => if i < a.nc then 16 * (3 - (a.c i).hp) + 3 * (4 - (a.c i).st.length) else 80)
      omega
    · show (6 - (a.nr + 1)) * 40000 + (2 - a.nk) * 23000 + s6 (fun i => if i < a.nc then 420 * (3 - (a.c i).hp) + 2408 * (4 - (a.c i).st.length) else 12000) ≤ (6 - a.nr) * 40000 + (2 - a.nk) * 23000 + s6 (fun i => if i < a.nc then 420 * (3 - (a.c i).hp) + 2408 * (4 - (a.c i).st.length) else 12000)
      omega
  next => exact q_V.same V h
/-- the path of the caller -/
theorem q_pa_ok {nr : Nat} (hn : nr ≤ 6) (e : i_pa nr x y z = true) : (1 ≤ (q_pa x y z).length ∧ (q_pa x y z).length ≤ 3) ∧ ∀ j, j < (q_pa x y z).length → (q_pa x y z).getD j 0 < nr := by
  obtain ⟨i, hi, hyz⟩ := i_pa_sp hn e
  obtain ⟨i1, i2⟩ := p_i_some (by omega) hi
  have xi : x.toNatClampNeg = i := by rw [i2, nI_clamp (by omega)]
  unfold q_pa
  rw [xi]
  rcases hyz with ⟨hy, hz⟩ | ⟨j, hj, hy, hz⟩
  · rw [if_pos hy]
    refine ⟨⟨Nat.le_of_ble_eq_true rfl, Nat.le_of_ble_eq_true rfl⟩, fun n hn => ?_⟩
    have hn : n < 1 := hn
    obtain rfl : n = 0 := by omega
    exact i1
  · obtain ⟨j1, j2⟩ := p_i_some (by omega) hj
    have yj : y.toNatClampNeg = j := by rw [j2, nI_clamp (by omega)]
    rw [if_neg hy, yj]
    rcases hz with hz | ⟨m, hm, hz⟩
    · rw [if_pos hz]
      refine ⟨⟨Nat.le_of_ble_eq_true rfl, Nat.le_of_ble_eq_true rfl⟩, fun n hn => ?_⟩
      have hn : n < 2 := hn
      match n, hn with
      | 0, _ => exact i1
      | 1, _ => exact j1
      | n + 2, w => exact absurd w (by omega)
    · obtain ⟨m1, m2⟩ := p_i_some (by omega) hm
      have zm : z.toNatClampNeg = m := by rw [m2, nI_clamp (by omega)]
      rw [if_neg hz, zm]
      refine ⟨⟨Nat.le_of_ble_eq_true rfl, Nat.le_of_ble_eq_true rfl⟩, fun n hn => ?_⟩
      have hn : n < 3 := hn
      match n, hn with
      | 0, _ => exact i1
      | 1, _ => exact j1
      | 2, _ => exact m1
      | n + 3, w => exact absurd w (by omega)
theorem q_circuit_ok (V : n_V B a) (h : B ≤ B2) : q_V B2 a (q_circuit a cl x y z).2 := by
  unfold q_circuit
  cases e : p_i a.nk (cl - 8) with
  | none => exact q_V.same V h
  | some k =>
    dsimp only
    split
    next w =>
      obtain ⟨hk, -⟩ := p_i_some (by have := V.1.2.1; omega) e
      obtain ⟨p1, p2⟩ := q_pa_ok V.1.1 w.2
      generalize q_pa x y z = pa at p1 p2 ⊢
      obtain ⟨⟨q1, q2, q3⟩, k2, k3, k4, k5, k6, k7⟩ := V.up h
      have ku : ∀ j, (a.k j).nu ≤ (fu a.k k ((a.k k).se, (a.k k).dr + 1, (a.k k).nu + 1) j).nu := fun j => by
        by_cases u : j = k
        · rw [u, fu_s]
          exact Nat.le_succ _
        · rw [fu_n u]
          exact Nat.le_refl _
      have V1 : n_V B2 (n_nw a k pa) := by
        refine ⟨⟨q1, q2, (show a.nc + 1 ≤ 6 by omega)⟩, k2, fun i hi => ?_, fun i hi => ?_, fun i j hi hj f1 f2 => ?_, k6, k7⟩
        · show (fu a.k k ((a.k k).se, (a.k k).dr + 1, (a.k k).nu + 1) i).nu ≤ a.nc + 1
          by_cases u : i = k
          · rw [u, fu_s]
            have := k3 k hk
            exact Nat.succ_le_succ this
          · rw [fu_n u]
            exact Nat.le_succ_of_le (k3 i hi)
        · have hi : i < a.nc + 1 := hi
          show c_ok a.nr a.nk B2 (fu a.c a.nc (c_nw a k pa) i) ∧ 1 ≤ (fu a.c a.nc (c_nw a k pa) i).nu ∧ (fu a.c a.nc (c_nw a k pa) i).nu ≤ (fu a.k k ((a.k k).se, (a.k k).dr + 1, (a.k k).nu + 1) (fu a.c a.nc (c_nw a k pa) i).cl).nu
          by_cases u : i = a.nc
          · rw [u, fu_s]
            refine ⟨⟨hk, p1, p2, Nat.zero_le _, Nat.zero_le _, fun _ => ⟨(show 0 < pa.length by omega), rfl⟩, (fun v => nomatch v), fun j hj => absurd hj (Nat.not_lt_zero j), Nat.zero_le _, fun v => absurd v (Nat.lt_irrefl 0)⟩, Nat.succ_le_succ (Nat.zero_le _), ?_⟩
            show (a.k k).nu + 1 ≤ (fu a.k k ((a.k k).se, (a.k k).dr + 1, (a.k k).nu + 1) k).nu
            rw [fu_s]
            exact Nat.le_refl _
          · rw [fu_n u]
            obtain ⟨c1, c2, c3⟩ := k4 i (by omega)
            exact ⟨c1, c2, Nat.le_trans c3 (ku _)⟩
        · have hi : i < a.nc + 1 := hi
          have hj : j < a.nc + 1 := hj
          have f1 : (fu a.c a.nc (c_nw a k pa) i).cl = (fu a.c a.nc (c_nw a k pa) j).cl := f1
          have f2 : (fu a.c a.nc (c_nw a k pa) i).nu = (fu a.c a.nc (c_nw a k pa) j).nu := f2
          have lt : ∀ m, m < a.nc → (a.c m).cl = k → (a.c m).nu < (a.k k).nu + 1 := fun m hm em => by
            have := (k4 m hm).2.2
            rw [em] at this
            omega
          by_cases u : i = a.nc
          · by_cases u2 : j = a.nc
            · rw [u, u2]
            · rw [u, fu_s, fu_n u2] at f1 f2
              have f1 : k = (a.c j).cl := f1
              have f2 : (a.k k).nu + 1 = (a.c j).nu := f2
              have := lt j (by omega) f1.symm
              omega
          · by_cases u2 : j = a.nc
            · rw [u2, fu_s, fu_n u] at f1 f2
              have f1 : (a.c i).cl = k := f1
              have f2 : (a.c i).nu = (a.k k).nu + 1 := f2
              have := lt i (by omega) f1
              omega
            · rw [fu_n u, fu_n u2] at f1 f2
              exact k5 i j (by omega) (by omega) f1 f2
      have pc := n_pc_n (a := a) (k := k) (pa := pa) (lk := n_sd (8 + k) a.lk [(pa.getD 0 0, ce_k (nI ((a.k k).nu + 1)) 10 (of_b (a.r (pa.getD 0 0)).se (an_d (a.k k).se (a.k k).dr)) 68)]) w.1
      exact ⟨V1.sd (by omega) (m_one (n_ex_k q1 hk (p2 0 (by omega)))), Nat.le_of_add_right_le (Nat.le_of_eq pc.1), Nat.le_of_add_right_le (Nat.le_of_eq pc.2)⟩
    next => exact q_V.same V h
end QOK
