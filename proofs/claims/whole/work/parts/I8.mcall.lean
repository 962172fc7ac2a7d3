/-! the reference's calls on circuits: has, put, close, destroy, stream -/
def s_m (f : Nat → Nat) : Nat → Nat
  | 0 => 0
  | n + 1 => s_m f n + f n
theorem s_m_eq {f g : Nat → Nat} : ∀ n, (∀ i, i < n → f i = g i) → s_m f n = s_m g n
  | 0, _ => rfl
  | n + 1, h => by
    show s_m f n + f n = s_m g n + g n
    rw [s_m_eq n (fun i hi => h i (by omega)), h n (by omega)]
theorem s_m_up {f : Nat → Nat} {s : Nat} : ∀ n, s < n → s_m f n = s_m (fu f s 0) n + f s
  | 0, h => absurd h (Nat.not_lt_zero s)
  | n + 1, h => by
    show s_m f n + f n = s_m (fu f s 0) n + fu f s 0 n + f s
    by_cases z : n = s
    · subst z
      rw [fu_s, s_m_eq n (g := fu f n 0) (fun i hi => (fu_n (by omega)).symm), Nat.add_zero]
    · rw [s_m_up (f := f) (s := s) n (by omega), fu_n z]
      omega
theorem s_m_0 {f : Nat → Nat} : ∀ n, (∀ i, i < n → f i = 0) → s_m f n = 0
  | 0, _ => rfl
  | n + 1, h => by
    show s_m f n + f n = 0
    rw [s_m_0 n (fun i hi => h i (by omega)), h n (by omega)]
theorem s_m_ord {ord : Nat → Nat} : ∀ (n : Nat) (f : Nat → Nat), (∀ j k, j < n → k < n → ord j = ord k → j = k) → (∀ k, k < n → ord k < 12) → (∀ s, s < 12 → (∀ k, k < n → ord k ≠ s) → f s = 0) → s_m f 12 = s_m (fun k => f (ord k)) n
  | 0, f, _, _, h3 => s_m_0 12 (fun i hi => h3 i hi (fun k hk => absurd hk (Nat.not_lt_zero k)))
  | n + 1, f, h1, h2, h3 => by
    show s_m f 12 = s_m (fun k => f (ord k)) n + f (ord n)
    rw [s_m_up 12 (h2 n (by omega)), s_m_ord n (fu f (ord n) 0) (fun j k hj hk => h1 j k (by omega) (by omega)) (fun k hk => h2 k (by omega)) (fun s hs hk => by
      by_cases z : s = ord n
      · rw [z, fu_s]
      · rw [fu_n z]
        refine h3 s hs (fun k hk2 => ?_)
        by_cases w : k = n
        · rw [w]
          exact fun e => z e.symm
        · exact hk k (by omega))]
    congr 1
    exact s_m_eq n (fun i hi => fu_n (fun e => absurd (h1 i n (by omega) (by omega) e) (by omega)))
theorem e_ct_s {en : Nat → Option aE} : ∀ n, e_ct en n = s_m (fun s => if (en s).isSome = true then 1 else 0) n
  | 0 => rfl
  | n + 1 => by
    show e_ct en n + _ = s_m _ n + _
    rw [e_ct_s n]
def e_sl (en : Nat → Option aE) (s : Nat) : Nat := match en s with | some e => e.st.length | none => 0
theorem e_sc_s {en : Nat → Option aE} : ∀ n, e_sc en n = s_m (e_sl en) n
  | 0 => rfl
  | n + 1 => by
    show e_sc en n + e_sl en n = s_m _ n + _
    rw [e_sc_s n]
theorem s_m_1 {f : Nat → Nat} : ∀ n, (∀ i, i < n → f i = 1) → s_m f n = n
  | 0, _ => rfl
  | n + 1, h => by
    show s_m f n + f n = n + 1
    rw [s_m_1 n (fun i hi => h i (by omega)), h n (by omega)]
section MCL
variable {G : on_G} {o sz B nc bc bs : Nat} {RA CA : Nat → Nat} {a : aN} {h h1 : on_H} {x y w i k m : Int32} {Q : Option Value → on_H → Nat → Prop}
set_option maxHeartbeats 4000000 in
theorem mhs_l {R n : Nat} {r : aR} {ord es : Nat → Nat} {v : Value} (S : mr_S R r n ord es h) (I : mr_I R r.en n ord es)
    (kk : on_E G M_M_has 53 (on_l [(2, .int w), (3, .ref R), (4, .int (nI (s_m (fun k => e_sl r.en (ord k)) n)))]) [] h sz bc bs Q) :
    ∀ (m j : Nat), j + m = n → on_E G M_M_has 23 (on_l [(2, .int w), (3, .ref R), (4, .int (nI (s_m (fun k => e_sl r.en (ord k)) j))), (5, .int (nI j))]) [] h sz bc bs Q := by
  have n12 := I.1
  have r0 : h R = some (.inr (15, [.long r.se, .int r.dr, .ref (R + 1), .ref (R + 2), .ref (R + 3), .int (nI r.we), .int (nI r.nx), .ref (R + 4), .int (nI n), .ref (R + 5), .int (nI r.ke.length)])) := S.1
  have e1 := S.2.2.2.2.1.1
  intro m
  induction m with
  | zero =>
    intro j hj
    have ej : j = n := by omega
    subst ej
    refine on_iload (pc' := 25) rfl rfl rfl ?_
    first | refine on_aload_n (pc' := 26) rfl rfl rfl rfl ?_ | refine on_aload_nQ (pc' := 26) rfl rfl rfl rfl ?_
    first | apply on_get (pc' := 29) rfl rfl fl_M_333 | apply on_getN (pc' := 29) rfl rfl fl_M_333
    · repeat (first | assumption | exact on_up_eq _ _ _ | refine (on_up_ne (by omega)).trans ?_)
    · rfl
    refine on_icmp_ge (pc' := 32) (tgt := 53) rfl rfl rfl (fun cq => ?_) (fun cq => ?_)
    · exact on_relv (l := [(2, .int w), (3, .ref R), (4, .int (nI (s_m (fun k => e_sl r.en (ord k)) j)))]) ⟨rfl, rfl, rfl, trivial⟩ kk
    · exact absurd (nI_le (a := j) (Nat.le_refl _) (by omega)) cq
  | succ m ih =>
    intro j hj
    have i1 : j < 12 ∧ 12 < 2 ^ 31 := by omega
    obtain ⟨e, he, E⟩ := S.2.2.2.2.1.2.1 j (by omega)
    obtain ⟨tn, SS, VV, WW, CC, ⟨b0, -⟩, -⟩ := E
    refine on_iload (pc' := 25) rfl rfl rfl ?_
    first | refine on_aload_n (pc' := 26) rfl rfl rfl rfl ?_ | refine on_aload_nQ (pc' := 26) rfl rfl rfl rfl ?_
    first | apply on_get (pc' := 29) rfl rfl fl_M_333 | apply on_getN (pc' := 29) rfl rfl fl_M_333
    · repeat (first | assumption | exact on_up_eq _ _ _ | refine (on_up_ne (by omega)).trans ?_)
    · rfl
    refine on_icmp_ge (pc' := 32) (tgt := 53) rfl rfl rfl (fun cq => ?_) (fun cq => ?_)
    · exact absurd cq (nI_ge (b := n) (by omega) (by omega))
    · clear cq
      refine on_iload (pc' := 34) rfl rfl rfl ?_
      first | refine on_aload_n (pc' := 35) rfl rfl rfl rfl ?_ | refine on_aload_nQ (pc' := 35) rfl rfl rfl rfl ?_
      first | apply on_get (pc' := 38) rfl rfl fl_M_324 | apply on_getN (pc' := 38) rfl rfl fl_M_324
      · repeat (first | assumption | exact on_up_eq _ _ _ | refine (on_up_ne (by omega)).trans ?_)
      · rfl
      refine on_iload (pc' := 40) rfl rfl rfl ?_
      apply on_aaloadK (pc' := 41) rfl rfl
      · repeat (first | assumption | exact on_up_eq _ _ _ | refine (on_up_ne (by omega)).trans ?_)
      · rfl
      · first | assumption | exact on_lit _ | rfl
      · first | assumption | omega | decide
      show on_E G M_M_has 41 _ [.ref (es j), .int (nI (s_m (fun k => e_sl r.en (ord k)) j))] h sz _ _ _
      first | apply on_get (pc' := 44) rfl rfl fl_M_381 | apply on_getN (pc' := 44) rfl rfl fl_M_381
      · repeat (first | assumption | exact on_up_eq _ _ _ | refine (on_up_ne (by omega)).trans ?_)
      · rfl
      refine on_iadd (pc' := 45) rfl rfl ?_
      rw [nI_add]
      refine on_istore (pc' := 47) rfl rfl (by decide) ?_
      refine on_iinc1 (pc' := 50) rfl rfl rfl ?_
      refine on_goto (tgt := 23) rfl rfl ?_
      refine on_relv (l := [(2, .int w), (3, .ref R), (4, .int (nI (s_m (fun k => e_sl r.en (ord k)) (j + 1)))), (5, .int (nI (j + 1)))]) ⟨rfl, rfl, congrArg some (congrArg Value.int ?_), congrArg some (congrArg Value.int (nI_1 j)), trivial⟩ (ih (j + 1) (by omega))
      show nI (s_m (fun k => e_sl r.en (ord k)) j + e.st.length) = nI (s_m (fun k => e_sl r.en (ord k)) j + e_sl r.en (ord j))
      unfold e_sl
      rw [he]
set_option maxHeartbeats 4000000 in
theorem c_M_has (X : mX o sz RA CA a h) (V : n_V B a) : on_Ct G M_M_has [.ref o, .int x, .int w] h sz 0 0 (fun v h1 z => v = some (.int (q_has a x w)) ∧ z = sz ∧ h1 = h) := by
  have o1 := X.1.ob.1
  have x1 := X.2.2.1.1
  have v6 := V.1.1
  refine on_Ct.of (by decide) v_M_has (Nat.le_of_ble_eq_true rfl) ?_
  first | refine on_aload_n (pc' := 1) rfl rfl rfl rfl ?_ | refine on_aload_nQ (pc' := 1) rfl rfl rfl rfl ?_
  refine on_iload_n (pc' := 2) rfl rfl rfl rfl ?_
  refine on_callV (pc' := 5) (As := [.int x]) (rest := []) (b := o) rfl rfl cw_M_has_278 (o1) rfl rfl (Nat.le_of_ble_eq_true rfl) (Nat.zero_le _) (Nat.zero_le _) (c_M_isRelay o1) ?_
  rintro v h sz ⟨rfl, rfl, rfl⟩
  cases e : p_i a.nr x with
  | none =>
    show on_E G M_M_has 5 _ [.int 0] h sz _ _ _
    refine on_if_ne (pc' := 8) (tgt := 10) rfl rfl rfl (fun cq => ?_) (fun cq => ?_)
    · exact absurd rfl cq
    · refine on_iconst (pc' := 9) (v := (-1)) rfl rfl li_m1 ?_
      refine on_ireturn rfl rfl ?_
      unfold q_has
      rw [e]
      exact ⟨rfl, rfl, rfl⟩
  | some j =>
    obtain ⟨hj, ej⟩ := p_i_some (by omega) e
    subst ej
    have i1 : j < 6 ∧ 6 < 2 ^ 31 := by omega
    obtain ⟨n, ord, es, S, I⟩ := X.2.2.2.2.1 j hj
    have r0 : h (RA j) = some (.inr (15, [.long (a.r j).se, .int (a.r j).dr, .ref (RA j + 1), .ref (RA j + 2), .ref (RA j + 3), .int (nI (a.r j).we), .int (nI (a.r j).nx), .ref (RA j + 4), .int (nI n), .ref (RA j + 5), .int (nI (a.r j).ke.length)])) := S.1
    have none12 : ∀ s, s < 12 → (∀ k, k < n → ord k ≠ s) → (a.r j).en s = none := fun s hs hk => by
      cases z : (a.r j).en s with
      | none => rfl
      | some e =>
        obtain ⟨k, k1, k2⟩ := I.2.2.2.2.1 s e z
        exact absurd k2 (hk k k1)
    have ct : e_ct (a.r j).en 12 = n := by
      rw [e_ct_s, s_m_ord n _ I.2.2.2.1 I.2.2.2.2.2 (fun s hs hk => by rw [none12 s hs hk]; rfl)]
      refine s_m_1 n (fun k hk => ?_)
      obtain ⟨e, he, -⟩ := S.2.2.2.2.1.2.1 k hk
      rw [he]
      rfl
    have sc : e_sc (a.r j).en 12 = s_m (fun k => e_sl (a.r j).en (ord k)) n := by
      rw [e_sc_s, s_m_ord n _ I.2.2.2.1 I.2.2.2.2.2 (fun s hs hk => by unfold e_sl; rw [none12 s hs hk])]
    have eq : q_has a (nI j) w = if w = 0 then nI n else if w = 1 then nI (s_m (fun k => e_sl (a.r j).en (ord k)) n) else if w = 2 then nI (a.r j).ke.length else -1 := by
      unfold q_has
      rw [e]
      show (if w = 0 then nI (e_ct (a.r j).en 12) else if w = 1 then nI (e_sc (a.r j).en 12) else if w = 2 then nI (a.r j).ke.length else -1) = _
      rw [ct, sc]
    rw [eq]
    show on_E G M_M_has 5 _ [.int 1] h sz _ _ _
    refine on_if_ne (pc' := 8) (tgt := 10) rfl rfl rfl (fun cq => ?_) (fun cq => ?_)
    rotate_left
    · exact absurd cq (by decide)
    clear cq
    first | refine on_aload_n (pc' := 11) rfl rfl rfl rfl ?_ | refine on_aload_nQ (pc' := 11) rfl rfl rfl rfl ?_
    first | apply on_get (pc' := 14) rfl rfl fl_M_9 | apply on_getN (pc' := 14) rfl rfl fl_M_9
    · repeat (first | assumption | exact on_up_eq _ _ _ | refine (on_up_ne (by omega)).trans ?_)
    · rfl
    refine on_iload_n (pc' := 15) rfl rfl rfl rfl ?_
    apply on_aaloadK (pc' := 16) rfl rfl
    · repeat (first | assumption | exact on_up_eq _ _ _ | refine (on_up_ne (by omega)).trans ?_)
    · rfl
    · first | assumption | exact on_lit _ | rfl
    · first | assumption | omega | decide
    rw [rf_at hj]
    show on_E G M_M_has 16 _ [.ref (RA j)] h sz _ _ _
    first | refine on_astore_n (pc' := 17) rfl rfl rfl (by decide) ?_ | refine on_astore_nQ (pc' := 17) rfl rfl rfl (by decide) ?_
    refine on_iconst (pc' := 18) (v := 0) rfl rfl li_0 ?_
    refine on_istore (pc' := 20) rfl rfl (by decide) ?_
    refine on_iconst (pc' := 21) (v := 0) rfl rfl li_0 ?_
    refine on_istore (pc' := 23) rfl rfl (by decide) ?_
    refine on_relv (l := [(2, .int w), (3, .ref (RA j)), (4, .int (nI (s_m (fun k => e_sl (a.r j).en (ord k)) 0))), (5, .int (nI 0))]) ⟨rfl, rfl, rfl, rfl, trivial⟩ ?_
    refine mhs_l (v := .null) S I ?_ n 0 (Nat.zero_add _)
    refine on_iload_n (pc' := 54) rfl rfl rfl rfl ?_
    refine on_if_ne (pc' := 57) (tgt := 64) rfl rfl rfl (fun cq => ?_) (fun cq => ?_)
    · have w0 := cq
      clear cq
      rw [if_neg w0]
      refine on_iload_n (pc' := 65) rfl rfl rfl rfl ?_
      refine on_iconst (pc' := 66) (v := 1) rfl rfl li_1 ?_
      refine on_icmp_ne (pc' := 69) (tgt := 74) rfl rfl rfl (fun cq => ?_) (fun cq => ?_)
      · have w1 := cq
        clear cq
        rw [if_neg w1]
        refine on_iload_n (pc' := 75) rfl rfl rfl rfl ?_
        refine on_iconst (pc' := 76) (v := 2) rfl rfl li_2 ?_
        refine on_icmp_ne (pc' := 79) (tgt := 86) rfl rfl rfl (fun cq => ?_) (fun cq => ?_)
        · rw [if_neg cq]
          refine on_iconst (pc' := 87) (v := (-1)) rfl rfl li_m1 ?_
          refine on_ireturn rfl rfl ?_
          exact ⟨rfl, rfl, rfl⟩
        · rw [if_pos cq]
          first | refine on_aload_n (pc' := 80) rfl rfl rfl rfl ?_ | refine on_aload_nQ (pc' := 80) rfl rfl rfl rfl ?_
          first | apply on_get (pc' := 83) rfl rfl fl_M_453 | apply on_getN (pc' := 83) rfl rfl fl_M_453
          · repeat (first | assumption | exact on_up_eq _ _ _ | refine (on_up_ne (by omega)).trans ?_)
          · rfl
          refine on_goto (tgt := 87) rfl rfl ?_
          refine on_ireturn rfl rfl ?_
          exact ⟨rfl, rfl, rfl⟩
      · rw [if_pos cq]
        refine on_iload (pc' := 71) rfl rfl rfl ?_
        refine on_goto (tgt := 87) rfl rfl ?_
        refine on_ireturn rfl rfl ?_
        exact ⟨rfl, rfl, rfl⟩
    · rw [if_pos cq]
      first | refine on_aload_n (pc' := 58) rfl rfl rfl rfl ?_ | refine on_aload_nQ (pc' := 58) rfl rfl rfl rfl ?_
      first | apply on_get (pc' := 61) rfl rfl fl_M_333 | apply on_getN (pc' := 61) rfl rfl fl_M_333
      · repeat (first | assumption | exact on_up_eq _ _ _ | refine (on_up_ne (by omega)).trans ?_)
      · rfl
      refine on_goto (tgt := 87) rfl rfl ?_
      refine on_ireturn rfl rfl ?_
      exact ⟨rfl, rfl, rfl⟩
/-- the client is the same -/
theorem mX.ofQ {i : Nat} {q : aC} {lk2 : Nat → List aB} {SD : Nat → Int64} {DR : Nat → Int32} (X : mX o sz RA CA a h) (hi : i < a.nc) (hk : (a.c i).cl < a.nk) (h2 : a.nk ≤ 2) (hD : ∀ j, j < 2 → DR j = if j < a.nk then (a.k j).dr else 0) (hS : ∀ j, j < a.nk → SD j = (a.k j).se) (Z : mC o (CA i) (a.c i).cl a.nr (nI a.nr, nI a.nk, nI a.nc) (rf a.nr RA) a.r SD DR lk2 q (a.k (a.c i).cl) h1) (f : mf_C o (CA i) h h1) : mX o sz RA CA (n_lk (n_c a i q) lk2) h1 ∧ m_fr o a.nr a.nc RA CA h h1 := by
  have := X.ofC hi hk h2 hD hS Z rfl f
  rw [show fu a.k (a.c i).cl (a.k (a.c i).cl) = a.k from fu_self] at this
  exact this
set_option maxHeartbeats 4000000 in
theorem c_M_destroy (X : mX o sz RA CA a h) (V : n_V B a) : on_Ct G M_M_destroy [.ref o, .int x] h sz 0 0 (fun v h1 z => v = some (.int (q_destroy a x).1) ∧ z = sz ∧ mX o sz RA CA (q_destroy a x).2 h1 ∧ m_fr o a.nr a.nc RA CA h h1) := by
  have o1 := X.1.ob.1
  have x5 := X.2.2.1.2.2.2.2
  have v6 := V.1.2.2
  have no : ∀ lv, q_destroy a x = (0, a) → on_E G M_M_destroy 21 lv [] h sz 0 0 (fun v h1 z => v = some (.int (q_destroy a x).1) ∧ z = sz ∧ mX o sz RA CA (q_destroy a x).2 h1 ∧ m_fr o a.nr a.nc RA CA h h1) := fun lv e => by
    refine on_iconst (pc' := 22) (v := 0) rfl rfl li_0 ?_
    refine on_zreturn rfl rfl ?_ ?_
    · first | rfl | assumption
    rw [e]
    exact ⟨rfl, rfl, X, m_fr.id⟩
  refine on_Ct.of (by decide) v_M_destroy (Nat.le_of_ble_eq_true rfl) ?_
  first | refine on_aload_n (pc' := 1) rfl rfl rfl rfl ?_ | refine on_aload_nQ (pc' := 1) rfl rfl rfl rfl ?_
  refine on_iload_n (pc' := 2) rfl rfl rfl rfl ?_
  refine on_callV (pc' := 5) (As := [.int x]) (rest := []) (b := o) rfl rfl cw_M_destroy_520 (o1) rfl rfl (Nat.le_of_ble_eq_true rfl) (Nat.zero_le _) (Nat.zero_le _) (c_M_isCircuit o1) ?_
  rintro v h sz ⟨rfl, rfl, rfl⟩
  cases e : p_i a.nc x with
  | none =>
    show on_E G M_M_destroy 5 _ [.int 0] h sz _ _ _
    refine on_if_eq (pc' := 8) (tgt := 21) rfl rfl rfl (fun cq => ?_) (fun cq => ?_)
    · exact no _ (by unfold q_destroy; rw [e])
    · exact absurd rfl cq
  | some j =>
    obtain ⟨hj, ej⟩ := p_i_some (by omega) e
    subst ej
    have i1 : j < 6 ∧ 6 < 2 ^ 31 := by omega
    have c0 := X.cob hj
    have CK := (V.2.2.2.1 j hj).1
    have eq : q_destroy a (nI j) = if (a.c j).ph = 2 then (0, a) else (1, n_lk (n_c a j (c_ds (a.c j)).1) (n_sd (8 + (a.c j).cl) a.lk (c_ds (a.c j)).2)) := by
      unfold q_destroy
      rw [e]
    show on_E G M_M_destroy 5 _ [.int 1] h sz _ _ _
    refine on_if_eq (pc' := 8) (tgt := 21) rfl rfl rfl (fun cq => ?_) (fun cq => ?_)
    · exact absurd cq (by decide)
    clear cq
    first | refine on_aload_n (pc' := 9) rfl rfl rfl rfl ?_ | refine on_aload_nQ (pc' := 9) rfl rfl rfl rfl ?_
    first | apply on_get (pc' := 12) rfl rfl fl_M_28 | apply on_getN (pc' := 12) rfl rfl fl_M_28
    · repeat (first | assumption | exact on_up_eq _ _ _ | refine (on_up_ne (by omega)).trans ?_)
    · rfl
    refine on_iload_n (pc' := 13) rfl rfl rfl rfl ?_
    apply on_aaloadK (pc' := 14) rfl rfl
    · repeat (first | assumption | exact on_up_eq _ _ _ | refine (on_up_ne (by omega)).trans ?_)
    · rfl
    · first | assumption | exact on_lit _ | rfl
    · first | assumption | omega | decide
    rw [rf_at hj]
    show on_E G M_M_destroy 14 _ [.ref (CA j)] h sz _ _ _
    have ph2 := CK.2.2.2.2.1
    first | apply on_get (pc' := 17) rfl rfl fl_M_489 | apply on_getN (pc' := 17) rfl rfl fl_M_489
    · repeat (first | assumption | exact on_up_eq _ _ _ | refine (on_up_ne (by omega)).trans ?_)
    · rfl
    refine on_iconst (pc' := 18) (v := 2) rfl rfl li_2 ?_
    refine on_icmp_ne (pc' := 21) (tgt := 23) rfl rfl rfl (fun cq => ?_) (fun cq => ?_)
    · have p2 : ¬ (a.c j).ph = 2 := fun z => cq (by rw [z]; rfl)
      clear cq
      rw [if_neg p2] at eq
      obtain ⟨SD, DR, KC, hD, hS⟩ := X.toC hj CK.1 V.1.2.1
      first | refine on_aload_n (pc' := 24) rfl rfl rfl rfl ?_ | refine on_aload_nQ (pc' := 24) rfl rfl rfl rfl ?_
      first | refine on_aload_n (pc' := 25) rfl rfl rfl rfl ?_ | refine on_aload_nQ (pc' := 25) rfl rfl rfl rfl ?_
      first | apply on_get (pc' := 28) rfl rfl fl_M_28 | apply on_getN (pc' := 28) rfl rfl fl_M_28
      · repeat (first | assumption | exact on_up_eq _ _ _ | refine (on_up_ne (by omega)).trans ?_)
      · rfl
      refine on_iload_n (pc' := 29) rfl rfl rfl rfl ?_
      apply on_aaloadK (pc' := 30) rfl rfl
      · repeat (first | assumption | exact on_up_eq _ _ _ | refine (on_up_ne (by omega)).trans ?_)
      · rfl
      · first | assumption | exact on_lit _ | rfl
      · first | assumption | omega | decide
      rw [rf_at hj]
      show on_E G M_M_destroy 30 _ [.ref (CA j), .ref o] h sz _ _ _
      refine on_callV (pc' := 33) (As := [.ref (CA j)]) (rest := []) (b := o) rfl rfl cw_M_destroy_500 (o1) rfl rfl (Nat.le_of_ble_eq_true rfl) (Nat.zero_le _) (Nat.zero_le _) (c_M_destroyed KC (by have := CK.2.1; omega) (by have := CK.2.2.1 0 (by have := CK.2.1; omega); have := V.1.1; omega)) ?_
      rintro v h1 sz ⟨rfl, rfl, Z⟩
      obtain ⟨X1, f1⟩ := X.ofQ hj CK.1 V.1.2.1 hD hS Z.1 Z.2
      refine on_iconst (pc' := 34) (v := 1) rfl rfl li_1 ?_
      refine on_zreturn rfl rfl ?_ ?_
      · first | rfl | assumption
      rw [eq]
      exact ⟨rfl, rfl, X1, f1⟩
    · have p2 : (a.c j).ph = 2 := (nI_eq (b := 2) (by omega) (by decide)).mp cq
      exact no _ (eq.trans (if_pos p2))
/-- one more byte waits -/
theorem mC.spt {c cl nr i : Nat} {x3 : Int32 × Int32 × Int32} {F : Nat → Option Nat} {rs : Nat → aR} {SD : Nat → Int64} {D0 : Nat → Int32} {lk : Nat → List aB} {q : aC} {k : aK} {WT WC : Nat → Int32} {n b : Nat} {v : Int32} (K : mC o c cl nr x3 F rs SD D0 lk q k h) (hi : i < q.st.length) (hr : h (c + 7) = some (on_ai 0 1600 WT)) (hr2 : h (c + 8) = some (on_ai 0 4 WC)) (hn : n = (q.st.getD i t0).wa.length) (hn2 : n < 400) (hv : v = nI b) (hb : b < 256) (e : h1 = on_up (on_up h (c + 7) (on_ai 0 1600 (upd WT (400 * i + n) v))) (c + 8) (on_ai 0 4 (upd WC i (nI (n + 1))))) : mC o c cl nr x3 F rs SD D0 lk (cs_s q i ((q.st.getD i t0).ph, (q.st.getD i t0).wi, (q.st.getD i t0).ca, (q.st.getD i t0).wa ++ [b], (q.st.getD i t0).go)) k h1 ∧ mf_C o c h h1 := by
  subst e
  obtain ⟨IS, WI, CA, WT', WC', GT, GC, ⟨r1, r2, r3, r4, r5, r6, r7⟩, T⟩ := K.2.2.1.2.2.2.2
  cases hr.symm.trans r4
  cases hr2.symm.trans r5
  obtain ⟨d1, d2, d3, d4, d5, d6, d7⟩ := T.2.2 i (by have := T.1; omega)
  have t : ∀ a, a ≠ c + 7 → a ≠ c + 8 → on_up (on_up h (c + 7) (on_ai 0 1600 (upd WT (400 * i + n) v))) (c + 8) (on_ai 0 4 (upd WC i (nI (n + 1)))) a = h a := fun a a1 a2 => (on_up_ne a2).trans (on_up_ne a1)
  have len : ((q.st.getD i t0).wa ++ [b]).length = n + 1 := by rw [List.length_append, ← hn]; rfl
  refine K.str ⟨IS, WI, CA, upd WT (400 * i + n) v, upd WC i (nI (n + 1)), GT, GC, ⟨(t _ (by omega) (by omega)).trans r1, (t _ (by omega) (by omega)).trans r2, (t _ (by omega) (by omega)).trans r3, (on_up_ne (by omega)).trans (on_up_eq _ _ _), on_up_eq _ _ _, (t _ (by omega) (by omega)).trans r6, (t _ (by omega) (by omega)).trans r7⟩, ?_⟩ (fun b hb => t b (by omega) (by omega))
  refine T.set hi (fun j hj => ⟨rfl, rfl, rfl, pk_un hj, rfl⟩) (fun j hj l hl => pk_un (by omega)) (fun _ _ _ _ => rfl) (T.2.1 i hi) ⟨d1, ?_, ?_, d4, d5, fun j hj => ?_, d7⟩
  · show _ = nI ((q.st.getD i t0).wa ++ [b]).length
    rw [len, pk_us]
  · show ((q.st.getD i t0).wa ++ [b]).length ≤ 400
    omega
  · have hj : j < ((q.st.getD i t0).wa ++ [b]).length := hj
    rw [len] at hj
    show upd WT (400 * i + n) v (400 * i + j) = nI (((q.st.getD i t0).wa ++ [b]).getD j 0) ∧ ((q.st.getD i t0).wa ++ [b]).getD j 0 < 256
    rw [getD_snoc, ← hn]
    by_cases z : j = n
    · rw [z, pk_us, if_neg (Nat.lt_irrefl _), if_pos rfl]
      exact ⟨hv, hb⟩
    · rw [pk_un (by omega), if_pos (by omega)]
      exact d6 j (by omega)
set_option maxHeartbeats 8000000 in
theorem c_M_put (X : mX o sz RA CA a h) (V : n_V B a) : on_Ct G M_M_put [.ref o, .int x, .int y, .int w] h sz 0 0 (fun v h1 z => v = some (.int (q_put a x y w).1) ∧ z = sz ∧ mX o sz RA CA (q_put a x y w).2 h1 ∧ m_fr o a.nr a.nc RA CA h h1) := by
  have o1 := X.1.ob.1
  have x5 := X.2.2.1.2.2.2.2
  have v6 := V.1.2.2
  have no : ∀ lv, q_put a x y w = (0, a) → on_E G M_M_put 45 lv [] h sz 0 0 (fun v h1 z => v = some (.int (q_put a x y w).1) ∧ z = sz ∧ mX o sz RA CA (q_put a x y w).2 h1 ∧ m_fr o a.nr a.nc RA CA h h1) := fun lv e => by
    refine on_iconst (pc' := 46) (v := 0) rfl rfl li_0 ?_
    refine on_zreturn rfl rfl ?_ ?_
    · first | rfl | assumption
    rw [e]
    exact ⟨rfl, rfl, X, m_fr.id⟩
  refine on_Ct.of (by decide) v_M_put (Nat.le_of_ble_eq_true rfl) ?_
  first | refine on_aload_n (pc' := 1) rfl rfl rfl rfl ?_ | refine on_aload_nQ (pc' := 1) rfl rfl rfl rfl ?_
  refine on_iload_n (pc' := 2) rfl rfl rfl rfl ?_
  refine on_iload_n (pc' := 3) rfl rfl rfl rfl ?_
  refine on_callV (pc' := 6) (As := [.int x, .int y]) (rest := []) (b := o) rfl rfl cw_M_put_523 (o1) rfl rfl (Nat.le_of_ble_eq_true rfl) (Nat.zero_le _) (Nat.zero_le _) (c_M_isStream X V) ?_
  rintro v h sz ⟨rfl, rfl, rfl⟩
  cases e : q_st a x y with
  | none =>
    show on_E G M_M_put 6 _ [.int 0] h sz _ _ _
    refine on_if_eq (pc' := 9) (tgt := 45) rfl rfl rfl (fun cq => ?_) (fun cq => ?_)
    · exact no _ (by unfold q_put; rw [e])
    · exact absurd rfl cq
  | some p =>
    obtain ⟨j, s⟩ := p
    obtain ⟨ej, hj, hs, ey⟩ := q_st_some v6 X.len e
    have ex := (p_i_some (by omega) ej).2
    subst ex ey
    have i1 : j < 6 ∧ 6 < 2 ^ 31 := by omega
    have c0 := X.cob hj
    have CK := (V.2.2.2.1 j hj).1
    obtain ⟨IS, WI, CM, WT, WC, GT, GC, ⟨r1, r2, r3, r4, r5, r6, r7⟩, T⟩ := (X.2.2.2.2.2 j hj).1.2.2.2.2
    have l4 := T.1
    have i2 : s < 4 ∧ 4 < 2 ^ 31 := by omega
    have t1 := T.2.1 s hs
    have t2 := T.2.2 s i2.1
    have eq : q_put a (nI j) (nI (s + 1)) w = if ¬ ((a.c j).st.getD s t0).ph = 2 ∧ ((a.c j).st.getD s t0).wa.length < 400 then (1, n_c a j (cs_s (a.c j) s (((a.c j).st.getD s t0).ph, ((a.c j).st.getD s t0).wi, ((a.c j).st.getD s t0).ca, ((a.c j).st.getD s t0).wa ++ [(w &&& 255).toNatClampNeg], ((a.c j).st.getD s t0).go))) else (0, a) := by
      unfold q_put
      rw [e]
      rfl
    show on_E G M_M_put 6 _ [.int 1] h sz _ _ _
    refine on_if_eq (pc' := 9) (tgt := 45) rfl rfl rfl (fun cq => ?_) (fun cq => ?_)
    · exact absurd cq (by decide)
    clear cq
    first | refine on_aload_n (pc' := 10) rfl rfl rfl rfl ?_ | refine on_aload_nQ (pc' := 10) rfl rfl rfl rfl ?_
    first | apply on_get (pc' := 13) rfl rfl fl_M_28 | apply on_getN (pc' := 13) rfl rfl fl_M_28
    · repeat (first | assumption | exact on_up_eq _ _ _ | refine (on_up_ne (by omega)).trans ?_)
    · rfl
    refine on_iload_n (pc' := 14) rfl rfl rfl rfl ?_
    apply on_aaloadK (pc' := 15) rfl rfl
    · repeat (first | assumption | exact on_up_eq _ _ _ | refine (on_up_ne (by omega)).trans ?_)
    · rfl
    · first | assumption | exact on_lit _ | rfl
    · first | assumption | omega | decide
    rw [rf_at hj]
    show on_E G M_M_put 15 _ [.ref (CA j)] h sz _ _ _
    first | apply on_get (pc' := 18) rfl rfl fl_M_493 | apply on_getN (pc' := 18) rfl rfl fl_M_493
    · repeat (first | assumption | exact on_up_eq _ _ _ | refine (on_up_ne (by omega)).trans ?_)
    · rfl
    refine on_iload_n (pc' := 19) rfl rfl rfl rfl ?_
    refine on_iconst (pc' := 20) (v := 1) rfl rfl li_1 ?_
    refine on_isub (pc' := 21) rfl rfl ?_
    rw [nI_pred]
    apply on_ialoadK (pc' := 22) (t := 0) rfl rfl
    · repeat (first | assumption | exact on_up_eq _ _ _ | refine (on_up_ne (by omega)).trans ?_)
    · rfl
    · first | assumption | exact on_lit _ | rfl
    · first | assumption | omega | decide
    rw [t1.1]
    refine on_iconst (pc' := 23) (v := 2) rfl rfl li_2 ?_
    refine on_icmp_eq (pc' := 26) (tgt := 45) rfl rfl rfl (fun cq => ?_) (fun cq => ?_)
    · exact no _ (eq.trans (if_neg (fun z => z.1 ((nI_eq (b := 2) (by omega) (by decide)).mp cq))))
    have p2 : ¬ ((a.c j).st.getD s t0).ph = 2 := fun z => cq (by rw [z]; rfl)
    clear cq
    first | refine on_aload_n (pc' := 27) rfl rfl rfl rfl ?_ | refine on_aload_nQ (pc' := 27) rfl rfl rfl rfl ?_
    first | apply on_get (pc' := 30) rfl rfl fl_M_28 | apply on_getN (pc' := 30) rfl rfl fl_M_28
    · repeat (first | assumption | exact on_up_eq _ _ _ | refine (on_up_ne (by omega)).trans ?_)
    · rfl
    refine on_iload_n (pc' := 31) rfl rfl rfl rfl ?_
    apply on_aaloadK (pc' := 32) rfl rfl
    · repeat (first | assumption | exact on_up_eq _ _ _ | refine (on_up_ne (by omega)).trans ?_)
    · rfl
    · first | assumption | exact on_lit _ | rfl
    · first | assumption | omega | decide
    rw [rf_at hj]
    show on_E G M_M_put 32 _ [.ref (CA j)] h sz _ _ _
    first | apply on_get (pc' := 35) rfl rfl fl_M_527 | apply on_getN (pc' := 35) rfl rfl fl_M_527
    · repeat (first | assumption | exact on_up_eq _ _ _ | refine (on_up_ne (by omega)).trans ?_)
    · rfl
    refine on_iload_n (pc' := 36) rfl rfl rfl rfl ?_
    refine on_iconst (pc' := 37) (v := 1) rfl rfl li_1 ?_
    refine on_isub (pc' := 38) rfl rfl ?_
    rw [nI_pred]
    apply on_ialoadK (pc' := 39) (t := 0) rfl rfl
    · repeat (first | assumption | exact on_up_eq _ _ _ | refine (on_up_ne (by omega)).trans ?_)
    · rfl
    · first | assumption | exact on_lit _ | rfl
    · first | assumption | omega | decide
    rw [t2.2.1]
    refine on_sipush (pc' := 42) (v := 400) rfl rfl ls_400 ?_
    refine on_icmp_ne (pc' := 45) (tgt := 47) rfl rfl rfl (fun cq => ?_) (fun cq => ?_)
    rotate_left
    · exact no _ (eq.trans (if_neg (fun z => absurd ((nI_eq (b := 400) (by omega) (by decide)).mp cq) (by omega))))
    have w4 : ((a.c j).st.getD s t0).wa.length < 400 := by
      rcases Nat.lt_or_ge ((a.c j).st.getD s t0).wa.length 400 with z | z
      · exact z
      · exact absurd (show nI ((a.c j).st.getD s t0).wa.length = 400 by rw [show ((a.c j).st.getD s t0).wa.length = 400 by have := t2.2.2.1; omega]; rfl) cq
    clear cq
    rw [if_pos ⟨p2, w4⟩] at eq
    obtain ⟨b, b1, b2, b3⟩ := and255 w
    have i3 : 400 * s + ((a.c j).st.getD s t0).wa.length < 1600 ∧ 1600 < 2 ^ 31 := by omega
    obtain ⟨SD, DR, KC, hD, hS⟩ := X.toC hj CK.1 V.1.2.1
    first | refine on_aload_n (pc' := 48) rfl rfl rfl rfl ?_ | refine on_aload_nQ (pc' := 48) rfl rfl rfl rfl ?_
    first | apply on_get (pc' := 51) rfl rfl fl_M_28 | apply on_getN (pc' := 51) rfl rfl fl_M_28
    · repeat (first | assumption | exact on_up_eq _ _ _ | refine (on_up_ne (by omega)).trans ?_)
    · rfl
    refine on_iload_n (pc' := 52) rfl rfl rfl rfl ?_
    apply on_aaloadK (pc' := 53) rfl rfl
    · repeat (first | assumption | exact on_up_eq _ _ _ | refine (on_up_ne (by omega)).trans ?_)
    · rfl
    · first | assumption | exact on_lit _ | rfl
    · first | assumption | omega | decide
    rw [rf_at hj]
    show on_E G M_M_put 53 _ [.ref (CA j)] h sz _ _ _
    first | refine on_astore (pc' := 55) rfl rfl (by decide) ?_ | refine on_astoreQ (pc' := 55) rfl rfl (by decide) ?_
    first | refine on_aload (pc' := 57) rfl rfl rfl ?_ | refine on_aloadQ (pc' := 57) rfl rfl rfl ?_
    first | apply on_get (pc' := 60) rfl rfl fl_M_530 | apply on_getN (pc' := 60) rfl rfl fl_M_530
    · repeat (first | assumption | exact on_up_eq _ _ _ | refine (on_up_ne (by omega)).trans ?_)
    · rfl
    refine on_sipush (pc' := 63) (v := 400) rfl rfl ls_400 ?_
    refine on_iload_n (pc' := 64) rfl rfl rfl rfl ?_
    refine on_iconst (pc' := 65) (v := 1) rfl rfl li_1 ?_
    refine on_isub (pc' := 66) rfl rfl ?_
    rw [nI_pred]
    refine on_imul (pc' := 67) rfl rfl ?_
    first | refine on_aload (pc' := 69) rfl rfl rfl ?_ | refine on_aloadQ (pc' := 69) rfl rfl rfl ?_
    first | apply on_get (pc' := 72) rfl rfl fl_M_527 | apply on_getN (pc' := 72) rfl rfl fl_M_527
    · repeat (first | assumption | exact on_up_eq _ _ _ | refine (on_up_ne (by omega)).trans ?_)
    · rfl
    refine on_iload_n (pc' := 73) rfl rfl rfl rfl ?_
    refine on_iconst (pc' := 74) (v := 1) rfl rfl li_1 ?_
    refine on_isub (pc' := 75) rfl rfl ?_
    rw [nI_pred]
    apply on_ialoadK (pc' := 76) (t := 0) rfl rfl
    · repeat (first | assumption | exact on_up_eq _ _ _ | refine (on_up_ne (by omega)).trans ?_)
    · rfl
    · first | assumption | exact on_lit _ | rfl
    · first | assumption | omega | decide
    rw [t2.2.1, show (400 : Int32) * nI s = nI (400 * s) from pk_mul 400 s]
    refine on_iadd (pc' := 77) rfl rfl ?_
    rw [nI_add]
    refine on_iload_n (pc' := 78) rfl rfl rfl rfl ?_
    refine on_sipush (pc' := 81) (v := 255) rfl rfl ls_255 ?_
    refine on_iand (pc' := 82) rfl rfl ?_
    rw [b2]
    apply on_iastoreK (pc' := 83) (t := 0) rfl rfl
    · repeat (first | assumption | exact on_up_eq _ _ _ | refine (on_up_ne (by omega)).trans ?_)
    · rfl
    · first | assumption | exact on_lit _ | rfl
    · first | assumption | omega | decide
    first | refine on_aload (pc' := 85) rfl rfl rfl ?_ | refine on_aloadQ (pc' := 85) rfl rfl rfl ?_
    first | apply on_get (pc' := 88) rfl rfl fl_M_527 | apply on_getN (pc' := 88) rfl rfl fl_M_527
    · repeat (first | assumption | exact on_up_eq _ _ _ | refine (on_up_ne (by omega)).trans ?_)
    · rfl
    refine on_iload_n (pc' := 89) rfl rfl rfl rfl ?_
    refine on_iconst (pc' := 90) (v := 1) rfl rfl li_1 ?_
    refine on_isub (pc' := 91) rfl rfl ?_
    rw [nI_pred]
    first | refine on_dup2_11 (pc' := 92) rfl rfl rfl rfl ?_ | refine on_dup2_2 (pc' := 92) rfl rfl rfl ?_
    apply on_ialoadK (pc' := 93) (t := 0) rfl rfl
    · repeat (first | assumption | exact on_up_eq _ _ _ | refine (on_up_ne (by omega)).trans ?_)
    · rfl
    · first | assumption | exact on_lit _ | rfl
    · first | assumption | omega | decide
    rw [t2.2.1]
    refine on_iconst (pc' := 94) (v := 1) rfl rfl li_1 ?_
    refine on_iadd (pc' := 95) rfl rfl ?_
    rw [nI_1]
    apply on_iastoreK (pc' := 96) (t := 0) rfl rfl
    · repeat (first | assumption | exact on_up_eq _ _ _ | refine (on_up_ne (by omega)).trans ?_)
    · rfl
    · first | assumption | exact on_lit _ | rfl
    · first | assumption | omega | decide
    refine on_iconst (pc' := 97) (v := 1) rfl rfl li_1 ?_
    refine on_zreturn rfl rfl ?_ ?_
    · first | rfl | assumption
    obtain ⟨K2, f2⟩ := KC.spt (i := s) (n := ((a.c j).st.getD s t0).wa.length) (b := b) (v := nI b) hs r4 r5 rfl w4 rfl b1 rfl
    obtain ⟨X1, f1⟩ := X.ofQ hj CK.1 V.1.2.1 hD hS K2 f2
    rw [eq, b3]
    exact ⟨rfl, rfl, X1, f1⟩
set_option maxHeartbeats 8000000 in
theorem c_M_close (X : mX o sz RA CA a h) (V : n_V B a) (hB : B + 700 < 2 ^ 28) : on_Ct G M_M_close [.ref o, .int x, .int y] h sz 0 0 (fun v h1 z => v = some (.int (q_close a x y).1) ∧ z = sz ∧ mX o sz RA CA (q_close a x y).2 h1 ∧ m_fr o a.nr a.nc RA CA h h1) := by
  have o1 := X.1.ob.1
  have x5 := X.2.2.1.2.2.2.2
  have v6 := V.1.2.2
  have no : ∀ lv, q_close a x y = (0, a) → on_E G M_M_close 26 lv [] h sz 0 0 (fun v h1 z => v = some (.int (q_close a x y).1) ∧ z = sz ∧ mX o sz RA CA (q_close a x y).2 h1 ∧ m_fr o a.nr a.nc RA CA h h1) := fun lv e => by
    refine on_iconst (pc' := 27) (v := 0) rfl rfl li_0 ?_
    refine on_zreturn rfl rfl ?_ ?_
    · first | rfl | assumption
    rw [e]
    exact ⟨rfl, rfl, X, m_fr.id⟩
  refine on_Ct.of (by decide) v_M_close (Nat.le_of_ble_eq_true rfl) ?_
  first | refine on_aload_n (pc' := 1) rfl rfl rfl rfl ?_ | refine on_aload_nQ (pc' := 1) rfl rfl rfl rfl ?_
  refine on_iload_n (pc' := 2) rfl rfl rfl rfl ?_
  refine on_iload_n (pc' := 3) rfl rfl rfl rfl ?_
  refine on_callV (pc' := 6) (As := [.int x, .int y]) (rest := []) (b := o) rfl rfl cw_M_close_523 (o1) rfl rfl (Nat.le_of_ble_eq_true rfl) (Nat.zero_le _) (Nat.zero_le _) (c_M_isStream X V) ?_
  rintro v h sz ⟨rfl, rfl, rfl⟩
  cases e : q_st a x y with
  | none =>
    show on_E G M_M_close 6 _ [.int 0] h sz _ _ _
    refine on_if_eq (pc' := 9) (tgt := 26) rfl rfl rfl (fun cq => ?_) (fun cq => ?_)
    · exact no _ (by unfold q_close; rw [e])
    · exact absurd rfl cq
  | some p =>
    obtain ⟨j, s⟩ := p
    obtain ⟨ej, hj, hs, ey⟩ := q_st_some v6 X.len e
    have ex := (p_i_some (by omega) ej).2
    subst ex ey
    have i1 : j < 6 ∧ 6 < 2 ^ 31 := by omega
    have c0 := X.cob hj
    have CK := (V.2.2.2.1 j hj).1
    obtain ⟨IS, WI, CM, WT, WC, GT, GC, ⟨r1, r2, r3, r4, r5, r6, r7⟩, T⟩ := (X.2.2.2.2.2 j hj).1.2.2.2.2
    have l4 := T.1
    have i2 : s < 4 ∧ 4 < 2 ^ 31 := by omega
    have t1 := T.2.1 s hs
    have eq : q_close a (nI j) (nI (s + 1)) = if ((a.c j).st.getD s t0).ph = 2 then (0, a) else (1, n_fo a j (cs_s (a.c j) s (2, ((a.c j).st.getD s t0).wi, ((a.c j).st.getD s t0).ca, ((a.c j).st.getD s t0).wa, ((a.c j).st.getD s t0).go)) 3 (s + 1) 0 (fun _ => 0)) := by
      unfold q_close
      rw [e]
      rfl
    show on_E G M_M_close 6 _ [.int 1] h sz _ _ _
    refine on_if_eq (pc' := 9) (tgt := 26) rfl rfl rfl (fun cq => ?_) (fun cq => ?_)
    · exact absurd cq (by decide)
    clear cq
    first | refine on_aload_n (pc' := 10) rfl rfl rfl rfl ?_ | refine on_aload_nQ (pc' := 10) rfl rfl rfl rfl ?_
    first | apply on_get (pc' := 13) rfl rfl fl_M_28 | apply on_getN (pc' := 13) rfl rfl fl_M_28
    · repeat (first | assumption | exact on_up_eq _ _ _ | refine (on_up_ne (by omega)).trans ?_)
    · rfl
    refine on_iload_n (pc' := 14) rfl rfl rfl rfl ?_
    apply on_aaloadK (pc' := 15) rfl rfl
    · repeat (first | assumption | exact on_up_eq _ _ _ | refine (on_up_ne (by omega)).trans ?_)
    · rfl
    · first | assumption | exact on_lit _ | rfl
    · first | assumption | omega | decide
    rw [rf_at hj]
    show on_E G M_M_close 15 _ [.ref (CA j)] h sz _ _ _
    first | apply on_get (pc' := 18) rfl rfl fl_M_493 | apply on_getN (pc' := 18) rfl rfl fl_M_493
    · repeat (first | assumption | exact on_up_eq _ _ _ | refine (on_up_ne (by omega)).trans ?_)
    · rfl
    refine on_iload_n (pc' := 19) rfl rfl rfl rfl ?_
    refine on_iconst (pc' := 20) (v := 1) rfl rfl li_1 ?_
    refine on_isub (pc' := 21) rfl rfl ?_
    rw [nI_pred]
    apply on_ialoadK (pc' := 22) (t := 0) rfl rfl
    · repeat (first | assumption | exact on_up_eq _ _ _ | refine (on_up_ne (by omega)).trans ?_)
    · rfl
    · first | assumption | exact on_lit _ | rfl
    · first | assumption | omega | decide
    rw [t1.1]
    refine on_iconst (pc' := 23) (v := 2) rfl rfl li_2 ?_
    refine on_icmp_ne (pc' := 26) (tgt := 28) rfl rfl rfl (fun cq => ?_) (fun cq => ?_)
    rotate_left
    · exact no _ (eq.trans (if_pos ((nI_eq (b := 2) (by omega) (by decide)).mp cq)))
    have p2 : ¬ ((a.c j).st.getD s t0).ph = 2 := fun z => cq (by rw [z]; rfl)
    clear cq
    rw [if_neg p2] at eq
    obtain ⟨SD, DR, KC, hD, hS⟩ := X.toC hj CK.1 V.1.2.1
    first | refine on_aload_n (pc' := 29) rfl rfl rfl rfl ?_ | refine on_aload_nQ (pc' := 29) rfl rfl rfl rfl ?_
    first | apply on_get (pc' := 32) rfl rfl fl_M_28 | apply on_getN (pc' := 32) rfl rfl fl_M_28
    · repeat (first | assumption | exact on_up_eq _ _ _ | refine (on_up_ne (by omega)).trans ?_)
    · rfl
    refine on_iload_n (pc' := 33) rfl rfl rfl rfl ?_
    apply on_aaloadK (pc' := 34) rfl rfl
    · repeat (first | assumption | exact on_up_eq _ _ _ | refine (on_up_ne (by omega)).trans ?_)
    · rfl
    · first | assumption | exact on_lit _ | rfl
    · first | assumption | omega | decide
    rw [rf_at hj]
    show on_E G M_M_close 34 _ [.ref (CA j)] h sz _ _ _
    first | apply on_get (pc' := 37) rfl rfl fl_M_493 | apply on_getN (pc' := 37) rfl rfl fl_M_493
    · repeat (first | assumption | exact on_up_eq _ _ _ | refine (on_up_ne (by omega)).trans ?_)
    · rfl
    refine on_iload_n (pc' := 38) rfl rfl rfl rfl ?_
    refine on_iconst (pc' := 39) (v := 1) rfl rfl li_1 ?_
    refine on_isub (pc' := 40) rfl rfl ?_
    rw [nI_pred]
    refine on_iconst (pc' := 41) (v := 2) rfl rfl li_2 ?_
    apply on_iastoreK (pc' := 42) (t := 0) rfl rfl
    · repeat (first | assumption | exact on_up_eq _ _ _ | refine (on_up_ne (by omega)).trans ?_)
    · rfl
    · first | assumption | exact on_lit _ | rfl
    · first | assumption | omega | decide
    obtain ⟨K2, f2⟩ := KC.sis (i := s) (v := 2) hs r1 (by decide) rfl
    have k4 := KC.2.2.2.1
    have ho5 : on_up h (CA j + 4) (on_ai 0 4 (upd IS s (nI 2))) (o + 5) = some (on_aq 14 6 (rf a.nc CA)) := (on_up_ne (by omega)).trans x5
    show on_E G M_M_close 42 _ [] (on_up h (CA j + 4) (on_ai 0 4 (upd IS s (nI 2)))) sz _ _ _
    generalize on_up h (CA j + 4) (on_ai 0 4 (upd IS s (nI 2))) = g at K2 f2 ho5 ⊢
    have o2 := K2.1.ob.1
    first | refine on_aload_n (pc' := 43) rfl rfl rfl rfl ?_ | refine on_aload_nQ (pc' := 43) rfl rfl rfl rfl ?_
    first | refine on_aload_n (pc' := 44) rfl rfl rfl rfl ?_ | refine on_aload_nQ (pc' := 44) rfl rfl rfl rfl ?_
    first | apply on_get (pc' := 47) rfl rfl fl_M_28 | apply on_getN (pc' := 47) rfl rfl fl_M_28
    · repeat (first | assumption | exact on_up_eq _ _ _ | refine (on_up_ne (by omega)).trans ?_)
    · rfl
    refine on_iload_n (pc' := 48) rfl rfl rfl rfl ?_
    apply on_aaloadK (pc' := 49) rfl rfl
    · repeat (first | assumption | exact on_up_eq _ _ _ | refine (on_up_ne (by omega)).trans ?_)
    · rfl
    · first | assumption | exact on_lit _ | rfl
    · first | assumption | omega | decide
    rw [rf_at hj]
    show on_E G M_M_close 49 _ [.ref (CA j), .ref o] g sz _ _ _
    refine on_iconst (pc' := 50) (v := 3) rfl rfl li_3 ?_
    refine on_iload_n (pc' := 51) rfl rfl rfl rfl ?_
    refine on_iconst (pc' := 52) (v := 0) rfl rfl li_0 ?_
    first | refine on_aload_n (pc' := 53) rfl rfl rfl rfl ?_ | refine on_aload_nQ (pc' := 53) rfl rfl rfl rfl ?_
    first | apply on_get (pc' := 56) rfl rfl fl_M_124 | apply on_getN (pc' := 56) rfl rfl fl_M_124
    · repeat (first | assumption | exact on_up_eq _ _ _ | refine (on_up_ne (by omega)).trans ?_)
    · rfl
    refine on_callV (pc' := 59) (As := [.ref (CA j), .int (nI 3), .int (nI (s + 1)), .int (nI 0), .ref (o + 41)]) (rest := []) (b := o) rfl rfl cw_M_close_503 (o2) rfl rfl (Nat.le_of_ble_eq_true rfl) (Nat.zero_le _) (Nat.zero_le _) (c_M_forth (B := B) (d := fun _ => 0) K2 (fun i hi => (CK.2.2.2.2.2.2.2.1 i hi).1) (by omega) (CK.2.2.2.2.2.2.2.2.2 (by omega)) (by show 0 < (a.c j).pa.length; have := CK.2.1; omega) (by have := CK.2.2.1 0 (by have := CK.2.1; omega); have := V.1.1; show (a.c j).pa.getD 0 0 < 10; omega) (by decide) (by omega) K2.1.da (by omega) (by decide) ⟨by decide, by decide⟩ (fun f _ i hi => absurd hi (Nat.not_lt_zero i))) ?_
    rintro v h1 sz ⟨rfl, rfl, K3, t3⟩
    refine on_iconst (pc' := 60) (v := 1) rfl rfl li_1 ?_
    refine on_zreturn rfl rfl ?_ ?_
    · first | rfl | assumption
    obtain ⟨X1, f1⟩ := X.ofQ hj CK.1 V.1.2.1 hD hS K3 (f2.trans (fun b c1 c2 => t3 b (by omega) (by omega) (by omega) (by omega) (by omega) (by omega) (by omega) (by omega)))
    rw [eq]
    exact ⟨rfl, rfl, X1, f1⟩
end MCL
