/-! OnionNet: calls that change little -/
def q_weigh (a : aN) (x w : Int32) : Int32 × aN := match p_i a.nr x with
  | none => (0, a)
  | some r => match p_i 1001 w with
    | none => (0, a)
    | some n => (1, (a.nr, fu a.r r ((a.r r).se, (a.r r).dr, n, (a.r r).nx, (a.r r).en, (a.r r).ke), a.nk, a.k, a.nc, a.c, a.lk))
def q_drop (a : aN) (x y : Int32) : Int32 × aN := match q_lk a x y with
  | none => (0, a)
  | some j => match a.lk j with
    | [] => (0, a)
    | _ :: l => (1, n_lk a (fu a.lk j l))
def q_alter (a : aN) (x y i m : Int32) : Int32 × aN := match q_lk a x y with
  | none => (0, a)
  | some j => match a.lk j with
    | [] => (0, a)
    | c :: l => match p_i 140 i with
      | none => (0, a)
      | some n => match p_s 255 m with
        | none => (0, a)
        | some k => (1, n_lk a (fu a.lk j ((fun i => if i = n then c i ^^^ (k + 1) else c i) :: l)))
def q_deliver (a : aN) (x y : Int32) : Int32 × aN := match q_lk a x y with
  | none => (-1, a)
  | some j => match a.lk j with
    | [] => (-1, a)
    | c :: _ => (nI (c 4), n_ho a (j / 10) (j % 10))
/-- circuit i has another state -/
def n_c (a : aN) (i : Nat) (c : aC) : aN := (a.nr, a.r, a.nk, a.k, a.nc, fu a.c i c, a.lk)
def q_put (a : aN) (x y b : Int32) : Int32 × aN := match q_st a x y with
  | none => (0, a)
  | some p => let t := (a.c p.1).st.getD p.2 t0
    if ¬ t.ph = 2 ∧ t.wa.length < 400 then (1, n_c a p.1 (c_st (a.c p.1) ((a.c p.1).st.set p.2 (t_qu t ((b &&& 255).toNatClampNeg))))) else (0, a)
def q_seal (a : aN) (i : Int32) : Int32 := match p_i 32 i with
  | none => -1
  | some n => nI (sp_d (ht_m a.r a.nr 6) n)
theorem p_i_lt1 {n : Nat} {w : Int32} (hn : n + 1 < 2 ^ 31) (x0 : ¬ w < 0) : w < nI (n + 1) ↔ w ≤ nI n := by
  constructor
  · intro z
    obtain ⟨j, hj, ej, -, -, -⟩ := pk_mu (L := n + 1) x0 (Int32.not_le.mpr z) hn
    rw [ej]
    exact nI_le (by omega) (by omega)
  · intro z
    exact Int32.lt_of_le_of_lt z (nI_lt (Nat.lt_succ_self n) hn)
theorem fu_self {α : Type} {f : Nat → α} {i : Nat} : fu f i (f i) = f := funext fun j => by
  by_cases z : j = i
  · rw [z, fu_s]
  · rw [fu_n z]
section SMC
variable {G : on_G} {o sz B bc bs : Nat} {L : nL} {a : aN} {M : aO} {h h2 : on_H} {x y w m : Int32}
theorem n_R.same (X : n_X o sz L a [] h) : n_R o sz sz L a h h := ⟨L, X, Nat.le_refl _, fun _ _ => rfl, fun _ _ _ => rfl⟩
theorem n_R.sm (X : n_X o sz L a [] h2) (e : ∀ b, b < sz → L.ow b = 2 → h2 b = h b) : n_R o sz sz L a h h2 := ⟨L, X, Nat.le_refl _, fun _ _ => rfl, e⟩
/-- a circuit has changed, not its client -/
theorem nx_cir0 {i z : Nat} {c2 : aC} {la2 sa2 : Nat → Nat} (X : n_X o sz L a [] h) (hi : i < a.nc) (hcl : (a.c i).cl < a.nk) (hz : sz ≤ z) (e1 : c2.cl = (a.c i).cl) (e2 : c2.pa = (a.c i).pa) (I : cr_I (L.ca i) la2 sa2 c2) (t1 : ∀ j, j < c2.hp → la2 j + 16 ≤ z ∧ (la2 j = L.la i j ∧ j < (a.c i).hp ∨ sz ≤ la2 j)) (t2 : ∀ j, j < c2.st.length → sa2 j + 3 ≤ z ∧ (sa2 j = L.sa i j ∧ j < (a.c i).st.length ∨ sz ≤ sa2 j))
    (C : cr_S (L.ca i) (L.ka (a.c i).cl) (o + 5) L.ra la2 sa2 a.r c2 h2) (H : hk_W (o + 5) h2) (O : ob_L (o + 34) M h2) (Q : rW h2 (o + 42) 140) (e : ∀ b, b < sz → (b < o + 5 ∨ o + 43 ≤ b) → ¬ L.ow b = 12 + 3 * i → h2 b = h b) :
    n_X o z (nL_c L sz i la2 sa2) (n_c a i c2) M h2 := by
  have N := X.2.1.nd hcl (X.2.2.1.2.1 _ hcl) (h2 := h2) (fun b b1 b2 => e b b1 (by
    rcases Nat.lt_or_ge b (o + 5) with w | w
    · exact Or.inl w
    · rcases Nat.lt_or_ge b (o + 44) with u | u
      · have := X.2.1.2.1 b (by omega) u
        omega
      · exact Or.inr (by omega)) (by omega))
  have := nx_cir (M := M) (k2 := a.k (a.c i).cl) X hi hcl hz e1 e2 I t1 t2 C N H O Q (fun b c1 c2 c3 _ => e b c1 c2 c3)
  rw [fu_self] at this
  exact this
theorem n_R.cir {i z : Nat} {la2 sa2 : Nat → Nat} (X : n_X o z (nL_c L sz i la2 sa2) a [] h2) (hz : sz ≤ z) (e : ∀ b, b < sz → L.ow b = 2 → h2 b = h b) : n_R o sz z L a h h2 := ⟨_, X, hz, fun b hb => if_pos hb, e⟩
theorem nw_T.two (T : nw_T o sz L a) {b : Nat} (h : ¬ L.ow b = 0) : b < o ∨ o + 44 ≤ b := by
  rcases Nat.lt_or_ge b o with w | w
  · exact Or.inl w
  · rcases Nat.lt_or_ge b (o + 44) with u | u
    · exact absurd (T.2.1 b w u) h
    · exact Or.inr u
theorem n_T.off {ow : Nat → Nat} {lo hi t b : Nat} (k : n_T ow lo hi t) (ne : ¬ ow b = t) : b < lo ∨ hi ≤ b := by
  rcases Nat.lt_or_ge b lo with w | w
  · exact Or.inl w
  · rcases Nat.lt_or_ge b hi with u | u
    · exact absurd (k b w u) ne
    · exact Or.inr u
set_option maxHeartbeats 4000000 in
theorem c_N_weigh (X : n_X o sz L a [] h) (V : n_V B a) : on_Ct G M_N_weigh [.ref o, .int x, .int w] h sz 0 0 (fun v h1 z => v = some (.int (q_weigh a x w).1) ∧ n_R o sz z L (q_weigh a x w).2 h h1) := by
  have o1 : h o = some (.inr (11, [.ref (o + 1), .ref (o + 2), .ref (o + 3), .ref (o + 4), .ref (o + 5), .ref (o + 34), .ref (o + 42), .ref (o + 43), .int (nI a.nr), .int (nI a.nk), .int (nI a.nc)])) := X.1.1
  have no : ∀ lv, q_weigh a x w = (0, a) → on_E G M_N_weigh 21 lv [] h sz 0 0 (fun v h1 z => v = some (.int (q_weigh a x w).1) ∧ n_R o sz z L (q_weigh a x w).2 h h1) := fun lv e => by
    refine on_iconst (pc' := 22) (v := 0) rfl rfl li_0 ?_
    refine on_zreturn rfl rfl ?_ ?_
    · first | rfl | assumption
    rw [e]
    exact ⟨rfl, n_R.same X⟩
  refine on_Ct.of (by decide) v_N_weigh (Nat.le_of_ble_eq_true rfl) ?_
  first | refine on_aload_n (pc' := 1) rfl rfl rfl rfl ?_ | refine on_aload_nQ (pc' := 1) rfl rfl rfl rfl ?_
  refine on_iload_n (pc' := 2) rfl rfl rfl rfl ?_
  refine on_callV (pc' := 5) (As := [.int x]) (rest := []) (b := o) rfl rfl cw_N_weigh_75 (o1) rfl rfl (Nat.le_of_ble_eq_true rfl) (Nat.zero_le _) (Nat.zero_le _) (c_relayAtP V.1.1 X.1.1 X.1.2.1) ?_
  rintro v h sz ⟨rfl, rfl, rfl⟩
  cases e : p_i a.nr x with
  | none =>
    show on_E G M_N_weigh 5 _ [va_rf none] h sz _ _ _
    first | refine on_astore_n (pc' := 6) rfl rfl rfl (by decide) ?_ | refine on_astore_nQ (pc' := 6) rfl rfl rfl (by decide) ?_
    first | refine on_aload_n (pc' := 7) rfl rfl rfl rfl ?_ | refine on_aload_nQ (pc' := 7) rfl rfl rfl rfl ?_
    refine on_ifnullN (tgt := 21) rfl rfl (no _ ?_)
    unfold q_weigh
    rw [e]
  | some r =>
    have hr := (p_i_some (by have := V.1.1; omega) e).1
    have R := X.2.2.1.1 r hr
    have r0 : h (L.ra r) = some (.inr (8, [.ref (L.ra r + 1), .ref (o + 1), .ref (o + 5), .ref (L.ra r + 3), .ref (L.ra r + 4), .ref (L.ra r + 5), .ref (L.ra r + 6), .ref (L.ra r + 7), .int (nI (a.r r).ke.length), .int (nI (a.r r).we)])) := R.1
    have eq : q_weigh a x w = match p_i 1001 w with | none => (0, a) | some n => (1, (a.nr, fu a.r r ((a.r r).se, (a.r r).dr, n, (a.r r).nx, (a.r r).en, (a.r r).ke), a.nk, a.k, a.nc, a.c, a.lk)) := by
      unfold q_weigh
      rw [e]
    show on_E G M_N_weigh 5 _ [.ref (L.ra r)] h sz _ _ _
    first | refine on_astore_n (pc' := 6) rfl rfl rfl (by decide) ?_ | refine on_astore_nQ (pc' := 6) rfl rfl rfl (by decide) ?_
    first | refine on_aload_n (pc' := 7) rfl rfl rfl rfl ?_ | refine on_aload_nQ (pc' := 7) rfl rfl rfl rfl ?_
    refine on_ifnullR (pc' := 10) rfl rfl ?_
    refine on_iload_n (pc' := 11) rfl rfl rfl rfl ?_
    refine on_if_lt (pc' := 14) (tgt := 21) rfl rfl rfl (fun cq => ?_) (fun cq => ?_)
    · refine no _ (eq.trans ?_)
      rw [show p_i 1001 w = none from if_neg (fun z => z.1 cq)]
    · have x0 := cq
      clear cq
      refine on_iload_n (pc' := 15) rfl rfl rfl rfl ?_
      refine on_sipush (pc' := 18) (v := 1000) rfl rfl ls_1000 ?_
      refine on_icmp_le (pc' := 21) (tgt := 23) rfl rfl rfl (fun cq => ?_) (fun cq => ?_)
      rotate_left
      · refine no _ (eq.trans ?_)
        rw [show p_i 1001 w = none from if_neg (fun z => cq ((p_i_lt1 (n := 1000) (by decide) x0).mp z.2))]
      · have x1 : w < nI 1001 := (p_i_lt1 (n := 1000) (by decide) x0).mpr cq
        clear cq
        have ep : p_i 1001 w = some w.toNatClampNeg := if_pos ⟨x0, x1⟩
        obtain ⟨n, hn, en, -, ec, -⟩ := pk_mu (L := 1001) x0 (Int32.not_le.mpr x1) (by decide)
        rw [ep, ec] at eq
        have eq : q_weigh a x w = (1, (a.nr, fu a.r r ((a.r r).se, (a.r r).dr, n, (a.r r).nx, (a.r r).en, (a.r r).ke), a.nk, a.k, a.nc, a.c, a.lk)) := eq
        subst en
        first | refine on_aload_n (pc' := 24) rfl rfl rfl rfl ?_ | refine on_aload_nQ (pc' := 24) rfl rfl rfl rfl ?_
        refine on_iload_n (pc' := 25) rfl rfl rfl rfl ?_
        first | apply on_put (pc' := 28) rfl rfl fp_N_82 | apply on_putN (pc' := 28) rfl rfl fp_N_82
        · repeat (first | assumption | exact on_up_eq _ _ _ | refine (on_up_ne (by omega)).trans ?_)
        · first | rfl | assumption
        · first | rfl | assumption
        · exact Nat.le_of_ble_eq_true rfl
        refine on_iconst (pc' := 29) (v := 1) rfl rfl li_1 ?_
        refine on_zreturn rfl rfl ?_ ?_
        · first | rfl | assumption
        rw [eq]
        refine ⟨rfl, ?_⟩
        obtain ⟨q1, q2, q3⟩ := X.2.1.2.2.1 r hr
        have t1 : ∀ b, b ≠ L.ra r → on_up h (L.ra r) (.inr (8, [.ref (L.ra r + 1), .ref (o + 1), .ref (o + 5), .ref (L.ra r + 3), .ref (L.ra r + 4), .ref (L.ra r + 5), .ref (L.ra r + 6), .ref (L.ra r + 7), .int (nI (a.r r).ke.length), .int (nI n)])) b = h b := fun b hb => on_up_ne hb
        have t2 : on_up h (L.ra r) (.inr (8, [.ref (L.ra r + 1), .ref (o + 1), .ref (o + 5), .ref (L.ra r + 3), .ref (L.ra r + 4), .ref (L.ra r + 5), .ref (L.ra r + 6), .ref (L.ra r + 7), .int (nI (a.r r).ke.length), .int (nI n)])) (L.ra r) = _ := on_up_eq _ _ _
        show n_R o sz sz L _ h (on_up h (L.ra r) (.inr (8, [.ref (L.ra r + 1), .ref (o + 1), .ref (o + 5), .ref (L.ra r + 3), .ref (L.ra r + 4), .ref (L.ra r + 5), .ref (L.ra r + 6), .ref (L.ra r + 7), .int (nI (a.r r).ke.length), .int (nI n)])))
        generalize on_up h (L.ra r) (.inr (8, [.ref (L.ra r + 1), .ref (o + 1), .ref (o + 5), .ref (L.ra r + 3), .ref (L.ra r + 4), .ref (L.ra r + 5), .ref (L.ra r + 6), .ref (L.ra r + 7), .int (nI (a.r r).ke.length), .int (nI n)])) = g at *
        obtain ⟨k1, k2, k3, k4, k5, k6, ⟨F, k7, k7'⟩, k8⟩ := R
        have Y : ry_P (L.ra r) (o + 1) (o + 5) r (o + 34) (o + 42) (((a.r r).se, (a.r r).dr, n, (a.r r).nx, (a.r r).en, (a.r r).ke), []) h g := ⟨⟨t2, k2.keep (t1 _ (by omega)) (t1 _ (by omega)), k3.keep (t1 _ (by omega)), k4.keep (t1 _ (by omega)), k5.keep (t1 _ (by omega)), k6.keep (fun b h1 h2 h3 => t1 b (by omega)), ⟨F, (t1 _ (by omega)).trans k7, k7'⟩, k8⟩, X.1.2.2.2.2.2.1.keep (fun b _ _ => t1 b (by omega)), X.1.2.2.2.2.2.2.1.keep (fun b _ _ => t1 b (by omega)), X.1.2.2.2.2.2.2.2.1.keep (t1 _ (by omega)), fun b b1 b2 b3 b4 => t1 b (by omega)⟩
        obtain ⟨X2, F2⟩ := nx_rel X hr rfl Y
        exact n_R.sm X2 (fun b b1 b2 => F2 b b1 (by omega) (by omega))
theorem c_N_drop (X : n_X o sz L a [] h) : on_Ct G M_N_drop [.ref o, .int x, .int y] h sz 0 0 (fun v h1 z => v = some (.int (q_drop a x y).1) ∧ n_R o sz z L (q_drop a x y).2 h h1) := by
  have o1 : h o = some (.inr (11, [.ref (o + 1), .ref (o + 2), .ref (o + 3), .ref (o + 4), .ref (o + 5), .ref (o + 34), .ref (o + 42), .ref (o + 43), .int (nI a.nr), .int (nI a.nk), .int (nI a.nc)])) := X.1.1
  have no : ∀ lv, q_drop a x y = (0, a) → on_E G M_N_drop 26 lv [] h sz 0 0 (fun v h1 z => v = some (.int (q_drop a x y).1) ∧ n_R o sz z L (q_drop a x y).2 h h1) := fun lv e => by
    refine on_iconst (pc' := 27) (v := 0) rfl rfl li_0 ?_
    refine on_zreturn rfl rfl ?_ ?_
    · first | rfl | assumption
    rw [e]
    exact ⟨rfl, n_R.same X⟩
  refine on_Ct.of (by decide) v_N_drop (Nat.le_of_ble_eq_true rfl) ?_
  first | refine on_aload_n (pc' := 1) rfl rfl rfl rfl ?_ | refine on_aload_nQ (pc' := 1) rfl rfl rfl rfl ?_
  refine on_iload_n (pc' := 2) rfl rfl rfl rfl ?_
  refine on_iload_n (pc' := 3) rfl rfl rfl rfl ?_
  refine on_callV (pc' := 6) (As := [.int x, .int y]) (rest := []) (b := o) rfl rfl cw_N_drop_172 (o1) rfl rfl (Nat.le_of_ble_eq_true rfl) (Nat.zero_le _) (Nat.zero_le _) (c_linkAtW X) ?_
  rintro v h sz ⟨rfl, rfl, rfl⟩
  cases e : q_lk a x y with
  | none =>
    show on_E G M_N_drop 6 _ [va_rf none] h sz _ _ _
    first | refine on_astore_n (pc' := 7) rfl rfl rfl (by decide) ?_ | refine on_astore_nQ (pc' := 7) rfl rfl rfl (by decide) ?_
    first | refine on_aload_n (pc' := 8) rfl rfl rfl rfl ?_ | refine on_aload_nQ (pc' := 8) rfl rfl rfl rfl ?_
    refine on_ifnullN (tgt := 26) rfl rfl (no _ ?_)
    unfold q_drop
    rw [e]
  | some j =>
    obtain ⟨f, t, hf, ht, -, -, rfl, he⟩ := q_lk_some e
    have lS := X.2.2.2 _ (by omega) he
    obtain ⟨g, Xf, k1, -⟩ := id lS
    have dA := (X.2.1.2.2.2.2.2.1 (10 * f + t) (by omega) he).1
    show on_E G M_N_drop 6 _ [.ref (L.A (10 * f + t))] h sz _ _ _
    first | refine on_astore_n (pc' := 7) rfl rfl rfl (by decide) ?_ | refine on_astore_nQ (pc' := 7) rfl rfl rfl (by decide) ?_
    first | refine on_aload_n (pc' := 8) rfl rfl rfl rfl ?_ | refine on_aload_nQ (pc' := 8) rfl rfl rfl rfl ?_
    refine on_ifnullR (pc' := 11) rfl rfl ?_
    first | refine on_aload_n (pc' := 12) rfl rfl rfl rfl ?_ | refine on_aload_nQ (pc' := 12) rfl rfl rfl rfl ?_
    first | refine on_aload_n (pc' := 13) rfl rfl rfl rfl ?_ | refine on_aload_nQ (pc' := 13) rfl rfl rfl rfl ?_
    first | apply on_get (pc' := 16) rfl rfl fl_N_47 | apply on_getN (pc' := 16) rfl rfl fl_N_47
    · repeat (first | assumption | exact on_up_eq _ _ _ | refine (on_up_ne (by omega)).trans ?_)
    · rfl
    refine on_callV (pc' := 19) (As := [.ref (o + 42)]) (rest := []) (b := L.A (10 * f + t)) rfl rfl cw_N_drop_183 (k1) rfl rfl (Nat.le_of_ble_eq_true rfl) (Nat.zero_le _) (Nat.zero_le _) (c_Link_takeFirst lS X.1.2.2.2.2.2.2.2.1 ⟨by omega, by omega⟩) ?_
    rintro v h1 sz ⟨rfl, ⟨z, rfl, rfl⟩ | ⟨x', l', ez, rfl, K1, Q1, t1⟩⟩
    · refine on_if_eq (pc' := 22) (tgt := 26) rfl rfl rfl (fun cq => ?_) (fun cq => ?_)
      · refine no _ ?_
        unfold q_drop
        rw [e]
        dsimp only
        rw [z]
      · exact absurd rfl cq
    · refine on_if_eq (pc' := 22) (tgt := 26) rfl rfl rfl (fun cq => ?_) (fun cq => ?_)
      · exact absurd cq (by decide)
      · refine on_iconst (pc' := 23) (v := 1) rfl rfl li_1 ?_
        refine on_goto (tgt := 27) rfl rfl ?_
        refine on_zreturn rfl rfl ?_ ?_
        · first | rfl | assumption
        have eq : q_drop a x y = (1, n_lk a (fu a.lk (10 * f + t) l')) := by
          unfold q_drop
          rw [e]
          dsimp only
          rw [ez]
        rw [eq]
        obtain ⟨X1, F1⟩ := nx_take X hf ht he K1 Q1.w (fun b b1 _ b3 => t1 b b1 b3)
        exact ⟨rfl, n_R.sm X1 (fun b b1 b2 => F1 b b1 (by omega) (by omega))⟩
set_option maxHeartbeats 4000000 in
theorem c_N_alter {i : Int32} (X : n_X o sz L a [] h) : on_Ct G M_N_alter [.ref o, .int x, .int y, .int i, .int m] h sz 0 0 (fun v h1 z => v = some (.int (q_alter a x y i m).1) ∧ n_R o sz z L (q_alter a x y i m).2 h h1) := by
  have o1 : h o = some (.inr (11, [.ref (o + 1), .ref (o + 2), .ref (o + 3), .ref (o + 4), .ref (o + 5), .ref (o + 34), .ref (o + 42), .ref (o + 43), .int (nI a.nr), .int (nI a.nk), .int (nI a.nc)])) := X.1.1
  have no : ∀ lv, q_alter a x y i m = (0, a) → on_E G M_N_alter 46 lv [] h sz 0 0 (fun v h1 z => v = some (.int (q_alter a x y i m).1) ∧ n_R o sz z L (q_alter a x y i m).2 h h1) := fun lv e => by
    refine on_iconst (pc' := 47) (v := 0) rfl rfl li_0 ?_
    refine on_zreturn rfl rfl ?_ ?_
    · first | rfl | assumption
    rw [e]
    exact ⟨rfl, n_R.same X⟩
  refine on_Ct.of (by decide) v_N_alter (Nat.le_of_ble_eq_true rfl) ?_
  first | refine on_aload_n (pc' := 1) rfl rfl rfl rfl ?_ | refine on_aload_nQ (pc' := 1) rfl rfl rfl rfl ?_
  refine on_iload_n (pc' := 2) rfl rfl rfl rfl ?_
  refine on_iload_n (pc' := 3) rfl rfl rfl rfl ?_
  refine on_callV (pc' := 6) (As := [.int x, .int y]) (rest := []) (b := o) rfl rfl cw_N_alter_172 (o1) rfl rfl (Nat.le_of_ble_eq_true rfl) (Nat.zero_le _) (Nat.zero_le _) (c_linkAtW X) ?_
  rintro v h sz ⟨rfl, rfl, rfl⟩
  cases e : q_lk a x y with
  | none =>
    show on_E G M_N_alter 6 _ [va_rf none] h sz _ _ _
    first | refine on_astore (pc' := 8) rfl rfl (by decide) ?_ | refine on_astoreQ (pc' := 8) rfl rfl (by decide) ?_
    first | refine on_aload (pc' := 10) rfl rfl rfl ?_ | refine on_aloadQ (pc' := 10) rfl rfl rfl ?_
    refine on_ifnullN (tgt := 46) rfl rfl (no _ ?_)
    unfold q_alter
    rw [e]
  | some j =>
    obtain ⟨f, t, hf, ht, -, -, rfl, he⟩ := q_lk_some e
    have lS := X.2.2.2 _ (by omega) he
    obtain ⟨g, Xf, k1, -, -, l8, -⟩ := id lS
    have dA := (X.2.1.2.2.2.2.2.1 (10 * f + t) (by omega) he).1
    have tA := X.2.1.2.2.2.2.2.2 (10 * f + t) (by omega) he
    show on_E G M_N_alter 6 _ [.ref (L.A (10 * f + t))] h sz _ _ _
    first | refine on_astore (pc' := 8) rfl rfl (by decide) ?_ | refine on_astoreQ (pc' := 8) rfl rfl (by decide) ?_
    first | refine on_aload (pc' := 10) rfl rfl rfl ?_ | refine on_aloadQ (pc' := 10) rfl rfl rfl ?_
    refine on_ifnullR (pc' := 13) rfl rfl ?_
    cases el : a.lk (10 * f + t) with
    | nil =>
      rw [el] at k1
      first | refine on_aload (pc' := 15) rfl rfl rfl ?_ | refine on_aloadQ (pc' := 15) rfl rfl rfl ?_
      first | apply on_get (pc' := 18) rfl rfl fl_N_176 | apply on_getN (pc' := 18) rfl rfl fl_N_176
      · repeat (first | assumption | exact on_up_eq _ _ _ | refine (on_up_ne (by omega)).trans ?_)
      · rfl
      refine on_if_eq (pc' := 21) (tgt := 46) rfl rfl rfl (fun cq => ?_) (fun cq => ?_)
      · refine no _ ?_
        unfold q_alter
        rw [e]
        dsimp only
        rw [el]
      · exact absurd rfl cq
    | cons c l =>
      have eq : q_alter a x y i m = match p_i 140 i with | none => (0, a) | some n => match p_s 255 m with | none => (0, a) | some k => (1, n_lk a (fu a.lk (10 * f + t) ((fun i => if i = n then c i ^^^ (k + 1) else c i) :: l))) := by
        unfold q_alter
        rw [e]
        dsimp only
        rw [el]
      have n0 : ¬ nI (a.lk (10 * f + t)).length = 0 := fun z => by
        have := (nI_eq (a := (a.lk (10 * f + t)).length) (b := 0) (by omega) (by decide)).mp z
        rw [el] at this
        exact nomatch this
      first | refine on_aload (pc' := 15) rfl rfl rfl ?_ | refine on_aloadQ (pc' := 15) rfl rfl rfl ?_
      first | apply on_get (pc' := 18) rfl rfl fl_N_176 | apply on_getN (pc' := 18) rfl rfl fl_N_176
      · repeat (first | assumption | exact on_up_eq _ _ _ | refine (on_up_ne (by omega)).trans ?_)
      · rfl
      refine on_if_eq (pc' := 21) (tgt := 46) rfl rfl rfl (fun cq => ?_) (fun cq => ?_)
      · exact absurd cq n0
      · clear cq
        refine on_iload_n (pc' := 22) rfl rfl rfl rfl ?_
        refine on_if_lt (pc' := 25) (tgt := 46) rfl rfl rfl (fun cq => ?_) (fun cq => ?_)
        · refine no _ (eq.trans ?_)
          rw [show p_i 140 i = none from if_neg (fun z => z.1 cq)]
        · have x0 := cq
          clear cq
          refine on_iload_n (pc' := 26) rfl rfl rfl rfl ?_
          refine on_sipush (pc' := 29) (v := 140) rfl rfl ls_140 ?_
          refine on_icmp_ge (pc' := 32) (tgt := 46) rfl rfl rfl (fun cq => ?_) (fun cq => ?_)
          · refine no _ (eq.trans ?_)
            rw [show p_i 140 i = none from if_neg (fun z => Int32.not_le.mpr z.2 cq)]
          · have x1 : i < nI 140 := Int32.not_le.mp cq
            clear cq
            have ep : p_i 140 i = some i.toNatClampNeg := if_pos ⟨x0, x1⟩
            obtain ⟨n, hn, en, -, ec, -⟩ := pk_mu (L := 140) x0 (Int32.not_le.mpr x1) (by decide)
            rw [ep, ec] at eq
            have eq : q_alter a x y i m = match p_s 255 m with | none => (0, a) | some k => (1, n_lk a (fu a.lk (10 * f + t) ((fun i => if i = n then c i ^^^ (k + 1) else c i) :: l))) := eq
            subst en
            refine on_iload (pc' := 34) rfl rfl rfl ?_
            refine on_iconst (pc' := 35) (v := 1) rfl rfl li_1 ?_
            refine on_icmp_lt (pc' := 38) (tgt := 46) rfl rfl rfl (fun cq => ?_) (fun cq => ?_)
            · refine no _ (eq.trans ?_)
              rw [show p_s 255 m = none from if_neg (fun z => z.1 cq)]
            · have m0 := cq
              clear cq
              refine on_iload (pc' := 40) rfl rfl rfl ?_
              refine on_sipush (pc' := 43) (v := 255) rfl rfl ls_255 ?_
              refine on_icmp_le (pc' := 46) (tgt := 48) rfl rfl rfl (fun cq => ?_) (fun cq => ?_)
              rotate_left
              · refine no _ (eq.trans ?_)
                rw [show p_s 255 m = none from if_neg (fun z => cq z.2)]
              · have m1 : m ≤ nI 255 := cq
                clear cq
                have em : p_s 255 m = some (m.toNatClampNeg - 1) := if_pos ⟨m0, m1⟩
                obtain ⟨g1, g2⟩ := p_s_some (by decide) em
                rw [em] at eq
                have eq : q_alter a x y (nI n) m = (1, n_lk a (fu a.lk (10 * f + t) ((fun i => if i = n then c i ^^^ (m.toNatClampNeg - 1 + 1) else c i) :: l))) := eq
                generalize m.toNatClampNeg - 1 = k at *
                subst g2
                rw [el] at lS
                first | refine on_aload (pc' := 50) rfl rfl rfl ?_ | refine on_aloadQ (pc' := 50) rfl rfl rfl ?_
                refine on_iload_n (pc' := 51) rfl rfl rfl rfl ?_
                refine on_iload (pc' := 53) rfl rfl rfl ?_
                refine on_callV (pc' := 56) (As := [.int (nI n), .int (nI (k + 1))]) (rest := []) (b := L.A (10 * f + t)) rfl rfl cw_N_alter_187 (k1) rfl rfl (Nat.le_of_ble_eq_true rfl) (Nat.zero_le _) (Nat.zero_le _) (c_changeFirst (x := c) (l2 := l) lS hn (by omega)) ?_
                rintro v h1 sz ⟨rfl, rfl, K1, t1⟩
                refine on_iconst (pc' := 57) (v := 1) rfl rfl li_1 ?_
                refine on_zreturn rfl rfl ?_ ?_
                · first | rfl | assumption
                rw [eq]
                obtain ⟨X1, F1⟩ := nx_take X hf ht he K1 (X.1.2.2.2.2.2.2.2.1.keep (t1 _ (by omega))) (fun b _ b2 _ => t1 b b2)
                exact ⟨rfl, n_R.sm X1 (fun b b1 b2 => F1 b b1 (by omega) (by omega))⟩
theorem c_N_seal {i : Int32} (X : n_X o sz L a [] h) (V : n_V B a) : on_Ct G M_N_seal [.ref o, .int i] h sz 0 0 (fun v h1 z => v = some (.int (q_seal a i)) ∧ n_R o sz z L a h h1) := by
  have o1 : h o = some (.inr (11, [.ref (o + 1), .ref (o + 2), .ref (o + 3), .ref (o + 4), .ref (o + 5), .ref (o + 34), .ref (o + 42), .ref (o + 43), .int (nI a.nr), .int (nI a.nk), .int (nI a.nc)])) := X.1.1
  have no : ∀ lv, q_seal a i = -1 → on_E G M_N_seal 10 lv [] h sz 0 0 (fun v h1 z => v = some (.int (q_seal a i)) ∧ n_R o sz z L a h h1) := fun lv e => by
    refine on_iconst (pc' := 11) (v := (-1)) rfl rfl li_m1 ?_
    refine on_ireturn rfl rfl ?_
    rw [e]
    exact ⟨rfl, n_R.same X⟩
  refine on_Ct.of (by decide) v_N_seal (Nat.le_of_ble_eq_true rfl) ?_
  refine on_iload_n (pc' := 1) rfl rfl rfl rfl ?_
  refine on_if_lt (pc' := 4) (tgt := 10) rfl rfl rfl (fun cq => ?_) (fun cq => ?_)
  · refine no _ ?_
    unfold q_seal
    rw [show p_i 32 i = none from if_neg (fun z => z.1 cq)]
  · have x0 := cq
    clear cq
    refine on_iload_n (pc' := 5) rfl rfl rfl rfl ?_
    refine on_bipush (pc' := 7) (v := 32) rfl rfl lb_32 ?_
    refine on_icmp_lt (pc' := 10) (tgt := 12) rfl rfl rfl (fun cq => ?_) (fun cq => ?_)
    rotate_left
    · refine no _ ?_
      unfold q_seal
      rw [show p_i 32 i = none from if_neg (fun z => cq z.2)]
    · have x1 : i < nI 32 := cq
      clear cq
      have ep : p_i 32 i = some i.toNatClampNeg := if_pos ⟨x0, x1⟩
      obtain ⟨n, hn, en, -, ec, -⟩ := pk_mu (L := 32) x0 (Int32.not_le.mpr x1) (by decide)
      rw [ec] at ep
      subst en
      have nn : n < 32 ∧ 32 < 2 ^ 31 := ⟨hn, by decide⟩
      have ho := X.1.2.2.2.2.2.1.ob
      first | refine on_aload_n (pc' := 13) rfl rfl rfl rfl ?_ | refine on_aload_nQ (pc' := 13) rfl rfl rfl rfl ?_
      first | apply on_get (pc' := 16) rfl rfl fl_N_36 | apply on_getN (pc' := 16) rfl rfl fl_N_36
      · repeat (first | assumption | exact on_up_eq _ _ _ | refine (on_up_ne (by omega)).trans ?_)
      · rfl
      first | refine on_aload_n (pc' := 17) rfl rfl rfl rfl ?_ | refine on_aload_nQ (pc' := 17) rfl rfl rfl rfl ?_
      first | apply on_get (pc' := 20) rfl rfl fl_N_11 | apply on_getN (pc' := 20) rfl rfl fl_N_11
      · repeat (first | assumption | exact on_up_eq _ _ _ | refine (on_up_ne (by omega)).trans ?_)
      · rfl
      first | refine on_aload_n (pc' := 21) rfl rfl rfl rfl ?_ | refine on_aload_nQ (pc' := 21) rfl rfl rfl rfl ?_
      first | apply on_get (pc' := 24) rfl rfl fl_N_51 | apply on_getN (pc' := 24) rfl rfl fl_N_51
      · repeat (first | assumption | exact on_up_eq _ _ _ | refine (on_up_ne (by omega)).trans ?_)
      · rfl
      refine on_callV (pc' := 27) (As := [.ref (o + 1), .ref (o + 43)]) (rest := []) (b := o + 5) rfl rfl cw_N_seal_90 (ho) rfl rfl (Nat.le_of_ble_eq_true rfl) (Nat.zero_le _) (Nat.zero_le _) (c_hashTable (F := rf a.nr L.ra) (ra := L.ra) (rs := a.r) (nr := a.nr) (p := o + 43) X.1.2.2.2.2.2.1 (by omega) X.1.2.1 (fun j hj => ⟨fun z => ⟨if_pos z, X.2.2.1.1 j z, by have := (X.2.1.2.2.1 j z).1; omega, by have := (V.2.1 j z).1; omega⟩, fun z => if_neg z⟩) X.1.2.2.2.2.2.2.2.2 (by omega)) ?_
      rintro v h1 sz ⟨rfl, rfl, H1, P1, t1⟩
      have o2 : h1 o = some (.inr (11, [.ref (o + 1), .ref (o + 2), .ref (o + 3), .ref (o + 4), .ref (o + 5), .ref (o + 34), .ref (o + 42), .ref (o + 43), .int (nI a.nr), .int (nI a.nk), .int (nI a.nc)])) := (t1 o (by omega) (by omega)).trans o1
      obtain ⟨D, d1, d2⟩ := id P1
      first | refine on_aload_n (pc' := 28) rfl rfl rfl rfl ?_ | refine on_aload_nQ (pc' := 28) rfl rfl rfl rfl ?_
      first | apply on_get (pc' := 31) rfl rfl fl_N_51 | apply on_getN (pc' := 31) rfl rfl fl_N_51
      · repeat (first | assumption | exact on_up_eq _ _ _ | refine (on_up_ne (by omega)).trans ?_)
      · rfl
      refine on_iload_n (pc' := 32) rfl rfl rfl rfl ?_
      apply on_ialoadK (pc' := 33) (t := 0) rfl rfl
      · repeat (first | assumption | exact on_up_eq _ _ _ | refine (on_up_ne (by omega)).trans ?_)
      · rfl
      · first | assumption | exact on_lit _ | rfl
      · first | assumption | omega | decide
      rw [(d2 n hn).1]
      refine on_ireturn rfl rfl ?_
      have f0 : ∀ b, b < sz → ¬ L.ow b = 0 → h1 b = h b := fun b b1 b2 => by
        have := X.2.1.two b2
        exact t1 b (by omega) (by omega)
      refine ⟨by unfold q_seal; rw [ep], n_R.sm ⟨?_, X.2.1, nw_P.keep X.2.1 X.2.2.1 (fun b b1 b2 => f0 b b1 (by omega)), X.2.2.2.kp (lo := 0) (fun b kb => ?_)⟩ (fun b b1 b2 => f0 b b1 (by omega))⟩
      · obtain ⟨b1, b2, b3, b4, b5, b6, b7, b8, b9⟩ := X.1
        exact ⟨(t1 _ (by omega) (by omega)).trans b1, (t1 _ (by omega) (by omega)).trans b2, (t1 _ (by omega) (by omega)).trans b3, (t1 _ (by omega) (by omega)).trans b4, (t1 _ (by omega) (by omega)).trans b5, H1, b7.keep (fun b _ _ => t1 b (by omega) (by omega)), b8.keep (t1 _ (by omega) (by omega)), P1.w⟩
      · obtain ⟨g1, g2, g3⟩ := X.2.1.lk kb
        exact f0 b g1 (by omega)
theorem c_N_deliver (X : n_X o sz L a [] h) (V : n_V B a) (hB : B + 540 < 2 ^ 28) (hb : n_pc a ≤ bc + n_pc (q_deliver a x y).2 ∧ n_ps a ≤ bs + n_ps (q_deliver a x y).2) : on_Ct G M_N_deliver [.ref o, .int x, .int y] h sz bc bs (fun v h1 z => v = some (.int (q_deliver a x y).1) ∧ n_R o sz z L (q_deliver a x y).2 h h1) := by
  have o1 : h o = some (.inr (11, [.ref (o + 1), .ref (o + 2), .ref (o + 3), .ref (o + 4), .ref (o + 5), .ref (o + 34), .ref (o + 42), .ref (o + 43), .int (nI a.nr), .int (nI a.nk), .int (nI a.nc)])) := X.1.1
  have no : ∀ lv bc bs, q_deliver a x y = (-1, a) → on_E G M_N_deliver 18 lv [] h sz bc bs (fun v h1 z => v = some (.int (q_deliver a x y).1) ∧ n_R o sz z L (q_deliver a x y).2 h h1) := fun lv bc bs e => by
    refine on_iconst (pc' := 19) (v := (-1)) rfl rfl li_m1 ?_
    refine on_ireturn rfl rfl ?_
    rw [e]
    exact ⟨rfl, n_R.same X⟩
  refine on_Ct.of (by decide) v_N_deliver (Nat.le_of_ble_eq_true rfl) ?_
  first | refine on_aload_n (pc' := 1) rfl rfl rfl rfl ?_ | refine on_aload_nQ (pc' := 1) rfl rfl rfl rfl ?_
  refine on_iload_n (pc' := 2) rfl rfl rfl rfl ?_
  refine on_iload_n (pc' := 3) rfl rfl rfl rfl ?_
  refine on_callV (pc' := 6) (As := [.int x, .int y]) (rest := []) (b := o) rfl rfl cw_N_deliver_172 (o1) rfl rfl (Nat.le_of_ble_eq_true rfl) (Nat.zero_le _) (Nat.zero_le _) (c_linkAtW X) ?_
  rintro v h sz ⟨rfl, rfl, rfl⟩
  cases e : q_lk a x y with
  | none =>
    show on_E G M_N_deliver 6 _ [va_rf none] h sz _ _ _
    first | refine on_astore_n (pc' := 7) rfl rfl rfl (by decide) ?_ | refine on_astore_nQ (pc' := 7) rfl rfl rfl (by decide) ?_
    first | refine on_aload_n (pc' := 8) rfl rfl rfl rfl ?_ | refine on_aload_nQ (pc' := 8) rfl rfl rfl rfl ?_
    refine on_ifnullN (tgt := 18) rfl rfl (no _ _ _ ?_)
    unfold q_deliver
    rw [e]
  | some j =>
    obtain ⟨f, t, hf, ht, rfl, rfl, rfl, he⟩ := q_lk_some e
    have lS := X.2.2.2 _ (by omega) he
    obtain ⟨g, Xf, k1, -, -, l8, -⟩ := id lS
    show on_E G M_N_deliver 6 _ [.ref (L.A (10 * f + t))] h sz _ _ _
    first | refine on_astore_n (pc' := 7) rfl rfl rfl (by decide) ?_ | refine on_astore_nQ (pc' := 7) rfl rfl rfl (by decide) ?_
    first | refine on_aload_n (pc' := 8) rfl rfl rfl rfl ?_ | refine on_aload_nQ (pc' := 8) rfl rfl rfl rfl ?_
    refine on_ifnullR (pc' := 11) rfl rfl ?_
    cases el : a.lk (10 * f + t) with
    | nil =>
      rw [el] at k1
      first | refine on_aload_n (pc' := 12) rfl rfl rfl rfl ?_ | refine on_aload_nQ (pc' := 12) rfl rfl rfl rfl ?_
      first | apply on_get (pc' := 15) rfl rfl fl_N_176 | apply on_getN (pc' := 15) rfl rfl fl_N_176
      · repeat (first | assumption | exact on_up_eq _ _ _ | refine (on_up_ne (by omega)).trans ?_)
      · rfl
      refine on_if_ne (pc' := 18) (tgt := 20) rfl rfl rfl (fun cq => ?_) (fun cq => ?_)
      · exact absurd rfl cq
      · refine no _ _ _ ?_
        unfold q_deliver
        rw [e]
        dsimp only
        rw [el]
    | cons c l =>
      have eq : q_deliver a (nI f) (nI t) = (nI (c 4), n_ho a f t) := by
        unfold q_deliver
        rw [e]
        dsimp only
        rw [el]
        dsimp only
        rw [show (10 * f + t) / 10 = f by omega, show (10 * f + t) % 10 = t by omega]
      rw [eq] at hb ⊢
      have n0 : ¬ nI (a.lk (10 * f + t)).length = 0 := fun z => by
        have := (nI_eq (a := (a.lk (10 * f + t)).length) (b := 0) (by omega) (by decide)).mp z
        rw [el] at this
        exact nomatch this
      first | refine on_aload_n (pc' := 12) rfl rfl rfl rfl ?_ | refine on_aload_nQ (pc' := 12) rfl rfl rfl rfl ?_
      first | apply on_get (pc' := 15) rfl rfl fl_N_176 | apply on_getN (pc' := 15) rfl rfl fl_N_176
      · repeat (first | assumption | exact on_up_eq _ _ _ | refine (on_up_ne (by omega)).trans ?_)
      · rfl
      refine on_if_ne (pc' := 18) (tgt := 20) rfl rfl rfl (fun cq => ?_) (fun cq => ?_)
      rotate_left
      · exact absurd cq n0
      · clear cq
        first | refine on_aload_n (pc' := 21) rfl rfl rfl rfl ?_ | refine on_aload_nQ (pc' := 21) rfl rfl rfl rfl ?_
        refine on_iload_n (pc' := 22) rfl rfl rfl rfl ?_
        refine on_iload_n (pc' := 23) rfl rfl rfl rfl ?_
        first | refine on_aload_n (pc' := 24) rfl rfl rfl rfl ?_ | refine on_aload_nQ (pc' := 24) rfl rfl rfl rfl ?_
        refine on_callV (pc' := 27) (As := [.int (nI f), .int (nI t), .ref (L.A (10 * f + t))]) (rest := []) (b := o) rfl rfl cw_N_deliver_179 (o1) rfl rfl (Nat.le_of_ble_eq_true rfl) (by omega) (by omega) (c_handOver (bc := bc) (bs := bs) X V hB hf ht he el hb) ?_
        rintro v h1 z ⟨rfl, R⟩
        refine on_ireturn rfl rfl ?_
        exact ⟨rfl, R⟩
end SMC
