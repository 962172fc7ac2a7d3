/-! OnionNet: calls on a circuit -/
def q_destroy (a : aN) (x : Int32) : Int32 × aN := match p_i a.nc x with
  | none => (0, a)
  | some i => if (a.c i).ph = 2 then (0, a) else (1, n_lk (n_c a i (c_ds (a.c i)).1) (n_sd (8 + (a.c i).cl) a.lk (c_ds (a.c i)).2))
/-- a circuit sends a cell to its last hop -/
def n_fo (a : aN) (i : Nat) (c : aC) (cmd s n : Nat) (d : Nat → Nat) : aN := n_lk (n_c a i (c_fo c cmd s n d).1) (n_sd (8 + (a.c i).cl) a.lk [(c_fo c cmd s n d).2])
def q_close (a : aN) (x y : Int32) : Int32 × aN := match q_st a x y with
  | none => (0, a)
  | some p => let t := (a.c p.1).st.getD p.2 t0
    if t.ph = 2 then (0, a) else (1, n_fo a p.1 (c_st (a.c p.1) ((a.c p.1).st.set p.2 (2, t.wi, t.ca, t.wa, t.go))) 3 (p.2 + 1) 0 (fun _ => 0))
def q_push (a : aN) (x y : Int32) : Int32 × aN := match q_st a x y with
  | none => (-1, a)
  | some p => let t := (a.c p.1).st.getD p.2 t0
    if t.wa.length = 0 ∨ ¬ t.ph = 1 ∨ t.wi = 0 then (0, a) else (nI (min t.wa.length 124), n_fo a p.1 (c_st (a.c p.1) ((a.c p.1).st.set p.2 (t.ph, t.wi - 1, t.ca, t.wa.drop (min t.wa.length 124), t.go))) 2 (p.2 + 1) (min t.wa.length 124) (fun j => t.wa.getD j 0))
def q_stream (a : aN) (x y : Int32) : Int32 × aN := match p_i a.nc x with
  | none => (-1, a)
  | some i => match p_i 256 y with
    | none => (-1, a)
    | some port => if (a.c i).ph = 1 ∧ (a.c i).st.length < 4 then (nI ((a.c i).st.length + 1), n_fo a i (c_st (a.c i) ((a.c i).st ++ [t_nw])) 1 ((a.c i).st.length + 1) 1 (fun _ => port)) else (-1, a)
theorem and255 (x : Int32) : ∃ b, b < 256 ∧ x &&& 255 = nI b ∧ (x &&& 255).toNatClampNeg = b := by
  have e : x &&& 255 = nI (x.toBitVec.toNat % 256) := pk_and x 8 rfl
  refine ⟨x.toBitVec.toNat % 256, by omega, e, ?_⟩
  rw [e, nI_clamp (by omega)]
section CCL
variable {G : on_G} {o sz B bc bs : Nat} {L : nL} {a : aN} {M : aO} {h h2 : on_H} {x y w m : Int32}
theorem n_V.cl (V : n_V B a) {i : Nat} (hi : i < a.nc) : (a.c i).cl < a.nk := (V.2.2.2.1 i hi).1.1
/-- the places of a circuit whose lanes and streams stay where they are -/
theorem nw_I.st {i : Nat} {c2 : aC} (I : nw_I sz L i (a.c i)) (h1 : c2.hp = (a.c i).hp) (h2 : c2.st.length = (a.c i).st.length) : (∀ j, j < c2.hp → L.la i j + 16 ≤ sz ∧ (L.la i j = L.la i j ∧ j < (a.c i).hp ∨ sz ≤ L.la i j)) ∧ ∀ j, j < c2.st.length → L.sa i j + 3 ≤ sz ∧ (L.sa i j = L.sa i j ∧ j < (a.c i).st.length ∨ sz ≤ L.sa i j) :=
  ⟨fun j hj => ⟨(I.2.2.2.1 j (by omega)).1, Or.inl ⟨rfl, by omega⟩⟩, fun j hj => ⟨(I.2.2.2.2.1 j (by omega)).1, Or.inl ⟨rfl, by omega⟩⟩⟩
set_option maxHeartbeats 4000000 in
theorem c_N_put (X : n_X o sz L a [] h) (V : n_V B a) : on_Ct G M_N_put [.ref o, .int x, .int y, .int w] h sz 0 0 (fun v h1 z => v = some (.int (q_put a x y w).1) ∧ n_R o sz z L (q_put a x y w).2 h h1) := by
  have o1 : h o = some (.inr (11, [.ref (o + 1), .ref (o + 2), .ref (o + 3), .ref (o + 4), .ref (o + 5), .ref (o + 34), .ref (o + 42), .ref (o + 43), .int (nI a.nr), .int (nI a.nk), .int (nI a.nc)])) := X.1.1
  have no : ∀ lv, q_put a x y w = (0, a) → on_E G M_N_put 30 lv [] h sz 0 0 (fun v h1 z => v = some (.int (q_put a x y w).1) ∧ n_R o sz z L (q_put a x y w).2 h h1) := fun lv e => by
    refine on_iconst (pc' := 31) (v := 0) rfl rfl li_0 ?_
    refine on_zreturn rfl rfl ?_ ?_
    · first | rfl | assumption
    rw [e]
    exact ⟨rfl, n_R.same X⟩
  refine on_Ct.of (by decide) v_N_put (Nat.le_of_ble_eq_true rfl) ?_
  first | refine on_aload_n (pc' := 1) rfl rfl rfl rfl ?_ | refine on_aload_nQ (pc' := 1) rfl rfl rfl rfl ?_
  refine on_iload_n (pc' := 2) rfl rfl rfl rfl ?_
  refine on_iload_n (pc' := 3) rfl rfl rfl rfl ?_
  refine on_callV (pc' := 6) (As := [.int x, .int y]) (rest := []) (b := o) rfl rfl cw_N_put_133 (o1) rfl rfl (Nat.le_of_ble_eq_true rfl) (Nat.zero_le _) (Nat.zero_le _) (c_streamAtW X V) ?_
  rintro v h sz ⟨rfl, rfl, rfl⟩
  cases e : q_st a x y with
  | none =>
    show on_E G M_N_put 6 _ [va_rf none] h sz _ _ _
    first | refine on_astore (pc' := 8) rfl rfl (by decide) ?_ | refine on_astoreQ (pc' := 8) rfl rfl (by decide) ?_
    first | refine on_aload (pc' := 10) rfl rfl rfl ?_ | refine on_aloadQ (pc' := 10) rfl rfl rfl ?_
    refine on_ifnullN (tgt := 30) rfl rfl (no _ ?_)
    unfold q_put
    rw [e]
  | some p =>
    obtain ⟨c, s⟩ := p
    obtain ⟨-, hc, hs, -⟩ := q_st_some V.1.2.2 (fun i hi => (V.2.2.2.1 i hi).1.2.2.2.2.2.2.2.2.1) e
    have C := X.2.2.1.2.2 c hc
    have I := X.2.1.2.2.2.2.1 c hc
    obtain ⟨S, s1, s2, s3⟩ := C.2.2.2.1
    have sm := (s3 s hs).2
    obtain ⟨f, W, k0, -⟩ := id sm
    obtain ⟨b, hb, eb, ec⟩ := and255 w
    have eq : q_put a x y w = if ¬ ((a.c c).st.getD s t0).ph = 2 ∧ ((a.c c).st.getD s t0).wa.length < 400 then (1, n_c a c (c_st (a.c c) ((a.c c).st.set s (t_qu ((a.c c).st.getD s t0) b)))) else (0, a) := by
      unfold q_put
      rw [e]
      dsimp only
      rw [ec]
    show on_E G M_N_put 6 _ [.ref (L.sa c s)] h sz _ _ _
    first | refine on_astore (pc' := 8) rfl rfl (by decide) ?_ | refine on_astoreQ (pc' := 8) rfl rfl (by decide) ?_
    first | refine on_aload (pc' := 10) rfl rfl rfl ?_ | refine on_aloadQ (pc' := 10) rfl rfl rfl ?_
    refine on_ifnullR (pc' := 13) rfl rfl ?_
    first | refine on_aload (pc' := 15) rfl rfl rfl ?_ | refine on_aloadQ (pc' := 15) rfl rfl rfl ?_
    refine on_iload_n (pc' := 16) rfl rfl rfl rfl ?_
    refine on_sipush (pc' := 19) (v := 255) rfl rfl ls_255 ?_
    refine on_iand (pc' := 20) rfl rfl ?_
    rw [eb]
    refine on_callV (pc' := 23) (As := [.int (nI b)]) (rest := []) (b := L.sa c s) rfl rfl cw_N_put_137 (k0) rfl rfl (Nat.le_of_ble_eq_true rfl) (Nat.zero_le _) (Nat.zero_le _) (c_queue sm hb) ?_
    rintro v h1 sz ⟨rfl, ⟨z1, z2, rfl, S1, t1⟩ | ⟨z1, rfl, rfl⟩⟩
    · rw [if_pos ⟨z1, z2⟩] at eq
      refine on_if_eq (pc' := 26) (tgt := 30) rfl rfl rfl (fun cq => ?_) (fun cq => ?_)
      · exact absurd cq (by decide)
      · refine on_iconst (pc' := 27) (v := 1) rfl rfl li_1 ?_
        refine on_goto (tgt := 31) rfl rfl ?_
        refine on_zreturn rfl rfl ?_ ?_
        · first | rfl | assumption
        rw [eq]
        have dc := I.1.2.1 s hs
        have I0 := X.2.1.1
        have tS := I.2.2.2.2.1 s hs
        obtain ⟨w1, w2⟩ := C.str I.1 hs S1 (fun b b1 b2 => t1 b (by omega) (by omega))
        obtain ⟨u1, u2⟩ := I.st (c2 := c_st (a.c c) ((a.c c).st.set s (t_qu ((a.c c).st.getD s t0) b))) rfl List.length_set
        have fr1 : ∀ b, b < sz → ¬ L.ow b = 12 + 3 * c → h1 b = h b := fun b b1 b2 => by
          have := tS.2.off b2
          exact t1 b (by omega) (by omega)
        have fr0 : ∀ b, b < o + 44 → h1 b = h b := fun b b1 => by
          have := (X.2.1.2.2.2.1 (a.c c).cl (V.cl hc)).1
          have := I.2.2.2.2.2.1
          exact t1 b (by omega) (by omega)
        have X1 := nx_cir0 (M := []) (c2 := c_st (a.c c) ((a.c c).st.set s (t_qu ((a.c c).st.getD s t0) b))) (la2 := L.la c) (sa2 := L.sa c) X hc (V.cl hc) (Nat.le_refl _) rfl rfl w2 u1 u2 w1 (X.1.2.2.2.2.2.1.keep (fun b _ _ => fr0 b (by omega))) (X.1.2.2.2.2.2.2.1.keep (fun b _ _ => fr0 b (by omega))) (X.1.2.2.2.2.2.2.2.1.keep (fr0 _ (by omega))) (fun b b1 _ b2 => fr1 b b1 b2)
        exact ⟨rfl, n_R.cir X1 (Nat.le_refl _) (fun b b1 b2 => fr1 b b1 (by omega))⟩
    · rw [if_neg z1] at eq
      refine on_if_eq (pc' := 26) (tgt := 30) rfl rfl rfl (fun cq => ?_) (fun cq => ?_)
      · exact no _ eq
      · exact absurd rfl cq
/-- behind it all its client's cells go on the links -/
theorem n_R.snd {i z : Nat} {c2 : aC} {la2 sa2 : Nat → Nat} {h3 : on_H} {lk : Nat → List aB} (X : n_X o z (nL_c L sz i la2 sa2) (n_lk (n_c a i c2) lk) [] h3) (hz : sz ≤ z) (e : ∀ b, b < z → ¬ (nL_c L sz i la2 sa2).ow b = 0 → ¬ (nL_c L sz i la2 sa2).ow b = 1 → h3 b = h2 b) (e2 : ∀ b, b < sz → L.ow b = 2 → h2 b = h b) : n_R o sz z L (n_lk (n_c a i c2) lk) h h3 := by
  refine n_R.cir X hz (fun b b1 b2 => ?_)
  have ow : (nL_c L sz i la2 sa2).ow b = L.ow b := if_pos b1
  exact (e b (by omega) (by omega) (by omega)).trans (e2 b b1 b2)
set_option maxHeartbeats 4000000 in
theorem c_N_destroy (X : n_X o sz L a [] h) (V : n_V B a) : on_Ct G M_N_destroy [.ref o, .int x] h sz 0 0 (fun v h1 z => v = some (.int (q_destroy a x).1) ∧ n_R o sz z L (q_destroy a x).2 h h1) := by
  have o1 : h o = some (.inr (11, [.ref (o + 1), .ref (o + 2), .ref (o + 3), .ref (o + 4), .ref (o + 5), .ref (o + 34), .ref (o + 42), .ref (o + 43), .int (nI a.nr), .int (nI a.nk), .int (nI a.nc)])) := X.1.1
  have no : ∀ lv, q_destroy a x = (0, a) → on_E G M_N_destroy 18 lv [] h sz 0 0 (fun v h1 z => v = some (.int (q_destroy a x).1) ∧ n_R o sz z L (q_destroy a x).2 h h1) := fun lv e => by
    refine on_iconst (pc' := 19) (v := 0) rfl rfl li_0 ?_
    refine on_zreturn rfl rfl ?_ ?_
    · first | rfl | assumption
    rw [e]
    exact ⟨rfl, n_R.same X⟩
  refine on_Ct.of (by decide) v_N_destroy (Nat.le_of_ble_eq_true rfl) ?_
  first | refine on_aload_n (pc' := 1) rfl rfl rfl rfl ?_ | refine on_aload_nQ (pc' := 1) rfl rfl rfl rfl ?_
  refine on_iload_n (pc' := 2) rfl rfl rfl rfl ?_
  refine on_callV (pc' := 5) (As := [.int x]) (rest := []) (b := o) rfl rfl cw_N_destroy_118 (o1) rfl rfl (Nat.le_of_ble_eq_true rfl) (Nat.zero_le _) (Nat.zero_le _) (c_circuitAtP V.1.2.2 X.1.1 X.1.2.2.2.1) ?_
  rintro v h sz ⟨rfl, rfl, rfl⟩
  cases e : p_i a.nc x with
  | none =>
    show on_E G M_N_destroy 5 _ [va_rf none] h sz _ _ _
    first | refine on_astore_n (pc' := 6) rfl rfl rfl (by decide) ?_ | refine on_astore_nQ (pc' := 6) rfl rfl rfl (by decide) ?_
    first | refine on_aload_n (pc' := 7) rfl rfl rfl rfl ?_ | refine on_aload_nQ (pc' := 7) rfl rfl rfl rfl ?_
    refine on_ifnullN (tgt := 18) rfl rfl (no _ ?_)
    unfold q_destroy
    rw [e]
  | some i =>
    have hi := (p_i_some (by have := V.1.2.2; omega) e).1
    have C := X.2.2.1.2.2 i hi
    have c0 := C.ob
    have I := X.2.1.2.2.2.2.1 i hi
    have ck := (V.2.2.2.1 i hi).1
    have p0 := ck.2.2.1 0 (by have := ck.2.1; omega)
    have R0 := X.2.2.1.1 _ p0
    have kc := X.2.1.2.2.2.1 (a.c i).cl ck.1
    have rc := X.2.1.2.2.1 _ p0
    have r7 := I.2.2.2.2.2.2 0 (by have := ck.2.1; omega)
    have eq : q_destroy a x = if (a.c i).ph = 2 then (0, a) else (1, n_lk (n_c a i (c_ds (a.c i)).1) (n_sd (8 + (a.c i).cl) a.lk (c_ds (a.c i)).2)) := by
      unfold q_destroy
      rw [e]
    show on_E G M_N_destroy 5 _ [.ref (L.ca i + 1)] h sz _ _ _
    first | refine on_astore_n (pc' := 6) rfl rfl rfl (by decide) ?_ | refine on_astore_nQ (pc' := 6) rfl rfl rfl (by decide) ?_
    first | refine on_aload_n (pc' := 7) rfl rfl rfl rfl ?_ | refine on_aload_nQ (pc' := 7) rfl rfl rfl rfl ?_
    refine on_ifnullR (pc' := 10) rfl rfl ?_
    first | refine on_aload_n (pc' := 11) rfl rfl rfl rfl ?_ | refine on_aload_nQ (pc' := 11) rfl rfl rfl rfl ?_
    first | apply on_get (pc' := 14) rfl rfl fl_N_168 | apply on_getN (pc' := 14) rfl rfl fl_N_168
    · repeat (first | assumption | exact on_up_eq _ _ _ | refine (on_up_ne (by omega)).trans ?_)
    · rfl
    refine on_iconst (pc' := 15) (v := 2) rfl rfl li_2 ?_
    refine on_icmp_ne (pc' := 18) (tgt := 20) rfl rfl rfl (fun cq => ?_) (fun cq => ?_)
    rotate_left
    · have p2 : (a.c i).ph = 2 := (nI_eq (a := (a.c i).ph) (b := 2) (by have := ck.2.2.2.2.1; omega) (by decide)).mp cq
      exact no _ (eq.trans (if_pos p2))
    · have p2 : ¬ (a.c i).ph = 2 := fun z => cq (by rw [z]; rfl)
      clear cq
      rw [if_neg p2] at eq
      first | refine on_aload_n (pc' := 21) rfl rfl rfl rfl ?_ | refine on_aload_nQ (pc' := 21) rfl rfl rfl rfl ?_
      first | refine on_aload_n (pc' := 22) rfl rfl rfl rfl ?_ | refine on_aload_nQ (pc' := 22) rfl rfl rfl rfl ?_
      first | apply on_get (pc' := 25) rfl rfl fl_N_43 | apply on_getN (pc' := 25) rfl rfl fl_N_43
      · repeat (first | assumption | exact on_up_eq _ _ _ | refine (on_up_ne (by omega)).trans ?_)
      · rfl
      have c6 := I.2.2.2.2.2.1
      have sd : ∀ j, j < (a.c i).st.length → L.ca i + 7 ≤ L.sa i j ∧ ∀ k, k < j → L.sa i k + 3 ≤ L.sa i j := fun j hj => ⟨(I.1.2.1 j hj).1, (I.1.2.1 j hj).2.1⟩
      refine on_callV (pc' := 28) (As := [.ref (o + 34)]) (rest := []) (b := L.ca i + 1) rfl rfl cw_N_destroy_169 (c0) rfl rfl (Nat.le_of_ble_eq_true rfl) (Nat.zero_le _) (Nat.zero_le _) (c_fall (sa := L.sa i) (ra := L.ra) (st := (a.c i).st) sd (by omega) C.1 C.2.2.2.1 C.2.1 (by have := ck.2.1; omega) R0 X.1.2.2.2.2.2.2.1.e (by decide)) ?_
      rintro v h1 sz ⟨rfl, rfl, C2, S2, O2, t2⟩
      obtain ⟨w1, w2⟩ := C.gone I.1 C2 S2 (fun b b0 b1 b2 => t2 b b1 (by omega) b2)
      obtain ⟨u1, u2⟩ := I.st (c2 := c_go (a.c i)) rfl (List.length_map _)
      have fr1 : ∀ b, b < sz → (b < o + 5 ∨ o + 43 ≤ b) → ¬ L.ow b = 12 + 3 * i → h1 b = h b := fun b b1 b2 b3 => t2 b (by have := I.2.2.1.off b3; omega) (by omega) (fun j hj => by have := (I.2.2.2.2.1 j hj).2.off b3; omega)
      have fr0 : ∀ b, b < o + 44 → (b < o + 34 ∨ o + 42 ≤ b) → h1 b = h b := fun b b1 b2 => t2 b (by omega) (by omega) (fun j hj => by have := (sd j hj).1; omega)
      have X1 := nx_cir0 (M := (c_ds (a.c i)).2) (c2 := c_go (a.c i)) (la2 := L.la i) (sa2 := L.sa i) X hi ck.1 (Nat.le_refl _) rfl rfl w2 u1 u2 w1 (X.1.2.2.2.2.2.1.keep (fun b _ _ => fr0 b (by omega) (by omega))) (ob_1 O2 fu_s (fun j _ => congrFun fu_s j)) (X.1.2.2.2.2.2.2.2.1.keep (fr0 _ (by omega) (by omega))) fr1
      have o2 : h1 o = some (.inr (11, [.ref (o + 1), .ref (o + 2), .ref (o + 3), .ref (o + 4), .ref (o + 5), .ref (o + 34), .ref (o + 42), .ref (o + 43), .int (nI a.nr), .int (nI a.nk), .int (nI a.nc)])) := X1.1.1
      have N1 : h1 (L.ka (a.c i).cl) = some (.inr (4, [.int (nI (8 + (a.c i).cl)), .ref (L.ka (a.c i).cl + 1), .int (a.k (a.c i).cl).dr, .int (nI ((a.k (a.c i).cl).nu + 1))])) := (X1.2.2.1.2.1 (a.c i).cl ck.1).1
      have C3 : h1 (L.ca i + 1) = some (.inr (9, [.ref (L.ka (a.c i).cl), .int (nI (a.c i).nu), .ref (L.ca i), .ref (o + 5), .ref (L.ca i + 5), .ref (L.ca i + 6), .ref (L.ca i + 2), .ref (L.ca i + 3), .ref (L.ca i + 4), .int 2, .int (nI (a.c i).hp), .int (nI (a.c i).st.length)])) := C2
      first | refine on_aload_n (pc' := 29) rfl rfl rfl rfl ?_ | refine on_aload_nQ (pc' := 29) rfl rfl rfl rfl ?_
      first | refine on_aload_n (pc' := 30) rfl rfl rfl rfl ?_ | refine on_aload_nQ (pc' := 30) rfl rfl rfl rfl ?_
      first | apply on_get (pc' := 33) rfl rfl fl_N_126 | apply on_getN (pc' := 33) rfl rfl fl_N_126
      · repeat (first | assumption | exact on_up_eq _ _ _ | refine (on_up_ne (by omega)).trans ?_)
      · rfl
      first | apply on_get (pc' := 36) rfl rfl fl_N_130 | apply on_getN (pc' := 36) rfl rfl fl_N_130
      · repeat (first | assumption | exact on_up_eq _ _ _ | refine (on_up_ne (by omega)).trans ?_)
      · rfl
      refine on_callV (pc' := 39) (As := [.int (nI (8 + (a.c i).cl))]) (rest := []) (b := o) rfl rfl cw_N_destroy_115 (o2) rfl rfl (Nat.le_of_ble_eq_true rfl) (Nat.zero_le _) (Nat.zero_le _) (c_sendW X1 (by have := ck.1; have := V.1.2.1; omega) (ck.ms1 V.1.1)) ?_
      rintro v h3 sz ⟨rfl, rfl, X3, F3⟩
      refine on_iconst (pc' := 40) (v := 1) rfl rfl li_1 ?_
      refine on_zreturn rfl rfl ?_ ?_
      · first | rfl | assumption
      rw [eq]
      exact ⟨rfl, n_R.snd X3 (Nat.le_refl _) F3 (fun b b1 b2 => fr1 b b1 (by have := X.2.1.two (b := b) (by omega); omega) (by omega))⟩
end CCL
