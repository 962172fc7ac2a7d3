/-! OnionNet: a client more, a relay more -/
def q_client (a : aN) (seed : Int64) : Int32 × aN := if a.nk < 2 then (nI (8 + a.nk), (a.nr, a.r, a.nk + 1, fu a.k a.nk (seed, 0, 0), a.nc, a.c, a.lk)) else (-1, a)
def q_relay (a : aN) (seed : Int64) : Int32 × aN := if a.nr < 6 then (nI a.nr, (a.nr + 1, fu a.r a.nr (seed, 0, 10, 1000, (fun _ => none), []), a.nk, a.k, a.nc, a.c, a.lk)) else (-1, a)
theorem rf_up {n s : Nat} {A : Nat → Nat} : va_up (rf n A) n (some s) = rf (n + 1) (fu A n s) := funext fun i => by
  unfold va_up rf
  by_cases z : i = n
  · rw [z, fu_s, if_pos rfl, if_pos (Nat.lt_succ_self n)]
  · rw [if_neg z, fu_n z]
    by_cases w : i < n
    · rw [if_pos w, if_pos (by omega)]
    · rw [if_neg w, if_neg (by omega)]
theorem n_pr_c {nr nk : Nat} (hnr : nr ≤ 6) (x : Nat) : n_pr nr (nk + 1) x = true ↔ n_pr nr nk x = true ∨ x = 8 + nk := by
  unfold n_pr
  simp only [Bool.or_eq_true, Bool.and_eq_true, decide_eq_true_eq]
  omega
theorem n_pr_R {nr nk : Nat} (hnr : nr < 6) (x : Nat) : n_pr (nr + 1) nk x = true ↔ n_pr nr nk x = true ∨ x = nr := by
  unfold n_pr
  simp only [Bool.or_eq_true, Bool.and_eq_true, decide_eq_true_eq]
  omega
theorem cr_S.ra2 {c cl hs : Nat} {ra ra2 la sa : Nat → Nat} {rs rs2 : Nat → aR} {k : aC} {h : on_H} (K : cr_S c cl hs ra la sa rs k h) (e : ∀ i, i < k.pa.length → ra2 (k.pa.getD i 0) = ra (k.pa.getD i 0)) (e2 : k.ph = 0 → (rs2 (k.pa.getD k.hp 0)).se = (rs (k.pa.getD k.hp 0)).se) : cr_S c cl hs ra2 la sa rs2 k h := by
  obtain ⟨k1, ⟨P, p1, p2⟩, k3, k4, k5, k6, k7⟩ := K
  exact ⟨k1, ⟨P, p1, fun i hi => by rw [e i hi]; exact p2 i hi⟩, k3, k4, k5, k6, fun z => ⟨(k7 z).1, by rw [e2 z]; exact (k7 z).2⟩⟩
theorem n_T.nw {ow g : Nat → Nat} {lo hi t sz : Nat} (k : n_T ow lo hi t) (h : hi ≤ sz) : n_T (fun b => if b < sz then ow b else g b) lo hi t := fun b b1 b2 => (if_pos (by omega)).trans (k b b1 b2)
/-- the links of a state in which one node more is there -/
theorem lks_T {o sz s : Nat} {ex ex2 : Nat → Bool} {A A0 ow : Nat → Nat} {lk : Nat → List aB} {h : on_H} {f : Nat → Nat} (W : lks_W o s ex2 A lk h) (a1 : ∀ j, ex j = true → A j = A0 j) (a2 : ∀ j, ex2 j = true → ¬ ex j = true → sz ≤ A j) (t : ∀ j, j < 100 → ex j = true → A0 j + 2 ≤ sz ∧ n_T ow (A0 j) (A0 j + 2) 1) (f1 : ∀ b, b < sz → f b = ow b) (f2 : ∀ b, sz ≤ b → b < s → f b = 1) : ∀ j, j < 100 → ex2 j = true → A j + 2 ≤ s ∧ n_T f (A j) (A j + 2) 1 := fun j hj ej => by
  have w := W.2.2.2 j hj ej
  by_cases z : ex j = true
  · rw [a1 j z] at w ⊢
    exact ⟨w, fun b b1 b2 => (f1 b (by have := (t j hj z).1; omega)).trans ((t j hj z).2 b b1 b2)⟩
  · exact ⟨w, fun b b1 b2 => f2 b (by have := a2 j ej z; omega) (by omega)⟩
section MAK
variable {G : on_G} {o sz B bc bs : Nat} {L : nL} {a : aN} {h : on_H} {seed : Int64}
set_option maxHeartbeats 16000000 in
theorem c_N_client (X : n_X o sz L a [] h) (V : n_V B a) (hb : n_pc a ≤ bc + n_pc (q_client a seed).2 ∧ n_ps a ≤ bs + n_ps (q_client a seed).2) : on_Ct G M_N_client [.ref o, .long seed] h sz bc bs (fun v h1 z => v = some (.int (q_client a seed).1) ∧ n_R o sz z L (q_client a seed).2 h h1) := by
  have o1 : h o = some (.inr (11, [.ref (o + 1), .ref (o + 2), .ref (o + 3), .ref (o + 4), .ref (o + 5), .ref (o + 34), .ref (o + 42), .ref (o + 43), .int (nI a.nr), .int (nI a.nk), .int (nI a.nc)])) := X.1.1
  obtain ⟨⟨nr6, nk2, nc6⟩, v2, v3, v4, v5, v6, v7⟩ := id V
  obtain ⟨⟨b1, b2, b3, b4, b5, b6, b7, b8, b9⟩, ⟨u1, u2, u3, u4, u5, u6, u7⟩, P, K⟩ := id X
  refine on_Ct.of (by decide) v_N_client (Nat.le_of_ble_eq_true rfl) ?_
  by_cases k2 : a.nk < 2
  · have eq : q_client a seed = (nI (8 + a.nk), (a.nr, a.r, a.nk + 1, fu a.k a.nk (seed, 0, 0), a.nc, a.c, a.lk)) := if_pos k2
    rw [eq] at hb ⊢
    have pc1 : n_pc (a.nr, a.r, a.nk + 1, fu a.k a.nk (seed, 0, 0), a.nc, a.c, a.lk) + 60 = n_pc a := by
      show (6 - a.nr) * 400 + (2 - (a.nk + 1)) * 60 + s6 (fun i => if i < a.nc then 16 * (3 - (a.c i).hp) + 3 * (4 - (a.c i).st.length) else 80) + 60 = (6 - a.nr) * 400 + (2 - a.nk) * 60 + s6 (fun i => if i < a.nc then 16 * (3 - (a.c i).hp) + 3 * (4 - (a.c i).st.length) else 80)
      omega
    have pc2 : n_ps (a.nr, a.r, a.nk + 1, fu a.k a.nk (seed, 0, 0), a.nc, a.c, a.lk) + 23000 = n_ps a := by
      show (6 - a.nr) * 40000 + (2 - (a.nk + 1)) * 23000 + s6 (fun i => if i < a.nc then 420 * (3 - (a.c i).hp) + 2408 * (4 - (a.c i).st.length) else 12000) + 23000 = (6 - a.nr) * 40000 + (2 - a.nk) * 23000 + s6 (fun i => if i < a.nc then 420 * (3 - (a.c i).hp) + 2408 * (4 - (a.c i).st.length) else 12000)
      omega
    have hb1 : 60 ≤ bc ∧ 23000 ≤ bs := by
      have := hb.1
      have := hb.2
      dsimp only at *
      omega
    have hpn : n_pr a.nr a.nk (8 + a.nk) = false := by
      unfold n_pr
      rw [decide_eq_false (by omega), ← Bool.decide_and, decide_eq_false (by omega)]
      rfl
    have i2 : a.nk < 2 ∧ 2 < 2 ^ 31 := ⟨k2, by decide⟩
    first | refine on_aload_n (pc' := 1) rfl rfl rfl rfl ?_ | refine on_aload_nQ (pc' := 1) rfl rfl rfl rfl ?_
    first | apply on_get (pc' := 4) rfl rfl fl_N_72 | apply on_getN (pc' := 4) rfl rfl fl_N_72
    · repeat (first | assumption | exact on_up_eq _ _ _ | refine (on_up_ne (by omega)).trans ?_)
    · rfl
    refine on_iconst (pc' := 5) (v := 2) rfl rfl li_2 ?_
    refine on_icmp_lt (pc' := 8) (tgt := 10) rfl rfl rfl (fun cq => ?_) (fun cq => ?_)
    rotate_left
    · exact absurd (nI_lt (a := a.nk) (b := 2) k2 (by decide)) cq
    · clear cq
      refine on_bipush (pc' := 12) (v := 8) rfl rfl lb_8 ?_
      first | refine on_aload_n (pc' := 13) rfl rfl rfl rfl ?_ | refine on_aload_nQ (pc' := 13) rfl rfl rfl rfl ?_
      first | apply on_get (pc' := 16) rfl rfl fl_N_72 | apply on_getN (pc' := 16) rfl rfl fl_N_72
      · repeat (first | assumption | exact on_up_eq _ _ _ | refine (on_up_ne (by omega)).trans ?_)
      · rfl
      refine on_iadd (pc' := 17) rfl rfl ?_
      rw [show (8 : Int32) + nI a.nk = nI (8 + a.nk) from nI_add 8 a.nk]
      refine on_istore_n (pc' := 18) rfl rfl rfl (by decide) ?_
      first | refine on_aload_n (pc' := 19) rfl rfl rfl rfl ?_ | refine on_aload_nQ (pc' := 19) rfl rfl rfl rfl ?_
      refine on_iload_n (pc' := 20) rfl rfl rfl rfl ?_
      refine on_callV (pc' := 23) (As := [.int (nI (8 + a.nk))]) (rest := []) (b := o) rfl rfl cw_N_client_68 (o1) rfl rfl (Nat.le_of_ble_eq_true rfl) (by omega) (by omega) (c_linkUp (A0 := L.A) (lk := a.lk) nr6 nk2 (by omega) hpn v6 u1 b1 b2 b3 ⟨b5, K, u6, fun j hj ej => (u7 j hj ej).1⟩) ?_
      rintro v h1 s ⟨rfl, A, W, hs, e1, a1, a2⟩
      rw [lu_10 nr6 nk2 hpn (n_pr_c nr6)] at W a2
      have o2 : h1 o = some (.inr (11, [.ref (o + 1), .ref (o + 2), .ref (o + 3), .ref (o + 4), .ref (o + 5), .ref (o + 34), .ref (o + 42), .ref (o + 43), .int (nI a.nr), .int (nI a.nk), .int (nI a.nc)])) := (e1 o (by omega) (by omega)).trans o1
      have r2 := (e1 (o + 2) (by omega) (by omega)).trans b3
      first | refine on_aload_n (pc' := 24) rfl rfl rfl rfl ?_ | refine on_aload_nQ (pc' := 24) rfl rfl rfl rfl ?_
      first | apply on_get (pc' := 27) rfl rfl fl_N_17 | apply on_getN (pc' := 27) rfl rfl fl_N_17
      · repeat (first | assumption | exact on_up_eq _ _ _ | refine (on_up_ne (by omega)).trans ?_)
      · rfl
      first | refine on_aload_n (pc' := 28) rfl rfl rfl rfl ?_ | refine on_aload_nQ (pc' := 28) rfl rfl rfl rfl ?_
      first | apply on_get (pc' := 31) rfl rfl fl_N_72 | apply on_getN (pc' := 31) rfl rfl fl_N_72
      · repeat (first | assumption | exact on_up_eq _ _ _ | refine (on_up_ne (by omega)).trans ?_)
      · rfl
      refine on_new (pc' := 34) (fs := [.int 0, .null, .int 0, .int 0]) rfl rfl nw_N_15 (by intro j hj; match j, hj with | 0, _ => rfl | 1, _ => rfl | 2, _ => rfl | 3, _ => rfl | j + 4, hj => exact absurd hj (by omega)) (by omega) (by omega) ?_
      refine on_dup (pc' := 35) rfl rfl rfl ?_
      refine on_iload_n (pc' := 36) rfl rfl rfl rfl ?_
      refine on_lload_n (pc' := 37) rfl rfl rfl rfl ?_
      refine on_iconst (pc' := 38) (v := 1) rfl rfl li_1 ?_
      first | refine on_callI (pc' := 41) (As := [.int (nI (8 + a.nk)), .long seed, .int (nI 1)]) (rest := [.ref s, .int (nI a.nk), .ref (o + 2)]) (b := s) rfl rfl cw_N_client_58 rfl rfl (Nat.le_of_ble_eq_true rfl) (by omega) (by omega) (c_Node_init (on_up_eq _ _ _) rfl) ?_ | refine on_callIN (pc' := 41) (As := [.int (nI (8 + a.nk)), .long seed, .int (nI 1)]) (rest := [.ref s, .int (nI a.nk), .ref (o + 2)]) (b := s) rfl rfl cw_N_client_58 rfl rfl (Nat.le_of_ble_eq_true rfl) (by omega) (by omega) (c_Node_init (on_up_eq _ _ _) rfl) ?_
      rintro v h2 z ⟨rfl, rfl, N2, t2⟩
      have T2 : ∀ b, b < s → h2 b = h1 b := fun b hb => (t2 b (by omega)).trans (on_up_ne (by omega))
      have n0 := N2.1
      have r3 := (T2 (o + 2) (by omega)).trans r2
      have o3 := (T2 o (by omega)).trans o2
      show on_E G M_N_client 41 _ [.ref s, .int (nI a.nk), .ref (o + 2)] h2 (s + 2) _ _ _
      apply on_aastoreK (pc' := 42) rfl rfl
      · repeat (first | assumption | exact on_up_eq _ _ _ | refine (on_up_ne (by omega)).trans ?_)
      rotate_left 2
      · repeat (first | assumption | exact on_up_eq _ _ _ | refine (on_up_ne (by omega)).trans ?_)
      rotate_right 2
      · rfl
      · rfl
      · first | assumption | exact on_lit _ | rfl
      · first | assumption | omega | decide
      first | refine on_aload_n (pc' := 43) rfl rfl rfl rfl ?_ | refine on_aload_nQ (pc' := 43) rfl rfl rfl rfl ?_
      refine on_dup (pc' := 44) rfl rfl rfl ?_
      first | apply on_get (pc' := 47) rfl rfl fl_N_72 | apply on_getN (pc' := 47) rfl rfl fl_N_72
      · repeat (first | assumption | exact on_up_eq _ _ _ | refine (on_up_ne (by omega)).trans ?_)
      · rfl
      refine on_iconst (pc' := 48) (v := 1) rfl rfl li_1 ?_
      refine on_iadd (pc' := 49) rfl rfl ?_
      rw [nI_1]
      first | apply on_put (pc' := 52) rfl rfl fp_N_72 | apply on_putN (pc' := 52) rfl rfl fp_N_72
      · repeat (first | assumption | exact on_up_eq _ _ _ | refine (on_up_ne (by omega)).trans ?_)
      · first | rfl | assumption
      · first | rfl | assumption
      · exact Nat.le_of_ble_eq_true rfl
      refine on_iload_n (pc' := 53) rfl rfl rfl rfl ?_
      refine on_ireturn rfl rfl ?_
      refine ⟨rfl, (L.ra, fu L.ka a.nk s, L.ca, L.la, L.sa, A, fun b => if b < sz then L.ow b else if b < s then 1 else 11 + 3 * a.nk), ?_, by omega, fun b hb => if_pos hb, fun b b1 b2 => ?_⟩
      · show n_X o (s + 2) _ (a.nr, a.r, a.nk + 1, fu a.k a.nk (seed, 0, 0), a.nc, a.c, a.lk) [] (on_up (on_up h2 (o + 2) (on_aq 8 2 (va_up (rf a.nk L.ka) a.nk (some s)))) o (.inr (11, [.ref (o + 1), .ref (o + 2), .ref (o + 3), .ref (o + 4), .ref (o + 5), .ref (o + 34), .ref (o + 42), .ref (o + 43), .int (nI a.nr), .int (nI (a.nk + 1)), .int (nI a.nc)])))
        have g0 : on_up (on_up h2 (o + 2) (on_aq 8 2 (va_up (rf a.nk L.ka) a.nk (some s)))) o (.inr (11, [.ref (o + 1), .ref (o + 2), .ref (o + 3), .ref (o + 4), .ref (o + 5), .ref (o + 34), .ref (o + 42), .ref (o + 43), .int (nI a.nr), .int (nI (a.nk + 1)), .int (nI a.nc)])) o = some (.inr (11, [.ref (o + 1), .ref (o + 2), .ref (o + 3), .ref (o + 4), .ref (o + 5), .ref (o + 34), .ref (o + 42), .ref (o + 43), .int (nI a.nr), .int (nI (a.nk + 1)), .int (nI a.nc)])) := on_up_eq _ _ _
        have g2 : on_up (on_up h2 (o + 2) (on_aq 8 2 (va_up (rf a.nk L.ka) a.nk (some s)))) o (.inr (11, [.ref (o + 1), .ref (o + 2), .ref (o + 3), .ref (o + 4), .ref (o + 5), .ref (o + 34), .ref (o + 42), .ref (o + 43), .int (nI a.nr), .int (nI (a.nk + 1)), .int (nI a.nc)])) (o + 2) = some (on_aq 8 2 (rf (a.nk + 1) (fu L.ka a.nk s))) := by
          rw [on_up_ne (by omega), on_up_eq, rf_up]
        have gg : ∀ b, b ≠ o → b ≠ o + 2 → on_up (on_up h2 (o + 2) (on_aq 8 2 (va_up (rf a.nk L.ka) a.nk (some s)))) o (.inr (11, [.ref (o + 1), .ref (o + 2), .ref (o + 3), .ref (o + 4), .ref (o + 5), .ref (o + 34), .ref (o + 42), .ref (o + 43), .int (nI a.nr), .int (nI (a.nk + 1)), .int (nI a.nc)])) b = h2 b := fun b c1 c2 => (on_up_ne c1).trans (on_up_ne c2)
        generalize on_up (on_up h2 (o + 2) (on_aq 8 2 (va_up (rf a.nk L.ka) a.nk (some s)))) o (.inr (11, [.ref (o + 1), .ref (o + 2), .ref (o + 3), .ref (o + 4), .ref (o + 5), .ref (o + 34), .ref (o + 42), .ref (o + 43), .int (nI a.nr), .int (nI (a.nk + 1)), .int (nI a.nc)])) = g at *
        have GG : ∀ b, b < sz → b ≠ o → b ≠ o + 2 → b ≠ o + 4 → g b = h b := fun b c0 c1 c2 c3 => (gg b c1 c2).trans ((T2 b (by omega)).trans (e1 b c0 c3))
        have LT := lks_T (sz := sz) (ow := L.ow) (f := fun b => if b < sz then L.ow b else if b < s then 1 else 11 + 3 * a.nk) W a1 a2 u7 (fun b hb => if_pos hb) (fun b c1 c2 => (if_neg (by omega)).trans (if_pos c2))
        refine ⟨⟨g0, (GG _ (by omega) (by omega) (by omega) (by omega)).trans b2, g2, (GG _ (by omega) (by omega) (by omega) (by omega)).trans b4, (gg _ (by omega) (by omega)).trans ((T2 _ (by omega)).trans W.1), b6.keep (fun b _ _ => GG b (by omega) (by omega) (by omega) (by omega)), b7.keep (fun b _ _ => GG b (by omega) (by omega) (by omega) (by omega)), b8.keep (GG _ (by omega) (by omega) (by omega) (by omega)), b9.keep (GG _ (by omega) (by omega) (by omega) (by omega))⟩, ⟨by omega, u2.nw u1, fun i hi => ?_, fun i hi => ?_, fun i hi => ?_, W.2.2.1, fun j hj ej => ⟨(show A j + 2 ≤ s + 2 by have := (LT j hj ej).1; omega), (LT j hj ej).2⟩⟩, ⟨fun i hi => ?_, fun i hi => ?_, fun i hi => ?_⟩, ?_⟩
        · obtain ⟨c1, c2, c3⟩ := u3 i hi
          exact ⟨c1, (show L.ra i + 260 ≤ s + 2 by omega), c3.nw c2⟩
        · show o + 44 ≤ fu L.ka a.nk s i ∧ fu L.ka a.nk s i + 2 ≤ s + 2 ∧ n_T _ (fu L.ka a.nk s i) (fu L.ka a.nk s i + 2) (11 + 3 * i)
          by_cases z : i = a.nk
          · rw [z, fu_s]
            exact ⟨by omega, by omega, fun b c1 c2 => (if_neg (by omega)).trans (if_neg (by omega))⟩
          · have hi : i < a.nk + 1 := hi
            obtain ⟨c1, c2, c3⟩ := u4 i (by omega)
            rw [fu_n z]
            exact ⟨c1, by omega, c3.nw c2⟩
        · obtain ⟨c1, c2, c3, c4, c5, c6, c7⟩ := u5 i hi
          refine ⟨c1, (show L.ca i + 7 ≤ s + 2 by omega), c3.nw c2, fun j hj => ⟨(show L.la i j + 16 ≤ s + 2 by have := (c4 j hj).1; omega), (c4 j hj).2.nw (c4 j hj).1⟩, fun j hj => ⟨(show L.sa i j + 3 ≤ s + 2 by have := (c5 j hj).1; omega), (c5 j hj).2.nw (c5 j hj).1⟩, ?_, c7⟩
          show fu L.ka a.nk s (a.c i).cl + 2 ≤ L.ca i
          rw [fu_n (by have := V.cl hi; omega)]
          exact c6
        · exact nw_T.rl X.2.1 hi (P.1 i hi) (fun b c1 c2 => by
            have := X.2.1.two (b := b) (by omega)
            exact GG b c1 (by omega) (by omega) (by omega))
        · show nd_S (fu L.ka a.nk s i) (nI (8 + i)) (fu a.k a.nk (seed, 0, 0) i).se (fu a.k a.nk (seed, 0, 0) i).dr (nI ((fu a.k a.nk (seed, 0, 0) i).nu + 1)) g
          by_cases z : i = a.nk
          · rw [z, fu_s, fu_s]
            exact nd_S.keep N2 (gg _ (by omega) (by omega)) (gg _ (by omega) (by omega))
          · have hi : i < a.nk + 1 := hi
            rw [fu_n z, fu_n z]
            exact nw_T.nd X.2.1 (by omega) (P.2.1 i (by omega)) (fun b c1 c2 => by
              have := X.2.1.two (b := b) (by omega)
              exact GG b c1 (by omega) (by omega) (by omega))
        · show cr_S (L.ca i) (fu L.ka a.nk s (a.c i).cl) (o + 5) L.ra (L.la i) (L.sa i) a.r (a.c i) g
          rw [fu_n (by have := V.cl hi; omega)]
          exact nw_T.cr X.2.1 hi (P.2.2 i hi) (fun b c1 c2 => by
            have := X.2.1.two (b := b) (by omega)
            exact GG b c1 (by omega) (by omega) (by omega))
        · exact W.2.1.kp (lo := 0) (fun b kb => by
            obtain ⟨j, hj, ej, kb⟩ := kb
            have d := (W.2.2.1 j hj ej).1
            have d2 := W.2.2.2 j hj ej
            exact (gg b (by omega) (by omega)).trans (T2 b (by omega)))
      · have := X.2.1.two (b := b) (by omega)
        rw [on_up_ne (by omega), on_up_ne (by omega), T2 b (by omega)]
        exact e1 b b1 (by omega)
  · have eq : q_client a seed = (-1, a) := if_neg k2
    rw [eq]
    first | refine on_aload_n (pc' := 1) rfl rfl rfl rfl ?_ | refine on_aload_nQ (pc' := 1) rfl rfl rfl rfl ?_
    first | apply on_get (pc' := 4) rfl rfl fl_N_72 | apply on_getN (pc' := 4) rfl rfl fl_N_72
    · repeat (first | assumption | exact on_up_eq _ _ _ | refine (on_up_ne (by omega)).trans ?_)
    · rfl
    refine on_iconst (pc' := 5) (v := 2) rfl rfl li_2 ?_
    refine on_icmp_lt (pc' := 8) (tgt := 10) rfl rfl rfl (fun cq => ?_) (fun cq => ?_)
    · exact absurd ((nI_ltI (a := a.nk) (b := 2) (by omega) (by decide)).mp cq) k2
    · refine on_iconst (pc' := 9) (v := (-1)) rfl rfl li_m1 ?_
      refine on_ireturn rfl rfl ?_
      exact ⟨rfl, n_R.same X⟩
set_option maxHeartbeats 16000000 in
theorem c_N_relay (X : n_X o sz L a [] h) (V : n_V B a) (hb : n_pc a ≤ bc + n_pc (q_relay a seed).2 ∧ n_ps a ≤ bs + n_ps (q_relay a seed).2) : on_Ct G M_N_relay [.ref o, .long seed] h sz bc bs (fun v h1 z => v = some (.int (q_relay a seed).1) ∧ n_R o sz z L (q_relay a seed).2 h h1) := by
  have o1 : h o = some (.inr (11, [.ref (o + 1), .ref (o + 2), .ref (o + 3), .ref (o + 4), .ref (o + 5), .ref (o + 34), .ref (o + 42), .ref (o + 43), .int (nI a.nr), .int (nI a.nk), .int (nI a.nc)])) := X.1.1
  obtain ⟨⟨nr6, nk2, nc6⟩, v2, v3, v4, v5, v6, v7⟩ := id V
  obtain ⟨⟨b1, b2, b3, b4, b5, b6, b7, b8, b9⟩, ⟨u1, u2, u3, u4, u5, u6, u7⟩, P, K⟩ := id X
  refine on_Ct.of (by decide) v_N_relay (Nat.le_of_ble_eq_true rfl) ?_
  by_cases k6 : a.nr < 6
  · have eq : q_relay a seed = (nI a.nr, (a.nr + 1, fu a.r a.nr (seed, 0, 10, 1000, (fun _ => none), []), a.nk, a.k, a.nc, a.c, a.lk)) := if_pos k6
    rw [eq] at hb ⊢
    have pc1 : n_pc (a.nr + 1, fu a.r a.nr (seed, 0, 10, 1000, (fun _ => none), []), a.nk, a.k, a.nc, a.c, a.lk) + 400 = n_pc a := by
      show (6 - (a.nr + 1)) * 400 + (2 - a.nk) * 60 + s6 (fun i => if i < a.nc then 16 * (3 - (a.c i).hp) + 3 * (4 - (a.c i).st.length) else 80) + 400 = (6 - a.nr) * 400 + (2 - a.nk) * 60 + s6 (fun i => if i < a.nc then 16 * (3 - (a.c i).hp) + 3 * (4 - (a.c i).st.length) else 80)
      omega
    have pc2 : n_ps (a.nr + 1, fu a.r a.nr (seed, 0, 10, 1000, (fun _ => none), []), a.nk, a.k, a.nc, a.c, a.lk) + 40000 = n_ps a := by
      show (6 - (a.nr + 1)) * 40000 + (2 - a.nk) * 23000 + s6 (fun i => if i < a.nc then 420 * (3 - (a.c i).hp) + 2408 * (4 - (a.c i).st.length) else 12000) + 40000 = (6 - a.nr) * 40000 + (2 - a.nk) * 23000 + s6 (fun i => if i < a.nc then 420 * (3 - (a.c i).hp) + 2408 * (4 - (a.c i).st.length) else 12000)
      omega
    have hb1 : 400 ≤ bc ∧ 40000 ≤ bs := by
      have := hb.1
      have := hb.2
      dsimp only at *
      omega
    have hpn : n_pr a.nr a.nk a.nr = false := by
      unfold n_pr
      rw [decide_eq_false (Nat.lt_irrefl _), ← Bool.decide_and, decide_eq_false (by omega)]
      rfl
    have i6 : a.nr < 6 ∧ 6 < 2 ^ 31 := ⟨k6, by decide⟩
    first | refine on_aload_n (pc' := 1) rfl rfl rfl rfl ?_ | refine on_aload_nQ (pc' := 1) rfl rfl rfl rfl ?_
    first | apply on_get (pc' := 4) rfl rfl fl_N_54 | apply on_getN (pc' := 4) rfl rfl fl_N_54
    · repeat (first | assumption | exact on_up_eq _ _ _ | refine (on_up_ne (by omega)).trans ?_)
    · rfl
    refine on_bipush (pc' := 6) (v := 6) rfl rfl lb_6 ?_
    refine on_icmp_lt (pc' := 9) (tgt := 11) rfl rfl rfl (fun cq => ?_) (fun cq => ?_)
    rotate_left
    · exact absurd (nI_lt (a := a.nr) (b := 6) k6 (by decide)) cq
    · clear cq
      first | refine on_aload_n (pc' := 12) rfl rfl rfl rfl ?_ | refine on_aload_nQ (pc' := 12) rfl rfl rfl rfl ?_
      first | apply on_get (pc' := 15) rfl rfl fl_N_54 | apply on_getN (pc' := 15) rfl rfl fl_N_54
      · repeat (first | assumption | exact on_up_eq _ _ _ | refine (on_up_ne (by omega)).trans ?_)
      · rfl
      refine on_istore_n (pc' := 16) rfl rfl rfl (by decide) ?_
      refine on_new (pc' := 19) (fs := [.null, .null, .null, .null, .null, .null, .null, .null, .int 0, .int 0]) rfl rfl nw_N_9 (by intro j hj; match j, hj with | 0, _ => rfl | 1, _ => rfl | 2, _ => rfl | 3, _ => rfl | 4, _ => rfl | 5, _ => rfl | 6, _ => rfl | 7, _ => rfl | 8, _ => rfl | 9, _ => rfl | j + 10, hj => exact absurd hj (by omega)) (by omega) (by omega) ?_
      refine on_dup (pc' := 20) rfl rfl rfl ?_
      refine on_new (pc' := 23) (fs := [.int 0, .null, .int 0, .int 0]) rfl rfl nw_N_15 (by intro j hj; match j, hj with | 0, _ => rfl | 1, _ => rfl | 2, _ => rfl | 3, _ => rfl | j + 4, hj => exact absurd hj (by omega)) (by omega) (by omega) ?_
      refine on_dup (pc' := 24) rfl rfl rfl ?_
      refine on_iload_n (pc' := 25) rfl rfl rfl rfl ?_
      refine on_lload_n (pc' := 26) rfl rfl rfl rfl ?_
      refine on_sipush (pc' := 29) (v := 1000) rfl rfl ls_1000 ?_
      first | refine on_callI (pc' := 32) (As := [.int (nI a.nr), .long seed, .int (nI 1000)]) (rest := [.ref (sz + 1), .ref sz, .ref sz]) (b := sz + 1) rfl rfl cw_N_relay_58 rfl rfl (Nat.le_of_ble_eq_true rfl) (by omega) (by omega) (c_Node_init (on_up_eq _ _ _) rfl) ?_ | refine on_callIN (pc' := 32) (As := [.int (nI a.nr), .long seed, .int (nI 1000)]) (rest := [.ref (sz + 1), .ref sz, .ref sz]) (b := sz + 1) rfl rfl cw_N_relay_58 rfl rfl (Nat.le_of_ble_eq_true rfl) (by omega) (by omega) (c_Node_init (on_up_eq _ _ _) rfl) ?_
      rintro v h2 z ⟨rfl, rfl, N2, t2⟩
      have T2 : ∀ b, b < sz → h2 b = h b := fun b hb => (t2 b (by omega)).trans ((on_up_ne (by omega)).trans (on_up_ne (by omega)))
      have a0 : h2 sz = some (.inr (8, [.null, .null, .null, .null, .null, .null, .null, .null, .int 0, .int 0])) := (t2 sz (by omega)).trans ((on_up_ne (by omega)).trans (on_up_eq _ _ _))
      have o2 : h2 o = some (.inr (11, [.ref (o + 1), .ref (o + 2), .ref (o + 3), .ref (o + 4), .ref (o + 5), .ref (o + 34), .ref (o + 42), .ref (o + 43), .int (nI a.nr), .int (nI a.nk), .int (nI a.nc)])) := (T2 o (by omega)).trans o1
      have hk := (T2 (o + 5) (by omega)).trans b6.ob
      show on_E G M_N_relay 32 _ [.ref (sz + 1), .ref sz, .ref sz] h2 (sz + 1 + 2) _ _ _
      first | refine on_aload_n (pc' := 33) rfl rfl rfl rfl ?_ | refine on_aload_nQ (pc' := 33) rfl rfl rfl rfl ?_
      first | apply on_get (pc' := 36) rfl rfl fl_N_11 | apply on_getN (pc' := 36) rfl rfl fl_N_11
      · repeat (first | assumption | exact on_up_eq _ _ _ | refine (on_up_ne (by omega)).trans ?_)
      · rfl
      first | refine on_aload_n (pc' := 37) rfl rfl rfl rfl ?_ | refine on_aload_nQ (pc' := 37) rfl rfl rfl rfl ?_
      first | apply on_get (pc' := 40) rfl rfl fl_N_36 | apply on_getN (pc' := 40) rfl rfl fl_N_36
      · repeat (first | assumption | exact on_up_eq _ _ _ | refine (on_up_ne (by omega)).trans ?_)
      · rfl
      first | refine on_callI (pc' := 43) (As := [.ref (sz + 1), .ref (o + 1), .ref (o + 5)]) (rest := [.ref sz]) (b := sz) rfl rfl cw_N_relay_61 rfl rfl (Nat.le_of_ble_eq_true rfl) (by omega) (by omega) (c_Relay_init a0 hk (by omega) rfl) ?_ | refine on_callIN (pc' := 43) (As := [.ref (sz + 1), .ref (o + 1), .ref (o + 5)]) (rest := [.ref sz]) (b := sz) rfl rfl cw_N_relay_61 rfl rfl (Nat.le_of_ble_eq_true rfl) (by omega) (by omega) (c_Relay_init a0 hk (by omega) rfl) ?_
      rintro v h3 z ⟨rfl, rfl, R1, R2, R3, R4, R5, R6, R7, t3⟩
      have T3 : ∀ b, b < sz → h3 b = h b := fun b hb => (t3 b (by omega)).trans (T2 b hb)
      have o3 : h3 o = some (.inr (11, [.ref (o + 1), .ref (o + 2), .ref (o + 3), .ref (o + 4), .ref (o + 5), .ref (o + 34), .ref (o + 42), .ref (o + 43), .int (nI a.nr), .int (nI a.nk), .int (nI a.nc)])) := (T3 o (by omega)).trans o1
      have H3 : hk_W (o + 5) h3 := b6.keep (fun b _ _ => T3 b (by omega))
      have hk3 := H3.ob
      have N3 : nd_S (sz + 1) (nI a.nr) seed 0 (nI 1000) h3 := N2.keep (t3 _ (by omega)) (t3 _ (by omega))
      show on_E G M_N_relay 43 _ [.ref sz] h3 (sz + 260) _ _ _
      first | refine on_astore (pc' := 45) rfl rfl (by decide) ?_ | refine on_astoreQ (pc' := 45) rfl rfl (by decide) ?_
      first | refine on_aload_n (pc' := 46) rfl rfl rfl rfl ?_ | refine on_aload_nQ (pc' := 46) rfl rfl rfl rfl ?_
      first | apply on_get (pc' := 49) rfl rfl fl_N_36 | apply on_getN (pc' := 49) rfl rfl fl_N_36
      · repeat (first | assumption | exact on_up_eq _ _ _ | refine (on_up_ne (by omega)).trans ?_)
      · rfl
      first | refine on_aload (pc' := 51) rfl rfl rfl ?_ | refine on_aloadQ (pc' := 51) rfl rfl rfl ?_
      refine on_callV (pc' := 54) (As := [.ref sz]) (rest := []) (b := o + 5) rfl rfl cw_N_relay_64 (hk3) rfl rfl (Nat.le_of_ble_eq_true rfl) (Nat.zero_le _) (Nat.zero_le _) (c_identify H3 R1 N3 R2 R4 (by omega)) ?_
      rintro v h4 z ⟨rfl, rfl, H4, I1, I2, t4⟩
      have T4 : ∀ b, b < sz → (b < o + 5 ∨ o + 34 ≤ b) → h4 b = h b := fun b c1 c2 => (t4 b (by omega) (by omega) (by omega)).trans (T3 b c1)
      have o4 : h4 o = some (.inr (11, [.ref (o + 1), .ref (o + 2), .ref (o + 3), .ref (o + 4), .ref (o + 5), .ref (o + 34), .ref (o + 42), .ref (o + 43), .int (nI a.nr), .int (nI a.nk), .int (nI a.nc)])) := (T4 o (by omega) (by omega)).trans o1
      first | refine on_aload_n (pc' := 55) rfl rfl rfl rfl ?_ | refine on_aload_nQ (pc' := 55) rfl rfl rfl rfl ?_
      refine on_iload_n (pc' := 56) rfl rfl rfl rfl ?_
      refine on_callV (pc' := 59) (As := [.int (nI a.nr)]) (rest := []) (b := o) rfl rfl cw_N_relay_68 (o4) rfl rfl (Nat.le_of_ble_eq_true rfl) (by omega) (by omega) (c_linkUp (A0 := L.A) (lk := a.lk) nr6 nk2 (by omega) hpn v6 (by omega) o4 ((T4 _ (by omega) (by omega)).trans b2) ((T4 _ (by omega) (by omega)).trans b3) ⟨(T4 _ (by omega) (by omega)).trans b5, K.kp (lo := 0) (fun b kb => T4 b (X.2.1.lk kb).1 (by have := (X.2.1.lk kb).2.1; omega)), u6, fun j hj ej => by have := (u7 j hj ej).1; omega⟩) ?_
      rintro v h5 s ⟨rfl, A, W, hs, e5, a1, a2⟩
      rw [lu_10 nr6 nk2 hpn (n_pr_R k6)] at W a2
      have E5 : ∀ b, b < sz → (b < o + 5 ∨ o + 34 ≤ b) → b ≠ o + 4 → h5 b = h b := fun b c1 c2 c3 => (e5 b (by omega) c3).trans (T4 b c1 c2)
      have o5 : h5 o = some (.inr (11, [.ref (o + 1), .ref (o + 2), .ref (o + 3), .ref (o + 4), .ref (o + 5), .ref (o + 34), .ref (o + 42), .ref (o + 43), .int (nI a.nr), .int (nI a.nk), .int (nI a.nc)])) := (E5 o (by omega) (by omega) (by omega)).trans o1
      have r2 := (E5 (o + 1) (by omega) (by omega) (by omega)).trans b2
      have r0 := (e5 sz (by omega) (by omega)).trans ((t4 sz (by omega) (by omega) (by omega)).trans R1)
      first | refine on_aload_n (pc' := 60) rfl rfl rfl rfl ?_ | refine on_aload_nQ (pc' := 60) rfl rfl rfl rfl ?_
      first | apply on_get (pc' := 63) rfl rfl fl_N_11 | apply on_getN (pc' := 63) rfl rfl fl_N_11
      · repeat (first | assumption | exact on_up_eq _ _ _ | refine (on_up_ne (by omega)).trans ?_)
      · rfl
      refine on_iload_n (pc' := 64) rfl rfl rfl rfl ?_
      first | refine on_aload (pc' := 66) rfl rfl rfl ?_ | refine on_aloadQ (pc' := 66) rfl rfl rfl ?_
      apply on_aastoreK (pc' := 67) rfl rfl
      · repeat (first | assumption | exact on_up_eq _ _ _ | refine (on_up_ne (by omega)).trans ?_)
      rotate_left 2
      · repeat (first | assumption | exact on_up_eq _ _ _ | refine (on_up_ne (by omega)).trans ?_)
      rotate_right 2
      · rfl
      · rfl
      · first | assumption | exact on_lit _ | rfl
      · first | assumption | omega | decide
      first | refine on_aload_n (pc' := 68) rfl rfl rfl rfl ?_ | refine on_aload_nQ (pc' := 68) rfl rfl rfl rfl ?_
      refine on_dup (pc' := 69) rfl rfl rfl ?_
      first | apply on_get (pc' := 72) rfl rfl fl_N_54 | apply on_getN (pc' := 72) rfl rfl fl_N_54
      · repeat (first | assumption | exact on_up_eq _ _ _ | refine (on_up_ne (by omega)).trans ?_)
      · rfl
      refine on_iconst (pc' := 73) (v := 1) rfl rfl li_1 ?_
      refine on_iadd (pc' := 74) rfl rfl ?_
      rw [nI_1]
      first | apply on_put (pc' := 77) rfl rfl fp_N_54 | apply on_putN (pc' := 77) rfl rfl fp_N_54
      · repeat (first | assumption | exact on_up_eq _ _ _ | refine (on_up_ne (by omega)).trans ?_)
      · first | rfl | assumption
      · first | rfl | assumption
      · exact Nat.le_of_ble_eq_true rfl
      refine on_iload_n (pc' := 78) rfl rfl rfl rfl ?_
      refine on_ireturn rfl rfl ?_
      refine ⟨rfl, (fu L.ra a.nr sz, L.ka, L.ca, L.la, L.sa, A, fun b => if b < sz then L.ow b else if b < sz + 260 then 10 + 3 * a.nr else 1), ?_, by omega, fun b hb => if_pos hb, fun b b1 b2 => ?_⟩
      · show n_X o s _ (a.nr + 1, fu a.r a.nr (seed, 0, 10, 1000, (fun _ => none), []), a.nk, a.k, a.nc, a.c, a.lk) [] (on_up (on_up h5 (o + 1) (on_aq 4 6 (va_up (rf a.nr L.ra) a.nr (some sz)))) o (.inr (11, [.ref (o + 1), .ref (o + 2), .ref (o + 3), .ref (o + 4), .ref (o + 5), .ref (o + 34), .ref (o + 42), .ref (o + 43), .int (nI (a.nr + 1)), .int (nI a.nk), .int (nI a.nc)])))
        have g0 : on_up (on_up h5 (o + 1) (on_aq 4 6 (va_up (rf a.nr L.ra) a.nr (some sz)))) o (.inr (11, [.ref (o + 1), .ref (o + 2), .ref (o + 3), .ref (o + 4), .ref (o + 5), .ref (o + 34), .ref (o + 42), .ref (o + 43), .int (nI (a.nr + 1)), .int (nI a.nk), .int (nI a.nc)])) o = some (.inr (11, [.ref (o + 1), .ref (o + 2), .ref (o + 3), .ref (o + 4), .ref (o + 5), .ref (o + 34), .ref (o + 42), .ref (o + 43), .int (nI (a.nr + 1)), .int (nI a.nk), .int (nI a.nc)])) := on_up_eq _ _ _
        have g2 : on_up (on_up h5 (o + 1) (on_aq 4 6 (va_up (rf a.nr L.ra) a.nr (some sz)))) o (.inr (11, [.ref (o + 1), .ref (o + 2), .ref (o + 3), .ref (o + 4), .ref (o + 5), .ref (o + 34), .ref (o + 42), .ref (o + 43), .int (nI (a.nr + 1)), .int (nI a.nk), .int (nI a.nc)])) (o + 1) = some (on_aq 4 6 (rf (a.nr + 1) (fu L.ra a.nr sz))) := by
          rw [on_up_ne (by omega), on_up_eq, rf_up]
        have gg : ∀ b, b ≠ o → b ≠ o + 1 → on_up (on_up h5 (o + 1) (on_aq 4 6 (va_up (rf a.nr L.ra) a.nr (some sz)))) o (.inr (11, [.ref (o + 1), .ref (o + 2), .ref (o + 3), .ref (o + 4), .ref (o + 5), .ref (o + 34), .ref (o + 42), .ref (o + 43), .int (nI (a.nr + 1)), .int (nI a.nk), .int (nI a.nc)])) b = h5 b := fun b c1 c2 => (on_up_ne c1).trans (on_up_ne c2)
        generalize on_up (on_up h5 (o + 1) (on_aq 4 6 (va_up (rf a.nr L.ra) a.nr (some sz)))) o (.inr (11, [.ref (o + 1), .ref (o + 2), .ref (o + 3), .ref (o + 4), .ref (o + 5), .ref (o + 34), .ref (o + 42), .ref (o + 43), .int (nI (a.nr + 1)), .int (nI a.nk), .int (nI a.nc)])) = g at *
        have GG : ∀ b, b < sz → (b < o + 5 ∨ o + 34 ≤ b) → b ≠ o → b ≠ o + 1 → b ≠ o + 4 → g b = h b := fun b c0 c1 c2 c3 c4 => (gg b c2 c3).trans (E5 b c0 c1 c4)
        have GN : ∀ b, sz ≤ b → b < sz + 260 → g b = h4 b := fun b c1 c2 => (gg b (by omega) (by omega)).trans (e5 b c2 (by omega))
        have GO : ∀ b, b < sz → 1 ≤ L.ow b → g b = h b := fun b c1 c2 => by
          have := X.2.1.two (b := b) (by omega)
          exact GG b c1 (by omega) (by omega) (by omega) (by omega)
        refine ⟨⟨g0, g2, (GG _ (by omega) (by omega) (by omega) (by omega) (by omega)).trans b3, (GG _ (by omega) (by omega) (by omega) (by omega) (by omega)).trans b4, (gg _ (by omega) (by omega)).trans W.1, H4.keep (fun b _ _ => (gg b (by omega) (by omega)).trans (e5 b (by omega) (by omega))), b7.keep (fun b _ _ => GG b (by omega) (by omega) (by omega) (by omega) (by omega)), b8.keep (GG _ (by omega) (by omega) (by omega) (by omega) (by omega)), b9.keep (GG _ (by omega) (by omega) (by omega) (by omega) (by omega))⟩, ⟨by omega, u2.nw u1, fun i hi => ?_, fun i hi => ?_, fun i hi => ?_, W.2.2.1, fun j hj ej => ?_⟩, ⟨fun i hi => ?_, fun i hi => ?_, fun i hi => ?_⟩, ?_⟩
        · show o + 44 ≤ fu L.ra a.nr sz i ∧ fu L.ra a.nr sz i + 260 ≤ s ∧ n_T _ (fu L.ra a.nr sz i) (fu L.ra a.nr sz i + 260) (10 + 3 * i)
          by_cases z : i = a.nr
          · rw [z, fu_s]
            exact ⟨by omega, by omega, fun b c1 c2 => (if_neg (by omega)).trans (if_pos (by omega))⟩
          · have hi : i < a.nr + 1 := hi
            obtain ⟨c1, c2, c3⟩ := u3 i (by omega)
            rw [fu_n z]
            exact ⟨c1, by omega, c3.nw c2⟩
        · obtain ⟨c1, c2, c3⟩ := u4 i hi
          exact ⟨c1, (show L.ka i + 2 ≤ s by omega), c3.nw c2⟩
        · obtain ⟨c1, c2, c3, c4, c5, c6, c7⟩ := u5 i hi
          refine ⟨c1, (show L.ca i + 7 ≤ s by omega), c3.nw c2, fun j hj => ⟨(show L.la i j + 16 ≤ s by have := (c4 j hj).1; omega), (c4 j hj).2.nw (c4 j hj).1⟩, fun j hj => ⟨(show L.sa i j + 3 ≤ s by have := (c5 j hj).1; omega), (c5 j hj).2.nw (c5 j hj).1⟩, c6, fun j hj => ?_⟩
          show fu L.ra a.nr sz ((a.c i).pa.getD j 0) + 260 ≤ L.ca i
          rw [fu_n (by have := (v4 i hi).1.2.2.1 j hj; omega)]
          exact c7 j hj
        · have w := W.2.2.2 j hj ej
          refine ⟨w, ?_⟩
          by_cases z : n_ex a.nr a.nk j = true
          · show n_T _ (A j) (A j + 2) 1
            rw [a1 j z]
            exact (u7 j hj z).2.nw (u7 j hj z).1
          · have := a2 j ej z
            exact fun b c1 c2 => (if_neg (show ¬ b < sz by have c1 : A j ≤ b := c1; omega)).trans (if_neg (by have c1 : A j ≤ b := c1; omega))
        · show rl_S (fu L.ra a.nr sz i) (o + 1) (o + 5) i (fu a.r a.nr (seed, 0, 10, 1000, (fun _ => none), []) i) g
          by_cases z : i = a.nr
          · subst z
            rw [fu_s, fu_s]
            have q4 : ∀ b, sz ≤ b → b < sz + 260 → b ≠ sz + 3 → b ≠ sz + 5 → g b = h3 b := fun b c1 c2 c3 c4 => (GN b c1 c2).trans (t4 b c3 c4 (by omega))
            obtain ⟨F6, f6⟩ := R6
            exact ⟨(q4 _ (by omega) (by omega) (by omega) (by omega)).trans R1, N3.keep (q4 _ (by omega) (by omega) (by omega) (by omega)) (q4 _ (by omega) (by omega) (by omega) (by omega)), I1.keep (GN _ (by omega) (by omega)), R3.keep (q4 _ (by omega) (by omega) (by omega) (by omega)), I2.keep (GN _ (by omega) (by omega)), ⟨(q4 _ (by omega) (by omega) (by omega) (by omega)).trans R5, fun j hj => (R7 j hj).keep (fun b c1 c2 => q4 b (by omega) (by omega) (by omega) (by omega))⟩, ⟨F6, (q4 _ (by omega) (by omega) (by omega) (by omega)).trans f6, fun j hj => absurd hj (Nat.not_lt_zero j)⟩, Nat.zero_le _⟩
          · have hi : i < a.nr + 1 := hi
            rw [fu_n z, fu_n z]
            exact nw_T.rl X.2.1 (by omega) (P.1 i (by omega)) (fun b c1 c2 => GO b c1 (by omega))
        · exact nw_T.nd X.2.1 hi (P.2.1 i hi) (fun b c1 c2 => GO b c1 (by omega))
        · have ck := (v4 i hi).1
          exact (nw_T.cr X.2.1 hi (P.2.2 i hi) (fun b c1 c2 => GO b c1 (by omega))).ra2 (fun j hj => fu_n (by have := ck.2.2.1 j hj; omega)) (fun z => by
            show (fu a.r a.nr _ ((a.c i).pa.getD (a.c i).hp 0)).se = _
            rw [fu_n (by have := ck.2.2.1 (a.c i).hp (ck.2.2.2.2.2.1 z).1; omega)])
        · exact W.2.1.kp (lo := 0) (fun b kb => by
            obtain ⟨j, hj, ej, kb⟩ := kb
            have d := (W.2.2.1 j hj ej).1
            exact gg b (by omega) (by omega))
      · have := X.2.1.two (b := b) (by omega)
        rw [on_up_ne (by omega), on_up_ne (by omega)]
        exact E5 b b1 (by omega) (by omega)
  · have eq : q_relay a seed = (-1, a) := if_neg k6
    rw [eq]
    first | refine on_aload_n (pc' := 1) rfl rfl rfl rfl ?_ | refine on_aload_nQ (pc' := 1) rfl rfl rfl rfl ?_
    first | apply on_get (pc' := 4) rfl rfl fl_N_54 | apply on_getN (pc' := 4) rfl rfl fl_N_54
    · repeat (first | assumption | exact on_up_eq _ _ _ | refine (on_up_ne (by omega)).trans ?_)
    · rfl
    refine on_bipush (pc' := 6) (v := 6) rfl rfl lb_6 ?_
    refine on_icmp_lt (pc' := 9) (tgt := 11) rfl rfl rfl (fun cq => ?_) (fun cq => ?_)
    · exact absurd ((nI_ltI (a := a.nr) (b := 6) (by omega) (by decide)).mp cq) k6
    · refine on_iconst (pc' := 10) (v := (-1)) rfl rfl li_m1 ?_
      refine on_ireturn rfl rfl ?_
      exact ⟨rfl, n_R.same X⟩
end MAK
