/-! OnionNet: circuit -/
def q_pa (x y z : Int32) : List Nat := if y = -1 then [x.toNatClampNeg] else if z = -1 then [x.toNatClampNeg, y.toNatClampNeg] else [x.toNatClampNeg, y.toNatClampNeg, z.toNatClampNeg]
abbrev l00 : aL × aL := (([], (fun _ => 0), 0), ([], (fun _ => 0), 0))
/-- a new circuit of client k -/
def c_nw (a : aN) (k : Nat) (pa : List Nat) : aC := (k, (a.k k).nu + 1, pa, 0, 0, (fun _ => l00), an_d (a.k k).se (a.k k).dr, [])
def n_nw (a : aN) (k : Nat) (pa : List Nat) : aN := (a.nr, a.r, a.nk, fu a.k k ((a.k k).se, (a.k k).dr + 1, (a.k k).nu + 1), a.nc + 1, fu a.c a.nc (c_nw a k pa), a.lk)
def q_circuit (a : aN) (cl x y z : Int32) : Int32 × aN := match p_i a.nk (cl - 8) with
  | none => (-1, a)
  | some k => if a.nc < 6 ∧ i_pa a.nr x y z = true then (nI a.nc, n_lk (n_nw a k (q_pa x y z)) (n_sd (8 + k) a.lk [((q_pa x y z).getD 0 0, ce_k (nI ((a.k k).nu + 1)) 10 (of_b (a.r ((q_pa x y z).getD 0 0)).se (an_d (a.k k).se (a.k k).dr)) 68)])) else (-1, a)
section CIR
variable {G : on_G} {o sz B bc bs k : Nat} {L : nL} {a : aN} {h h1 : on_H} {cl x y z : Int32} {pa : List Nat} {Q : Option Value → on_H → Nat → Prop}
theorem n_pc_n {lk : Nat → List aB} (h6 : a.nc < 6) : n_pc (n_lk (n_nw a k pa) lk) + 20 = n_pc a ∧ n_ps (n_lk (n_nw a k pa) lk) + 1108 = n_ps a := by
  have e1 := s6_up (f := fun j => if j < a.nc then 16 * (3 - (a.c j).hp) + 3 * (4 - (a.c j).st.length) else 80) (g := fun j => if j < a.nc + 1 then 16 * (3 - (fu a.c a.nc (c_nw a k pa) j).hp) + 3 * (4 - (fu a.c a.nc (c_nw a k pa) j).st.length) else 80) (i := a.nc) (d := 20) h6 (fun j hj ne => by
    rw [fu_n ne]
    by_cases w : j < a.nc
    · rw [if_pos w, if_pos (by omega)]
    · rw [if_neg w, if_neg (by omega)]) (by rw [if_pos (Nat.lt_succ_self _), if_neg (Nat.lt_irrefl _), fu_s]; show 16 * (3 - 0) + 3 * (4 - 0) + 20 = 80; omega)
  have e2 := s6_up (f := fun j => if j < a.nc then 420 * (3 - (a.c j).hp) + 2408 * (4 - (a.c j).st.length) else 12000) (g := fun j => if j < a.nc + 1 then 420 * (3 - (fu a.c a.nc (c_nw a k pa) j).hp) + 2408 * (4 - (fu a.c a.nc (c_nw a k pa) j).st.length) else 12000) (i := a.nc) (d := 1108) h6 (fun j hj ne => by
    rw [fu_n ne]
    by_cases w : j < a.nc
    · rw [if_pos w, if_pos (by omega)]
    · rw [if_neg w, if_neg (by omega)]) (by rw [if_pos (Nat.lt_succ_self _), if_neg (Nat.lt_irrefl _), fu_s]; show 420 * (3 - 0) + 2408 * (4 - 0) + 1108 = 12000; omega)
  refine ⟨?_, ?_⟩
  · show (6 - a.nr) * 400 + (2 - a.nk) * 60 + s6 (fun j => if j < a.nc + 1 then 16 * (3 - (fu a.c a.nc (c_nw a k pa) j).hp) + 3 * (4 - (fu a.c a.nc (c_nw a k pa) j).st.length) else 80) + 20 = (6 - a.nr) * 400 + (2 - a.nk) * 60 + s6 (fun j => if j < a.nc then 16 * (3 - (a.c j).hp) + 3 * (4 - (a.c j).st.length) else 80)
    rw [Nat.add_assoc, e1]
  · show (6 - a.nr) * 40000 + (2 - a.nk) * 23000 + s6 (fun j => if j < a.nc + 1 then 420 * (3 - (fu a.c a.nc (c_nw a k pa) j).hp) + 2408 * (4 - (fu a.c a.nc (c_nw a k pa) j).st.length) else 12000) + 1108 = (6 - a.nr) * 40000 + (2 - a.nk) * 23000 + s6 (fun j => if j < a.nc then 420 * (3 - (a.c j).hp) + 2408 * (4 - (a.c j).st.length) else 12000)
    rw [Nat.add_assoc, e2]
set_option maxHeartbeats 16000000 in
/-- the circuit is made, begins, and its cell goes on its link -/
theorem cir_t {P : Nat → Option Nat} (X : n_X o sz L a [] h) (V : n_V B a) (hk : k < a.nk) (h6 : a.nc < 6) (hl : 1 ≤ pa.length ∧ pa.length ≤ 3) (hpa : ∀ j, j < pa.length → pa.getD j 0 < a.nr) (e1 : ∀ b, b < sz → h1 b = h b) (hP : h1 sz = some (on_aq 4 pa.length P)) (hP2 : ∀ i, i < pa.length → P i = some (L.ra (pa.getD i 0))) (hb : 6 ≤ bc ∧ 122 ≤ bs)
    (kk : ∀ h2 z, n_R o sz z L (n_lk (n_nw a k pa) (n_sd (8 + k) a.lk [(pa.getD 0 0, ce_k (nI ((a.k k).nu + 1)) 10 (of_b (a.r (pa.getD 0 0)).se (an_d (a.k k).se (a.k k).dr)) 68)])) h h2 → Q (some (.int (nI a.nc))) h2 z) :
    on_E G M_N_circuit 103 (on_l [(0, .ref o), (1, .int (nI (8 + k))), (5, .ref (L.ka k)), (7, .ref sz)]) [] h1 (sz + 1) bc bs Q := by
  obtain ⟨⟨nr6, nk2, nc6⟩, v2, v3, v4, v5, v6, v7⟩ := id V
  obtain ⟨⟨b1, b2, b3, b4, b5, b6, b7, b8, b9⟩, ⟨u1, u2, u3, u4, u5, u6, u7⟩, PP, K⟩ := id X
  have o1 : h1 o = some (.inr (11, [.ref (o + 1), .ref (o + 2), .ref (o + 3), .ref (o + 4), .ref (o + 5), .ref (o + 34), .ref (o + 42), .ref (o + 43), .int (nI a.nr), .int (nI a.nk), .int (nI a.nc)])) := (e1 o (by omega)).trans b1
  have N0 := PP.2.1 k hk
  have n0 : h1 (L.ka k) = some (.inr (4, [.int (nI (8 + k)), .ref (L.ka k + 1), .int (a.k k).dr, .int (nI ((a.k k).nu + 1))])) := (e1 _ (by have := (u4 k hk).2.1; omega)).trans N0.1
  obtain ⟨kc1, kc2, kc3⟩ := u4 k hk
  have p0 := hpa 0 (by omega)
  obtain ⟨rc1, rc2, rc3⟩ := u3 _ p0
  have i6 : a.nc < 6 ∧ 6 < 2 ^ 31 := ⟨h6, by decide⟩
  have hk5 := (e1 (o + 5) (by omega)).trans b6.ob
  first | refine on_aload_n (pc' := 104) rfl rfl rfl rfl ?_ | refine on_aload_nQ (pc' := 104) rfl rfl rfl rfl ?_
  first | apply on_get (pc' := 107) rfl rfl fl_N_98 | apply on_getN (pc' := 107) rfl rfl fl_N_98
  · repeat (first | assumption | exact on_up_eq _ _ _ | refine (on_up_ne (by omega)).trans ?_)
  · rfl
  refine on_istore (pc' := 109) rfl rfl (by decide) ?_
  refine on_new (pc' := 112) (fs := [.null, .int 0, .null, .null, .null, .null, .null, .null, .null, .int 0, .int 0, .int 0]) rfl rfl nw_N_21 (by intro j hj; match j, hj with | 0, _ => rfl | 1, _ => rfl | 2, _ => rfl | 3, _ => rfl | 4, _ => rfl | 5, _ => rfl | 6, _ => rfl | 7, _ => rfl | 8, _ => rfl | 9, _ => rfl | 10, _ => rfl | 11, _ => rfl | j + 12, hj => exact absurd hj (by omega)) (by omega) (by omega) ?_
  refine on_dup (pc' := 113) rfl rfl rfl ?_
  first | refine on_aload (pc' := 115) rfl rfl rfl ?_ | refine on_aloadQ (pc' := 115) rfl rfl rfl ?_
  first | refine on_aload (pc' := 117) rfl rfl rfl ?_ | refine on_aloadQ (pc' := 117) rfl rfl rfl ?_
  first | apply on_get (pc' := 120) rfl rfl fl_N_105 | apply on_getN (pc' := 120) rfl rfl fl_N_105
  · repeat (first | assumption | exact on_up_eq _ _ _ | refine (on_up_ne (by omega)).trans ?_)
  · rfl
  first | refine on_aload (pc' := 122) rfl rfl rfl ?_ | refine on_aloadQ (pc' := 122) rfl rfl rfl ?_
  first | refine on_aload_n (pc' := 123) rfl rfl rfl rfl ?_ | refine on_aload_nQ (pc' := 123) rfl rfl rfl rfl ?_
  first | apply on_get (pc' := 126) rfl rfl fl_N_36 | apply on_getN (pc' := 126) rfl rfl fl_N_36
  · repeat (first | assumption | exact on_up_eq _ _ _ | refine (on_up_ne (by omega)).trans ?_)
  · rfl
  first | refine on_callI (pc' := 129) (As := [.ref (L.ka k), .int (nI ((a.k k).nu + 1)), .ref sz, .ref (o + 5)]) (rest := [.ref (sz + 1)]) (b := sz + 1) rfl rfl cw_N_circuit_108 rfl rfl (Nat.le_of_ble_eq_true rfl) (by omega) (by omega) (c_Circuit_init (c := sz) hl.2 rfl (on_up_eq _ _ _) ((on_up_ne (by omega)).trans hP)) ?_ | refine on_callIN (pc' := 129) (As := [.ref (L.ka k), .int (nI ((a.k k).nu + 1)), .ref sz, .ref (o + 5)]) (rest := [.ref (sz + 1)]) (b := sz + 1) rfl rfl cw_N_circuit_108 rfl rfl (Nat.le_of_ble_eq_true rfl) (by omega) (by omega) (c_Circuit_init (c := sz) hl.2 rfl (on_up_eq _ _ _) ((on_up_ne (by omega)).trans hP)) ?_
  rintro v h2 z ⟨rfl, rfl, C2, c2, c3, c4, c5, c6, t2⟩
  have T2 : ∀ b, b < sz + 1 → h2 b = h1 b := fun b hb => (t2 b (by omega)).trans (on_up_ne (by omega))
  have n2 := (T2 (L.ka k) (by omega)).trans n0
  have o2 := (T2 o (by omega)).trans o1
  show on_E G M_N_circuit 129 _ [.ref (sz + 1)] h2 (sz + 7) _ _ _
  first | refine on_astore (pc' := 131) rfl rfl (by decide) ?_ | refine on_astoreQ (pc' := 131) rfl rfl (by decide) ?_
  first | refine on_aload (pc' := 133) rfl rfl rfl ?_ | refine on_aloadQ (pc' := 133) rfl rfl rfl ?_
  refine on_dup (pc' := 134) rfl rfl rfl ?_
  first | apply on_get (pc' := 137) rfl rfl fl_N_105 | apply on_getN (pc' := 137) rfl rfl fl_N_105
  · repeat (first | assumption | exact on_up_eq _ _ _ | refine (on_up_ne (by omega)).trans ?_)
  · rfl
  refine on_iconst (pc' := 138) (v := 1) rfl rfl li_1 ?_
  refine on_iadd (pc' := 139) rfl rfl ?_
  rw [nI_1]
  first | apply on_put (pc' := 142) rfl rfl fp_N_105 | apply on_putN (pc' := 142) rfl rfl fp_N_105
  · repeat (first | assumption | exact on_up_eq _ _ _ | refine (on_up_ne (by omega)).trans ?_)
  · first | rfl | assumption
  · first | rfl | assumption
  · exact Nat.le_of_ble_eq_true rfl
  have g1 : ∀ b, b ≠ L.ka k → on_up h2 (L.ka k) (.inr (4, [.int (nI (8 + k)), .ref (L.ka k + 1), .int (a.k k).dr, .int (nI ((a.k k).nu + 1 + 1))])) b = h2 b := fun b hb => on_up_ne hb
  have g2 : on_up h2 (L.ka k) (.inr (4, [.int (nI (8 + k)), .ref (L.ka k + 1), .int (a.k k).dr, .int (nI ((a.k k).nu + 1 + 1))])) (L.ka k) = some (.inr (4, [.int (nI (8 + k)), .ref (L.ka k + 1), .int (a.k k).dr, .int (nI ((a.k k).nu + 1 + 1))])) := on_up_eq _ _ _
  show on_E G M_N_circuit 142 _ [] (on_up h2 (L.ka k) (.inr (4, [.int (nI (8 + k)), .ref (L.ka k + 1), .int (a.k k).dr, .int (nI ((a.k k).nu + 1 + 1))]))) (sz + 7) _ _ _
  generalize on_up h2 (L.ka k) (.inr (4, [.int (nI (8 + k)), .ref (L.ka k + 1), .int (a.k k).dr, .int (nI ((a.k k).nu + 1 + 1))])) = h3 at g1 g2 ⊢
  have T3 : ∀ b, b < sz → b ≠ L.ka k → h3 b = h b := fun b c1 c2 => (g1 b c2).trans ((T2 b (by omega)).trans (e1 b c1))
  have o3 : h3 o = some (.inr (11, [.ref (o + 1), .ref (o + 2), .ref (o + 3), .ref (o + 4), .ref (o + 5), .ref (o + 34), .ref (o + 42), .ref (o + 43), .int (nI a.nr), .int (nI a.nk), .int (nI a.nc)])) := (T3 o (by omega) (by omega)).trans b1
  have r3 := (T3 (o + 3) (by omega) (by omega)).trans b4
  have c0 := (g1 (sz + 1) (by omega)).trans C2
  first | refine on_aload_n (pc' := 143) rfl rfl rfl rfl ?_ | refine on_aload_nQ (pc' := 143) rfl rfl rfl rfl ?_
  first | apply on_get (pc' := 146) rfl rfl fl_N_23 | apply on_getN (pc' := 146) rfl rfl fl_N_23
  · repeat (first | assumption | exact on_up_eq _ _ _ | refine (on_up_ne (by omega)).trans ?_)
  · rfl
  refine on_iload (pc' := 148) rfl rfl rfl ?_
  first | refine on_aload (pc' := 150) rfl rfl rfl ?_ | refine on_aloadQ (pc' := 150) rfl rfl rfl ?_
  apply on_aastoreK (pc' := 151) rfl rfl
  · repeat (first | assumption | exact on_up_eq _ _ _ | refine (on_up_ne (by omega)).trans ?_)
  rotate_left 2
  · repeat (first | assumption | exact on_up_eq _ _ _ | refine (on_up_ne (by omega)).trans ?_)
  rotate_right 2
  · rfl
  · rfl
  · first | assumption | exact on_lit _ | rfl
  · first | assumption | omega | decide
  first | refine on_aload_n (pc' := 152) rfl rfl rfl rfl ?_ | refine on_aload_nQ (pc' := 152) rfl rfl rfl rfl ?_
  refine on_dup (pc' := 153) rfl rfl rfl ?_
  first | apply on_get (pc' := 156) rfl rfl fl_N_98 | apply on_getN (pc' := 156) rfl rfl fl_N_98
  · repeat (first | assumption | exact on_up_eq _ _ _ | refine (on_up_ne (by omega)).trans ?_)
  · rfl
  refine on_iconst (pc' := 157) (v := 1) rfl rfl li_1 ?_
  refine on_iadd (pc' := 158) rfl rfl ?_
  rw [nI_1]
  first | apply on_put (pc' := 161) rfl rfl fp_N_98 | apply on_putN (pc' := 161) rfl rfl fp_N_98
  · repeat (first | assumption | exact on_up_eq _ _ _ | refine (on_up_ne (by omega)).trans ?_)
  · first | rfl | assumption
  · first | rfl | assumption
  · exact Nat.le_of_ble_eq_true rfl
  have f0 : on_up (on_up h3 (o + 3) (on_aq 9 6 (va_up (rf a.nc (fun i => L.ca i + 1)) a.nc (some (sz + 1))))) o (.inr (11, [.ref (o + 1), .ref (o + 2), .ref (o + 3), .ref (o + 4), .ref (o + 5), .ref (o + 34), .ref (o + 42), .ref (o + 43), .int (nI a.nr), .int (nI a.nk), .int (nI (a.nc + 1))])) o = some (.inr (11, [.ref (o + 1), .ref (o + 2), .ref (o + 3), .ref (o + 4), .ref (o + 5), .ref (o + 34), .ref (o + 42), .ref (o + 43), .int (nI a.nr), .int (nI a.nk), .int (nI (a.nc + 1))])) := on_up_eq _ _ _
  have f3 : on_up (on_up h3 (o + 3) (on_aq 9 6 (va_up (rf a.nc (fun i => L.ca i + 1)) a.nc (some (sz + 1))))) o (.inr (11, [.ref (o + 1), .ref (o + 2), .ref (o + 3), .ref (o + 4), .ref (o + 5), .ref (o + 34), .ref (o + 42), .ref (o + 43), .int (nI a.nr), .int (nI a.nk), .int (nI (a.nc + 1))])) (o + 3) = some (on_aq 9 6 (rf (a.nc + 1) (fun i => fu L.ca a.nc sz i + 1))) := by
    rw [on_up_ne (by omega), on_up_eq, rf_up]
    refine congrArg some (congrArg (on_aq 9 6) (congrArg (rf (a.nc + 1)) (funext fun i => ?_)))
    by_cases w : i = a.nc
    · rw [w, fu_s, fu_s]
    · rw [fu_n w, fu_n w]
  have ff : ∀ b, b ≠ o → b ≠ o + 3 → on_up (on_up h3 (o + 3) (on_aq 9 6 (va_up (rf a.nc (fun i => L.ca i + 1)) a.nc (some (sz + 1))))) o (.inr (11, [.ref (o + 1), .ref (o + 2), .ref (o + 3), .ref (o + 4), .ref (o + 5), .ref (o + 34), .ref (o + 42), .ref (o + 43), .int (nI a.nr), .int (nI a.nk), .int (nI (a.nc + 1))])) b = h3 b := fun b c1 c2 => (on_up_ne c1).trans (on_up_ne c2)
  show on_E G M_N_circuit 161 _ [] (on_up (on_up h3 (o + 3) (on_aq 9 6 (va_up (rf a.nc (fun i => L.ca i + 1)) a.nc (some (sz + 1))))) o (.inr (11, [.ref (o + 1), .ref (o + 2), .ref (o + 3), .ref (o + 4), .ref (o + 5), .ref (o + 34), .ref (o + 42), .ref (o + 43), .int (nI a.nr), .int (nI a.nk), .int (nI (a.nc + 1))]))) (sz + 7) _ _ _
  generalize on_up (on_up h3 (o + 3) (on_aq 9 6 (va_up (rf a.nc (fun i => L.ca i + 1)) a.nc (some (sz + 1))))) o (.inr (11, [.ref (o + 1), .ref (o + 2), .ref (o + 3), .ref (o + 4), .ref (o + 5), .ref (o + 34), .ref (o + 42), .ref (o + 43), .int (nI a.nr), .int (nI a.nk), .int (nI (a.nc + 1))])) = h4 at f0 f3 ff ⊢
  have T4 : ∀ b, b < sz → b ≠ L.ka k → b ≠ o → b ≠ o + 3 → h4 b = h b := fun b c1 c2 c3 c4 => (ff b c3 c4).trans (T3 b c1 c2)
  have N4 : ∀ b, sz ≤ b → h4 b = h2 b := fun b c1 => (ff b (by omega) (by omega)).trans (g1 b (by omega))
  have C4 : cr_O sz (L.ka k) (o + 5) (nI ((a.k k).nu + 1)) 0 0 0 h4 := (N4 _ (by omega)).trans C2
  have p4 : pa_S sz L.ra pa h4 := ⟨P, (N4 _ (by omega)).trans ((T2 _ (by omega)).trans hP), hP2⟩
  have R4 : rl_S (L.ra (pa.getD 0 0)) (o + 1) (o + 5) (pa.getD 0 0) (a.r (pa.getD 0 0)) h4 := (PP.1 _ p0).keep (fun b c1 c2 => T4 b (by omega) (fun w => by
    have q1 := rc3 b c1 c2
    have q2 := kc3 b (by omega) (by omega)
    omega) (by omega) (by omega))
  have D4 : nd_S (L.ka k) (nI (8 + k)) (a.k k).se (a.k k).dr (nI ((a.k k).nu + 1 + 1)) h4 := ⟨(ff _ (by omega) (by omega)).trans g2, N0.2.keep (T4 _ (by omega) (by omega) (by omega) (by omega))⟩
  have H4 : hk_W (o + 5) h4 := b6.keep (fun b _ _ => T4 b (by omega) (by omega) (by omega) (by omega))
  have O4 : ob_E (o + 34) h4 := ob_S.keep b7.e (fun b _ _ => T4 b (by omega) (by omega) (by omega) (by omega))
  have ap := rc3.apart kc3 (by omega) (by omega) (by omega)
  first | refine on_aload (pc' := 163) rfl rfl rfl ?_ | refine on_aloadQ (pc' := 163) rfl rfl rfl ?_
  first | refine on_aload_n (pc' := 164) rfl rfl rfl rfl ?_ | refine on_aload_nQ (pc' := 164) rfl rfl rfl rfl ?_
  first | apply on_get (pc' := 167) rfl rfl fl_N_43 | apply on_getN (pc' := 167) rfl rfl fl_N_43
  · repeat (first | assumption | exact on_up_eq _ _ _ | refine (on_up_ne (by omega)).trans ?_)
  · rfl
  refine on_callV (pc' := 170) (As := [.ref (o + 34)]) (rest := []) (b := sz + 1) rfl rfl cw_N_circuit_111 (C4) rfl rfl (Nat.le_of_ble_eq_true rfl) (Nat.zero_le _) (Nat.zero_le _) (c_Circuit_begin (ra := L.ra) (pa := pa) (ot := o + 1) (r := a.r (pa.getD 0 0)) ⟨by omega, by omega, by omega⟩ C4 p4 (by omega) R4 ⟨by omega, by omega, ap⟩ D4 H4 (c3.keep (N4 _ (by omega))) (c4.keep (N4 _ (by omega))) O4) ?_
  rintro v h5 z ⟨rfl, rfl, H5, D5, x5, y5, O5, t5⟩
  have T5 : ∀ b, b < sz → (b < o + 5 ∨ o + 42 ≤ b) → b ≠ L.ka k → b ≠ o → b ≠ o + 3 → h5 b = h b := fun b c1 c2 c3 c4 c5 => (t5 b c3 (by omega) (by omega) (by omega) (by omega)).trans (T4 b c1 c3 c4 c5)
  have N5 : ∀ b, sz ≤ b → b ≠ sz + 3 → b ≠ sz + 4 → h5 b = h2 b := fun b c1 c2 c3 => (t5 b (by omega) c2 c3 (by omega) (by omega)).trans (N4 b c1)
  have own : ∀ b, b < sz → 1 ≤ L.ow b → ¬ L.ow b = 11 + 3 * k → h5 b = h b := fun b c1 c2 c3 => by
    have := X.2.1.two (b := b) (by omega)
    exact T5 b c1 (by omega) (fun w => c3 (kc3 b (by omega) (by omega))) (by omega) (by omega)
  have X5 : n_X o (sz + 7) (L.ra, L.ka, fu L.ca a.nc sz, fu L.la a.nc (fun _ => 0), fu L.sa a.nc (fun _ => 0), L.A, fun b => if b < sz then L.ow b else 12 + 3 * a.nc) (n_nw a k pa) [(pa.getD 0 0, ce_k (nI ((a.k k).nu + 1)) 10 (of_b (a.r (pa.getD 0 0)).se (an_d (a.k k).se (a.k k).dr)) 68)] h5 := by
    refine ⟨⟨(t5 _ (by omega) (by omega) (by omega) (by omega) (by omega)).trans f0, (T5 _ (by omega) (by omega) (by omega) (by omega) (by omega)).trans b2, (T5 _ (by omega) (by omega) (by omega) (by omega) (by omega)).trans b3, (t5 _ (by omega) (by omega) (by omega) (by omega) (by omega)).trans f3, (T5 _ (by omega) (by omega) (by omega) (by omega) (by omega)).trans b5, H5, O5, b8.keep (T5 _ (by omega) (by omega) (by omega) (by omega) (by omega)), b9.keep (T5 _ (by omega) (by omega) (by omega) (by omega) (by omega))⟩, ⟨by omega, u2.new u1, fun i hi => ?_, fun i hi => ?_, fun i hi => ?_, u6, fun j hj ej => ?_⟩, ⟨fun i hi => ?_, fun i hi => ?_, fun i hi => ?_⟩, K.kp (lo := 0) (fun b kb => ?_)⟩
    · obtain ⟨d1, d2, d3⟩ := u3 i hi
      exact ⟨d1, (show L.ra i + 260 ≤ sz + 7 by omega), d3.new d2⟩
    · obtain ⟨d1, d2, d3⟩ := u4 i hi
      exact ⟨d1, (show L.ka i + 2 ≤ sz + 7 by omega), d3.new d2⟩
    · have hi : i < a.nc + 1 := hi
      show nw_I (sz + 7) _ i (fu a.c a.nc (c_nw a k pa) i)
      by_cases w : i = a.nc
      · subst w
        rw [fu_s]
        refine ⟨?_, ?_, ?_, fun j hj => absurd hj (Nat.not_lt_zero j), fun j hj => absurd hj (Nat.not_lt_zero j), ?_, fun j hj => ?_⟩
        · show cr_I (fu L.ca a.nc sz a.nc) (fu L.la a.nc (fun _ => 0) a.nc) (fu L.sa a.nc (fun _ => 0) a.nc) (c_nw a k pa)
          rw [fu_s]
          exact ⟨fun j hj => absurd hj (Nat.not_lt_zero j), fun j hj => absurd hj (Nat.not_lt_zero j), hl, Nat.zero_le _, Nat.zero_le _, fun _ => ⟨(show 0 < pa.length by omega), rfl⟩, (fun z => nomatch z)⟩
        · show fu L.ca a.nc sz a.nc + 7 ≤ sz + 7
          rw [fu_s]
          exact Nat.le_refl _
        · show n_T _ (fu L.ca a.nc sz a.nc) (fu L.ca a.nc sz a.nc + 7) (12 + 3 * a.nc)
          rw [fu_s]
          exact n_T.fresh (Nat.le_refl _)
        · show L.ka k + 2 ≤ fu L.ca a.nc sz a.nc
          rw [fu_s]
          exact kc2
        · show L.ra (pa.getD j 0) + 260 ≤ fu L.ca a.nc sz a.nc
          rw [fu_s]
          exact (u3 _ (hpa j hj)).2.1
      · rw [fu_n w]
        obtain ⟨d1, d2, d3, d4, d5, d6, d7⟩ := u5 i (by omega)
        refine ⟨?_, ?_, ?_, fun j hj => ?_, fun j hj => ?_, ?_, fun j hj => ?_⟩
        · show cr_I (fu L.ca a.nc sz i) (fu L.la a.nc (fun _ => 0) i) (fu L.sa a.nc (fun _ => 0) i) (a.c i)
          rw [fu_n w, fu_n w, fu_n w]
          exact d1
        · show fu L.ca a.nc sz i + 7 ≤ sz + 7
          rw [fu_n w]
          omega
        · show n_T _ (fu L.ca a.nc sz i) (fu L.ca a.nc sz i + 7) (12 + 3 * i)
          rw [fu_n w]
          exact d3.new d2
        · show fu L.la a.nc (fun _ => 0) i j + 16 ≤ sz + 7 ∧ n_T _ (fu L.la a.nc (fun _ => 0) i j) (fu L.la a.nc (fun _ => 0) i j + 16) (12 + 3 * i)
          rw [fu_n w]
          exact ⟨by have := (d4 j hj).1; omega, (d4 j hj).2.new (d4 j hj).1⟩
        · show fu L.sa a.nc (fun _ => 0) i j + 3 ≤ sz + 7 ∧ n_T _ (fu L.sa a.nc (fun _ => 0) i j) (fu L.sa a.nc (fun _ => 0) i j + 3) (12 + 3 * i)
          rw [fu_n w]
          exact ⟨by have := (d5 j hj).1; omega, (d5 j hj).2.new (d5 j hj).1⟩
        · show L.ka (a.c i).cl + 2 ≤ fu L.ca a.nc sz i
          rw [fu_n w]
          exact d6
        · show L.ra ((a.c i).pa.getD j 0) + 260 ≤ fu L.ca a.nc sz i
          rw [fu_n w]
          exact d7 j hj
    · obtain ⟨d1, d2⟩ := u7 j hj ej
      exact ⟨(show L.A j + 2 ≤ sz + 7 by omega), d2.new d1⟩
    · exact nw_T.rl X.2.1 hi (PP.1 i hi) (fun b c1 c2 => own b c1 (by omega) (by omega))
    · show nd_S (L.ka i) (nI (8 + i)) (fu a.k k ((a.k k).se, (a.k k).dr + 1, (a.k k).nu + 1) i).se (fu a.k k ((a.k k).se, (a.k k).dr + 1, (a.k k).nu + 1) i).dr (nI ((fu a.k k ((a.k k).se, (a.k k).dr + 1, (a.k k).nu + 1) i).nu + 1)) h5
      by_cases w : i = k
      · rw [w, fu_s]
        exact D5
      · rw [fu_n w]
        exact nw_T.nd X.2.1 hi (PP.2.1 i hi) (fun b c1 c2 => own b c1 (by omega) (by omega))
    · have hi : i < a.nc + 1 := hi
      show cr_S (fu L.ca a.nc sz i) (L.ka (fu a.c a.nc (c_nw a k pa) i).cl) (o + 5) L.ra (fu L.la a.nc (fun _ => 0) i) (fu L.sa a.nc (fun _ => 0) i) a.r (fu a.c a.nc (c_nw a k pa) i) h5
      by_cases w : i = a.nc
      · subst w
        rw [fu_s, fu_s, fu_s, fu_s]
        exact ⟨(N5 _ (by omega) (by omega) (by omega)).trans C2, ⟨P, (N5 _ (by omega) (by omega) (by omega)).trans ((T2 _ (by omega)).trans hP), hP2⟩, ⟨⟨_, (N5 _ (by omega) (by omega) (by omega)).trans c5, fun j hj => absurd hj (Nat.not_lt_zero j)⟩, ⟨_, (N5 _ (by omega) (by omega) (by omega)).trans c6, fun j hj => absurd hj (Nat.not_lt_zero j)⟩, fun j hj => absurd hj (Nat.not_lt_zero j)⟩, ⟨_, (N5 _ (by omega) (by omega) (by omega)).trans c2, Nat.zero_le _, fun j hj => absurd hj (Nat.not_lt_zero j)⟩, x5.w, y5.w, fun _ => ⟨x5, y5⟩⟩
      · rw [fu_n w, fu_n w, fu_n w, fu_n w]
        exact nw_T.cr X.2.1 (by omega) (PP.2.2 i (by omega)) (fun b c1 c2 => own b c1 (by omega) (by omega))
    · obtain ⟨q1, q2, q3⟩ := X.2.1.lk kb
      exact own b q1 (by omega) (by omega)
  have o5 := X5.1.1
  first | refine on_aload_n (pc' := 171) rfl rfl rfl rfl ?_ | refine on_aload_nQ (pc' := 171) rfl rfl rfl rfl ?_
  refine on_iload_n (pc' := 172) rfl rfl rfl rfl ?_
  refine on_callV (pc' := 175) (As := [.int (nI (8 + k))]) (rest := []) (b := o) rfl rfl cw_N_circuit_115 (o5) rfl rfl (Nat.le_of_ble_eq_true rfl) (Nat.zero_le _) (Nat.zero_le _) (c_sendW X5 (by omega) (m_one (n_ex_k nr6 hk p0))) ?_
  rintro v h6 z ⟨rfl, rfl, X6, F6⟩
  refine on_iload (pc' := 177) rfl rfl rfl ?_
  refine on_ireturn rfl rfl ?_
  refine kk h6 _ ⟨_, X6, by omega, fun b hb => if_pos hb, fun b c1 c2 => ?_⟩
  have ow : (if b < sz then L.ow b else 12 + 3 * a.nc) = 2 := (if_pos c1).trans c2
  exact (F6 b (by omega) (by show ¬ (if b < sz then L.ow b else 12 + 3 * a.nc) = 0; omega) (by show ¬ (if b < sz then L.ow b else 12 + 3 * a.nc) = 1; omega)).trans (own b c1 (by omega) (by omega))
end CIR
