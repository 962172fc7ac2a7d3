/-! the reference: a client more, the seal -/
section MCN
variable {o nr nc : Nat} {RA CA : Nat → Nat} {x3 : Int32 × Int32 × Int32} {h h1 : on_H}
theorem m_fr.blk (t : ∀ b, (b < o ∨ o + 42 ≤ b) → h1 b = h b) : m_fr o nr nc RA CA h h1 := fun b hb => t b (by
  rcases Nat.lt_or_ge b o with z | z
  · exact Or.inl z
  · rcases Nat.lt_or_ge b (o + 42) with w | w
    · exact absurd (Or.inl ⟨z, w⟩) hb
    · exact Or.inr w)
/-- another number of relays, clients, circuits -/
theorem mw.cnt {x4 : Int32 × Int32 × Int32} (K : mw o x3 h) (g0 : h1 o = some (.inr (17, mo_f o x4.1 x4.2.1 x4.2.2))) (e : ∀ a, o + 8 ≤ a → a < o + 42 → h1 a = h a) : mw o x4 h1 := by
  obtain ⟨c, -, c1, W, c2⟩ := K.li
  exact ⟨⟨g0, K.ob.2.keep (e _ (by omega) (by omega))⟩, K.sa.keep (fun a _ _ => e a (by omega) (by omega)), K.si.keep (fun a _ _ => e a (by omega) (by omega)), K.st.keep (fun a _ _ => e a (by omega) (by omega)), K.dg.keep (e _ (by omega) (by omega)), K.ky.keep (e _ (by omega) (by omega)), K.tx.keep (e _ (by omega) (by omega)), K.pt.keep (e _ (by omega) (by omega)), K.r1.keep (e _ (by omega) (by omega)), K.r2.keep (e _ (by omega) (by omega)), K.ce.keep (e _ (by omega) (by omega)), K.pl.keep (e _ (by omega) (by omega)), K.sk.keep (e _ (by omega) (by omega)), K.bl.keep (e _ (by omega) (by omega)), K.be.keep (e _ (by omega) (by omega)), ⟨c, g0, fun k hk => (e _ (by omega) (by omega)).trans (c1 k hk), W, (e _ (by omega) (by omega)).trans c2⟩, K.da.keep (e _ (by omega) (by omega))⟩
end MCN
theorem ht_sr : ∀ w, w ≤ 1000 → sh_r (nI w) 8 &&& 255 = nI (w / 256) := fun w hw => (by decide +kernel : ∀ w, w < 1001 → sh_r (nI w) 8 &&& 255 = nI (w / 256)) w (by omega)
theorem ht_rs (f : Nat → Nat) : sp_sl f 0 4 ++ sp_sl (fun i => f (4 + i)) 0 32 = sp_sl f 0 36 := rfl
theorem ht_rb (i we : Nat) (ms : List Nat) : ms ++ [i] ++ [we / 256] ++ [we % 256] = ms ++ sp_sl (ht_b i we) 0 3 := by
  rw [List.append_assoc, List.append_assoc]
  rfl
section MCL
variable {G : on_G} {o sz B bc bs : Nat} {RA CA : Nat → Nat} {a : aN} {h : on_H} {seed : Int64} {x : Int32} {Q : Option Value → on_H → Nat → Prop}
set_option maxHeartbeats 8000000 in
theorem c_M_client (X : mX o sz RA CA a h) (V : n_V B a) : on_Ct G M_M_client [.ref o, .long seed] h sz 0 0 (fun v h1 z => v = some (.int (q_client a seed).1) ∧ z = sz ∧ mX o sz RA CA (q_client a seed).2 h1 ∧ m_fr o a.nr a.nc RA CA h h1) := by
  obtain ⟨x1, x2, ⟨b1, ⟨SD, b2, b2'⟩, ⟨DR, b3, b3'⟩, ⟨NU, b4, b4'⟩, b5⟩, x4, x5, x6⟩ := id X
  have o1 := x1.ob.1
  have v2 := V.1.2.1
  refine on_Ct.of (by decide) v_M_client (Nat.le_of_ble_eq_true rfl) ?_
  first | refine on_aload_n (pc' := 1) rfl rfl rfl rfl ?_ | refine on_aload_nQ (pc' := 1) rfl rfl rfl rfl ?_
  first | apply on_get (pc' := 4) rfl rfl fl_M_275 | apply on_getN (pc' := 4) rfl rfl fl_M_275
  · repeat (first | assumption | exact on_up_eq _ _ _ | refine (on_up_ne (by omega)).trans ?_)
  · rfl
  refine on_iconst (pc' := 5) (v := 2) rfl rfl li_2 ?_
  refine on_icmp_ne (pc' := 8) (tgt := 10) rfl rfl rfl (fun cq => ?_) (fun cq => ?_)
  · have k2 : a.nk < 2 := by
      rcases Nat.lt_or_ge a.nk 2 with z | z
      · exact z
      · exact absurd (by rw [show a.nk = 2 by omega]; rfl) cq
    clear cq
    have eq : q_client a seed = (nI (8 + a.nk), (a.nr, a.r, a.nk + 1, fu a.k a.nk (seed, 0, 0), a.nc, a.c, a.lk)) := if_pos k2
    have i2 : a.nk < 2 ∧ 2 < 2 ^ 31 := ⟨k2, by decide⟩
    first | refine on_aload_n (pc' := 11) rfl rfl rfl rfl ?_ | refine on_aload_nQ (pc' := 11) rfl rfl rfl rfl ?_
    first | apply on_get (pc' := 14) rfl rfl fl_M_15 | apply on_getN (pc' := 14) rfl rfl fl_M_15
    · repeat (first | assumption | exact on_up_eq _ _ _ | refine (on_up_ne (by omega)).trans ?_)
    · rfl
    first | refine on_aload_n (pc' := 15) rfl rfl rfl rfl ?_ | refine on_aload_nQ (pc' := 15) rfl rfl rfl rfl ?_
    first | apply on_get (pc' := 18) rfl rfl fl_M_275 | apply on_getN (pc' := 18) rfl rfl fl_M_275
    · repeat (first | assumption | exact on_up_eq _ _ _ | refine (on_up_ne (by omega)).trans ?_)
    · rfl
    refine on_lload_n (pc' := 19) rfl rfl rfl rfl ?_
    apply on_lastoreK (pc' := 20) (t := 1) rfl rfl
    · repeat (first | assumption | exact on_up_eq _ _ _ | refine (on_up_ne (by omega)).trans ?_)
    · rfl
    · first | assumption | exact on_lit _ | rfl
    · first | assumption | omega | decide
    first | refine on_aload_n (pc' := 21) rfl rfl rfl rfl ?_ | refine on_aload_nQ (pc' := 21) rfl rfl rfl rfl ?_
    refine on_dup (pc' := 22) rfl rfl rfl ?_
    first | apply on_get (pc' := 25) rfl rfl fl_M_275 | apply on_getN (pc' := 25) rfl rfl fl_M_275
    · repeat (first | assumption | exact on_up_eq _ _ _ | refine (on_up_ne (by omega)).trans ?_)
    · rfl
    refine on_iconst (pc' := 26) (v := 1) rfl rfl li_1 ?_
    refine on_iadd (pc' := 27) rfl rfl ?_
    rw [nI_1]
    first | apply on_put (pc' := 30) rfl rfl fp_M_275 | apply on_putN (pc' := 30) rfl rfl fp_M_275
    · repeat (first | assumption | exact on_up_eq _ _ _ | refine (on_up_ne (by omega)).trans ?_)
    · first | rfl | assumption
    · first | rfl | assumption
    · exact Nat.le_of_ble_eq_true rfl
    refine on_bipush (pc' := 32) (v := 7) rfl rfl lb_7 ?_
    first | refine on_aload_n (pc' := 33) rfl rfl rfl rfl ?_ | refine on_aload_nQ (pc' := 33) rfl rfl rfl rfl ?_
    first | apply on_get (pc' := 36) rfl rfl fl_M_275 | apply on_getN (pc' := 36) rfl rfl fl_M_275
    · repeat (first | assumption | exact on_up_eq _ _ _ | refine (on_up_ne (by omega)).trans ?_)
    · rfl
    refine on_iadd (pc' := 37) rfl rfl ?_
    rw [show (7 : Int32) + nI (a.nk + 1) = nI (8 + a.nk) by rw [show (7 : Int32) = nI 7 from rfl, nI_add]; exact congrArg nI (by omega)]
    refine on_ireturn rfl rfl ?_
    rw [eq]
    have g0 : on_up (on_up h (o + 2) (on_al 1 2 (vp_updL SD a.nk seed))) o (.inr (17, mo_f o (nI a.nr) (nI (a.nk + 1)) (nI a.nc))) o = some (.inr (17, mo_f o (nI a.nr) (nI (a.nk + 1)) (nI a.nc))) := on_up_eq _ _ _
    have g2 : on_up (on_up h (o + 2) (on_al 1 2 (vp_updL SD a.nk seed))) o (.inr (17, mo_f o (nI a.nr) (nI (a.nk + 1)) (nI a.nc))) (o + 2) = some (on_al 1 2 (vp_updL SD a.nk seed)) := (on_up_ne (by omega)).trans (on_up_eq _ _ _)
    have gg : ∀ b, b ≠ o → b ≠ o + 2 → on_up (on_up h (o + 2) (on_al 1 2 (vp_updL SD a.nk seed))) o (.inr (17, mo_f o (nI a.nr) (nI (a.nk + 1)) (nI a.nc))) b = h b := fun b c1 c2 => (on_up_ne c1).trans (on_up_ne c2)
    show _ ∧ _ ∧ mX o sz RA CA (a.nr, a.r, a.nk + 1, fu a.k a.nk (seed, 0, 0), a.nc, a.c, a.lk) (on_up (on_up h (o + 2) (on_al 1 2 (vp_updL SD a.nk seed))) o (.inr (17, mo_f o (nI a.nr) (nI (a.nk + 1)) (nI a.nc)))) ∧ m_fr o a.nr a.nc RA CA h (on_up (on_up h (o + 2) (on_al 1 2 (vp_updL SD a.nk seed))) o (.inr (17, mo_f o (nI a.nr) (nI (a.nk + 1)) (nI a.nc))))
    generalize on_up (on_up h (o + 2) (on_al 1 2 (vp_updL SD a.nk seed))) o (.inr (17, mo_f o (nI a.nr) (nI (a.nk + 1)) (nI a.nc))) = g at *
    refine ⟨rfl, rfl, ⟨x1.cnt g0 (fun b _ _ => gg b (by omega) (by omega)), x2.keep (gg _ (by omega) (by omega)) (gg _ (by omega) (by omega)), ⟨(gg _ (by omega) (by omega)).trans b1, ⟨_, g2, fun j hj => ?_⟩, ⟨DR, (gg _ (by omega) (by omega)).trans b3, fun j hj => ?_⟩, ⟨NU, (gg _ (by omega) (by omega)).trans b4, fun j hj => ?_⟩, (gg _ (by omega) (by omega)).trans b5⟩, x4, fun i hi => ?_, fun i hi => ?_⟩, m_fr.blk (fun b hb => gg b (by omega) (by omega))⟩
    · have hj : j < a.nk + 1 := hj
      show vp_updL SD a.nk seed j = (fu a.k a.nk (seed, 0, 0) j).se
      by_cases z : j = a.nk
      · rw [z, pk_uLs, fu_s]
      · rw [pk_uLn z, fu_n z]
        exact b2' j (by omega)
    · show DR j = if j < a.nk + 1 then (fu a.k a.nk (seed, 0, 0) j).dr else 0
      rw [b3' j hj]
      by_cases z : j = a.nk
      · rw [z, fu_s, if_neg (Nat.lt_irrefl _), if_pos (Nat.lt_succ_self _)]
      · rw [fu_n z]
        by_cases w : j < a.nk
        · rw [if_pos w, if_pos (by omega)]
        · rw [if_neg w, if_neg (by omega)]
    · show NU j = if j < a.nk + 1 then nI (fu a.k a.nk (seed, 0, 0) j).nu else 0
      rw [b4' j hj]
      by_cases z : j = a.nk
      · rw [z, fu_s, if_neg (Nat.lt_irrefl _), if_pos (Nat.lt_succ_self _)]
        rfl
      · rw [fu_n z]
        by_cases w : j < a.nk
        · rw [if_pos w, if_pos (by omega)]
        · rw [if_neg w, if_neg (by omega)]
    · obtain ⟨n, ord, es, y1, y2⟩ := x5 i hi
      have := x4.2.1 i hi
      exact ⟨n, ord, es, y1.keep y2 (fun b _ _ => gg b (by omega) (by omega)), y2⟩
    · have := x4.2.2.1 i hi
      exact ⟨(x6 i hi).1.keep (x6 i hi).2 (fun b _ _ => gg b (by omega) (by omega)), (x6 i hi).2⟩
  · have e2 : a.nk = 2 := (nI_eq (a := a.nk) (b := 2) (by omega) (by decide)).mp cq
    have eq : q_client a seed = (-1, a) := if_neg (by omega)
    refine on_iconst (pc' := 9) (v := (-1)) rfl rfl li_m1 ?_
    refine on_ireturn rfl rfl ?_
    rw [eq]
    exact ⟨rfl, rfl, X, m_fr.id⟩
set_option maxHeartbeats 8000000 in
theorem msl_l (X : mX o sz RA CA a h) (V : n_V B a)
    (kk : ∀ h2, mo_O o (nI a.nr, nI a.nk, nI a.nc) h2 → ms_X (o + 8) (ht_m a.r a.nr 6) h2 → on_sm (o + 8) (o + 11) h h2 → on_E G M_M_seal 108 (on_l [(0, .ref o), (1, .int x)]) [] h2 sz bc bs Q) :
    ∀ (m i : Nat) (h1 : on_H), i + m = a.nr → mo_O o (nI a.nr, nI a.nk, nI a.nc) h1 → ms_X (o + 8) (ht_m a.r a.nr i) h1 → on_sm (o + 8) (o + 11) h h1 → on_E G M_M_seal 27 (on_l [(0, .ref o), (1, .int x), (2, .int (nI i))]) [] h1 sz bc bs Q := by
  obtain ⟨x1, x2, x3, x4, x5, x6⟩ := id X
  have v1 := V.1.1
  intro m
  induction m with
  | zero =>
    intro i h1 hi O1 X1 t1
    obtain rfl : i = a.nr := by omega
    have o1 := O1.1
    have e6 : ∀ k, ht_m a.r a.nr (a.nr + k) = ht_m a.r a.nr a.nr := fun k => by
      induction k with
      | zero => rfl
      | succ k ih =>
        rw [← ih]
        exact if_neg (show ¬ a.nr + k < a.nr by omega)
    have e6 := e6 (6 - a.nr)
    rw [show a.nr + (6 - a.nr) = 6 by omega] at e6
    refine on_iload_n (pc' := 28) rfl rfl rfl rfl ?_
    first | refine on_aload_n (pc' := 29) rfl rfl rfl rfl ?_ | refine on_aload_nQ (pc' := 29) rfl rfl rfl rfl ?_
    first | apply on_get (pc' := 32) rfl rfl fl_M_271 | apply on_getN (pc' := 32) rfl rfl fl_M_271
    · repeat (first | assumption | exact on_up_eq _ _ _ | refine (on_up_ne (by omega)).trans ?_)
    · rfl
    refine on_icmp_ge (pc' := 35) (tgt := 108) rfl rfl rfl (fun cq => ?_) (fun cq => ?_)
    · exact on_relv (l := [(0, .ref o), (1, .int x)]) ⟨rfl, rfl, trivial⟩ (kk h1 O1 (by rw [e6]; exact X1) t1)
    · exact absurd (nI_le (a := a.nr) (Nat.le_refl _) (by omega)) cq
  | succ m ih =>
    intro i h1 hi O1 X1 t1
    have o1 := O1.1
    have hir : i < a.nr := by omega
    have i6 : i < 6 ∧ 6 < 2 ^ 31 := by omega
    have ri := x4.2.1 i hir
    obtain ⟨n, ord, es, y1, y2⟩ := x5 i hir
    have w1 := (V.2.1 i hir).1
    have r0 : h (RA i) = some (.inr (15, [.long (a.r i).se, .int (a.r i).dr, .ref (RA i + 1), .ref (RA i + 2), .ref (RA i + 3), .int (nI (a.r i).we), .int (nI (a.r i).nx), .ref (RA i + 4), .int (nI n), .ref (RA i + 5), .int (nI (a.r i).ke.length)])) := y1.1
    obtain ⟨-, -, ⟨K, k1, K'⟩, ⟨F, f1, F'⟩, -⟩ := id y1
    have len := ht_len (rs := a.r) (nr := a.nr) i
    have eh : ht_m a.r a.nr (i + 1) = ht_m a.r a.nr i ++ sp_sl (ht_b i (a.r i).we) 0 3 ++ sp_sl (rs_i (a.r i).se) 0 36 := if_pos hir
    have rr := (t1 (o + 1) (by omega)).trans x3.1
    have r1 := (t1 (RA i) (by omega)).trans r0
    refine on_iload_n (pc' := 28) rfl rfl rfl rfl ?_
    first | refine on_aload_n (pc' := 29) rfl rfl rfl rfl ?_ | refine on_aload_nQ (pc' := 29) rfl rfl rfl rfl ?_
    first | apply on_get (pc' := 32) rfl rfl fl_M_271 | apply on_getN (pc' := 32) rfl rfl fl_M_271
    · repeat (first | assumption | exact on_up_eq _ _ _ | refine (on_up_ne (by omega)).trans ?_)
    · rfl
    refine on_icmp_ge (pc' := 35) (tgt := 108) rfl rfl rfl (fun cq => ?_) (fun cq => ?_)
    · exact absurd cq (nI_ge (b := a.nr) hir (by omega))
    clear cq
    first | refine on_aload_n (pc' := 36) rfl rfl rfl rfl ?_ | refine on_aload_nQ (pc' := 36) rfl rfl rfl rfl ?_
    refine on_iload_n (pc' := 37) rfl rfl rfl rfl ?_
    refine on_hash (pc' := 40) (b := i) O1 X1 (by omega) (nI_255 (by omega)) (by omega) rfl rfl cw_M_seal_155 (fun h2 O2 X2 t2 => ?_)
    have o2 := O2.1
    have rr2 := (t2 (o + 1) (by omega)).trans rr
    have r2 := (t2 (RA i) (by omega)).trans r1
    first | refine on_aload_n (pc' := 41) rfl rfl rfl rfl ?_ | refine on_aload_nQ (pc' := 41) rfl rfl rfl rfl ?_
    first | refine on_aload_n (pc' := 42) rfl rfl rfl rfl ?_ | refine on_aload_nQ (pc' := 42) rfl rfl rfl rfl ?_
    first | apply on_get (pc' := 45) rfl rfl fl_M_9 | apply on_getN (pc' := 45) rfl rfl fl_M_9
    · repeat (first | assumption | exact on_up_eq _ _ _ | refine (on_up_ne (by omega)).trans ?_)
    · rfl
    refine on_iload_n (pc' := 46) rfl rfl rfl rfl ?_
    apply on_aaloadK (pc' := 47) rfl rfl
    · repeat (first | assumption | exact on_up_eq _ _ _ | refine (on_up_ne (by omega)).trans ?_)
    · rfl
    · first | assumption | exact on_lit _ | rfl
    · first | assumption | omega | decide
    rw [rf_at hir]
    show on_E G M_M_seal 47 _ [.ref (RA i), .ref o] h2 sz _ _ _
    first | apply on_get (pc' := 50) rfl rfl fl_M_311 | apply on_getN (pc' := 50) rfl rfl fl_M_311
    · repeat (first | assumption | exact on_up_eq _ _ _ | refine (on_up_ne (by omega)).trans ?_)
    · rfl
    refine on_bipush (pc' := 52) (v := 8) rfl rfl lb_8 ?_
    refine on_ishr (pc' := 53) rfl rfl ?_
    refine on_hash (pc' := 56) (b := (a.r i).we / 256) O2 X2 (by rw [List.length_append]; exact (show (ht_m a.r a.nr i).length + 1 + 1 < 2 ^ 31 by omega)) (ht_sr _ w1) (by omega) rfl rfl cw_M_seal_155 (fun h3 O3 X3 t3 => ?_)
    have o3 := O3.1
    have rr3 := (t3 (o + 1) (by omega)).trans rr2
    have r3 := (t3 (RA i) (by omega)).trans r2
    first | refine on_aload_n (pc' := 57) rfl rfl rfl rfl ?_ | refine on_aload_nQ (pc' := 57) rfl rfl rfl rfl ?_
    first | refine on_aload_n (pc' := 58) rfl rfl rfl rfl ?_ | refine on_aload_nQ (pc' := 58) rfl rfl rfl rfl ?_
    first | apply on_get (pc' := 61) rfl rfl fl_M_9 | apply on_getN (pc' := 61) rfl rfl fl_M_9
    · repeat (first | assumption | exact on_up_eq _ _ _ | refine (on_up_ne (by omega)).trans ?_)
    · rfl
    refine on_iload_n (pc' := 62) rfl rfl rfl rfl ?_
    apply on_aaloadK (pc' := 63) rfl rfl
    · repeat (first | assumption | exact on_up_eq _ _ _ | refine (on_up_ne (by omega)).trans ?_)
    · rfl
    · first | assumption | exact on_lit _ | rfl
    · first | assumption | omega | decide
    rw [rf_at hir]
    show on_E G M_M_seal 63 _ [.ref (RA i), .ref o] h3 sz _ _ _
    first | apply on_get (pc' := 66) rfl rfl fl_M_311 | apply on_getN (pc' := 66) rfl rfl fl_M_311
    · repeat (first | assumption | exact on_up_eq _ _ _ | refine (on_up_ne (by omega)).trans ?_)
    · rfl
    refine on_sipush (pc' := 69) (v := 255) rfl rfl ls_255 ?_
    refine on_iand (pc' := 70) rfl rfl ?_
    refine on_hash (pc' := 73) (b := (a.r i).we % 256) O3 X3 (by rw [List.length_append, List.length_append]; exact (show (ht_m a.r a.nr i).length + 1 + 1 + 1 < 2 ^ 31 by omega)) (by rw [by_lo (by omega)]; exact nI_255 (Nat.mod_lt _ (by decide))) (Nat.mod_lt _ (by decide)) rfl rfl cw_M_seal_155 (fun h4 O4 X4 t4 => ?_)
    have o4 := O4.1
    have rr4 := (t4 (o + 1) (by omega)).trans rr3
    have r4 := (t4 (RA i) (by omega)).trans r3
    rw [ht_rb] at X4
    have f4 : h4 (RA i + 3) = _ := (t4 _ (by omega)).trans ((t3 _ (by omega)).trans ((t2 _ (by omega)).trans ((t1 _ (by omega)).trans f1)))
    have k4 : h4 (RA i + 2) = _ := (t4 _ (by omega)).trans ((t3 _ (by omega)).trans ((t2 _ (by omega)).trans ((t1 _ (by omega)).trans k1)))
    first | refine on_aload_n (pc' := 74) rfl rfl rfl rfl ?_ | refine on_aload_nQ (pc' := 74) rfl rfl rfl rfl ?_
    first | refine on_aload_n (pc' := 75) rfl rfl rfl rfl ?_ | refine on_aload_nQ (pc' := 75) rfl rfl rfl rfl ?_
    first | apply on_get (pc' := 78) rfl rfl fl_M_9 | apply on_getN (pc' := 78) rfl rfl fl_M_9
    · repeat (first | assumption | exact on_up_eq _ _ _ | refine (on_up_ne (by omega)).trans ?_)
    · rfl
    refine on_iload_n (pc' := 79) rfl rfl rfl rfl ?_
    apply on_aaloadK (pc' := 80) rfl rfl
    · repeat (first | assumption | exact on_up_eq _ _ _ | refine (on_up_ne (by omega)).trans ?_)
    · rfl
    · first | assumption | exact on_lit _ | rfl
    · first | assumption | omega | decide
    rw [rf_at hir]
    show on_E G M_M_seal 80 _ [.ref (RA i), .ref o] h4 sz _ _ _
    first | apply on_get (pc' := 83) rfl rfl fl_M_285 | apply on_getN (pc' := 83) rfl rfl fl_M_285
    · repeat (first | assumption | exact on_up_eq _ _ _ | refine (on_up_ne (by omega)).trans ?_)
    · rfl
    refine on_iconst (pc' := 84) (v := 4) rfl rfl li_4 ?_
    refine on_callV (pc' := 87) (As := [.ref (RA i + 3), .int (nI 4)]) (rest := []) (b := o) rfl rfl cw_M_seal_168 (o4) rfl rfl (Nat.le_of_ble_eq_true rfl) (Nat.zero_le _) (Nat.zero_le _) (c_M_hashAll O4 X4 f4 (by omega) (by decide) (by decide) F' (by rw [List.length_append, sp_sl_len]; omega)) ?_
    rintro v h5 sz ⟨rfl, rfl, X5, t5⟩
    have O5 : mo_O o (nI a.nr, nI a.nk, nI a.nc) h5 := O4.keep (t5 _ (by omega)) (t5 _ (by omega))
    have o5 := O5.1
    have rr5 := (t5 (o + 1) (by omega)).trans rr4
    have r5 := (t5 (RA i) (by omega)).trans r4
    first | refine on_aload_n (pc' := 88) rfl rfl rfl rfl ?_ | refine on_aload_nQ (pc' := 88) rfl rfl rfl rfl ?_
    first | refine on_aload_n (pc' := 89) rfl rfl rfl rfl ?_ | refine on_aload_nQ (pc' := 89) rfl rfl rfl rfl ?_
    first | apply on_get (pc' := 92) rfl rfl fl_M_9 | apply on_getN (pc' := 92) rfl rfl fl_M_9
    · repeat (first | assumption | exact on_up_eq _ _ _ | refine (on_up_ne (by omega)).trans ?_)
    · rfl
    refine on_iload_n (pc' := 93) rfl rfl rfl rfl ?_
    apply on_aaloadK (pc' := 94) rfl rfl
    · repeat (first | assumption | exact on_up_eq _ _ _ | refine (on_up_ne (by omega)).trans ?_)
    · rfl
    · first | assumption | exact on_lit _ | rfl
    · first | assumption | omega | decide
    rw [rf_at hir]
    show on_E G M_M_seal 94 _ [.ref (RA i), .ref o] h5 sz _ _ _
    first | apply on_get (pc' := 97) rfl rfl fl_M_284 | apply on_getN (pc' := 97) rfl rfl fl_M_284
    · repeat (first | assumption | exact on_up_eq _ _ _ | refine (on_up_ne (by omega)).trans ?_)
    · rfl
    refine on_bipush (pc' := 99) (v := 32) rfl rfl lb_32 ?_
    refine on_callV (pc' := 102) (As := [.ref (RA i + 2), .int (nI 32)]) (rest := []) (b := o) rfl rfl cw_M_seal_168 (o5) rfl rfl (Nat.le_of_ble_eq_true rfl) (Nat.zero_le _) (Nat.zero_le _) (c_M_hashAll O5 X5 ((t5 _ (by omega)).trans k4) (by omega) (by decide) (by decide) K' (by rw [List.length_append, List.length_append, sp_sl_len, sp_sl_len]; omega)) ?_
    rintro v h6 sz ⟨rfl, rfl, X6, t6⟩
    have O6 : mo_O o (nI a.nr, nI a.nk, nI a.nc) h6 := O5.keep (t6 _ (by omega)) (t6 _ (by omega))
    refine on_iinc1 (pc' := 105) rfl rfl rfl ?_
    refine on_goto (tgt := 27) rfl rfl ?_
    refine on_relv (l := [(0, .ref o), (1, .int x), (2, .int (nI (i + 1)))]) ⟨rfl, rfl, congrArg some (congrArg Value.int (nI_1 i)), trivial⟩ (ih (i + 1) h6 (by omega) O6 ?_ (t1.trans (t2.trans (t3.trans (t4.trans (t5.trans t6))))))
    rw [eh, ← ht_rs, ← List.append_assoc]
    exact X6
set_option maxHeartbeats 8000000 in
theorem c_M_seal (X : mX o sz RA CA a h) (V : n_V B a) : on_Ct G M_M_seal [.ref o, .int x] h sz 0 0 (fun v h1 z => v = some (.int (q_seal a x)) ∧ z = sz ∧ mX o sz RA CA a h1 ∧ m_fr o a.nr a.nc RA CA h h1) := by
  have x1 := X.1
  have o1 := x1.ob.1
  have no : ∀ lv, q_seal a x = -1 → on_E G M_M_seal 10 lv [] h sz 0 0 (fun v h1 z => v = some (.int (q_seal a x)) ∧ z = sz ∧ mX o sz RA CA a h1 ∧ m_fr o a.nr a.nc RA CA h h1) := fun lv e => by
    refine on_iconst (pc' := 11) (v := (-1)) rfl rfl li_m1 ?_
    refine on_ireturn rfl rfl ?_
    rw [e]
    exact ⟨rfl, rfl, X, m_fr.id⟩
  refine on_Ct.of (by decide) v_M_seal (Nat.le_of_ble_eq_true rfl) ?_
  refine on_iload_n (pc' := 1) rfl rfl rfl rfl ?_
  refine on_if_lt (pc' := 4) (tgt := 10) rfl rfl rfl (fun cq => ?_) (fun cq => ?_)
  · refine no _ ?_
    unfold q_seal
    rw [show p_i 32 x = none from if_neg (fun z => z.1 cq)]
  have x0 := cq
  clear cq
  refine on_iload_n (pc' := 5) rfl rfl rfl rfl ?_
  refine on_bipush (pc' := 7) (v := 31) rfl rfl lb_31 ?_
  refine on_icmp_le (pc' := 10) (tgt := 12) rfl rfl rfl (fun cq => ?_) (fun cq => ?_)
  rotate_left
  · refine no _ ?_
    unfold q_seal
    rw [show p_i 32 x = none from if_neg (fun z => cq ((p_i_lt1 (n := 31) (by decide) x0).mp z.2))]
  have xl : x < nI 32 := (p_i_lt1 (n := 31) (by decide) x0).mpr cq
  clear cq
  have ep : p_i 32 x = some x.toNatClampNeg := if_pos ⟨x0, xl⟩
  obtain ⟨n, hn, en, -, ec, -⟩ := pk_mu (L := 32) x0 (Int32.not_le.mpr xl) (by decide)
  rw [ec] at ep
  have eq : q_seal a x = nI (sp_d (ht_m a.r a.nr 6) n) := by
    unfold q_seal
    rw [ep]
  subst en
  have sa := x1.sa
  obtain ⟨f0, g0, l0, s0⟩ := id sa
  first | refine on_aload_n (pc' := 13) rfl rfl rfl rfl ?_ | refine on_aload_nQ (pc' := 13) rfl rfl rfl rfl ?_
  first | apply on_get (pc' := 16) rfl rfl fl_M_42 | apply on_getN (pc' := 16) rfl rfl fl_M_42
  · repeat (first | assumption | exact on_up_eq _ _ _ | refine (on_up_ne (by omega)).trans ?_)
  · rfl
  refine on_callV (pc' := 19) (As := []) (rest := []) (b := o + 8) rfl rfl cw_M_seal_161 (s0.1) rfl rfl (Nat.le_of_ble_eq_true rfl) (Nat.zero_le _) (Nat.zero_le _) (c_MSha_begin sa) ?_
  rintro v h1 sz ⟨rfl, rfl, X1, t1⟩
  have O1 : mo_O o (nI a.nr, nI a.nk, nI a.nc) h1 := x1.ob.keep (t1 _ (by omega)) (t1 _ (by omega))
  have o2 := O1.1
  first | refine on_aload_n (pc' := 20) rfl rfl rfl rfl ?_ | refine on_aload_nQ (pc' := 20) rfl rfl rfl rfl ?_
  refine on_bipush (pc' := 22) (v := 6) rfl rfl lb_6 ?_
  refine on_callV (pc' := 25) (As := [.int (nI 6)]) (rest := []) (b := o) rfl rfl cw_M_seal_172 (o2) rfl rfl (Nat.le_of_ble_eq_true rfl) (Nat.zero_le _) (Nat.zero_le _) (c_M_hashName (tag := 6) O1 X1 (by decide) (by decide)) ?_
  rintro v h2 sz ⟨rfl, rfl, X2, t2⟩
  have O2 : mo_O o (nI a.nr, nI a.nk, nI a.nc) h2 := O1.keep (t2 _ (by omega)) (t2 _ (by omega))
  rw [List.nil_append] at X2
  refine on_iconst (pc' := 26) (v := 0) rfl rfl li_0 ?_
  refine on_istore_n (pc' := 27) rfl rfl rfl (by decide) ?_
  refine on_relv (l := [(0, .ref o), (1, .int (nI n)), (2, .int (nI 0))]) ⟨rfl, rfl, rfl, trivial⟩ (msl_l X V (fun h3 O3 X3 t3 => ?_) a.nr 0 h2 (Nat.zero_add _) O2 X2 (t1.trans t2))
  obtain ⟨D, d1⟩ := x1.dg
  have d3 := (t3 (o + 18) (by omega)).trans d1
  have o3 := O3.1
  obtain ⟨f3, g3, X3', -⟩ := id X3
  have hn2 : n < 32 ∧ 32 < 2 ^ 31 := ⟨hn, by decide⟩
  first | refine on_aload_n (pc' := 109) rfl rfl rfl rfl ?_ | refine on_aload_nQ (pc' := 109) rfl rfl rfl rfl ?_
  first | apply on_get (pc' := 112) rfl rfl fl_M_42 | apply on_getN (pc' := 112) rfl rfl fl_M_42
  · repeat (first | assumption | exact on_up_eq _ _ _ | refine (on_up_ne (by omega)).trans ?_)
  · rfl
  first | refine on_aload_n (pc' := 113) rfl rfl rfl rfl ?_ | refine on_aload_nQ (pc' := 113) rfl rfl rfl rfl ?_
  first | apply on_get (pc' := 116) rfl rfl fl_M_55 | apply on_getN (pc' := 116) rfl rfl fl_M_55
  · repeat (first | assumption | exact on_up_eq _ _ _ | refine (on_up_ne (by omega)).trans ?_)
  · rfl
  refine on_iconst (pc' := 117) (v := 0) rfl rfl li_0 ?_
  first | refine on_aload_n (pc' := 118) rfl rfl rfl rfl ?_ | refine on_aload_nQ (pc' := 118) rfl rfl rfl rfl ?_
  first | apply on_get (pc' := 121) rfl rfl fl_M_52 | apply on_getN (pc' := 121) rfl rfl fl_M_52
  · repeat (first | assumption | exact on_up_eq _ _ _ | refine (on_up_ne (by omega)).trans ?_)
  · rfl
  refine on_callV (pc' := 124) (As := [.ref (o + 18), .int 0, .ref (o + 17)]) (rest := []) (b := o + 8) rfl rfl cw_M_seal_164 (X3'.1) rfl rfl (Nat.le_of_ble_eq_true rfl) (Nat.zero_le _) (Nat.zero_le _) (c_MSha_end X3 (by have := ht_len (rs := a.r) (nr := a.nr) 6; omega) O3.2 (by omega) d3 (by omega)) ?_
  rintro v h4 sz ⟨rfl, rfl, S4, d4, t4⟩
  have o4 := (t4 o (by omega) (by omega)).trans o3
  have T : ∀ b, b ≠ o + 18 → (b < o + 8 ∨ o + 11 ≤ b) → h4 b = h b := fun b b1 b2 => (t4 b b1 (by omega)).trans (t3 b b2)
  first | refine on_aload_n (pc' := 125) rfl rfl rfl rfl ?_ | refine on_aload_nQ (pc' := 125) rfl rfl rfl rfl ?_
  first | apply on_get (pc' := 128) rfl rfl fl_M_55 | apply on_getN (pc' := 128) rfl rfl fl_M_55
  · repeat (first | assumption | exact on_up_eq _ _ _ | refine (on_up_ne (by omega)).trans ?_)
  · rfl
  refine on_iload_n (pc' := 129) rfl rfl rfl rfl ?_
  apply on_ialoadK (pc' := 130) (t := 0) rfl rfl
  · repeat (first | assumption | exact on_up_eq _ _ _ | refine (on_up_ne (by omega)).trans ?_)
  · rfl
  · first | assumption | exact on_lit _ | rfl
  · first | assumption | omega | decide
  refine on_ireturn rfl rfl ?_
  rw [on_tk_lt hn, eq]
  obtain ⟨Y, fr⟩ := X.wk (lk2 := a.lk) (h1 := h4) (x1.has (q := o + 20) S4 (x1.si.keep (fun b _ _ => T b (by omega) (by omega))) (x1.st.keep (fun b _ _ => T b (by omega) (by omega))) ⟨_, d4⟩ (x1.ky.keep (T _ (by omega) (by omega))) (fun _ _ => by rw [show o + 20 - o = 20 by omega]; exact x1.tx.keep (T _ (by omega) (by omega))) (by omega) (fun b _ b2 b3 _ => T b b3 (by omega))) (X.2.1.keep (T _ (by omega) (by omega)) (T _ (by omega) (by omega))) (fun b hb => T b (by omega) (by omega))
  exact ⟨rfl, rfl, Y, fr⟩
end MCL
