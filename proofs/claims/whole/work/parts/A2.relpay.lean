/-! a Relay: sendExtended, extendEntry, beginStream -/
/-- the class's number of a place -/
theorem en_U.fwbw {e tr : Nat} {x : aE} {h : on_H} (k : en_U e tr x h) : la_A (e + 5) tr x.fw h ∧ la_A (e + 13) tr x.bw h := by
  obtain ⟨onn, S, V, W, C, k1, k2, k3, k4, k5⟩ := k
  exact ⟨k4, k5⟩
/-- the backward direction of an entry is changed -/
theorem en_U.bw {e tr : Nat} {x : aE} {h h2 : on_H} {l : aL} (k : en_U e tr x h) (kl : la_A (e + 13) tr l h2) (q : ∀ a, e ≤ a → a < e + 13 → h2 a = h a) : en_U e tr (x.fr, x.fn, x.on, x.wt, x.fw, l, x.st) h2 := by
  obtain ⟨onn, S, V, W, C, k1, k2, k3, k4, k5⟩ := k
  exact ⟨onn, S, V, W, C, k1.keep (fun a h1 h2 => q a (by omega) (by omega)), k2, k3, k4.keep (fun a h1 h2 => q a (by omega) (by omega)), kl⟩
theorem en_U.fw {e tr : Nat} {x : aE} {h h2 : on_H} {l : aL} (k : en_U e tr x h) (kl : la_A (e + 5) tr l h2) (q : ∀ a, e ≤ a → a < e + 21 → (a < e + 5 ∨ e + 13 ≤ a) → h2 a = h a) : en_U e tr (x.fr, x.fn, x.on, x.wt, l, x.bw, x.st) h2 := by
  obtain ⟨onn, S, V, W, C, k1, k2, k3, k4, k5⟩ := k
  exact ⟨onn, S, V, W, C, k1.keep (fun a h1 h2 => q a (by omega) (by omega) (by omega)), k2, k3, kl, k5.keep (fun a h1 h2 => q a (by omega) (by omega) (by omega))⟩
section RPY
variable {G : on_G} {a ot hs nm u q s sz : Nat} {r : aR} {h : on_H} {x y : aB} {e : aE}
/-- an entry of a Relay in use -/
theorem rl_S.us (R : rl_S a ot hs nm r h) (hs12 : s < 12) (he : r.en s = some e) : en_U (a + 8 + 21 * s) (hs + 4) e h := by
  have := R.2.2.2.2.2.1.2 s hs12
  rw [he] at this
  exact this
set_option maxHeartbeats 16000000 in
theorem c_sendExtended (hd : hs + 29 ≤ u ∧ u + 8 ≤ q ∧ q < a) (R : rl_S a ot hs nm r h) (H : hk_W hs h) (O : ob_E u h) (hq : rB h q 140 x) (s12 : s < 12) (he : r.en s = some e) (hL : e.bw.ms.length + 540 < 2 ^ 28) :
    on_Ct G M_Relay_sendExtended [.ref a, .ref (a + 8 + 21 * s), .ref q, .ref u] h sz 0 0 (fun v h1 z => v = none ∧ z = sz ∧ ry_P a ot hs nm u q (r_en r (fu r.en s (some (e_bk (e.fr, e.fn, e.on, false, e.fw, e.bw, e.st) 15 0 64 (fun j => x (5 + j))).1)), [(e_bk (e.fr, e.fn, e.on, false, e.fw, e.bw, e.st) 15 0 64 (fun j => x (5 + j))).2]) h h1) := by
  obtain ⟨onn, S, V, W, C, b, hon, hst, LF, LB⟩ := R.us s12 he
  have b0 := b.1
  refine on_Ct.of (by decide) v_Relay_sendExtended (Nat.le_of_ble_eq_true rfl) ?_
  first | refine on_aload_n (pc' := 1) rfl rfl rfl rfl ?_ | refine on_aload_nQ (pc' := 1) rfl rfl rfl rfl ?_
  refine on_iconst (pc' := 2) (v := 0) rfl rfl li_0 ?_
  first | apply on_put (pc' := 5) rfl rfl fp_Relay_73 | apply on_putN (pc' := 5) rfl rfl fp_Relay_73
  · repeat (first | assumption | exact on_up_eq _ _ _ | refine (on_up_ne (by omega)).trans ?_)
  · first | rfl | assumption
  · first | rfl | assumption
  · exact Nat.le_of_ble_eq_true rfl
  first | refine on_aload_n (pc' := 6) rfl rfl rfl rfl ?_ | refine on_aload_nQ (pc' := 6) rfl rfl rfl rfl ?_
  first | refine on_aload_n (pc' := 7) rfl rfl rfl rfl ?_ | refine on_aload_nQ (pc' := 7) rfl rfl rfl rfl ?_
  first | apply on_get (pc' := 10) rfl rfl fl_Relay_93 | apply on_getN (pc' := 10) rfl rfl fl_Relay_93
  · repeat (first | assumption | exact on_up_eq _ _ _ | refine (on_up_ne (by omega)).trans ?_)
  · rfl
  first | refine on_aload_n (pc' := 11) rfl rfl rfl rfl ?_ | refine on_aload_nQ (pc' := 11) rfl rfl rfl rfl ?_
  first | apply on_get (pc' := 14) rfl rfl fl_Relay_96 | apply on_getN (pc' := 14) rfl rfl fl_Relay_96
  · repeat (first | assumption | exact on_up_eq _ _ _ | refine (on_up_ne (by omega)).trans ?_)
  · rfl
  refine on_bipush (pc' := 16) (v := 15) rfl rfl lb_15 ?_
  refine on_iconst (pc' := 17) (v := 0) rfl rfl li_0 ?_
  refine on_bipush (pc' := 19) (v := 64) rfl rfl lb_64 ?_
  have O1 : ob_S u 0 (fun _ _ => 0) (fun _ => 0) (fun _ => false) (on_up h (a + 8 + 21 * s) (.inr (7, [.ref (a + 8 + 21 * s + 5), .ref (a + 8 + 21 * s + 13), .ref (a + 8 + 21 * s + 1), .ref (a + 8 + 21 * s + 2), .ref (a + 8 + 21 * s + 3), .ref (a + 8 + 21 * s + 4), .int (nI e.st.length), .int (nI e.fr), .int e.fn, .int (oI e.on), .int onn, .int 1, .int 0]))) := ob_S.keep O (fun b _ _ => on_up_ne (by omega))
  refine on_callV (pc' := 22) (As := [.int (nI e.fr), .int e.fn, .int (nI 15), .int (nI 0), .int (nI 64)]) (rest := []) (b := u) rfl rfl cw_Relay_sendExtended_145 (O1.1) rfl rfl (Nat.le_of_ble_eq_true rfl) (Nat.zero_le _) (Nat.zero_le _) (c_addPlain O1 (by decide) (by decide) (by decide) (by decide)) ?_
  rintro v h1 sz ⟨rfl, rfl, O2, t1⟩
  have T1 : ∀ b, (b < u ∨ u + 8 ≤ b) → b ≠ a + 8 + 21 * s → h1 b = h b := fun b b1 b2 => (t1 b b1).trans (on_up_ne b2)
  have b1 := (t1 (a + 8 + 21 * s) (by omega)).trans (on_up_eq _ _ _)
  obtain ⟨X, q1, X'⟩ := hq.keep (h2 := h1) (T1 q (by omega) (by omega))
  obtain ⟨F, f1, F'⟩ := rB.ite (O2.2.2.1 0 (by decide)) (by decide)
  rw [fu_s] at F'
  first | refine on_astore (pc' := 24) rfl rfl (by decide) ?_ | refine on_astoreQ (pc' := 24) rfl rfl (by decide) ?_
  first | refine on_aload_n (pc' := 25) rfl rfl rfl rfl ?_ | refine on_aload_nQ (pc' := 25) rfl rfl rfl rfl ?_
  refine on_iconst (pc' := 26) (v := 5) rfl rfl li_5 ?_
  first | refine on_aload (pc' := 28) rfl rfl rfl ?_ | refine on_aloadQ (pc' := 28) rfl rfl rfl ?_
  refine on_bipush (pc' := 30) (v := 16) rfl rfl lb_16 ?_
  refine on_bipush (pc' := 32) (v := 64) rfl rfl lb_64 ?_
  apply on_acopy (pc' := 35) (i0 := 5) (j0 := 16) (k0 := 64) rfl rfl jm_Relay_149 (Nat.le_of_ble_eq_true rfl) (Nat.le_of_ble_eq_true rfl)
  · repeat (first | assumption | exact on_up_eq _ _ _ | refine (on_up_ne (by omega)).trans ?_)
  · repeat (first | assumption | exact on_up_eq _ _ _ | refine (on_up_ne (by omega)).trans ?_)
  · first | assumption | exact on_lit _ | rfl
  · first | assumption | exact on_lit _ | rfl
  · first | assumption | exact on_lit _ | rfl
  · first | assumption | omega | decide
  · first | assumption | omega | decide
  first | refine on_aload_n (pc' := 36) rfl rfl rfl rfl ?_ | refine on_aload_nQ (pc' := 36) rfl rfl rfl rfl ?_
  first | refine on_aload_n (pc' := 37) rfl rfl rfl rfl ?_ | refine on_aload_nQ (pc' := 37) rfl rfl rfl rfl ?_
  first | apply on_get (pc' := 40) rfl rfl fl_Relay_83 | apply on_getN (pc' := 40) rfl rfl fl_Relay_83
  · repeat (first | assumption | exact on_up_eq _ _ _ | refine (on_up_ne (by omega)).trans ?_)
  · rfl
  have O3 := O2.row (k := 0) (y := pl_c e.fn 15 0 64 (fun j => x (5 + j))) (h2 := on_up h1 (u + 2 + 0) (on_ai 0 140 (va_cpy X F 5 16 64))) (by decide) (by decide) ⟨_, on_up_eq _ _ _, pl_dat F' (fun j hj => X' (5 + j) (by omega))⟩ (fun a h1 h2 h3 => on_up_ne h3)
  have T2 : ∀ b, (b < u ∨ u + 8 ≤ b) → b ≠ a + 8 + 21 * s → on_up h1 (u + 2 + 0) (on_ai 0 140 (va_cpy X F 5 16 64)) b = h b := fun b b1 b2 => (on_up_ne (by omega)).trans (T1 b b1 b2)
  have LB2 := LB.keep (h2 := on_up h1 (u + 2 + 0) (on_ai 0 140 (va_cpy X F 5 16 64))) (fun b _ _ => T2 b (by omega) (by omega))
  refine on_callV (pc' := 43) (As := [.ref (a + 8 + 21 * s + 13)]) (rest := []) (b := u) rfl rfl cw_Relay_sendExtended_155 (O3.1) rfl rfl (Nat.le_of_ble_eq_true rfl) (Nat.zero_le _) (Nat.zero_le _) (c_sealAll (l := e.bw) O3 (by decide) LB2 (H.tr.keep (fun b _ _ => T2 b (by omega) (by omega))) (by omega) (by omega) (by omega) (by omega)) ?_
  rintro v h2 sz ⟨rfl, rfl, O4, L4, W4, t4⟩
  refine on_vreturn rfl rfl ?_
  have T4 : ∀ b, (b < u ∨ u + 8 ≤ b) → b ≠ a + 8 + 21 * s → (b < a + 8 + 21 * s + 13 ∨ a + 8 + 21 * s + 13 + 8 ≤ b) → (b < hs + 4 ∨ hs + 4 + 3 ≤ b) → h2 b = h b := fun b b1 b2 b3 b4 => (t4 b b1 b3 b4).trans (T2 b b1 b2)
  obtain ⟨M1, M2⟩ := sea_P (u := u) (l := e.bw) (L := [(e.fr, pl_c e.fn 15 0 64 (fun j => x (5 + j)), true)]) (Nat.le_succ 1) (fun i (hi : i < 1) => by obtain rfl : i = 0 := (by omega); rw [fu_s, fu_s, fu_s]; rfl) O4
  refine ⟨rfl, rfl, R.ent s12 ?_ (fun b b1 b2 b3 => T4 b (by omega) (by omega) (by omega) (by omega)), H.tru W4 (fun b b1 b2 b3 => T4 b (by omega) (by omega) (by omega) (by omega)), M1.to (ao_c (fun j hj => sg_pl_c hj) ao_0), hq.w.keep (T4 _ (by omega) (by omega) (by omega) (by omega)), fun b b1 b2 b3 b4 => T4 b b3 (by omega) (by omega) (by omega)⟩
  have L5 : la_A (a + 8 + 21 * s + 13) (hs + 4) (bk_l e.bw 15 0 64 (fun j => x (5 + j))) h2 := by
    rw [← sg_pl_l (num := e.fn)]
    exact (congrArg (fun l => la_A (a + 8 + 21 * s + 13) (hs + 4) l h2) M2).mp L4
  exact ⟨onn, S, V, W, C, ⟨(t4 _ (by omega) (by omega) (by omega)).trans ((on_up_ne (by omega)).trans b1), (T4 _ (by omega) (by omega) (by omega) (by omega)).trans b.2.1, (T4 _ (by omega) (by omega) (by omega) (by omega)).trans b.2.2.1, (T4 _ (by omega) (by omega) (by omega) (by omega)).trans b.2.2.2.1, (T4 _ (by omega) (by omega) (by omega) (by omega)).trans b.2.2.2.2⟩, hon, hst, LF.keep (fun b _ _ => T4 b (by omega) (by omega) (by omega) (by omega)), L5⟩
/-- a cell gets a payload of n bytes -/
theorem ce_dat {F X : Nat → Int32} {num : Int32} {cmd n i0 : Nat} {d : Nat → Nat} (hF : on_by F (ce_k num cmd (fun _ => 0) 0) 140) (hX : ∀ j, j < n → X (i0 + j) = nI (d j) ∧ d j < 256) : on_by (va_cpy X F i0 5 n) (ce_k num cmd d n) 140 := fun i hi => by
  by_cases z : 5 ≤ i ∧ i < 5 + n
  · rw [pk_cpy_in z.1 z.2, (hX (i - 5) (by omega)).1, ce_k_in z.1 z.2]
    exact ⟨rfl, (hX (i - 5) (by omega)).2⟩
  · rw [pk_cpy_out (show i < 5 ∨ 5 + n ≤ i by omega)]
    have := hF i hi
    rw [show ce_k num cmd d n i = ce_k num cmd (fun _ => 0) 0 i from ?_]
    · exact this
    · unfold ce_k
      by_cases z4 : i < 4
      · rw [if_pos z4, if_pos z4]
      · rw [if_neg z4, if_neg z4]
        by_cases z5 : i = 4
        · rw [if_pos z5, if_pos z5]
        · rw [if_neg z5, if_neg z5, if_neg (by omega), if_neg (by omega)]
set_option maxHeartbeats 16000000 in
/-- extendEntry: the place of the Relays -/
theorem c_extendEntry {nr : Nat} {F : Nat → Option Nat} {kc w : Int32} {se_ : Int64} {dr : Int32} {nx e1 : Nat} (hnr : nr ≤ 6) (hnm : nm < 8) (hd : hs + 29 ≤ u ∧ u + 8 ≤ q ∧ q < a ∧ a + 3 ≤ e1) (hot : h ot = some (on_aq 4 6 F)) (hF : ∀ j, j < 6 → (j < nr → ∃ z, F j = some z) ∧ (¬ j < nr → F j = none)) (hw : ∀ p, e.on = some p → p.1 < 10) (ho : rl_O a ot hs kc w h) (N : nd_S (a + 1) (nI nm) se_ dr (nI nx) h) (E : en_U e1 (hs + 4) e h) (O : ob_E u h) (hq : rB h q 140 y) :
    on_Ct G M_Relay_extendEntry [.ref a, .ref e1, .ref q, .ref u] h sz 0 0 (fun v h1 z => z = sz ∧ (((y 14 * 256 + y 15 = 69 ∧ y 16 < nr ∧ y 16 ≠ nm ∧ e.on = none) ∧ v = some (.int 1) ∧ nd_S (a + 1) (nI nm) se_ dr (nI (nx + 1)) h1 ∧ en_U e1 (hs + 4) (e.fr, e.fn, some (y 16, nx), true, e.fw, e.bw, e.st) h1 ∧ ob_P u [(y 16, ce_k (nI nx) 10 (fun j => y (17 + j)) 68, false)] h1 ∧ ∀ b, b ≠ a + 1 → b ≠ e1 → (b < u ∨ u + 8 ≤ b) → h1 b = h b) ∨ (¬ (y 14 * 256 + y 15 = 69 ∧ y 16 < nr ∧ y 16 ≠ nm ∧ e.on = none) ∧ v = some (.int 0) ∧ h1 = h))) := by
  obtain ⟨X, q1, X'⟩ := id hq
  obtain ⟨onn, S, V, W, C, b, hon, hst, LF, LB⟩ := id E
  have b0 := b.1
  have o1 : h a = some (.inr (8, [.ref (a + 1), .ref ot, .ref hs, .ref (a + 3), .ref (a + 4), .ref (a + 5), .ref (a + 6), .ref (a + 7), .int kc, .int w])) := ho
  have n0 := N.1
  have x14 := X' 14 (by decide)
  have x15 := X' 15 (by decide)
  have x16 := X' 16 (by decide)
  have no : ¬ (y 14 * 256 + y 15 = 69 ∧ y 16 < nr ∧ y 16 ≠ nm ∧ e.on = none) → on_E G M_Relay_extendEntry 62 (on_l []) [] h sz 0 0 (fun v h1 z => z = sz ∧ (((y 14 * 256 + y 15 = 69 ∧ y 16 < nr ∧ y 16 ≠ nm ∧ e.on = none) ∧ v = some (.int 1) ∧ nd_S (a + 1) (nI nm) se_ dr (nI (nx + 1)) h1 ∧ en_U e1 (hs + 4) (e.fr, e.fn, some (y 16, nx), true, e.fw, e.bw, e.st) h1 ∧ ob_P u [(y 16, ce_k (nI nx) 10 (fun j => y (17 + j)) 68, false)] h1 ∧ ∀ b, b ≠ a + 1 → b ≠ e1 → (b < u ∨ u + 8 ≤ b) → h1 b = h b) ∨ (¬ (y 14 * 256 + y 15 = 69 ∧ y 16 < nr ∧ y 16 ≠ nm ∧ e.on = none) ∧ v = some (.int 0) ∧ h1 = h))) := fun hn => by
    refine on_iconst (pc' := 63) (v := 0) rfl rfl li_0 ?_
    refine on_zreturn rfl rfl ?_ ?_
    · first | rfl | assumption
    exact ⟨rfl, Or.inr ⟨hn, rfl, rfl⟩⟩
  refine on_Ct.of (by decide) v_Relay_extendEntry (Nat.le_of_ble_eq_true rfl) ?_
  first | refine on_aload_n (pc' := 1) rfl rfl rfl rfl ?_ | refine on_aload_nQ (pc' := 1) rfl rfl rfl rfl ?_
  refine on_bipush (pc' := 3) (v := 16) rfl rfl lb_16 ?_
  apply on_ialoadK (pc' := 4) (t := 0) (k := 16) rfl rfl
  · repeat (first | assumption | exact on_up_eq _ _ _ | refine (on_up_ne (by omega)).trans ?_)
  · rfl
  · first | assumption | exact on_lit _ | rfl
  · first | assumption | omega | decide
  rw [x16.1]
  refine on_istore (pc' := 6) rfl rfl (by decide) ?_
  first | refine on_aload_n (pc' := 7) rfl rfl rfl rfl ?_ | refine on_aload_nQ (pc' := 7) rfl rfl rfl rfl ?_
  refine on_bipush (pc' := 9) (v := 14) rfl rfl lb_14 ?_
  refine on_callS (pc' := 12) (As := [.ref q, .int (nI 14)]) (rest := []) rfl rfl cw_Relay_extendEntry_169 rfl rfl (Nat.le_of_ble_eq_true rfl) (Nat.zero_le _) (Nat.zero_le _) (c_pairAt (at_ := 14) q1 (by decide) x14.1 x15.1 x14.2 x15.2) ?_
  rintro v h sz ⟨rfl, rfl, rfl⟩
  refine on_bipush (pc' := 14) (v := 69) rfl rfl lb_69 ?_
  refine on_icmp_ne (pc' := 17) (tgt := 62) rfl rfl rfl (fun cq => ?_) (fun cq => ?_)
  · exact on_relv (l := []) trivial (no (fun z => cq (by rw [z.1]; rfl)))
  · have c69 : y 14 * 256 + y 15 = 69 := (nI_eq (a := y 14 * 256 + y 15) (b := 69) (by omega) (by decide)).mp cq
    clear cq
    first | refine on_aload_n (pc' := 18) rfl rfl rfl rfl ?_ | refine on_aload_nQ (pc' := 18) rfl rfl rfl rfl ?_
    first | apply on_get (pc' := 21) rfl rfl fl_Relay_112 | apply on_getN (pc' := 21) rfl rfl fl_Relay_112
    · repeat (first | assumption | exact on_up_eq _ _ _ | refine (on_up_ne (by omega)).trans ?_)
    · rfl
    refine on_iconst (pc' := 22) (v := (-1)) rfl rfl li_m1 ?_
    refine on_icmp_ne (pc' := 25) (tgt := 62) rfl rfl rfl (fun cq => ?_) (fun cq => ?_)
    · exact on_relv (l := []) trivial (no (fun z => cq (by rw [z.2.2.2]; rfl)))
    · have hO : e.on = none := by
        cases hO : e.on with
        | none => rfl
        | some p =>
          rw [hO] at cq
          exact absurd cq ((by decide : ∀ f, f < 10 → ¬ (nI f = (-1 : Int32))) _ (hw p hO))
      clear cq
      refine on_iload (pc' := 27) rfl rfl rfl ?_
      first | refine on_aload_n (pc' := 28) rfl rfl rfl rfl ?_ | refine on_aload_nQ (pc' := 28) rfl rfl rfl rfl ?_
      first | apply on_get (pc' := 31) rfl rfl fl_Relay_34 | apply on_getN (pc' := 31) rfl rfl fl_Relay_34
      · repeat (first | assumption | exact on_up_eq _ _ _ | refine (on_up_ne (by omega)).trans ?_)
      · rfl
      first | apply on_get (pc' := 34) rfl rfl fl_Relay_195 | apply on_getN (pc' := 34) rfl rfl fl_Relay_195
      · repeat (first | assumption | exact on_up_eq _ _ _ | refine (on_up_ne (by omega)).trans ?_)
      · rfl
      refine on_icmp_eq (pc' := 37) (tgt := 62) rfl rfl rfl (fun cq => ?_) (fun cq => ?_)
      · exact on_relv (l := []) trivial (no (fun z => z.2.2.1 ((nI_eq (a := y 16) (b := nm) (by omega) (by omega)).mp cq)))
      · have cne : y 16 ≠ nm := fun z => cq (by rw [z])
        clear cq
        refine on_iload (pc' := 39) rfl rfl rfl ?_
        refine on_if_lt (pc' := 42) (tgt := 62) rfl rfl rfl (fun cq => ?_) (fun cq => ?_)
        · exact absurd cq (nI_pos (by omega))
        · clear cq
          refine on_iload (pc' := 44) rfl rfl rfl ?_
          first | refine on_aload_n (pc' := 45) rfl rfl rfl rfl ?_ | refine on_aload_nQ (pc' := 45) rfl rfl rfl rfl ?_
          first | apply on_get (pc' := 48) rfl rfl fl_Relay_38 | apply on_getN (pc' := 48) rfl rfl fl_Relay_38
          · repeat (first | assumption | exact on_up_eq _ _ _ | refine (on_up_ne (by omega)).trans ?_)
          · rfl
          apply on_alenQ (pc' := 49) rfl rfl
          · repeat (first | assumption | exact on_up_eq _ _ _ | refine (on_up_ne (by omega)).trans ?_)
          · rfl
          refine on_icmp_ge (pc' := 52) (tgt := 62) rfl rfl rfl (fun cq => ?_) (fun cq => ?_)
          · have c8 : ¬ y 16 < 6 := fun z => absurd cq (nI_ge (b := 6) z (by decide))
            exact on_relv (l := []) trivial (no (fun z => by omega))
          · have c8 : y 16 < 6 ∧ 6 < 2 ^ 31 := by
              refine ⟨?_, by decide⟩
              rcases Nat.lt_or_ge (y 16) 6 with z | z
              · exact z
              · exact absurd (nI_le (a := 6) z (by omega)) cq
            clear cq
            first | refine on_aload_n (pc' := 53) rfl rfl rfl rfl ?_ | refine on_aload_nQ (pc' := 53) rfl rfl rfl rfl ?_
            first | apply on_get (pc' := 56) rfl rfl fl_Relay_38 | apply on_getN (pc' := 56) rfl rfl fl_Relay_38
            · repeat (first | assumption | exact on_up_eq _ _ _ | refine (on_up_ne (by omega)).trans ?_)
            · rfl
            refine on_iload (pc' := 58) rfl rfl rfl ?_
            apply on_aaloadK (pc' := 59) rfl rfl
            · repeat (first | assumption | exact on_up_eq _ _ _ | refine (on_up_ne (by omega)).trans ?_)
            · rfl
            · first | assumption | exact on_lit _ | rfl
            · first | assumption | omega | decide
            refine on_ifnonnull (pc' := 62) (tgt := 64) rfl rfl rfl (fun cx cq => ?_) (fun cq => ?_)
            · have cn : y 16 < nr := by
                rcases Nat.lt_or_ge (y 16) nr with z | z
                · exact z
                · exact absurd (((hF _ c8.1).2 (by omega)).symm.trans cq) (fun z => nomatch z)
              clear cq
              first | refine on_aload_n (pc' := 65) rfl rfl rfl rfl ?_ | refine on_aload_nQ (pc' := 65) rfl rfl rfl rfl ?_
              refine on_iload (pc' := 67) rfl rfl rfl ?_
              first | apply on_put (pc' := 70) rfl rfl fp_Relay_112 | apply on_putN (pc' := 70) rfl rfl fp_Relay_112
              · repeat (first | assumption | exact on_up_eq _ _ _ | refine (on_up_ne (by omega)).trans ?_)
              · first | rfl | assumption
              · first | rfl | assumption
              · exact Nat.le_of_ble_eq_true rfl
              first | refine on_aload_n (pc' := 71) rfl rfl rfl rfl ?_ | refine on_aload_nQ (pc' := 71) rfl rfl rfl rfl ?_
              first | refine on_aload_n (pc' := 72) rfl rfl rfl rfl ?_ | refine on_aload_nQ (pc' := 72) rfl rfl rfl rfl ?_
              first | apply on_get (pc' := 75) rfl rfl fl_Relay_34 | apply on_getN (pc' := 75) rfl rfl fl_Relay_34
              · repeat (first | assumption | exact on_up_eq _ _ _ | refine (on_up_ne (by omega)).trans ?_)
              · rfl
              first | apply on_get (pc' := 78) rfl rfl fl_Relay_200 | apply on_getN (pc' := 78) rfl rfl fl_Relay_200
              · repeat (first | assumption | exact on_up_eq _ _ _ | refine (on_up_ne (by omega)).trans ?_)
              · rfl
              first | apply on_put (pc' := 81) rfl rfl fp_Relay_115 | apply on_putN (pc' := 81) rfl rfl fp_Relay_115
              · repeat (first | assumption | exact on_up_eq _ _ _ | refine (on_up_ne (by omega)).trans ?_)
              · first | rfl | assumption
              · first | rfl | assumption
              · exact Nat.le_of_ble_eq_true rfl
              first | refine on_aload_n (pc' := 82) rfl rfl rfl rfl ?_ | refine on_aload_nQ (pc' := 82) rfl rfl rfl rfl ?_
              refine on_iconst (pc' := 83) (v := 1) rfl rfl li_1 ?_
              first | apply on_put (pc' := 86) rfl rfl fp_Relay_73 | apply on_putN (pc' := 86) rfl rfl fp_Relay_73
              · repeat (first | assumption | exact on_up_eq _ _ _ | refine (on_up_ne (by omega)).trans ?_)
              · first | rfl | assumption
              · first | rfl | assumption
              · exact Nat.le_of_ble_eq_true rfl
              first | refine on_aload_n (pc' := 87) rfl rfl rfl rfl ?_ | refine on_aload_nQ (pc' := 87) rfl rfl rfl rfl ?_
              first | apply on_get (pc' := 90) rfl rfl fl_Relay_34 | apply on_getN (pc' := 90) rfl rfl fl_Relay_34
              · repeat (first | assumption | exact on_up_eq _ _ _ | refine (on_up_ne (by omega)).trans ?_)
              · rfl
              refine on_dup (pc' := 91) rfl rfl rfl ?_
              first | apply on_get (pc' := 94) rfl rfl fl_Relay_200 | apply on_getN (pc' := 94) rfl rfl fl_Relay_200
              · repeat (first | assumption | exact on_up_eq _ _ _ | refine (on_up_ne (by omega)).trans ?_)
              · rfl
              refine on_iconst (pc' := 95) (v := 1) rfl rfl li_1 ?_
              refine on_iadd (pc' := 96) rfl rfl ?_
              first | apply on_put (pc' := 99) rfl rfl fp_Relay_200 | apply on_putN (pc' := 99) rfl rfl fp_Relay_200
              · repeat (first | assumption | exact on_up_eq _ _ _ | refine (on_up_ne (by omega)).trans ?_)
              · first | rfl | assumption
              · first | rfl | assumption
              · exact Nat.le_of_ble_eq_true rfl
              first | refine on_aload_n (pc' := 100) rfl rfl rfl rfl ?_ | refine on_aload_nQ (pc' := 100) rfl rfl rfl rfl ?_
              first | refine on_aload_n (pc' := 101) rfl rfl rfl rfl ?_ | refine on_aload_nQ (pc' := 101) rfl rfl rfl rfl ?_
              first | apply on_get (pc' := 104) rfl rfl fl_Relay_112 | apply on_getN (pc' := 104) rfl rfl fl_Relay_112
              · repeat (first | assumption | exact on_up_eq _ _ _ | refine (on_up_ne (by omega)).trans ?_)
              · rfl
              first | refine on_aload_n (pc' := 105) rfl rfl rfl rfl ?_ | refine on_aload_nQ (pc' := 105) rfl rfl rfl rfl ?_
              first | apply on_get (pc' := 108) rfl rfl fl_Relay_115 | apply on_getN (pc' := 108) rfl rfl fl_Relay_115
              · repeat (first | assumption | exact on_up_eq _ _ _ | refine (on_up_ne (by omega)).trans ?_)
              · rfl
              refine on_bipush (pc' := 110) (v := 10) rfl rfl lb_10 ?_
              refine on_callV (pc' := 113) (As := [.int (nI (y 16)), .int (nI nx), .int (nI 10)]) (rest := []) (b := u) rfl rfl cw_Relay_extendEntry_126 ((on_up_ne (by omega)).trans ((on_up_ne (by omega)).trans ((on_up_ne (by omega)).trans ((on_up_ne (by omega)).trans O.1)))) rfl rfl (Nat.le_of_ble_eq_true rfl) (Nat.zero_le _) (Nat.zero_le _) (c_addCell (ob_S.keep O (fun b _ _ => (on_up_ne (by omega)).trans ((on_up_ne (by omega)).trans ((on_up_ne (by omega)).trans (on_up_ne (by omega)))))) (by decide) (by decide)) ?_
              rintro v h1 sz ⟨rfl, rfl, O2, t1⟩
              have T1 : ∀ b, (b < u ∨ u + 8 ≤ b) → b ≠ a + 1 → b ≠ e1 → h1 b = h b := fun b b1 b2 b3 => (t1 b b1).trans ((on_up_ne b2).trans ((on_up_ne b3).trans ((on_up_ne b3).trans (on_up_ne b3))))
              have g1 := (t1 e1 (by omega)).trans ((on_up_ne (by omega)).trans (on_up_eq _ _ _))
              have g2 := (t1 (a + 1) (by omega)).trans (on_up_eq _ _ _)
              obtain ⟨Y, q2, Y'⟩ := hq.keep (h2 := h1) (T1 q (by omega) (by omega) (by omega))
              obtain ⟨A, f1, A'⟩ := rB.ite (O2.2.2.1 0 (by decide)) (by decide)
              rw [fu_s] at A'
              first | refine on_astore (pc' := 115) rfl rfl (by decide) ?_ | refine on_astoreQ (pc' := 115) rfl rfl (by decide) ?_
              first | refine on_aload_n (pc' := 116) rfl rfl rfl rfl ?_ | refine on_aload_nQ (pc' := 116) rfl rfl rfl rfl ?_
              refine on_bipush (pc' := 118) (v := 17) rfl rfl lb_17 ?_
              first | refine on_aload (pc' := 120) rfl rfl rfl ?_ | refine on_aloadQ (pc' := 120) rfl rfl rfl ?_
              refine on_iconst (pc' := 121) (v := 5) rfl rfl li_5 ?_
              refine on_bipush (pc' := 123) (v := 68) rfl rfl lb_68 ?_
              apply on_acopy (pc' := 126) (i0 := 17) (j0 := 5) (k0 := 68) rfl rfl jm_Relay_149 (Nat.le_of_ble_eq_true rfl) (Nat.le_of_ble_eq_true rfl)
              · repeat (first | assumption | exact on_up_eq _ _ _ | refine (on_up_ne (by omega)).trans ?_)
              · repeat (first | assumption | exact on_up_eq _ _ _ | refine (on_up_ne (by omega)).trans ?_)
              · first | assumption | exact on_lit _ | rfl
              · first | assumption | exact on_lit _ | rfl
              · first | assumption | exact on_lit _ | rfl
              · first | assumption | omega | decide
              · first | assumption | omega | decide
              refine on_iconst (pc' := 127) (v := 1) rfl rfl li_1 ?_
              refine on_zreturn rfl rfl ?_ ?_
              · first | rfl | assumption
              have O3 := O2.row (k := 0) (y := ce_k (nI nx) 10 (fun j => y (17 + j)) 68) (h2 := on_up h1 (u + 2 + 0) (on_ai 0 140 (va_cpy Y A 17 5 68))) (by decide) (by decide) ⟨_, on_up_eq _ _ _, ce_dat A' (fun j hj => Y' (17 + j) (by omega))⟩ (fun a h1 h2 h3 => on_up_ne h3)
              have T2 : ∀ b, (b < u ∨ u + 8 ≤ b) → b ≠ a + 1 → b ≠ e1 → on_up h1 (u + 2 + 0) (on_ai 0 140 (va_cpy Y A 17 5 68)) b = h b := fun b b1 b2 b3 => (on_up_ne (by omega)).trans (T1 b b1 b2 b3)
              refine ⟨rfl, Or.inl ⟨⟨c69, cn, cne, hO⟩, rfl, ⟨(on_up_ne (by omega)).trans (g2.trans ?_), N.2.keep (T2 _ (by omega) (by omega) (by omega))⟩, ⟨nI nx, S, V, W, C, ⟨(on_up_ne (by omega)).trans (g1.trans rfl), (T2 _ (by omega) (by omega) (by omega)).trans b.2.1, (T2 _ (by omega) (by omega) (by omega)).trans b.2.2.1, (T2 _ (by omega) (by omega) (by omega)).trans b.2.2.2.1, (T2 _ (by omega) (by omega) (by omega)).trans b.2.2.2.2⟩, (fun p hp => by rw [← Option.some.inj hp]), hst, LF.keep (fun b _ _ => T2 b (by omega) (by omega) (by omega)), LB.keep (fun b _ _ => T2 b (by omega) (by omega) (by omega))⟩, ⟨_, _, _, O3, fun i (hi : i < 1) => by obtain rfl : i = 0 := (by omega); rw [fu_s, fu_s, fu_s]; rfl⟩, fun b b1 b2 b3 => T2 b b3 b1 b2⟩⟩
              rw [show nI nx + 1 = nI (nx + 1) from nI_1 nx]
              rfl
            · exact on_relv (l := []) trivial (no (fun z => by
                obtain ⟨w, hw⟩ := (hF _ c8.1).1 z.2.1
                exact nomatch hw.symm.trans cq))
theorem mk_c0 {cmd s : Nat} {d d2 : Nat → Nat} : mk_c cmd s 0 d = mk_c cmd s 0 d2 := by
  funext i
  unfold mk_c
  rw [if_neg (fun z : 16 ≤ i ∧ i < 16 + 0 => by omega), if_neg (fun z : 16 ≤ i ∧ i < 16 + 0 => by omega)]
set_option maxHeartbeats 16000000 in
/-- beginStream -/
theorem c_beginStream {e1 si : Nat} (hid : si < 65536) (hd : u + 8 ≤ q ∧ q < e1) (E : en_U e1 (hs + 4) e h) (O : ob_E u h) (hq : rB h q 140 y) :
    on_Ct G M_Relay_beginStream [.ref a, .ref e1, .int (nI si), .ref q, .ref u] h sz 0 0 (fun v h1 z => z = sz ∧ (((y 14 * 256 + y 15 = 1 ∧ e.st.length < 4 ∧ (y 16 = 1 ∨ y 16 = 2)) ∧ v = some (.int 1) ∧ en_U e1 (hs + 4) (e.fr, e.fn, e.on, e.wt, e.fw, e.bw, e.st ++ [(si, y 16, 4, 0)]) h1 ∧ ob_P u [(e.fr, pl_c e.fn 4 si 0 (fun _ => 0), true)] h1 ∧ ∀ b, (b < e1 ∨ e1 + 5 ≤ b) → (b < u ∨ u + 8 ≤ b) → h1 b = h b) ∨ ((y 14 * 256 + y 15 = 1 ∧ ¬ (e.st.length < 4 ∧ (y 16 = 1 ∨ y 16 = 2))) ∧ v = some (.int 1) ∧ en_U e1 (hs + 4) e h1 ∧ ob_P u [(e.fr, pl_c e.fn 3 si 0 (fun _ => 0), true)] h1 ∧ ∀ b, (b < e1 ∨ e1 + 5 ≤ b) → (b < u ∨ u + 8 ≤ b) → h1 b = h b) ∨ (¬ y 14 * 256 + y 15 = 1 ∧ v = some (.int 0) ∧ h1 = h))) := by
  obtain ⟨X, q1, X'⟩ := id hq
  obtain ⟨onn, S, V, W, C, b, hon, hst, LF, LB⟩ := id E
  have b0 := b.1
  have x14 := X' 14 (by decide)
  have x15 := X' 15 (by decide)
  have x16 := X' 16 (by decide)
  refine on_Ct.of (by decide) v_Relay_beginStream (Nat.le_of_ble_eq_true rfl) ?_
  first | refine on_aload_n (pc' := 1) rfl rfl rfl rfl ?_ | refine on_aload_nQ (pc' := 1) rfl rfl rfl rfl ?_
  refine on_bipush (pc' := 3) (v := 14) rfl rfl lb_14 ?_
  refine on_callS (pc' := 6) (As := [.ref q, .int (nI 14)]) (rest := []) rfl rfl cw_Relay_beginStream_169 rfl rfl (Nat.le_of_ble_eq_true rfl) (Nat.zero_le _) (Nat.zero_le _) (c_pairAt (at_ := 14) q1 (by decide) x14.1 x15.1 x14.2 x15.2) ?_
  rintro v h sz ⟨rfl, rfl, rfl⟩
  have no : (y 14 * 256 + y 15 = 1 ∧ ¬ (e.st.length < 4 ∧ (y 16 = 1 ∨ y 16 = 2))) → on_E G M_Relay_beginStream 44 (on_l [(1, .ref e1), (2, .int (nI si)), (4, .ref u)]) [] h sz 0 0 (fun v h1 z => z = sz ∧ (((y 14 * 256 + y 15 = 1 ∧ e.st.length < 4 ∧ (y 16 = 1 ∨ y 16 = 2)) ∧ v = some (.int 1) ∧ en_U e1 (hs + 4) (e.fr, e.fn, e.on, e.wt, e.fw, e.bw, e.st ++ [(si, y 16, 4, 0)]) h1 ∧ ob_P u [(e.fr, pl_c e.fn 4 si 0 (fun _ => 0), true)] h1 ∧ ∀ b, (b < e1 ∨ e1 + 5 ≤ b) → (b < u ∨ u + 8 ≤ b) → h1 b = h b) ∨ ((y 14 * 256 + y 15 = 1 ∧ ¬ (e.st.length < 4 ∧ (y 16 = 1 ∨ y 16 = 2))) ∧ v = some (.int 1) ∧ en_U e1 (hs + 4) e h1 ∧ ob_P u [(e.fr, pl_c e.fn 3 si 0 (fun _ => 0), true)] h1 ∧ ∀ b, (b < e1 ∨ e1 + 5 ≤ b) → (b < u ∨ u + 8 ≤ b) → h1 b = h b) ∨ (¬ y 14 * 256 + y 15 = 1 ∧ v = some (.int 0) ∧ h1 = h))) := fun hn => by
    refine on_iconst (pc' := 45) (v := 0) rfl rfl li_0 ?_
    refine on_istore (pc' := 47) rfl rfl (by decide) ?_
    first | refine on_aload (pc' := 49) rfl rfl rfl ?_ | refine on_aloadQ (pc' := 49) rfl rfl rfl ?_
    first | refine on_aload_n (pc' := 50) rfl rfl rfl rfl ?_ | refine on_aload_nQ (pc' := 50) rfl rfl rfl rfl ?_
    first | apply on_get (pc' := 53) rfl rfl fl_Relay_93 | apply on_getN (pc' := 53) rfl rfl fl_Relay_93
    · repeat (first | assumption | exact on_up_eq _ _ _ | refine (on_up_ne (by omega)).trans ?_)
    · rfl
    first | refine on_aload_n (pc' := 54) rfl rfl rfl rfl ?_ | refine on_aload_nQ (pc' := 54) rfl rfl rfl rfl ?_
    first | apply on_get (pc' := 57) rfl rfl fl_Relay_96 | apply on_getN (pc' := 57) rfl rfl fl_Relay_96
    · repeat (first | assumption | exact on_up_eq _ _ _ | refine (on_up_ne (by omega)).trans ?_)
    · rfl
    refine on_iload (pc' := 59) rfl rfl rfl ?_
    refine on_if_eq (pc' := 62) (tgt := 66) rfl rfl rfl (fun cq => ?_) (fun cq => ?_)
    · refine on_iconst (pc' := 67) (v := 3) rfl rfl li_3 ?_
      refine on_iload_n (pc' := 68) rfl rfl rfl rfl ?_
      refine on_iconst (pc' := 69) (v := 0) rfl rfl li_0 ?_
      refine on_callV (pc' := 72) (As := [.int (nI e.fr), .int e.fn, .int (nI 3), .int (nI si), .int (nI 0)]) (rest := []) (b := u) rfl rfl cw_Relay_beginStream_145 (O.1) rfl rfl (Nat.le_of_ble_eq_true rfl) (Nat.zero_le _) (Nat.zero_le _) (c_addPlain O (by decide) (by decide) hid (by decide)) ?_
      rintro v h1 sz ⟨rfl, rfl, O2, t1⟩
      refine on_pop (pc' := 73) rfl rfl rfl ?_
      refine on_iconst (pc' := 74) (v := 1) rfl rfl li_1 ?_
      refine on_zreturn rfl rfl ?_ ?_
      · first | rfl | assumption
      exact ⟨rfl, Or.inr (Or.inl ⟨hn, rfl, E.keep (fun b _ _ => t1 b (by omega)), ⟨_, _, _, O2, fun i (hi : i < 1) => by obtain rfl : i = 0 := (by omega); rw [fu_s, fu_s, fu_s]; rfl⟩, fun b b1 b2 => t1 b b2⟩)⟩
    · exact absurd rfl cq
  refine on_iconst (pc' := 7) (v := 1) rfl rfl li_1 ?_
  refine on_icmp_eq (pc' := 10) (tgt := 12) rfl rfl rfl (fun cq => ?_) (fun cq => ?_)
  rotate_left
  · refine on_iconst (pc' := 11) (v := 0) rfl rfl li_0 ?_
    refine on_zreturn rfl rfl ?_ ?_
    · first | rfl | assumption
    exact ⟨rfl, Or.inr (Or.inr ⟨fun z => cq (by rw [z]; rfl), rfl, rfl⟩)⟩
  · have c1 : y 14 * 256 + y 15 = 1 := (nI_eq (a := y 14 * 256 + y 15) (b := 1) (by omega) (by decide)).mp cq
    clear cq
    have yes : (y 16 = 1 ∨ y 16 = 2) → on_E G M_Relay_beginStream 30 (on_l [(1, .ref e1), (2, .int (nI si)), (4, .ref u), (5, .int (nI (y 16)))]) [] h sz 0 0 (fun v h1 z => z = sz ∧ (((y 14 * 256 + y 15 = 1 ∧ e.st.length < 4 ∧ (y 16 = 1 ∨ y 16 = 2)) ∧ v = some (.int 1) ∧ en_U e1 (hs + 4) (e.fr, e.fn, e.on, e.wt, e.fw, e.bw, e.st ++ [(si, y 16, 4, 0)]) h1 ∧ ob_P u [(e.fr, pl_c e.fn 4 si 0 (fun _ => 0), true)] h1 ∧ ∀ b, (b < e1 ∨ e1 + 5 ≤ b) → (b < u ∨ u + 8 ≤ b) → h1 b = h b) ∨ ((y 14 * 256 + y 15 = 1 ∧ ¬ (e.st.length < 4 ∧ (y 16 = 1 ∨ y 16 = 2))) ∧ v = some (.int 1) ∧ en_U e1 (hs + 4) e h1 ∧ ob_P u [(e.fr, pl_c e.fn 3 si 0 (fun _ => 0), true)] h1 ∧ ∀ b, (b < e1 ∨ e1 + 5 ≤ b) → (b < u ∨ u + 8 ≤ b) → h1 b = h b) ∨ (¬ y 14 * 256 + y 15 = 1 ∧ v = some (.int 0) ∧ h1 = h))) := fun hy => by
      first | refine on_aload_n (pc' := 31) rfl rfl rfl rfl ?_ | refine on_aload_nQ (pc' := 31) rfl rfl rfl rfl ?_
      refine on_iload_n (pc' := 32) rfl rfl rfl rfl ?_
      refine on_iload (pc' := 34) rfl rfl rfl ?_
      refine on_callV (pc' := 37) (As := [.int (nI si), .int (nI (y 16))]) (rest := []) (b := e1) rfl rfl cw_Relay_beginStream_203 (b0) rfl rfl (Nat.le_of_ble_eq_true rfl) (Nat.zero_le _) (Nat.zero_le _) (c_Entry_addStream hid x16.2 b hst) ?_
      rintro v h1 sz ⟨rfl, t1, ⟨l4, rfl, S2, V2, W2, C2, b2, st2⟩ | ⟨l4, rfl, rfl⟩⟩
      · refine on_if_eq (pc' := 40) (tgt := 44) rfl rfl rfl (fun cq => ?_) (fun cq => ?_)
        · exact absurd cq (by decide)
        · clear cq
          have b3 := b2.1
          refine on_iconst (pc' := 41) (v := 1) rfl rfl li_1 ?_
          refine on_goto (tgt := 45) rfl rfl ?_
          refine on_istore (pc' := 47) rfl rfl (by decide) ?_
          first | refine on_aload (pc' := 49) rfl rfl rfl ?_ | refine on_aloadQ (pc' := 49) rfl rfl rfl ?_
          first | refine on_aload_n (pc' := 50) rfl rfl rfl rfl ?_ | refine on_aload_nQ (pc' := 50) rfl rfl rfl rfl ?_
          first | apply on_get (pc' := 53) rfl rfl fl_Relay_93 | apply on_getN (pc' := 53) rfl rfl fl_Relay_93
          · repeat (first | assumption | exact on_up_eq _ _ _ | refine (on_up_ne (by omega)).trans ?_)
          · rfl
          first | refine on_aload_n (pc' := 54) rfl rfl rfl rfl ?_ | refine on_aload_nQ (pc' := 54) rfl rfl rfl rfl ?_
          first | apply on_get (pc' := 57) rfl rfl fl_Relay_96 | apply on_getN (pc' := 57) rfl rfl fl_Relay_96
          · repeat (first | assumption | exact on_up_eq _ _ _ | refine (on_up_ne (by omega)).trans ?_)
          · rfl
          refine on_iload (pc' := 59) rfl rfl rfl ?_
          refine on_if_eq (pc' := 62) (tgt := 66) rfl rfl rfl (fun cq => ?_) (fun cq => ?_)
          · exact absurd cq (by decide)
          · clear cq
            refine on_iconst (pc' := 63) (v := 4) rfl rfl li_4 ?_
            refine on_goto (tgt := 67) rfl rfl ?_
            refine on_iload_n (pc' := 68) rfl rfl rfl rfl ?_
            refine on_iconst (pc' := 69) (v := 0) rfl rfl li_0 ?_
            refine on_callV (pc' := 72) (As := [.int (nI e.fr), .int e.fn, .int (nI 4), .int (nI si), .int (nI 0)]) (rest := []) (b := u) rfl rfl cw_Relay_beginStream_145 ((t1 u (by omega)).trans O.1) rfl rfl (Nat.le_of_ble_eq_true rfl) (Nat.zero_le _) (Nat.zero_le _) (c_addPlain (ob_S.keep O (fun b _ _ => t1 b (by omega))) (by decide) (by decide) hid (by decide)) ?_
            rintro v h2 sz ⟨rfl, rfl, O2, t2⟩
            refine on_pop (pc' := 73) rfl rfl rfl ?_
            refine on_iconst (pc' := 74) (v := 1) rfl rfl li_1 ?_
            refine on_zreturn rfl rfl ?_ ?_
            · first | rfl | assumption
            exact ⟨rfl, Or.inl ⟨⟨c1, l4, hy⟩, rfl, ⟨onn, S2, V2, W2, C2, b2.keep (fun b _ _ => t2 b (by omega)), hon, st2, LF.keep (fun b _ _ => (t2 b (by omega)).trans (t1 b (by omega))), LB.keep (fun b _ _ => (t2 b (by omega)).trans (t1 b (by omega)))⟩, ⟨_, _, _, O2, fun i (hi : i < 1) => by obtain rfl : i = 0 := (by omega); rw [fu_s, fu_s, fu_s]; rfl⟩, fun b b1 b2 => (t2 b b2).trans (t1 b b1)⟩⟩
      · refine on_if_eq (pc' := 40) (tgt := 44) rfl rfl rfl (fun cq => ?_) (fun cq => ?_)
        · exact on_relv (l := [(1, .ref e1), (2, .int (nI si)), (4, .ref u)]) ⟨rfl, rfl, rfl, trivial⟩ (no ⟨c1, fun z => l4 z.1⟩)
        · exact absurd rfl cq
    first | refine on_aload_n (pc' := 13) rfl rfl rfl rfl ?_ | refine on_aload_nQ (pc' := 13) rfl rfl rfl rfl ?_
    refine on_bipush (pc' := 15) (v := 16) rfl rfl lb_16 ?_
    apply on_ialoadK (pc' := 16) (t := 0) (k := 16) rfl rfl
    · repeat (first | assumption | exact on_up_eq _ _ _ | refine (on_up_ne (by omega)).trans ?_)
    · rfl
    · first | assumption | exact on_lit _ | rfl
    · first | assumption | omega | decide
    rw [x16.1]
    refine on_istore (pc' := 18) rfl rfl (by decide) ?_
    refine on_iload (pc' := 20) rfl rfl rfl ?_
    refine on_iconst (pc' := 21) (v := 1) rfl rfl li_1 ?_
    refine on_icmp_eq (pc' := 24) (tgt := 30) rfl rfl rfl (fun cq => ?_) (fun cq => ?_)
    · exact on_relv (l := [(1, .ref e1), (2, .int (nI si)), (4, .ref u), (5, .int (nI (y 16)))]) ⟨rfl, rfl, rfl, rfl, trivial⟩ (yes (Or.inl ((nI_eq (a := y 16) (b := 1) (by omega) (by decide)).mp cq)))
    · have n1 : ¬ y 16 = 1 := fun z => cq (by rw [z]; rfl)
      clear cq
      refine on_iload (pc' := 26) rfl rfl rfl ?_
      refine on_iconst (pc' := 27) (v := 2) rfl rfl li_2 ?_
      refine on_icmp_ne (pc' := 30) (tgt := 44) rfl rfl rfl (fun cq => ?_) (fun cq => ?_)
      · exact on_relv (l := [(1, .ref e1), (2, .int (nI si)), (4, .ref u)]) ⟨rfl, rfl, rfl, trivial⟩ (no ⟨c1, fun z => z.2.elim n1 (fun w => cq (by rw [w]; rfl))⟩)
      · exact on_relv (l := [(1, .ref e1), (2, .int (nI si)), (4, .ref u), (5, .int (nI (y 16)))]) ⟨rfl, rfl, rfl, rfl, trivial⟩ (yes (Or.inr ((nI_eq (a := y 16) (b := 2) (by omega) (by decide)).mp cq)))
end RPY
