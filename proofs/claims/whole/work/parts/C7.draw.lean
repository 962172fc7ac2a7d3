/-! OnionNet: a relay is drawn by its weight -/
/-- weights of those not yet drawn: D has a bit for each drawn one -/
def d_w (rs : Nat → aR) (D i : Nat) : Nat := if D / 2 ^ i % 2 = 0 then (rs i).we else 0
def d_t (rs : Nat → aR) (D : Nat) : Nat → Nat
  | 0 => 0
  | n + 1 => d_t rs D n + d_w rs D n
def d_p (rs : Nat → aR) (D n : Nat) : Nat → Bool := fun i => decide (n < d_t rs D (i + 1))
def d_r (rs : Nat → aR) (nr D b : Nat) : Option Nat := if d_t rs D nr = 0 then none else (List.range nr).find? (d_p rs D (b % d_t rs D nr))
theorem d_t_le {rs : Nat → aR} {D nr : Nat} (hw : ∀ i, i < nr → (rs i).we ≤ 1000) : ∀ n, n ≤ nr → d_t rs D n ≤ 1000 * n
  | 0, _ => Nat.le_refl 0
  | n + 1, h => by
    have := d_t_le (D := D) hw n (by omega)
    have w := hw n (by omega)
    show d_t rs D n + d_w rs D n ≤ 1000 * (n + 1)
    unfold d_w
    split <;> omega
section DRW
variable {G : on_G} {o sz nr D b ot hs bc bs : Nat} {cc kc : Int32} {ra : Nat → Nat} {rs : Nat → aR} {h : on_H} {Q : Option Value → on_H → Nat → Prop}
theorem dw_bit {s a : Nat} (hs : s < 8) (ha : a < 256) : (sh_u (nI a) (nI s) &&& 1 = 0) ↔ a / 2 ^ s % 2 = 0 := by
  rw [nI_sh s hs a ha, show (0 : Int32) = nI 0 from rfl]
  exact nI_eq (by omega) (by decide)
set_option maxHeartbeats 8000000 in
theorem drw_1 (hn : nr ≤ 6) (hD : D < 256) (hO : n_O o (nI nr) cc kc h) (hR : h (o + 1) = some (on_aq 4 6 (rf nr ra))) (hr : ∀ i, i < nr → rl_S (ra i) ot hs i (rs i) h) (hw : ∀ i, i < nr → (rs i).we ≤ 1000)
    (kk : on_E G M_N_drawnRelay 46 (on_l [(0, .ref o), (1, .int (nI b)), (2, .int (nI D)), (3, .int (nI (d_t rs D nr)))]) [] h sz bc bs Q) :
    ∀ (m i : Nat), i + m = nr → on_E G M_N_drawnRelay 5 (on_l [(0, .ref o), (1, .int (nI b)), (2, .int (nI D)), (3, .int (nI (d_t rs D i))), (4, .int (nI i))]) [] h sz bc bs Q := by
  have o1 : h o = some (.inr (11, [.ref (o + 1), .ref (o + 2), .ref (o + 3), .ref (o + 4), .ref (o + 5), .ref (o + 34), .ref (o + 42), .ref (o + 43), .int (nI nr), .int cc, .int kc])) := hO
  intro m
  induction m with
  | zero =>
    intro i hi
    obtain rfl : i = nr := by omega
    refine on_iload (pc' := 7) rfl rfl rfl ?_
    first | refine on_aload_n (pc' := 8) rfl rfl rfl rfl ?_ | refine on_aload_nQ (pc' := 8) rfl rfl rfl rfl ?_
    first | apply on_get (pc' := 11) rfl rfl fl_N_54 | apply on_getN (pc' := 11) rfl rfl fl_N_54
    · repeat (first | assumption | exact on_up_eq _ _ _ | refine (on_up_ne (by omega)).trans ?_)
    · rfl
    refine on_icmp_ge (pc' := 14) (tgt := 46) rfl rfl rfl (fun cq => ?_) (fun cq => ?_)
    · exact on_relv (l := [(0, .ref o), (1, .int (nI b)), (2, .int (nI D)), (3, .int (nI (d_t rs D i)))]) ⟨rfl, rfl, rfl, rfl, trivial⟩ kk
    · exact absurd (nI_le (a := i) (Nat.le_refl _) (by omega)) cq
  | succ m ih =>
    intro i hi
    have i6 : i < 6 ∧ 6 < 2 ^ 31 := by omega
    have eF : rf nr ra i = some (ra i) := if_pos (by omega)
    have R1 : h (ra i) = some (.inr (8, [.ref (ra i + 1), .ref ot, .ref hs, .ref (ra i + 3), .ref (ra i + 4), .ref (ra i + 5), .ref (ra i + 6), .ref (ra i + 7), .int (nI (rs i).ke.length), .int (nI (rs i).we)])) := (hr i (by omega)).1
    have next : ∀ lv v, d_w rs D i = v → lv 0 = some (.ref o) → lv 1 = some (.int (nI b)) → lv 2 = some (.int (nI D)) → lv 4 = some (.int (nI i)) → on_E G M_N_drawnRelay 38 lv [.int (nI v), .int (nI (d_t rs D i))] h sz bc bs Q := fun lv v e l0 l1 l2 l4 => by
      refine on_relv (l := [(0, .ref o), (1, .int (nI b)), (2, .int (nI D)), (4, .int (nI i))]) ⟨l0, l1, l2, l4, trivial⟩ ?_
      refine on_iadd (pc' := 39) rfl rfl ?_
      refine on_istore_n (pc' := 40) rfl rfl rfl (by decide) ?_
      refine on_iinc1 (pc' := 43) rfl rfl rfl ?_
      refine on_goto (tgt := 5) rfl rfl ?_
      exact on_relv (l := [(0, .ref o), (1, .int (nI b)), (2, .int (nI D)), (3, .int (nI (d_t rs D (i + 1)))), (4, .int (nI (i + 1)))]) ⟨rfl, rfl, rfl, congrArg some (congrArg Value.int (by rw [nI_add, ← e]; rfl)), congrArg some (congrArg Value.int (nI_1 i)), trivial⟩ (ih (i + 1) (by omega))
    refine on_iload (pc' := 7) rfl rfl rfl ?_
    first | refine on_aload_n (pc' := 8) rfl rfl rfl rfl ?_ | refine on_aload_nQ (pc' := 8) rfl rfl rfl rfl ?_
    first | apply on_get (pc' := 11) rfl rfl fl_N_54 | apply on_getN (pc' := 11) rfl rfl fl_N_54
    · repeat (first | assumption | exact on_up_eq _ _ _ | refine (on_up_ne (by omega)).trans ?_)
    · rfl
    refine on_icmp_ge (pc' := 14) (tgt := 46) rfl rfl rfl (fun cq => ?_) (fun cq => ?_)
    · exact absurd cq (nI_ge (b := nr) (by omega) (by omega))
    · clear cq
      refine on_iload_n (pc' := 15) rfl rfl rfl rfl ?_
      refine on_iload_n (pc' := 16) rfl rfl rfl rfl ?_
      refine on_iload (pc' := 18) rfl rfl rfl ?_
      refine on_iushr (pc' := 19) rfl rfl ?_
      refine on_iconst (pc' := 20) (v := 1) rfl rfl li_1 ?_
      refine on_iand (pc' := 21) rfl rfl ?_
      refine on_if_ne (pc' := 24) (tgt := 37) rfl rfl rfl (fun cq => ?_) (fun cq => ?_)
      · have z : ¬ D / 2 ^ i % 2 = 0 := fun w => cq ((dw_bit (by omega) hD).mpr w)
        refine on_iconst (pc' := 38) (v := 0) rfl rfl li_0 ?_
        exact next _ 0 (if_neg z) rfl rfl rfl rfl
      · have z := (dw_bit (by omega) hD).mp cq
        clear cq
        first | refine on_aload_n (pc' := 25) rfl rfl rfl rfl ?_ | refine on_aload_nQ (pc' := 25) rfl rfl rfl rfl ?_
        first | apply on_get (pc' := 28) rfl rfl fl_N_11 | apply on_getN (pc' := 28) rfl rfl fl_N_11
        · repeat (first | assumption | exact on_up_eq _ _ _ | refine (on_up_ne (by omega)).trans ?_)
        · rfl
        refine on_iload (pc' := 30) rfl rfl rfl ?_
        apply on_aaloadK (pc' := 31) rfl rfl
        · repeat (first | assumption | exact on_up_eq _ _ _ | refine (on_up_ne (by omega)).trans ?_)
        · rfl
        · first | assumption | exact on_lit _ | rfl
        · first | assumption | omega | decide
        rw [eF]
        show on_E G M_N_drawnRelay 31 _ [.ref (ra i), .int (nI (d_t rs D i))] h sz _ _ _
        first | apply on_get (pc' := 34) rfl rfl fl_N_82 | apply on_getN (pc' := 34) rfl rfl fl_N_82
        · repeat (first | assumption | exact on_up_eq _ _ _ | refine (on_up_ne (by omega)).trans ?_)
        · rfl
        refine on_goto (tgt := 38) rfl rfl ?_
        exact next _ (rs i).we (if_pos z) rfl rfl rfl rfl
set_option maxHeartbeats 8000000 in
theorem drw_2 {n : Nat} (hn : nr ≤ 6) (hn6 : n < 2 ^ 30) (hD : D < 256) (hO : n_O o (nI nr) cc kc h) (hR : h (o + 1) = some (on_aq 4 6 (rf nr ra))) (hr : ∀ i, i < nr → rl_S (ra i) ot hs i (rs i) h) (hw : ∀ i, i < nr → (rs i).we ≤ 1000)
    (kn : (List.range nr).find? (d_p rs D n) = none → ∀ lv, on_E G M_N_drawnRelay 116 lv [] h sz bc bs Q) (ks : ∀ i, i < nr → (List.range nr).find? (d_p rs D n) = some i → on_E G M_N_drawnRelay 107 (on_l [(6, .int (nI i))]) [] h sz bc bs Q) :
    ∀ (m i : Nat), i + m = nr → (∀ j, j < i → d_p rs D n j = false) → on_E G M_N_drawnRelay 63 (on_l [(0, .ref o), (2, .int (nI D)), (4, .int (nI n)), (5, .int (nI (d_t rs D i))), (6, .int (nI i))]) [] h sz bc bs Q := by
  have o1 : h o = some (.inr (11, [.ref (o + 1), .ref (o + 2), .ref (o + 3), .ref (o + 4), .ref (o + 5), .ref (o + 34), .ref (o + 42), .ref (o + 43), .int (nI nr), .int cc, .int kc])) := hO
  intro m
  induction m with
  | zero =>
    intro i hi hj
    obtain rfl : i = nr := by omega
    refine on_iload (pc' := 65) rfl rfl rfl ?_
    first | refine on_aload_n (pc' := 66) rfl rfl rfl rfl ?_ | refine on_aload_nQ (pc' := 66) rfl rfl rfl rfl ?_
    first | apply on_get (pc' := 69) rfl rfl fl_N_54 | apply on_getN (pc' := 69) rfl rfl fl_N_54
    · repeat (first | assumption | exact on_up_eq _ _ _ | refine (on_up_ne (by omega)).trans ?_)
    · rfl
    refine on_icmp_ge (pc' := 72) (tgt := 116) rfl rfl rfl (fun cq => ?_) (fun cq => ?_)
    · exact kn (rf_none hj) _
    · exact absurd (nI_le (a := i) (Nat.le_refl _) (by omega)) cq
  | succ m ih =>
    intro i hi hj
    have i6 : i < 6 ∧ 6 < 2 ^ 31 := by omega
    have eF : rf nr ra i = some (ra i) := if_pos (by omega)
    have R1 : h (ra i) = some (.inr (8, [.ref (ra i + 1), .ref ot, .ref hs, .ref (ra i + 3), .ref (ra i + 4), .ref (ra i + 5), .ref (ra i + 6), .ref (ra i + 7), .int (nI (rs i).ke.length), .int (nI (rs i).we)])) := (hr i (by omega)).1
    have tl := d_t_le (D := D) hw (i + 1) (by omega)
    have next : ∀ lv v, d_w rs D i = v → lv 0 = some (.ref o) → lv 2 = some (.int (nI D)) → lv 4 = some (.int (nI n)) → lv 6 = some (.int (nI i)) → on_E G M_N_drawnRelay 97 lv [.int (nI v), .int (nI (d_t rs D i))] h sz bc bs Q := fun lv v e l0 l2 l4 l6 => by
      refine on_relv (l := [(0, .ref o), (2, .int (nI D)), (4, .int (nI n)), (6, .int (nI i))]) ⟨l0, l2, l4, l6, trivial⟩ ?_
      refine on_iadd (pc' := 98) rfl rfl ?_
      rw [show nI (d_t rs D i) + nI v = nI (d_t rs D (i + 1)) by rw [nI_add, ← e]; rfl]
      refine on_istore (pc' := 100) rfl rfl (by decide) ?_
      refine on_iload (pc' := 102) rfl rfl rfl ?_
      refine on_iload (pc' := 104) rfl rfl rfl ?_
      refine on_icmp_le (pc' := 107) (tgt := 110) rfl rfl rfl (fun cq => ?_) (fun cq => ?_)
      · have le : d_t rs D (i + 1) ≤ n := (nI_leI (by omega) (by omega)).mp cq
        refine on_iinc1 (pc' := 113) rfl rfl rfl ?_
        refine on_goto (tgt := 63) rfl rfl ?_
        refine on_relv (l := [(0, .ref o), (2, .int (nI D)), (4, .int (nI n)), (5, .int (nI (d_t rs D (i + 1)))), (6, .int (nI (i + 1)))]) ⟨rfl, rfl, rfl, rfl, congrArg some (congrArg Value.int (nI_1 i)), trivial⟩ (ih (i + 1) (by omega) (fun j j1 => ?_))
        by_cases z : j = i
        · rw [z]
          exact decide_eq_false (by omega)
        · exact hj j (by omega)
      · have lt : n < d_t rs D (i + 1) := by
          rcases Nat.lt_or_ge n (d_t rs D (i + 1)) with w | w
          · exact w
          · exact absurd (nI_le w (by omega)) cq
        exact on_relv (l := [(6, .int (nI i))]) ⟨rfl, trivial⟩ (ks i (by omega) (rf_some (by omega) (decide_eq_true lt) hj))
    refine on_iload (pc' := 65) rfl rfl rfl ?_
    first | refine on_aload_n (pc' := 66) rfl rfl rfl rfl ?_ | refine on_aload_nQ (pc' := 66) rfl rfl rfl rfl ?_
    first | apply on_get (pc' := 69) rfl rfl fl_N_54 | apply on_getN (pc' := 69) rfl rfl fl_N_54
    · repeat (first | assumption | exact on_up_eq _ _ _ | refine (on_up_ne (by omega)).trans ?_)
    · rfl
    refine on_icmp_ge (pc' := 72) (tgt := 116) rfl rfl rfl (fun cq => ?_) (fun cq => ?_)
    · exact absurd cq (nI_ge (b := nr) (by omega) (by omega))
    · clear cq
      refine on_iload (pc' := 74) rfl rfl rfl ?_
      refine on_iload_n (pc' := 75) rfl rfl rfl rfl ?_
      refine on_iload (pc' := 77) rfl rfl rfl ?_
      refine on_iushr (pc' := 78) rfl rfl ?_
      refine on_iconst (pc' := 79) (v := 1) rfl rfl li_1 ?_
      refine on_iand (pc' := 80) rfl rfl ?_
      refine on_if_ne (pc' := 83) (tgt := 96) rfl rfl rfl (fun cq => ?_) (fun cq => ?_)
      · have z : ¬ D / 2 ^ i % 2 = 0 := fun w => cq ((dw_bit (by omega) hD).mpr w)
        refine on_iconst (pc' := 97) (v := 0) rfl rfl li_0 ?_
        exact next _ 0 (if_neg z) rfl rfl rfl rfl
      · have z := (dw_bit (by omega) hD).mp cq
        clear cq
        first | refine on_aload_n (pc' := 84) rfl rfl rfl rfl ?_ | refine on_aload_nQ (pc' := 84) rfl rfl rfl rfl ?_
        first | apply on_get (pc' := 87) rfl rfl fl_N_11 | apply on_getN (pc' := 87) rfl rfl fl_N_11
        · repeat (first | assumption | exact on_up_eq _ _ _ | refine (on_up_ne (by omega)).trans ?_)
        · rfl
        refine on_iload (pc' := 89) rfl rfl rfl ?_
        apply on_aaloadK (pc' := 90) rfl rfl
        · repeat (first | assumption | exact on_up_eq _ _ _ | refine (on_up_ne (by omega)).trans ?_)
        · rfl
        · first | assumption | exact on_lit _ | rfl
        · first | assumption | omega | decide
        rw [eF]
        show on_E G M_N_drawnRelay 90 _ [.ref (ra i), .int (nI (d_t rs D i))] h sz _ _ _
        first | apply on_get (pc' := 93) rfl rfl fl_N_82 | apply on_getN (pc' := 93) rfl rfl fl_N_82
        · repeat (first | assumption | exact on_up_eq _ _ _ | refine (on_up_ne (by omega)).trans ?_)
        · rfl
        refine on_goto (tgt := 97) rfl rfl ?_
        exact next _ (rs i).we (if_pos z) rfl rfl rfl rfl
set_option maxHeartbeats 4000000 in
/-- drawnRelay -/
theorem c_drawnRelay (hn : nr ≤ 6) (hb : b < 2 ^ 20) (hD : D < 256) (hO : n_O o (nI nr) cc kc h) (hR : h (o + 1) = some (on_aq 4 6 (rf nr ra))) (hr : ∀ i, i < nr → rl_S (ra i) ot hs i (rs i) h) (hw : ∀ i, i < nr → (rs i).we ≤ 1000) :
    on_Ct G M_N_drawnRelay [.ref o, .int (nI b), .int (nI D)] h sz 0 0 (fun v h1 z => v = some (.int (kI (d_r rs nr D b))) ∧ z = sz ∧ h1 = h) := by
  have tl := d_t_le (D := D) hw nr (Nat.le_refl _)
  refine on_Ct.of (by decide) v_N_drawnRelay (Nat.le_of_ble_eq_true rfl) ?_
  refine on_iconst (pc' := 1) (v := 0) rfl rfl li_0 ?_
  refine on_istore_n (pc' := 2) rfl rfl rfl (by decide) ?_
  refine on_iconst (pc' := 3) (v := 0) rfl rfl li_0 ?_
  refine on_istore (pc' := 5) rfl rfl (by decide) ?_
  refine on_relv (l := [(0, .ref o), (1, .int (nI b)), (2, .int (nI D)), (3, .int (nI (d_t rs D 0))), (4, .int (nI 0))]) ⟨rfl, rfl, rfl, rfl, rfl, trivial⟩ (drw_1 hn hD hO hR hr hw ?_ nr 0 (by omega))
  refine on_iload_n (pc' := 47) rfl rfl rfl rfl ?_
  refine on_if_ne (pc' := 50) (tgt := 52) rfl rfl rfl (fun cq => ?_) (fun cq => ?_)
  · have t0 : ¬ d_t rs D nr = 0 := fun z => cq (by rw [z]; rfl)
    have t1 : ¬ nI (d_t rs D nr) = 0 := cq
    clear cq
    have hlt := Nat.mod_lt b (Nat.pos_of_ne_zero t0)
    refine on_iload_n (pc' := 53) rfl rfl rfl rfl ?_
    refine on_iload_n (pc' := 54) rfl rfl rfl rfl ?_
    refine on_irem (pc' := 55) rfl rfl (by first | assumption | decide) ?_
    rw [show i_rem (nI b) (nI (d_t rs D nr)) = nI (b % d_t rs D nr) from pk_rem (by omega) (by omega) (by omega)]
    refine on_istore (pc' := 57) rfl rfl (by decide) ?_
    refine on_iconst (pc' := 58) (v := 0) rfl rfl li_0 ?_
    refine on_istore (pc' := 60) rfl rfl (by decide) ?_
    refine on_iconst (pc' := 61) (v := 0) rfl rfl li_0 ?_
    refine on_istore (pc' := 63) rfl rfl (by decide) ?_
    have er : d_r rs nr D b = (List.range nr).find? (d_p rs D (b % d_t rs D nr)) := if_neg t0
    rw [er]
    refine on_relv (l := [(0, .ref o), (2, .int (nI D)), (4, .int (nI (b % d_t rs D nr))), (5, .int (nI (d_t rs D 0))), (6, .int (nI 0))]) ⟨rfl, rfl, rfl, rfl, rfl, trivial⟩ (drw_2 hn (by omega) hD hO hR hr hw (fun e lv => ?_) (fun i hi e => ?_) nr 0 (by omega) (fun j hj => absurd hj (by omega)))
    · refine on_iconst (pc' := 117) (v := (-1)) rfl rfl li_m1 ?_
      refine on_ireturn rfl rfl ?_
      rw [e]
      exact ⟨rfl, rfl, rfl⟩
    · refine on_iload (pc' := 109) rfl rfl rfl ?_
      refine on_ireturn rfl rfl ?_
      rw [e]
      exact ⟨rfl, rfl, rfl⟩
  · have t0 : d_t rs D nr = 0 := (nI_eq (a := d_t rs D nr) (b := 0) (by omega) (by decide)).mp cq
    refine on_iconst (pc' := 51) (v := (-1)) rfl rfl li_m1 ?_
    refine on_ireturn rfl rfl ?_
    have er : d_r rs nr D b = none := if_pos t0
    rw [er]
    exact ⟨rfl, rfl, rfl⟩
end DRW
