/-! Handshake: hashTable -/
/-- what is hashed of the first i relays -/
def ht_b (i we : Nat) : Nat → Nat := fun j => if j = 0 then i else if j = 1 then we / 256 else we % 256
def ht_m (rs : Nat → aR) (nr : Nat) : Nat → List Nat
  | 0 => sp_sl nm_b 0 8 ++ [6]
  | i + 1 => if i < nr then ht_m rs nr i ++ sp_sl (ht_b i (rs i).we) 0 3 ++ sp_sl (rs_i (rs i).se) 0 36 else ht_m rs nr i
theorem ht_len {rs : Nat → aR} {nr : Nat} : ∀ i, (ht_m rs nr i).length ≤ 9 + 39 * i
  | 0 => by
    show (sp_sl nm_b 0 8 ++ [6]).length ≤ _
    rw [List.length_append, sp_sl_len]
    decide
  | i + 1 => by
    have := ht_len (rs := rs) (nr := nr) i
    show (if i < nr then _ else _ : List Nat).length ≤ _
    split
    · rw [List.length_append, List.length_append, sp_sl_len, sp_sl_len]
      omega
    · omega
section HTB
variable {G : on_G} {o ot p nr sz bc bs : Nat} {ra : Nat → Nat} {rs : Nat → aR} {F : Nat → Option Nat} {h : on_H} {Q : Option Value → on_H → Nat → Prop}
set_option maxHeartbeats 8000000 in
theorem ht_l (hK : hk_W o h) (hop : ot < o) (hot : h ot = some (on_aq 4 6 F)) (hF : ∀ j, j < 6 → (j < nr → F j = some (ra j) ∧ rl_S (ra j) ot o j (rs j) h ∧ o + 29 ≤ ra j ∧ (rs j).we < 65536) ∧ (¬ j < nr → F j = none))
    (kk : ∀ h2, sh_X (o + 1) (ht_m rs nr 6) h2 → rW h2 (o + 28) 4 → (∀ b, (b < o + 1 ∨ o + 4 ≤ b) → b ≠ o + 28 → h2 b = h b) → on_E G M_Handshake_hashTable 78 (on_l [(0, .ref o), (1, .ref ot), (2, .ref p)]) [] h2 sz bc bs Q) :
    ∀ (m i : Nat) (h1 : on_H), i + m = 6 → sh_X (o + 1) (ht_m rs nr i) h1 → rW h1 (o + 28) 4 → (∀ b, (b < o + 1 ∨ o + 4 ≤ b) → b ≠ o + 28 → h1 b = h b) → on_E G M_Handshake_hashTable 8 (on_l [(0, .ref o), (1, .ref ot), (2, .ref p), (3, .int (nI i))]) [] h1 sz bc bs Q := by
  intro m
  induction m with
  | zero =>
    intro i h1 hi X1 M1 t1
    obtain rfl : i = 6 := by omega
    have ot1 := (t1 ot (by omega) (by omega)).trans hot
    refine on_iload_n (pc' := 9) rfl rfl rfl rfl ?_
    first | refine on_aload_n (pc' := 10) rfl rfl rfl rfl ?_ | refine on_aload_nQ (pc' := 10) rfl rfl rfl rfl ?_
    apply on_alenQ (pc' := 11) rfl rfl
    · repeat (first | assumption | exact on_up_eq _ _ _ | refine (on_up_ne (by omega)).trans ?_)
    · rfl
    refine on_icmp_ge (pc' := 14) (tgt := 78) rfl rfl rfl (fun cq => ?_) (fun cq => ?_)
    · exact on_relv (l := [(0, .ref o), (1, .ref ot), (2, .ref p)]) ⟨rfl, rfl, rfl, trivial⟩ (kk h1 X1 M1 t1)
    · exact absurd (nI_le (a := 6) (by omega) (by omega)) cq
  | succ m ih =>
    intro i h1 hi X1 M1 t1
    have i8 : i < 6 ∧ 6 < 2 ^ 31 := by omega
    have ot1 := (t1 ot (by omega) (by omega)).trans hot
    have len := ht_len (rs := rs) (nr := nr) i
    refine on_iload_n (pc' := 9) rfl rfl rfl rfl ?_
    first | refine on_aload_n (pc' := 10) rfl rfl rfl rfl ?_ | refine on_aload_nQ (pc' := 10) rfl rfl rfl rfl ?_
    apply on_alenQ (pc' := 11) rfl rfl
    · repeat (first | assumption | exact on_up_eq _ _ _ | refine (on_up_ne (by omega)).trans ?_)
    · rfl
    refine on_icmp_ge (pc' := 14) (tgt := 78) rfl rfl rfl (fun cq => ?_) (fun cq => ?_)
    · exact absurd cq (nI_ge (b := 6) (by omega) (by omega))
    · clear cq
      first | refine on_aload_n (pc' := 15) rfl rfl rfl rfl ?_ | refine on_aload_nQ (pc' := 15) rfl rfl rfl rfl ?_
      refine on_iload_n (pc' := 16) rfl rfl rfl rfl ?_
      apply on_aaloadK (pc' := 17) rfl rfl
      · repeat (first | assumption | exact on_up_eq _ _ _ | refine (on_up_ne (by omega)).trans ?_)
      · rfl
      · first | assumption | exact on_lit _ | rfl
      · first | assumption | omega | decide
      by_cases hin : i < nr
      · obtain ⟨eF, R, ho, hwe⟩ := (hF i i8.1).1 hin
        have eh : ht_m rs nr (i + 1) = ht_m rs nr i ++ sp_sl (ht_b i (rs i).we) 0 3 ++ sp_sl (rs_i (rs i).se) 0 36 := if_pos hin
        obtain ⟨Mw, m1⟩ := M1
        have hh1 : sh_u (nI (rs i).we) 8 &&& 255 = nI ((rs i).we / 256) := by
          rw [by_ml (by omega)]
          exact congrArg nI (by omega)
        have o1 := (t1 o (by omega) (by omega)).trans hK.ob
        have r1 : h1 (ra i) = some (.inr (8, [.ref (ra i + 1), .ref ot, .ref o, .ref (ra i + 3), .ref (ra i + 4), .ref (ra i + 5), .ref (ra i + 6), .ref (ra i + 7), .int (nI (rs i).ke.length), .int (nI (rs i).we)])) := (t1 (ra i) (by omega) (by omega)).trans R.1
        obtain ⟨J, j1, J'⟩ := R.2.2.2.2.1.keep (h2 := h1) (t1 _ (by omega) (by omega))
        rw [eF]
        show on_E G M_Handshake_hashTable 17 _ [.ref (ra i)] h1 sz _ _ _
        first | refine on_astore (pc' := 19) rfl rfl (by decide) ?_ | refine on_astoreQ (pc' := 19) rfl rfl (by decide) ?_
        first | refine on_aload (pc' := 21) rfl rfl rfl ?_ | refine on_aloadQ (pc' := 21) rfl rfl rfl ?_
        refine on_ifnullR (pc' := 24) rfl rfl ?_
        first | refine on_aload_n (pc' := 25) rfl rfl rfl rfl ?_ | refine on_aload_nQ (pc' := 25) rfl rfl rfl rfl ?_
        first | apply on_get (pc' := 28) rfl rfl fl_Handshake_58 | apply on_getN (pc' := 28) rfl rfl fl_Handshake_58
        · repeat (first | assumption | exact on_up_eq _ _ _ | refine (on_up_ne (by omega)).trans ?_)
        · rfl
        refine on_iconst (pc' := 29) (v := 0) rfl rfl li_0 ?_
        refine on_iload_n (pc' := 30) rfl rfl rfl rfl ?_
        apply on_iastoreK (pc' := 31) (t := 0) rfl rfl
        · repeat (first | assumption | exact on_up_eq _ _ _ | refine (on_up_ne (by omega)).trans ?_)
        · rfl
        · first | assumption | exact on_lit _ | rfl
        · first | assumption | omega | decide
        first | refine on_aload_n (pc' := 32) rfl rfl rfl rfl ?_ | refine on_aload_nQ (pc' := 32) rfl rfl rfl rfl ?_
        first | apply on_get (pc' := 35) rfl rfl fl_Handshake_58 | apply on_getN (pc' := 35) rfl rfl fl_Handshake_58
        · repeat (first | assumption | exact on_up_eq _ _ _ | refine (on_up_ne (by omega)).trans ?_)
        · rfl
        refine on_iconst (pc' := 36) (v := 1) rfl rfl li_1 ?_
        first | refine on_aload (pc' := 38) rfl rfl rfl ?_ | refine on_aloadQ (pc' := 38) rfl rfl rfl ?_
        first | apply on_get (pc' := 41) rfl rfl fl_Handshake_110 | apply on_getN (pc' := 41) rfl rfl fl_Handshake_110
        · repeat (first | assumption | exact on_up_eq _ _ _ | refine (on_up_ne (by omega)).trans ?_)
        · rfl
        refine on_callS (pc' := 44) (As := [.ref (o + 28), .int (nI 1), .int (nI (rs i).we)]) (rest := []) rfl rfl cw_Handshake_hashTable_113 rfl rfl (Nat.le_of_ble_eq_true rfl) (Nat.zero_le _) (Nat.zero_le _) (c_setPair (at_ := 1) (on_up_eq _ _ _) (by decide)) ?_
        rintro v h2 sz ⟨rfl, rfl, rfl⟩
        rw [on_up_up]
        have X2 : sh_X (o + 1) (ht_m rs nr i) (on_up h1 (o + 28) (on_ai 0 4 (upd (upd (upd Mw 0 (nI i)) 1 (sh_u (nI (rs i).we) 8 &&& 255)) (1 + 1) (nI (rs i).we &&& 255)))) := X1.keep (fun b _ _ => on_up_ne (by omega))
        obtain ⟨f2, g2, X2', -⟩ := id X2
        first | refine on_aload_n (pc' := 45) rfl rfl rfl rfl ?_ | refine on_aload_nQ (pc' := 45) rfl rfl rfl rfl ?_
        first | apply on_get (pc' := 48) rfl rfl fl_Handshake_12 | apply on_getN (pc' := 48) rfl rfl fl_Handshake_12
        · repeat (first | assumption | exact on_up_eq _ _ _ | refine (on_up_ne (by omega)).trans ?_)
        · rfl
        first | refine on_aload_n (pc' := 49) rfl rfl rfl rfl ?_ | refine on_aload_nQ (pc' := 49) rfl rfl rfl rfl ?_
        first | apply on_get (pc' := 52) rfl rfl fl_Handshake_58 | apply on_getN (pc' := 52) rfl rfl fl_Handshake_58
        · repeat (first | assumption | exact on_up_eq _ _ _ | refine (on_up_ne (by omega)).trans ?_)
        · rfl
        refine on_iconst (pc' := 53) (v := 0) rfl rfl li_0 ?_
        refine on_iconst (pc' := 54) (v := 3) rfl rfl li_3 ?_
        refine on_callV (pc' := 57) (As := [.ref (o + 28), .int (nI 0), .int (nI 3)]) (rest := []) (b := o + 1) rfl rfl cw_Handshake_hashTable_85 (X2'.1) rfl rfl (Nat.le_of_ble_eq_true rfl) (Nat.zero_le _) (Nat.zero_le _) (c_Sha_add (b := ht_b i (rs i).we) X2 (by omega) (on_up_eq _ _ _) (by omega) (by decide) (by decide) (fun j hj => ?_)) ?_
        rotate_left
        · rintro v h3 sz ⟨rfl, rfl, X3, t3⟩
          have T3 : ∀ b, (b < o + 1 ∨ o + 4 ≤ b) → b ≠ o + 28 → h3 b = h1 b := fun b b1 b2 => (t3 b (by omega)).trans (on_up_ne b2)
          have o3 := (T3 o (by omega) (by omega)).trans o1
          have r3 := (T3 (ra i) (by omega) (by omega)).trans r1
          have j3 := (T3 (ra i + 5) (by omega) (by omega)).trans j1
          obtain ⟨f3, g3, X3', -⟩ := id X3
          first | refine on_aload_n (pc' := 58) rfl rfl rfl rfl ?_ | refine on_aload_nQ (pc' := 58) rfl rfl rfl rfl ?_
          first | apply on_get (pc' := 61) rfl rfl fl_Handshake_12 | apply on_getN (pc' := 61) rfl rfl fl_Handshake_12
          · repeat (first | assumption | exact on_up_eq _ _ _ | refine (on_up_ne (by omega)).trans ?_)
          · rfl
          first | refine on_aload (pc' := 63) rfl rfl rfl ?_ | refine on_aloadQ (pc' := 63) rfl rfl rfl ?_
          first | apply on_get (pc' := 66) rfl rfl fl_Handshake_96 | apply on_getN (pc' := 66) rfl rfl fl_Handshake_96
          · repeat (first | assumption | exact on_up_eq _ _ _ | refine (on_up_ne (by omega)).trans ?_)
          · rfl
          refine on_iconst (pc' := 67) (v := 0) rfl rfl li_0 ?_
          refine on_bipush (pc' := 69) (v := 36) rfl rfl lb_36 ?_
          refine on_callV (pc' := 72) (As := [.ref (ra i + 5), .int (nI 0), .int (nI 36)]) (rest := []) (b := o + 1) rfl rfl cw_Handshake_hashTable_85 (X3'.1) rfl rfl (Nat.le_of_ble_eq_true rfl) (Nat.zero_le _) (Nat.zero_le _) (c_Sha_add (b := rs_i (rs i).se) X3 (by rw [List.length_append, sp_sl_len]; omega) j3 (by omega) (by decide) (by decide) (fun j hj => by rw [Nat.zero_add]; exact J' j hj)) ?_
          rintro v h4 sz ⟨rfl, rfl, X4, t4⟩
          refine on_iinc1 (pc' := 75) rfl rfl rfl ?_
          refine on_goto (tgt := 8) rfl rfl ?_
          refine on_relv (l := [(0, .ref o), (1, .ref ot), (2, .ref p), (3, .int (nI (i + 1)))]) ⟨rfl, rfl, rfl, congrArg some (congrArg Value.int (nI_1 i)), trivial⟩ (ih (i + 1) h4 (by omega) (by rw [eh]; exact X4) ⟨_, (t4 _ (by omega)).trans ((t3 _ (by omega)).trans (on_up_eq _ _ _))⟩ (fun b b1 b2 => (t4 b (by omega)).trans ((T3 b b1 b2).trans (t1 b b1 b2))))
        · rw [Nat.zero_add]
          unfold ht_b
          rcases (by omega : j = 0 ∨ j = 1 ∨ j = 2) with rfl | rfl | rfl
          · rw [pk_un (by decide), pk_un (by decide), pk_us, if_pos rfl]
            exact ⟨rfl, by omega⟩
          · rw [pk_un (by decide), pk_us, if_neg (by decide), if_pos rfl, hh1]
            exact ⟨rfl, by omega⟩
          · rw [pk_us, if_neg (by decide), if_neg (by decide), by_lo (by omega)]
            exact ⟨rfl, by omega⟩
      · have eF := (hF i i8.1).2 hin
        have eh : ht_m rs nr (i + 1) = ht_m rs nr i := if_neg hin
        rw [eF]
        first | refine on_astore (pc' := 19) rfl rfl (by decide) ?_ | refine on_astoreQ (pc' := 19) rfl rfl (by decide) ?_
        refine on_aloadQ (pc' := 21) (r := none) rfl rfl rfl ?_
        refine on_ifnullN (tgt := 72) rfl rfl ?_
        refine on_iinc1 (pc' := 75) rfl rfl rfl ?_
        refine on_goto (tgt := 8) rfl rfl ?_
        exact on_relv (l := [(0, .ref o), (1, .ref ot), (2, .ref p), (3, .int (nI (i + 1)))]) ⟨rfl, rfl, rfl, congrArg some (congrArg Value.int (nI_1 i)), trivial⟩ (ih (i + 1) h1 (by omega) (by rw [eh]; exact X1) M1 t1)
/-- hashTable -/
theorem c_hashTable (hK : hk_W o h) (hop : ot < o) (hot : h ot = some (on_aq 4 6 F)) (hF : ∀ j, j < 6 → (j < nr → F j = some (ra j) ∧ rl_S (ra j) ot o j (rs j) h ∧ o + 29 ≤ ra j ∧ (rs j).we < 65536) ∧ (¬ j < nr → F j = none)) (hp : rW h p 32) (hpo : p < o ∨ o + 29 ≤ p) :
    on_Ct G M_Handshake_hashTable [.ref o, .ref ot, .ref p] h sz 0 0 (fun v h1 z => v = none ∧ z = sz ∧ hk_W o h1 ∧ rB h1 p 32 (sp_d (ht_m rs nr 6)) ∧ ∀ b, b ≠ p → (b < o ∨ o + 29 ≤ b) → h1 b = h b) := by
  refine on_Ct.of (by decide) v_Handshake_hashTable (Nat.le_of_ble_eq_true rfl) ?_
  first | refine on_aload_n (pc' := 1) rfl rfl rfl rfl ?_ | refine on_aload_nQ (pc' := 1) rfl rfl rfl rfl ?_
  refine on_bipush (pc' := 3) (v := 6) rfl rfl lb_6 ?_
  refine on_callV (pc' := 6) (As := [.int (nI 6)]) (rest := []) (b := o) rfl rfl cw_Handshake_hashTable_70 (hK.ob) rfl rfl (Nat.le_of_ble_eq_true rfl) (Nat.zero_le _) (Nat.zero_le _) (c_startLabelled (by decide) hK.ob hK.sh hK.la) ?_
  rintro v h1 sz ⟨rfl, rfl, X1, L1, t1⟩
  have K1 := hK.shl X1.w L1 t1
  refine on_iconst (pc' := 7) (v := 0) rfl rfl li_0 ?_
  refine on_istore_n (pc' := 8) rfl rfl rfl (by decide) ?_
  refine on_relv (l := [(0, .ref o), (1, .ref ot), (2, .ref p), (3, .int (nI 0))]) ⟨rfl, rfl, rfl, rfl, trivial⟩ (ht_l (rs := rs) (nr := nr) (ra := ra) K1 hop ((t1 _ (by omega) (by omega)).trans hot) (fun j hj => ⟨fun w => ?_, (hF j hj).2⟩) (fun h2 X2 M2 t2 => ?_) 6 0 h1 rfl X1 K1.sm (fun _ _ _ => rfl))
  · obtain ⟨g1, g2, g3, g4⟩ := (hF j hj).1 w
    exact ⟨g1, g2.keep (fun b _ _ => t1 b (by omega) (by omega)), g3, g4⟩
  · have T2 : ∀ b, (b < o ∨ o + 29 ≤ b) → h2 b = h b := fun b hb => (t2 b (by omega) (by omega)).trans (t1 b (by omega) (by omega))
    have o2 := (t2 o (by omega) (by omega)).trans K1.ob
    obtain ⟨Pw, p1⟩ := hp
    have p2 := (T2 p hpo).trans p1
    obtain ⟨f2, g2, X2', -⟩ := id X2
    first | refine on_aload_n (pc' := 79) rfl rfl rfl rfl ?_ | refine on_aload_nQ (pc' := 79) rfl rfl rfl rfl ?_
    first | apply on_get (pc' := 82) rfl rfl fl_Handshake_12 | apply on_getN (pc' := 82) rfl rfl fl_Handshake_12
    · repeat (first | assumption | exact on_up_eq _ _ _ | refine (on_up_ne (by omega)).trans ?_)
    · rfl
    first | refine on_aload_n (pc' := 83) rfl rfl rfl rfl ?_ | refine on_aload_nQ (pc' := 83) rfl rfl rfl rfl ?_
    refine on_callV (pc' := 86) (As := [.ref p]) (rest := []) (b := o + 1) rfl rfl cw_Handshake_hashTable_92 (X2'.1) rfl rfl (Nat.le_of_ble_eq_true rfl) (Nat.zero_le _) (Nat.zero_le _) (c_Sha_end X2 (by have := ht_len (rs := rs) (nr := nr) 6; omega) p2 (by omega)) ?_
    rintro v h3 sz ⟨rfl, rfl, S3, p3, t3⟩
    refine on_vreturn rfl rfl ?_
    have T3 : ∀ b, b ≠ p → (b < o + 1 ∨ o + 4 ≤ b) → b ≠ o + 28 → h3 b = h1 b := fun b b1 b2 b3 => (t3 b b1 (by omega)).trans (t2 b b2 b3)
    refine ⟨rfl, rfl, ⟨(T3 _ (by omega) (by omega) (by omega)).trans K1.ob, S3, K1.tr.keep (fun b _ _ => T3 b (by omega) (by omega) (by omega)), K1.cu.keep (fun b _ _ => T3 b (by omega) (by omega) (by omega)), K1.ba.keep (T3 _ (by omega) (by omega) (by omega)), K1.la.keep (T3 _ (by omega) (by omega) (by omega)), K1.tx.keep (T3 _ (by omega) (by omega) (by omega)), K1.pa.keep (T3 _ (by omega) (by omega) (by omega)), K1.inn.keep (T3 _ (by omega) (by omega) (by omega)), K1.pr.keep (T3 _ (by omega) (by omega) (by omega)), K1.ma.keep (T3 _ (by omega) (by omega) (by omega)), K1.dk.keep (T3 _ (by omega) (by omega) (by omega)), K1.ck.keep (T3 _ (by omega) (by omega) (by omega)), M2.keep (t3 _ (by omega) (by omega))⟩, ⟨_, p3, fun i hi => ⟨on_tk_lt hi, sp_d_lt _ _⟩⟩, fun b b1 b2 => (t3 b b1 (by omega)).trans (T2 b b2)⟩
end HTB
