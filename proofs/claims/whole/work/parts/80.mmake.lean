/-! the reference makes a payload -/
section MMK
variable {G : on_G} {o y q L sz bc bs : Nat} {x3 : Int32 × Int32 × Int32} {h : on_H} {Q : Option Value → on_H → Nat → Prop} {ms : List Nat} {d : Nat → Nat} {n : Nat}
def mk_d (n : Nat) (d : Nat → Nat) : Nat → Nat := fun k => if 11 ≤ k ∧ k < 11 + n then d (k - 11) else 0
set_option maxHeartbeats 4000000 in
theorem mmk_1 {C S : Value} {D : Nat → Int32} (ho : h o = some (.inr (17, mo_f o x3.1 x3.2.1 x3.2.2))) (hq : h q = some (on_ai 0 L D)) (hqo : q ≠ o + 25) (hn : n ≤ 124) (hL : n ≤ L ∧ L < 2 ^ 31) (hD : on_by D d n)
    (k : ∀ P : Nat → Int32, on_by P (mk_d n d) 135 → on_E G M_M_make 52 (on_l [(0, .ref o), (1, C), (2, S), (3, .int (nI n)), (5, .ref y)]) [] (on_up h (o + 25) (on_ai 0 135 P)) sz bc bs Q) :
    ∀ (m i : Nat) (P : Nat → Int32), i + m = 135 → on_by P (mk_d n d) i → on_E G M_M_make 3 (on_l [(0, .ref o), (1, C), (2, S), (3, .int (nI n)), (4, .ref q), (5, .ref y), (6, .int (nI i))]) [] (on_up h (o + 25) (on_ai 0 135 P)) sz bc bs Q := by
  intro m
  induction m with
  | zero =>
    intro i P hi hP
    obtain rfl : i = 135 := by omega
    refine on_iload (pc' := 5) rfl rfl rfl ?_
    refine on_sipush (pc' := 8) (v := 135) rfl rfl ls_135 ?_
    refine on_icmp_ge (pc' := 11) (tgt := 52) rfl rfl rfl (fun cq => ?_) (fun cq => ?_)
    · exact on_relv (l := [(0, .ref o), (1, C), (2, S), (3, .int (nI n)), (5, .ref y)]) ⟨rfl, rfl, rfl, rfl, rfl, trivial⟩ (k P hP)
    · exact absurd (nI_le (a := 135) (by omega) (by omega)) cq
  | succ m ih =>
    intro i P hi hP
    have hi2 : i < 135 ∧ 135 < 2 ^ 31 := by omega
    have e11 : (11 : Int32) + nI n = nI (11 + n) := nI_add 11 n
    have tail : ∀ b, b = mk_d n d i → b < 256 → on_E G M_M_make 45 (on_l [(0, .ref o), (1, C), (2, S), (3, .int (nI n)), (4, .ref q), (5, .ref y), (6, .int (nI i))]) [.int (nI b), .int (nI i), .ref (o + 25)] (on_up h (o + 25) (on_ai 0 135 P)) sz bc bs Q := by
      intro b hb hb2
      apply on_iastoreK (pc' := 46) (t := 0) rfl rfl
      · repeat (first | assumption | exact on_up_eq _ _ _ | refine (on_up_ne (by omega)).trans ?_)
      · rfl
      · first | assumption | exact on_lit _ | rfl
      · first | assumption | omega | decide
      refine on_iinc1 (pc' := 49) rfl rfl rfl ?_
      refine on_goto (tgt := 3) rfl rfl ?_
      rw [on_up_up]
      refine on_relv (l := [(0, .ref o), (1, C), (2, S), (3, .int (nI n)), (4, .ref q), (5, .ref y), (6, .int (nI (i + 1)))]) ⟨rfl, rfl, rfl, rfl, rfl, rfl, congrArg some (congrArg Value.int (nI_1 i)), trivial⟩ (ih (i + 1) _ (by omega) (fun j hj => ?_))
      by_cases e : j = i
      · subst e
        rw [pk_us, ← hb]
        exact ⟨rfl, hb2⟩
      · rw [pk_un e]; exact hP j (by omega)
    refine on_iload (pc' := 5) rfl rfl rfl ?_
    refine on_sipush (pc' := 8) (v := 135) rfl rfl ls_135 ?_
    refine on_icmp_ge (pc' := 11) (tgt := 52) rfl rfl rfl (fun cq => ?_) (fun cq => ?_)
    · exact absurd cq (nI_ge (b := 135) (by omega) (by omega))
    · first | refine on_aload_n (pc' := 12) rfl rfl rfl rfl ?_ | refine on_aload_nQ (pc' := 12) rfl rfl rfl rfl ?_
      first | apply on_get (pc' := 15) rfl rfl fl_M_76 | apply on_getN (pc' := 15) rfl rfl fl_M_76
      · repeat (first | assumption | exact on_up_eq _ _ _ | refine (on_up_ne (by omega)).trans ?_)
      · rfl
      refine on_iload (pc' := 17) rfl rfl rfl ?_
      refine on_iload (pc' := 19) rfl rfl rfl ?_
      refine on_bipush (pc' := 21) (v := 11) rfl rfl lb_11 ?_
      refine on_icmp_lt (pc' := 24) (tgt := 44) rfl rfl rfl (fun cq => ?_) (fun cq => ?_)
      · have c11 : i < 11 := by
          rcases Nat.lt_or_ge i 11 with g | g
          · exact g
          · exact absurd cq (nI_nlt (a := i) (b := 11) g (by omega))
        refine on_iconst (pc' := 45) (v := 0) rfl rfl li_0 ?_
        exact tail 0 (by unfold mk_d; rw [if_neg (by omega)]) (by decide)
      · have c11 : ¬ i < 11 := fun e => cq (nI_lt (b := 11) e (by decide))
        refine on_iload (pc' := 26) rfl rfl rfl ?_
        refine on_bipush (pc' := 28) (v := 11) rfl rfl lb_11 ?_
        refine on_iload_n (pc' := 29) rfl rfl rfl rfl ?_
        refine on_iadd (pc' := 30) rfl rfl ?_
        rw [e11]
        refine on_icmp_ge (pc' := 33) (tgt := 44) rfl rfl rfl (fun cq => ?_) (fun cq => ?_)
        · have c2 : ¬ i < 11 + n := fun e => absurd cq (nI_ge (b := 11 + n) e (by omega))
          refine on_iconst (pc' := 45) (v := 0) rfl rfl li_0 ?_
          exact tail 0 (by unfold mk_d; rw [if_neg (by omega)]) (by decide)
        · have c2 : i < 11 + n := by
            rcases Nat.lt_or_ge i (11 + n) with g | g
            · exact g
            · exact absurd (nI_le (a := 11 + n) g (by omega)) cq
          have e3 : nI i - 11 = nI (i - 11) := pk_sub (b := 11) (by omega)
          have h5 : i - 11 < L ∧ L < 2 ^ 31 := by omega
          have q1 : on_up h (o + 25) (on_ai 0 135 P) q = some (on_ai 0 L D) := (on_up_ne hqo).trans hq
          have di := hD (i - 11) (by omega)
          first | refine on_aload (pc' := 35) rfl rfl rfl ?_ | refine on_aloadQ (pc' := 35) rfl rfl rfl ?_
          refine on_iload (pc' := 37) rfl rfl rfl ?_
          refine on_bipush (pc' := 39) (v := 11) rfl rfl lb_11 ?_
          refine on_isub (pc' := 40) rfl rfl ?_
          rw [e3]
          apply on_ialoadK (pc' := 41) (t := 0) rfl rfl
          · repeat (first | assumption | exact on_up_eq _ _ _ | refine (on_up_ne (by omega)).trans ?_)
          · rfl
          · first | assumption | exact on_lit _ | rfl
          · first | assumption | omega | decide
          rw [di.1]
          refine on_goto (tgt := 45) rfl rfl ?_
          exact tail _ (by unfold mk_d; rw [if_pos (by omega)]) di.2
set_option maxHeartbeats 4000000 in
/-- the digest into the payload -/
theorem mmk_2 {D : Nat → Int32} {e c : Nat → Nat} (ho : h o = some (.inr (17, mo_f o x3.1 x3.2.1 x3.2.2))) (hd : h (o + 18) = some (on_ai 0 32 D)) (hD : on_by D e 32)
    (k : ∀ P : Nat → Int32, on_by P (fun k => if 5 ≤ k ∧ k < 9 then e (k - 5) else c k) 135 → on_E G M_M_make 153 (on_l []) [] (on_up h (o + 25) (on_ai 0 135 P)) sz bc bs Q) :
    ∀ (m i : Nat) (P : Nat → Int32), i + m = 4 → on_by P (fun k => if 5 ≤ k ∧ k < 5 + i then e (k - 5) else c k) 135 → on_E G M_M_make 125 (on_l [(0, .ref o), (6, .int (nI i))]) [] (on_up h (o + 25) (on_ai 0 135 P)) sz bc bs Q := by
  intro m
  induction m with
  | zero =>
    intro i P hi hP
    obtain rfl : i = 4 := by omega
    refine on_iload (pc' := 127) rfl rfl rfl ?_
    refine on_iconst (pc' := 128) (v := 4) rfl rfl li_4 ?_
    refine on_icmp_ge (pc' := 131) (tgt := 153) rfl rfl rfl (fun cq => ?_) (fun cq => ?_)
    · exact on_relv (l := []) trivial (k P hP)
    · exact absurd (nI_le (a := 4) (by omega) (by omega)) cq
  | succ m ih =>
    intro i P hi hP
    have hi2 : i < 32 ∧ 32 < 2 ^ 31 := by omega
    have hi3 : 5 + i < 135 ∧ 135 < 2 ^ 31 := by omega
    have e5 : (5 : Int32) + nI i = nI (5 + i) := nI_add 5 i
    have di := hD i hi2.1
    refine on_iload (pc' := 127) rfl rfl rfl ?_
    refine on_iconst (pc' := 128) (v := 4) rfl rfl li_4 ?_
    refine on_icmp_ge (pc' := 131) (tgt := 153) rfl rfl rfl (fun cq => ?_) (fun cq => ?_)
    · exact absurd cq (nI_ge (b := 4) (by omega) (by omega))
    · first | refine on_aload_n (pc' := 132) rfl rfl rfl rfl ?_ | refine on_aload_nQ (pc' := 132) rfl rfl rfl rfl ?_
      first | apply on_get (pc' := 135) rfl rfl fl_M_76 | apply on_getN (pc' := 135) rfl rfl fl_M_76
      · repeat (first | assumption | exact on_up_eq _ _ _ | refine (on_up_ne (by omega)).trans ?_)
      · rfl
      refine on_iconst (pc' := 136) (v := 5) rfl rfl li_5 ?_
      refine on_iload (pc' := 138) rfl rfl rfl ?_
      refine on_iadd (pc' := 139) rfl rfl ?_
      rw [e5]
      first | refine on_aload_n (pc' := 140) rfl rfl rfl rfl ?_ | refine on_aload_nQ (pc' := 140) rfl rfl rfl rfl ?_
      first | apply on_get (pc' := 143) rfl rfl fl_M_55 | apply on_getN (pc' := 143) rfl rfl fl_M_55
      · repeat (first | assumption | exact on_up_eq _ _ _ | refine (on_up_ne (by omega)).trans ?_)
      · rfl
      refine on_iload (pc' := 145) rfl rfl rfl ?_
      apply on_ialoadK (pc' := 146) (t := 0) rfl rfl
      · repeat (first | assumption | exact on_up_eq _ _ _ | refine (on_up_ne (by omega)).trans ?_)
      · rfl
      · first | assumption | exact on_lit _ | rfl
      · first | assumption | omega | decide
      rw [di.1]
      apply on_iastoreK (pc' := 147) (t := 0) rfl rfl
      · repeat (first | assumption | exact on_up_eq _ _ _ | refine (on_up_ne (by omega)).trans ?_)
      · rfl
      · first | assumption | exact on_lit _ | rfl
      · first | assumption | omega | decide
      refine on_iinc1 (pc' := 150) rfl rfl rfl ?_
      refine on_goto (tgt := 125) rfl rfl ?_
      rw [on_up_up]
      refine on_relv (l := [(0, .ref o), (6, .int (nI (i + 1)))]) ⟨rfl, congrArg some (congrArg Value.int (nI_1 i)), trivial⟩ (ih (i + 1) _ (by omega) (fun j hj => ?_))
      by_cases ee : j = 5 + i
      · subst ee
        dsimp only
        rw [pk_us, if_pos (by omega), show 5 + i - 5 = i by omega]
        exact ⟨rfl, di.2⟩
      · rw [pk_un ee]
        have := hP j hj
        dsimp only at this ⊢
        by_cases e2 : 5 ≤ j ∧ j < 5 + i
        · rw [if_pos e2] at this; rw [if_pos (by omega)]; exact this
        · rw [if_neg e2] at this; rw [if_neg (by omega)]; exact this
set_option maxHeartbeats 8000000 in
/-- make -/
theorem c_M_make {cmd s : Nat} (hO : mo_O o x3 h) (hI : ms_W (o + 11) h) (hT : ms_W (o + 14) h) (hY : ms_X y ms h) (hy : y + 3 ≤ o ∨ o + 42 ≤ y) (hp : rW h (o + 25) 135) (hd : rW h (o + 18) 32) (hLm : ms.length + 135 < 2 ^ 28) (hc : cmd < 256) (hs : s < 65536) (hq : rW h q L) (hqo : q ≠ o + 25) (hn : n ≤ 124) (hL : n ≤ L ∧ L < 2 ^ 31) (hqd : ∀ f, h q = some (on_ai 0 L f) → on_by f d n) :
    on_Ct G M_M_make [.ref o, .int (nI cmd), .int (nI s), .int (nI n), .ref q, .ref y] h sz 0 0 (fun r h1 z => r = none ∧ z = sz ∧ mo_O o x3 h1 ∧ ms_W (o + 11) h1 ∧ ms_W (o + 14) h1 ∧ ms_X y (ms ++ sp_sl (mk_c cmd s n d) 5 135) h1 ∧ rW h1 (o + 18) 32 ∧ rB h1 (o + 25) 135 (fun k => rc_s ms (mk_c cmd s n d) (5 + k)) ∧ ∀ a, (a < o + 11 ∨ o + 17 ≤ a) → a ≠ o + 18 → a ≠ o + 25 → (a < y ∨ y + 3 ≤ a) → h1 a = h a) := by
  have ho := hO.1
  obtain ⟨D, hq⟩ := hq
  have hD := hqd D hq
  obtain ⟨P0, hp⟩ := hp
  have hdl : ∀ i, i < n → d i < 256 := fun i hi => (hD i hi).2
  have i0 : (0 : Nat) < 135 ∧ 135 < 2 ^ 31 := by decide
  refine on_Ct.of (by decide) v_M_make (Nat.le_of_ble_eq_true rfl) ?_
  refine on_iconst (pc' := 1) (v := 0) rfl rfl li_0 ?_
  refine on_istore (pc' := 3) rfl rfl (by decide) ?_
  have z := mmk_1 (G := G) (sz := sz) (bc := 0) (bs := 0) (C := .int (nI cmd)) (S := .int (nI s)) (y := y) (n := n) (d := d) (Q := fun r h1 z => r = none ∧ z = sz ∧ mo_O o x3 h1 ∧ ms_W (o + 11) h1 ∧ ms_W (o + 14) h1 ∧ ms_X y (ms ++ sp_sl (mk_c cmd s n d) 5 135) h1 ∧ rW h1 (o + 18) 32 ∧ rB h1 (o + 25) 135 (fun k => rc_s ms (mk_c cmd s n d) (5 + k)) ∧ ∀ a, (a < o + 11 ∨ o + 17 ≤ a) → a ≠ o + 18 → a ≠ o + 25 → (a < y ∨ y + 3 ≤ a) → h1 a = h a) ho hq hqo hn hL hD ?_ 135 0 P0 rfl (fun j hj => absurd hj (by omega))
  · rw [on_up_self hp] at z
    exact on_relv (l := [(0, .ref o), (1, .int (nI cmd)), (2, .int (nI s)), (3, .int (nI n)), (4, .ref q), (5, .ref y), (6, .int (nI 0))]) ⟨rfl, rfl, rfl, rfl, rfl, rfl, rfl, trivial⟩ z
  intro P hP
  have es : sh_r (nI s) 8 = nI (s / 256) := e_shr (k := 8) (by omega) (by decide)
  have en : sh_r (nI n) 8 = nI (n / 256) := e_shr (k := 8) (by omega) (by decide)
  have es2 : nI (s / 256) &&& 255 = nI (s / 256) := nI_255 (by omega)
  have es3 : nI s &&& 255 = nI (s % 256) := by_lo (by omega)
  have en3 : nI n &&& 255 = nI (n % 256) := by_lo (by omega)
  first | refine on_aload_n (pc' := 53) rfl rfl rfl rfl ?_ | refine on_aload_nQ (pc' := 53) rfl rfl rfl rfl ?_
  first | apply on_get (pc' := 56) rfl rfl fl_M_76 | apply on_getN (pc' := 56) rfl rfl fl_M_76
  · repeat (first | assumption | exact on_up_eq _ _ _ | refine (on_up_ne (by omega)).trans ?_)
  · rfl
  refine on_iconst (pc' := 57) (v := 0) rfl rfl li_0 ?_
  refine on_iload_n (pc' := 58) rfl rfl rfl rfl ?_
  apply on_iastoreK (pc' := 59) (t := 0) rfl rfl
  · repeat (first | assumption | exact on_up_eq _ _ _ | refine (on_up_ne (by omega)).trans ?_)
  · rfl
  · first | assumption | exact on_lit _ | rfl
  · first | assumption | omega | decide
  first | refine on_aload_n (pc' := 60) rfl rfl rfl rfl ?_ | refine on_aload_nQ (pc' := 60) rfl rfl rfl rfl ?_
  first | apply on_get (pc' := 63) rfl rfl fl_M_76 | apply on_getN (pc' := 63) rfl rfl fl_M_76
  · repeat (first | assumption | exact on_up_eq _ _ _ | refine (on_up_ne (by omega)).trans ?_)
  · rfl
  refine on_iconst (pc' := 64) (v := 3) rfl rfl li_3 ?_
  refine on_iload_n (pc' := 65) rfl rfl rfl rfl ?_
  refine on_bipush (pc' := 67) (v := 8) rfl rfl lb_8 ?_
  refine on_ishr (pc' := 68) rfl rfl ?_
  rw [es]
  refine on_sipush (pc' := 71) (v := 255) rfl rfl ls_255 ?_
  refine on_iand (pc' := 72) rfl rfl ?_
  rw [es2]
  apply on_iastoreK (pc' := 73) (t := 0) rfl rfl
  · repeat (first | assumption | exact on_up_eq _ _ _ | refine (on_up_ne (by omega)).trans ?_)
  · rfl
  · first | assumption | exact on_lit _ | rfl
  · first | assumption | omega | decide
  first | refine on_aload_n (pc' := 74) rfl rfl rfl rfl ?_ | refine on_aload_nQ (pc' := 74) rfl rfl rfl rfl ?_
  first | apply on_get (pc' := 77) rfl rfl fl_M_76 | apply on_getN (pc' := 77) rfl rfl fl_M_76
  · repeat (first | assumption | exact on_up_eq _ _ _ | refine (on_up_ne (by omega)).trans ?_)
  · rfl
  refine on_iconst (pc' := 78) (v := 4) rfl rfl li_4 ?_
  refine on_iload_n (pc' := 79) rfl rfl rfl rfl ?_
  refine on_sipush (pc' := 82) (v := 255) rfl rfl ls_255 ?_
  refine on_iand (pc' := 83) rfl rfl ?_
  rw [es3]
  apply on_iastoreK (pc' := 84) (t := 0) rfl rfl
  · repeat (first | assumption | exact on_up_eq _ _ _ | refine (on_up_ne (by omega)).trans ?_)
  · rfl
  · first | assumption | exact on_lit _ | rfl
  · first | assumption | omega | decide
  first | refine on_aload_n (pc' := 85) rfl rfl rfl rfl ?_ | refine on_aload_nQ (pc' := 85) rfl rfl rfl rfl ?_
  first | apply on_get (pc' := 88) rfl rfl fl_M_76 | apply on_getN (pc' := 88) rfl rfl fl_M_76
  · repeat (first | assumption | exact on_up_eq _ _ _ | refine (on_up_ne (by omega)).trans ?_)
  · rfl
  refine on_bipush (pc' := 90) (v := 9) rfl rfl lb_9 ?_
  refine on_iload_n (pc' := 91) rfl rfl rfl rfl ?_
  refine on_bipush (pc' := 93) (v := 8) rfl rfl lb_8 ?_
  refine on_ishr (pc' := 94) rfl rfl ?_
  rw [en]
  apply on_iastoreK (pc' := 95) (t := 0) rfl rfl
  · repeat (first | assumption | exact on_up_eq _ _ _ | refine (on_up_ne (by omega)).trans ?_)
  · rfl
  · first | assumption | exact on_lit _ | rfl
  · first | assumption | omega | decide
  first | refine on_aload_n (pc' := 96) rfl rfl rfl rfl ?_ | refine on_aload_nQ (pc' := 96) rfl rfl rfl rfl ?_
  first | apply on_get (pc' := 99) rfl rfl fl_M_76 | apply on_getN (pc' := 99) rfl rfl fl_M_76
  · repeat (first | assumption | exact on_up_eq _ _ _ | refine (on_up_ne (by omega)).trans ?_)
  · rfl
  refine on_bipush (pc' := 101) (v := 10) rfl rfl lb_10 ?_
  refine on_iload_n (pc' := 102) rfl rfl rfl rfl ?_
  refine on_sipush (pc' := 105) (v := 255) rfl rfl ls_255 ?_
  refine on_iand (pc' := 106) rfl rfl ?_
  rw [en3]
  apply on_iastoreK (pc' := 107) (t := 0) rfl rfl
  · repeat (first | assumption | exact on_up_eq _ _ _ | refine (on_up_ne (by omega)).trans ?_)
  · rfl
  · first | assumption | exact on_lit _ | rfl
  · first | assumption | omega | decide
  simp only [on_up_up]
  have hP2 : on_by (upd (upd (upd (upd (upd P 0 (nI cmd)) 3 (nI (s / 256))) 4 (nI (s % 256))) 9 (nI (n / 256))) 10 (nI (n % 256))) (fun k => mk_c cmd s n d (5 + k)) 135 := by
    intro j hj
    refine ⟨?_, mk_c_lt hc hs hn hdl _⟩
    unfold mk_c
    dsimp only
    by_cases e10 : j = 10
    · subst e10; rw [pk_us]; rfl
    rw [pk_un e10]
    by_cases e9 : j = 9
    · subst e9; rw [pk_us]; rfl
    rw [pk_un e9]
    by_cases e4 : j = 4
    · subst e4; rw [pk_us]; rfl
    rw [pk_un e4]
    by_cases e3 : j = 3
    · subst e3; rw [pk_us]; rfl
    rw [pk_un e3]
    by_cases e0 : j = 0
    · subst e0; rw [pk_us]; rfl
    rw [pk_un e0, (hP j hj).1, if_neg (by omega), if_neg (by omega), if_neg (by omega), if_neg (by omega), if_neg (by omega)]
    unfold mk_d
    by_cases e : 11 ≤ j ∧ j < 11 + n
    · rw [if_pos e, if_pos (by omega), show 5 + j - 16 = j - 11 by omega]
    · rw [if_neg e, if_neg (by omega)]
  generalize (upd (upd (upd (upd (upd P 0 (nI cmd)) 3 (nI (s / 256))) 4 (nI (s % 256))) 9 (nI (n / 256))) 10 (nI (n % 256))) = P2 at hP2 ⊢
  have O1 : mo_O o x3 (on_up h (o + 25) (on_ai 0 135 P2)) := hO.keep (on_up_ne (by omega)) (on_up_ne (by omega))
  have I1 : ms_W (o + 11) (on_up h (o + 25) (on_ai 0 135 P2)) := hI.keep (fun a h1 h2 => on_up_ne (by omega))
  have T1 : ms_W (o + 14) (on_up h (o + 25) (on_ai 0 135 P2)) := hT.keep (fun a h1 h2 => on_up_ne (by omega))
  have Y1 : ms_X y ms (on_up h (o + 25) (on_ai 0 135 P2)) := hY.keep (fun a h1 h2 => on_up_ne (by omega))
  have p1 : rB (on_up h (o + 25) (on_ai 0 135 P2)) (o + 25) 135 (fun k => mk_c cmd s n d (5 + k)) := ⟨P2, on_up_eq _ _ _, hP2⟩
  have d1 : rW (on_up h (o + 25) (on_ai 0 135 P2)) (o + 18) 32 := hd.keep (on_up_ne (by omega))
  have t1 : ∀ a, a ≠ o + 25 → on_up h (o + 25) (on_ai 0 135 P2) a = h a := fun a ha => on_up_ne ha
  generalize on_up h (o + 25) (on_ai 0 135 P2) = h1 at *
  clear ho
  have ho := O1.1
  first | refine on_aload_n (pc' := 108) rfl rfl rfl rfl ?_ | refine on_aload_nQ (pc' := 108) rfl rfl rfl rfl ?_
  first | refine on_aload (pc' := 110) rfl rfl rfl ?_ | refine on_aloadQ (pc' := 110) rfl rfl rfl ?_
  refine on_callV (pc' := 113) (As := [.ref y]) (rest := []) (b := o) rfl rfl cw_M_make_264 ho rfl rfl (by decide) (Nat.zero_le _) (Nat.zero_le _) (c_M_due (x := mk_c cmd s n d) O1 I1 T1 Y1 (by omega) p1 d1 hLm) ?_
  rintro r h2 sz ⟨rfl, rfl, O2, I2, X2, ⟨D2, d2, D2'⟩, t2⟩
  have em : rc_m ms (mk_c cmd s n d) = ms ++ sp_sl (mk_c cmd s n d) 5 135 := by unfold rc_m; rw [mk_c_z]
  rw [em] at X2 D2'
  have Y2 := Y1.keep (h2 := h2) (fun a h1 h2 => t2 a (by omega) (by omega))
  have p2 := p1.keep (h2 := h2) (t2 _ (by omega) (by omega))
  clear ho
  have ho := O2.1
  obtain ⟨f2, g2, Y2', -⟩ := id Y2
  first | refine on_aload (pc' := 115) rfl rfl rfl ?_ | refine on_aloadQ (pc' := 115) rfl rfl rfl ?_
  first | refine on_aload_n (pc' := 116) rfl rfl rfl rfl ?_ | refine on_aload_nQ (pc' := 116) rfl rfl rfl rfl ?_
  first | apply on_get (pc' := 119) rfl rfl fl_M_49 | apply on_getN (pc' := 119) rfl rfl fl_M_49
  · repeat (first | assumption | exact on_up_eq _ _ _ | refine (on_up_ne (by omega)).trans ?_)
  · rfl
  refine on_callV (pc' := 122) (As := [.ref (o + 14)]) (rest := []) (b := y) rfl rfl cw_M_make_260 Y2'.1 rfl rfl (by decide) (Nat.zero_le _) (Nat.zero_le _) (c_MSha_copy Y2.w X2 (by omega)) ?_
  rintro r h3 sz ⟨rfl, rfl, Y3, t3⟩
  have O3 : mo_O o x3 h3 := O2.keep (t3 _ (by omega)) (t3 _ (by omega))
  have d3 := (t3 (o + 18) (by omega)).trans d2
  obtain ⟨P3, p3, P3'⟩ := p2.keep (h2 := h3) (t3 _ (by omega))
  refine on_iconst (pc' := 123) (v := 0) rfl rfl li_0 ?_
  refine on_istore (pc' := 125) rfl rfl (by decide) ?_
  have z := mmk_2 (G := G) (sz := sz) (bc := 0) (bs := 0) (e := sp_d (ms ++ sp_sl (mk_c cmd s n d) 5 135)) (c := fun k => mk_c cmd s n d (5 + k)) (Q := fun r h1 z => r = none ∧ z = sz ∧ mo_O o x3 h1 ∧ ms_W (o + 11) h1 ∧ ms_W (o + 14) h1 ∧ ms_X y (ms ++ sp_sl (mk_c cmd s n d) 5 135) h1 ∧ rW h1 (o + 18) 32 ∧ rB h1 (o + 25) 135 (fun k => rc_s ms (mk_c cmd s n d) (5 + k)) ∧ ∀ a, (a < o + 11 ∨ o + 17 ≤ a) → a ≠ o + 18 → a ≠ o + 25 → (a < y ∨ y + 3 ≤ a) → h1 a = h a) O3.1 d3 D2' ?_ 4 0 P3 rfl (fun j hj => by dsimp only; rw [if_neg (by omega)]; exact P3' j hj)
  · rw [on_up_self p3] at z
    exact on_relv (l := [(0, .ref o), (6, .int (nI 0))]) ⟨rfl, rfl, trivial⟩ z
  intro P4 hP4
  refine on_vreturn rfl rfl ?_
  refine ⟨rfl, rfl, O3.keep (on_up_ne (by omega)) (on_up_ne (by omega)), I2.keep (fun a h1 h2 => (on_up_ne (by omega)).trans (t3 a (by omega))), X2.w.keep (fun a h1 h2 => (on_up_ne (by omega)).trans (t3 a (by omega))), Y3.keep (fun a h1 h2 => on_up_ne (by omega)), ⟨D2, (on_up_ne (by omega)).trans d3⟩, ⟨P4, on_up_eq _ _ _, fun j hj => ?_⟩, fun a h1 h4 h5 h6 => ?_⟩
  · have := hP4 j hj
    dsimp only at this ⊢
    unfold rc_s
    by_cases e : 5 ≤ j ∧ j < 9
    · rw [if_pos e] at this
      rw [if_pos (by omega), show 5 + j - 10 = j - 5 by omega]
      exact this
    · rw [if_neg e] at this
      rw [if_neg (by omega)]
      exact this
  · rw [on_up_ne h5, t3 a h6, t2 a h1 h4, t1 a h5]
end MMK
