theorem on_tk_at {α : Type} {s r : Nat → α} {k : Nat} : on_tk s r k k = r k := if_neg (Nat.lt_irrefl k)
theorem cy_O_congr {X X2 : Nat → Int64} : ∀ (n : Nat), (∀ k, k < n → X k = X2 k) → cy_O X n = cy_O X2 n
  | 0, _ => rfl
  | n + 1, h => by
    show sl_r _ _ = sl_r _ _
    rw [cy_O_congr n (fun k hk => h k (by omega)), h n (by omega)]
theorem cy_Y_congr {X X2 : Nat → Int64} {n : Nat} (h : ∀ k, k < n + 1 → X k = X2 k) : cy_Y X n = cy_Y X2 n := by
  unfold cy_Y
  rw [cy_O_congr n (fun k hk => h k (by omega)), cy_O_congr (n + 1) h, h n (by omega)]
theorem cv_red_congr {X X2 : Nat → Int64} (h : ∀ k, k < 10 → X k = X2 k) (i : Nat) (hi : i < 10) : cv_red X i = cv_red X2 i := by
  unfold cv_red
  rw [cy_O_congr 10 h, cy_Y_congr (n := 0) (fun k hk => h k (by omega)), cy_Y_congr (n := 1) (fun k hk => h k (by omega)), cy_Y_congr (n := i) (fun k hk => h k (by omega))]
section MUL
variable {G : on_G} {o r f g sz bc bs : Nat} {h : on_H} {Q : Option Value → on_H → Nat → Prop} {R F A X : Nat → Int64}
theorem cu_mul_l (k : on_E G M_Curve_multiply 856 (on_l [(1, .ref r), (44, .long (cy_O X 10))]) [] (on_up h r (on_al 1 10 (on_tk (cy_Y X) X 10))) sz bc bs Q) :
    ∀ (m i : Nat), i + m = 10 → on_E G M_Curve_multiply 806 (on_l [(1, .ref r), (44, .long (cy_O X i)), (46, .int (nI i))]) [] (on_up h r (on_al 1 10 (on_tk (cy_Y X) X i))) sz bc bs Q := by
  intro m
  induction m with
  | zero =>
    intro i hi
    refine on_iload (pc' := 808) rfl rfl rfl ?_
    refine on_bipush (pc' := 810) (v := 10) rfl rfl lb_10 ?_
    refine on_icmp_ge (pc' := 813) (tgt := 856) rfl rfl rfl (fun cq => ?_) (fun cq => ?_)
    · rw [show i = 10 by omega]
      exact on_relv (l := [(1, .ref r), (44, .long (cy_O X 10))]) ⟨rfl, rfl, trivial⟩ k
    · exact absurd (nI_le (a := 10) (by omega) (by omega)) cq
  | succ m ih =>
    intro i hi
    refine on_iload (pc' := 808) rfl rfl rfl ?_
    refine on_bipush (pc' := 810) (v := 10) rfl rfl lb_10 ?_
    refine on_icmp_ge (pc' := 813) (tgt := 856) rfl rfl rfl (fun cq => ?_) (fun cq => ?_)
    · exact absurd cq (nI_ge (b := 10) (by omega) (by omega))
    · refine on_bipush (pc' := 815) (v := 26) rfl rfl lb_26 ?_
      refine on_iload (pc' := 817) rfl rfl rfl ?_
      refine on_iconst (pc' := 818) (v := 1) rfl rfl li_1 ?_
      refine on_iand (pc' := 819) rfl rfl ?_
      refine on_isub (pc' := 820) rfl rfl ?_
      rw [e_w (by omega)]
      refine on_istore (pc' := 822) rfl rfl (by decide) ?_
      first | refine on_aload_n (pc' := 823) rfl rfl rfl rfl ?_ | refine on_aload_nQ (pc' := 823) rfl rfl rfl rfl ?_
      refine on_iload (pc' := 825) rfl rfl rfl ?_
      apply on_laloadK (pc' := 826) (t := 1) rfl rfl
      · repeat (first | assumption | exact on_up_eq _ _ _ | refine (on_up_ne (by omega)).trans ?_)
      · rfl
      · first | assumption | exact on_lit _ | rfl
      · first | assumption | omega | decide
      rw [on_tk_at]
      refine on_lload (pc' := 828) rfl rfl rfl ?_
      refine on_ladd (pc' := 829) rfl rfl ?_
      refine on_lstore (pc' := 831) rfl rfl (by decide) ?_
      refine on_lload (pc' := 833) rfl rfl rfl ?_
      refine on_iload (pc' := 835) rfl rfl rfl ?_
      refine on_lshr (pc' := 836) rfl rfl ?_
      refine on_lstore (pc' := 838) rfl rfl (by decide) ?_
      first | refine on_aload_n (pc' := 839) rfl rfl rfl rfl ?_ | refine on_aload_nQ (pc' := 839) rfl rfl rfl rfl ?_
      refine on_iload (pc' := 841) rfl rfl rfl ?_
      refine on_lload (pc' := 843) rfl rfl rfl ?_
      refine on_lload (pc' := 845) rfl rfl rfl ?_
      refine on_iload (pc' := 847) rfl rfl rfl ?_
      refine on_lshl (pc' := 848) rfl rfl ?_
      refine on_lsub (pc' := 849) rfl rfl ?_
      apply on_lastoreK (pc' := 850) (t := 1) rfl rfl
      · repeat (first | assumption | exact on_up_eq _ _ _ | refine (on_up_ne (by omega)).trans ?_)
      · rfl
      · first | assumption | exact on_lit _ | rfl
      · first | assumption | omega | decide
      refine on_iinc1 (pc' := 853) rfl rfl rfl ?_
      refine on_goto (tgt := 806) rfl rfl ?_
      rw [on_up_up]
      show on_E G M_Curve_multiply 806 _ _ (on_up h r (on_al 1 10 (vp_updL (on_tk (cy_Y X) X i) i (cy_Y X i)))) sz bc bs Q
      rw [on_tk_sL]
      exact on_relv (l := [(1, .ref r), (44, .long (cy_O X (i + 1))), (46, .int (nI (i + 1)))]) ⟨rfl, rfl, congrArg some (congrArg Value.int (nI_1 i)), trivial⟩ (ih (i + 1) (by omega))
set_option maxHeartbeats 8000000 in
set_option maxRecDepth 100000 in
/-- Curve.multiply -/
theorem c_Curve_multiply (hr : h r = some (on_al 1 10 R)) (hf : h f = some (on_al 1 10 F)) (hg : h g = some (on_al 1 10 A)) :
    on_Ct G M_Curve_multiply [.ref o, .ref r, .ref f, .ref g] h sz 0 0 (fun r2 h1 z => r2 = none ∧ z = sz ∧ ∃ R2, h1 = on_up h r (on_al 1 10 R2) ∧ ∀ i, i < 10 → R2 i = cv_red (cv_m F A) i) := by
  refine on_Ct.of (by decide) v_Curve_multiply (Nat.le_of_ble_eq_true rfl) ?_
  first | refine on_aload_n (pc' := 1) rfl rfl rfl rfl ?_ | refine on_aload_nQ (pc' := 1) rfl rfl rfl rfl ?_
  refine on_iconst (pc' := 2) (v := 0) rfl rfl li_0 ?_
  apply on_laloadK (pc' := 3) (t := 1) (k := 0) rfl rfl
  · repeat (first | assumption | exact on_up_eq _ _ _ | refine (on_up_ne (by omega)).trans ?_)
  · rfl
  · first | assumption | exact on_lit _ | rfl
  · first | assumption | omega | decide
  refine on_lstore (pc' := 5) rfl rfl (by decide) ?_
  first | refine on_aload_n (pc' := 6) rfl rfl rfl rfl ?_ | refine on_aload_nQ (pc' := 6) rfl rfl rfl rfl ?_
  refine on_iconst (pc' := 7) (v := 1) rfl rfl li_1 ?_
  apply on_laloadK (pc' := 8) (t := 1) (k := 1) rfl rfl
  · repeat (first | assumption | exact on_up_eq _ _ _ | refine (on_up_ne (by omega)).trans ?_)
  · rfl
  · first | assumption | exact on_lit _ | rfl
  · first | assumption | omega | decide
  refine on_lstore (pc' := 10) rfl rfl (by decide) ?_
  first | refine on_aload_n (pc' := 11) rfl rfl rfl rfl ?_ | refine on_aload_nQ (pc' := 11) rfl rfl rfl rfl ?_
  refine on_iconst (pc' := 12) (v := 2) rfl rfl li_2 ?_
  apply on_laloadK (pc' := 13) (t := 1) (k := 2) rfl rfl
  · repeat (first | assumption | exact on_up_eq _ _ _ | refine (on_up_ne (by omega)).trans ?_)
  · rfl
  · first | assumption | exact on_lit _ | rfl
  · first | assumption | omega | decide
  refine on_lstore (pc' := 15) rfl rfl (by decide) ?_
  first | refine on_aload_n (pc' := 16) rfl rfl rfl rfl ?_ | refine on_aload_nQ (pc' := 16) rfl rfl rfl rfl ?_
  refine on_iconst (pc' := 17) (v := 3) rfl rfl li_3 ?_
  apply on_laloadK (pc' := 18) (t := 1) (k := 3) rfl rfl
  · repeat (first | assumption | exact on_up_eq _ _ _ | refine (on_up_ne (by omega)).trans ?_)
  · rfl
  · first | assumption | exact on_lit _ | rfl
  · first | assumption | omega | decide
  refine on_lstore (pc' := 20) rfl rfl (by decide) ?_
  first | refine on_aload_n (pc' := 21) rfl rfl rfl rfl ?_ | refine on_aload_nQ (pc' := 21) rfl rfl rfl rfl ?_
  refine on_iconst (pc' := 22) (v := 4) rfl rfl li_4 ?_
  apply on_laloadK (pc' := 23) (t := 1) (k := 4) rfl rfl
  · repeat (first | assumption | exact on_up_eq _ _ _ | refine (on_up_ne (by omega)).trans ?_)
  · rfl
  · first | assumption | exact on_lit _ | rfl
  · first | assumption | omega | decide
  refine on_lstore (pc' := 25) rfl rfl (by decide) ?_
  first | refine on_aload_n (pc' := 26) rfl rfl rfl rfl ?_ | refine on_aload_nQ (pc' := 26) rfl rfl rfl rfl ?_
  refine on_iconst (pc' := 27) (v := 5) rfl rfl li_5 ?_
  apply on_laloadK (pc' := 28) (t := 1) (k := 5) rfl rfl
  · repeat (first | assumption | exact on_up_eq _ _ _ | refine (on_up_ne (by omega)).trans ?_)
  · rfl
  · first | assumption | exact on_lit _ | rfl
  · first | assumption | omega | decide
  refine on_lstore (pc' := 30) rfl rfl (by decide) ?_
  first | refine on_aload_n (pc' := 31) rfl rfl rfl rfl ?_ | refine on_aload_nQ (pc' := 31) rfl rfl rfl rfl ?_
  refine on_bipush (pc' := 33) (v := 6) rfl rfl lb_6 ?_
  apply on_laloadK (pc' := 34) (t := 1) (k := 6) rfl rfl
  · repeat (first | assumption | exact on_up_eq _ _ _ | refine (on_up_ne (by omega)).trans ?_)
  · rfl
  · first | assumption | exact on_lit _ | rfl
  · first | assumption | omega | decide
  refine on_lstore (pc' := 36) rfl rfl (by decide) ?_
  first | refine on_aload_n (pc' := 37) rfl rfl rfl rfl ?_ | refine on_aload_nQ (pc' := 37) rfl rfl rfl rfl ?_
  refine on_bipush (pc' := 39) (v := 7) rfl rfl lb_7 ?_
  apply on_laloadK (pc' := 40) (t := 1) (k := 7) rfl rfl
  · repeat (first | assumption | exact on_up_eq _ _ _ | refine (on_up_ne (by omega)).trans ?_)
  · rfl
  · first | assumption | exact on_lit _ | rfl
  · first | assumption | omega | decide
  refine on_lstore (pc' := 42) rfl rfl (by decide) ?_
  first | refine on_aload_n (pc' := 43) rfl rfl rfl rfl ?_ | refine on_aload_nQ (pc' := 43) rfl rfl rfl rfl ?_
  refine on_bipush (pc' := 45) (v := 8) rfl rfl lb_8 ?_
  apply on_laloadK (pc' := 46) (t := 1) (k := 8) rfl rfl
  · repeat (first | assumption | exact on_up_eq _ _ _ | refine (on_up_ne (by omega)).trans ?_)
  · rfl
  · first | assumption | exact on_lit _ | rfl
  · first | assumption | omega | decide
  refine on_lstore (pc' := 48) rfl rfl (by decide) ?_
  first | refine on_aload_n (pc' := 49) rfl rfl rfl rfl ?_ | refine on_aload_nQ (pc' := 49) rfl rfl rfl rfl ?_
  refine on_bipush (pc' := 51) (v := 9) rfl rfl lb_9 ?_
  apply on_laloadK (pc' := 52) (t := 1) (k := 9) rfl rfl
  · repeat (first | assumption | exact on_up_eq _ _ _ | refine (on_up_ne (by omega)).trans ?_)
  · rfl
  · first | assumption | exact on_lit _ | rfl
  · first | assumption | omega | decide
  refine on_lstore (pc' := 54) rfl rfl (by decide) ?_
  first | refine on_aload_n (pc' := 55) rfl rfl rfl rfl ?_ | refine on_aload_nQ (pc' := 55) rfl rfl rfl rfl ?_
  refine on_iconst (pc' := 56) (v := 0) rfl rfl li_0 ?_
  apply on_laloadK (pc' := 57) (t := 1) (k := 0) rfl rfl
  · repeat (first | assumption | exact on_up_eq _ _ _ | refine (on_up_ne (by omega)).trans ?_)
  · rfl
  · first | assumption | exact on_lit _ | rfl
  · first | assumption | omega | decide
  refine on_lstore (pc' := 59) rfl rfl (by decide) ?_
  first | refine on_aload_n (pc' := 60) rfl rfl rfl rfl ?_ | refine on_aload_nQ (pc' := 60) rfl rfl rfl rfl ?_
  refine on_iconst (pc' := 61) (v := 1) rfl rfl li_1 ?_
  apply on_laloadK (pc' := 62) (t := 1) (k := 1) rfl rfl
  · repeat (first | assumption | exact on_up_eq _ _ _ | refine (on_up_ne (by omega)).trans ?_)
  · rfl
  · first | assumption | exact on_lit _ | rfl
  · first | assumption | omega | decide
  refine on_lstore (pc' := 64) rfl rfl (by decide) ?_
  first | refine on_aload_n (pc' := 65) rfl rfl rfl rfl ?_ | refine on_aload_nQ (pc' := 65) rfl rfl rfl rfl ?_
  refine on_iconst (pc' := 66) (v := 2) rfl rfl li_2 ?_
  apply on_laloadK (pc' := 67) (t := 1) (k := 2) rfl rfl
  · repeat (first | assumption | exact on_up_eq _ _ _ | refine (on_up_ne (by omega)).trans ?_)
  · rfl
  · first | assumption | exact on_lit _ | rfl
  · first | assumption | omega | decide
  refine on_lstore (pc' := 69) rfl rfl (by decide) ?_
  first | refine on_aload_n (pc' := 70) rfl rfl rfl rfl ?_ | refine on_aload_nQ (pc' := 70) rfl rfl rfl rfl ?_
  refine on_iconst (pc' := 71) (v := 3) rfl rfl li_3 ?_
  apply on_laloadK (pc' := 72) (t := 1) (k := 3) rfl rfl
  · repeat (first | assumption | exact on_up_eq _ _ _ | refine (on_up_ne (by omega)).trans ?_)
  · rfl
  · first | assumption | exact on_lit _ | rfl
  · first | assumption | omega | decide
  refine on_lstore (pc' := 74) rfl rfl (by decide) ?_
  first | refine on_aload_n (pc' := 75) rfl rfl rfl rfl ?_ | refine on_aload_nQ (pc' := 75) rfl rfl rfl rfl ?_
  refine on_iconst (pc' := 76) (v := 4) rfl rfl li_4 ?_
  apply on_laloadK (pc' := 77) (t := 1) (k := 4) rfl rfl
  · repeat (first | assumption | exact on_up_eq _ _ _ | refine (on_up_ne (by omega)).trans ?_)
  · rfl
  · first | assumption | exact on_lit _ | rfl
  · first | assumption | omega | decide
  refine on_lstore (pc' := 79) rfl rfl (by decide) ?_
  first | refine on_aload_n (pc' := 80) rfl rfl rfl rfl ?_ | refine on_aload_nQ (pc' := 80) rfl rfl rfl rfl ?_
  refine on_iconst (pc' := 81) (v := 5) rfl rfl li_5 ?_
  apply on_laloadK (pc' := 82) (t := 1) (k := 5) rfl rfl
  · repeat (first | assumption | exact on_up_eq _ _ _ | refine (on_up_ne (by omega)).trans ?_)
  · rfl
  · first | assumption | exact on_lit _ | rfl
  · first | assumption | omega | decide
  refine on_lstore (pc' := 84) rfl rfl (by decide) ?_
  first | refine on_aload_n (pc' := 85) rfl rfl rfl rfl ?_ | refine on_aload_nQ (pc' := 85) rfl rfl rfl rfl ?_
  refine on_bipush (pc' := 87) (v := 6) rfl rfl lb_6 ?_
  apply on_laloadK (pc' := 88) (t := 1) (k := 6) rfl rfl
  · repeat (first | assumption | exact on_up_eq _ _ _ | refine (on_up_ne (by omega)).trans ?_)
  · rfl
  · first | assumption | exact on_lit _ | rfl
  · first | assumption | omega | decide
  refine on_lstore (pc' := 90) rfl rfl (by decide) ?_
  first | refine on_aload_n (pc' := 91) rfl rfl rfl rfl ?_ | refine on_aload_nQ (pc' := 91) rfl rfl rfl rfl ?_
  refine on_bipush (pc' := 93) (v := 7) rfl rfl lb_7 ?_
  apply on_laloadK (pc' := 94) (t := 1) (k := 7) rfl rfl
  · repeat (first | assumption | exact on_up_eq _ _ _ | refine (on_up_ne (by omega)).trans ?_)
  · rfl
  · first | assumption | exact on_lit _ | rfl
  · first | assumption | omega | decide
  refine on_lstore (pc' := 96) rfl rfl (by decide) ?_
  first | refine on_aload_n (pc' := 97) rfl rfl rfl rfl ?_ | refine on_aload_nQ (pc' := 97) rfl rfl rfl rfl ?_
  refine on_bipush (pc' := 99) (v := 8) rfl rfl lb_8 ?_
  apply on_laloadK (pc' := 100) (t := 1) (k := 8) rfl rfl
  · repeat (first | assumption | exact on_up_eq _ _ _ | refine (on_up_ne (by omega)).trans ?_)
  · rfl
  · first | assumption | exact on_lit _ | rfl
  · first | assumption | omega | decide
  refine on_lstore (pc' := 102) rfl rfl (by decide) ?_
  first | refine on_aload_n (pc' := 103) rfl rfl rfl rfl ?_ | refine on_aload_nQ (pc' := 103) rfl rfl rfl rfl ?_
  refine on_bipush (pc' := 105) (v := 9) rfl rfl lb_9 ?_
  apply on_laloadK (pc' := 106) (t := 1) (k := 9) rfl rfl
  · repeat (first | assumption | exact on_up_eq _ _ _ | refine (on_up_ne (by omega)).trans ?_)
  · rfl
  · first | assumption | exact on_lit _ | rfl
  · first | assumption | omega | decide
  refine on_lstore (pc' := 108) rfl rfl (by decide) ?_
  refine on_relv (l := [(1, .ref r), (4, .long (F 0)), (6, .long (F 1)), (8, .long (F 2)), (10, .long (F 3)), (12, .long (F 4)), (14, .long (F 5)), (16, .long (F 6)), (18, .long (F 7)), (20, .long (F 8)), (22, .long (F 9)), (24, .long (A 0)), (26, .long (A 1)), (28, .long (A 2)), (30, .long (A 3)), (32, .long (A 4)), (34, .long (A 5)), (36, .long (A 6)), (38, .long (A 7)), (40, .long (A 8)), (42, .long (A 9))]) ⟨rfl, rfl, rfl, rfl, rfl, rfl, rfl, rfl, rfl, rfl, rfl, rfl, rfl, rfl, rfl, rfl, rfl, rfl, rfl, rfl, rfl, trivial⟩ ?_
  first | refine on_aload_n (pc' := 109) rfl rfl rfl rfl ?_ | refine on_aload_nQ (pc' := 109) rfl rfl rfl rfl ?_
  refine on_iconst (pc' := 110) (v := 0) rfl rfl li_0 ?_
  refine on_lload (pc' := 112) rfl rfl rfl ?_
  refine on_lload (pc' := 114) rfl rfl rfl ?_
  refine on_lmul (pc' := 115) rfl rfl ?_
  refine on_ldc2 (pc' := 118) rfl rfl ld_Curve_80 ?_
  refine on_lload (pc' := 120) rfl rfl rfl ?_
  refine on_lload (pc' := 122) rfl rfl rfl ?_
  refine on_lmul (pc' := 123) rfl rfl ?_
  refine on_lload (pc' := 125) rfl rfl rfl ?_
  refine on_lload (pc' := 127) rfl rfl rfl ?_
  refine on_lmul (pc' := 128) rfl rfl ?_
  refine on_ladd (pc' := 129) rfl rfl ?_
  refine on_lload (pc' := 131) rfl rfl rfl ?_
  refine on_lload (pc' := 133) rfl rfl rfl ?_
  refine on_lmul (pc' := 134) rfl rfl ?_
  refine on_ladd (pc' := 135) rfl rfl ?_
  refine on_lload (pc' := 137) rfl rfl rfl ?_
  refine on_lload (pc' := 139) rfl rfl rfl ?_
  refine on_lmul (pc' := 140) rfl rfl ?_
  refine on_ladd (pc' := 141) rfl rfl ?_
  refine on_ldc2 (pc' := 144) rfl rfl ld_Curve_82 ?_
  refine on_lload (pc' := 146) rfl rfl rfl ?_
  refine on_lload (pc' := 148) rfl rfl rfl ?_
  refine on_lmul (pc' := 149) rfl rfl ?_
  refine on_lload (pc' := 151) rfl rfl rfl ?_
  refine on_lload (pc' := 153) rfl rfl rfl ?_
  refine on_lmul (pc' := 154) rfl rfl ?_
  refine on_ladd (pc' := 155) rfl rfl ?_
  refine on_lload (pc' := 157) rfl rfl rfl ?_
  refine on_lload (pc' := 159) rfl rfl rfl ?_
  refine on_lmul (pc' := 160) rfl rfl ?_
  refine on_ladd (pc' := 161) rfl rfl ?_
  refine on_lload (pc' := 163) rfl rfl rfl ?_
  refine on_lload (pc' := 165) rfl rfl rfl ?_
  refine on_lmul (pc' := 166) rfl rfl ?_
  refine on_ladd (pc' := 167) rfl rfl ?_
  refine on_lload (pc' := 169) rfl rfl rfl ?_
  refine on_lload (pc' := 171) rfl rfl rfl ?_
  refine on_lmul (pc' := 172) rfl rfl ?_
  refine on_ladd (pc' := 173) rfl rfl ?_
  refine on_lmul (pc' := 174) rfl rfl ?_
  refine on_ladd (pc' := 175) rfl rfl ?_
  refine on_lmul (pc' := 176) rfl rfl ?_
  refine on_ladd (pc' := 177) rfl rfl ?_
  apply on_lastoreK (pc' := 178) (t := 1) rfl rfl
  · repeat (first | assumption | exact on_up_eq _ _ _ | refine (on_up_ne (by omega)).trans ?_)
  · rfl
  · first | assumption | exact on_lit _ | rfl
  · first | assumption | omega | decide
  first | refine on_aload_n (pc' := 179) rfl rfl rfl rfl ?_ | refine on_aload_nQ (pc' := 179) rfl rfl rfl rfl ?_
  refine on_iconst (pc' := 180) (v := 1) rfl rfl li_1 ?_
  refine on_lload (pc' := 182) rfl rfl rfl ?_
  refine on_lload (pc' := 184) rfl rfl rfl ?_
  refine on_lmul (pc' := 185) rfl rfl ?_
  refine on_lload (pc' := 187) rfl rfl rfl ?_
  refine on_lload (pc' := 189) rfl rfl rfl ?_
  refine on_lmul (pc' := 190) rfl rfl ?_
  refine on_ladd (pc' := 191) rfl rfl ?_
  refine on_ldc2 (pc' := 194) rfl rfl ld_Curve_80 ?_
  refine on_lload (pc' := 196) rfl rfl rfl ?_
  refine on_lload (pc' := 198) rfl rfl rfl ?_
  refine on_lmul (pc' := 199) rfl rfl ?_
  refine on_lload (pc' := 201) rfl rfl rfl ?_
  refine on_lload (pc' := 203) rfl rfl rfl ?_
  refine on_lmul (pc' := 204) rfl rfl ?_
  refine on_ladd (pc' := 205) rfl rfl ?_
  refine on_lload (pc' := 207) rfl rfl rfl ?_
  refine on_lload (pc' := 209) rfl rfl rfl ?_
  refine on_lmul (pc' := 210) rfl rfl ?_
  refine on_ladd (pc' := 211) rfl rfl ?_
  refine on_lload (pc' := 213) rfl rfl rfl ?_
  refine on_lload (pc' := 215) rfl rfl rfl ?_
  refine on_lmul (pc' := 216) rfl rfl ?_
  refine on_ladd (pc' := 217) rfl rfl ?_
  refine on_lload (pc' := 219) rfl rfl rfl ?_
  refine on_lload (pc' := 221) rfl rfl rfl ?_
  refine on_lmul (pc' := 222) rfl rfl ?_
  refine on_ladd (pc' := 223) rfl rfl ?_
  refine on_lload (pc' := 225) rfl rfl rfl ?_
  refine on_lload (pc' := 227) rfl rfl rfl ?_
  refine on_lmul (pc' := 228) rfl rfl ?_
  refine on_ladd (pc' := 229) rfl rfl ?_
  refine on_lload (pc' := 231) rfl rfl rfl ?_
  refine on_lload (pc' := 233) rfl rfl rfl ?_
  refine on_lmul (pc' := 234) rfl rfl ?_
  refine on_ladd (pc' := 235) rfl rfl ?_
  refine on_lload (pc' := 237) rfl rfl rfl ?_
  refine on_lload (pc' := 239) rfl rfl rfl ?_
  refine on_lmul (pc' := 240) rfl rfl ?_
  refine on_ladd (pc' := 241) rfl rfl ?_
  refine on_lmul (pc' := 242) rfl rfl ?_
  refine on_ladd (pc' := 243) rfl rfl ?_
  apply on_lastoreK (pc' := 244) (t := 1) rfl rfl
  · repeat (first | assumption | exact on_up_eq _ _ _ | refine (on_up_ne (by omega)).trans ?_)
  · rfl
  · first | assumption | exact on_lit _ | rfl
  · first | assumption | omega | decide
  first | refine on_aload_n (pc' := 245) rfl rfl rfl rfl ?_ | refine on_aload_nQ (pc' := 245) rfl rfl rfl rfl ?_
  refine on_iconst (pc' := 246) (v := 2) rfl rfl li_2 ?_
  refine on_lload (pc' := 248) rfl rfl rfl ?_
  refine on_lload (pc' := 250) rfl rfl rfl ?_
  refine on_lmul (pc' := 251) rfl rfl ?_
  refine on_lload (pc' := 253) rfl rfl rfl ?_
  refine on_lload (pc' := 255) rfl rfl rfl ?_
  refine on_lmul (pc' := 256) rfl rfl ?_
  refine on_ladd (pc' := 257) rfl rfl ?_
  refine on_ldc2 (pc' := 260) rfl rfl ld_Curve_82 ?_
  refine on_lload (pc' := 262) rfl rfl rfl ?_
  refine on_lmul (pc' := 263) rfl rfl ?_
  refine on_lload (pc' := 265) rfl rfl rfl ?_
  refine on_lmul (pc' := 266) rfl rfl ?_
  refine on_ladd (pc' := 267) rfl rfl ?_
  refine on_ldc2 (pc' := 270) rfl rfl ld_Curve_80 ?_
  refine on_lload (pc' := 272) rfl rfl rfl ?_
  refine on_lload (pc' := 274) rfl rfl rfl ?_
  refine on_lmul (pc' := 275) rfl rfl ?_
  refine on_lload (pc' := 277) rfl rfl rfl ?_
  refine on_lload (pc' := 279) rfl rfl rfl ?_
  refine on_lmul (pc' := 280) rfl rfl ?_
  refine on_ladd (pc' := 281) rfl rfl ?_
  refine on_lload (pc' := 283) rfl rfl rfl ?_
  refine on_lload (pc' := 285) rfl rfl rfl ?_
  refine on_lmul (pc' := 286) rfl rfl ?_
  refine on_ladd (pc' := 287) rfl rfl ?_
  refine on_ldc2 (pc' := 290) rfl rfl ld_Curve_82 ?_
  refine on_lload (pc' := 292) rfl rfl rfl ?_
  refine on_lload (pc' := 294) rfl rfl rfl ?_
  refine on_lmul (pc' := 295) rfl rfl ?_
  refine on_lload (pc' := 297) rfl rfl rfl ?_
  refine on_lload (pc' := 299) rfl rfl rfl ?_
  refine on_lmul (pc' := 300) rfl rfl ?_
  refine on_ladd (pc' := 301) rfl rfl ?_
  refine on_lload (pc' := 303) rfl rfl rfl ?_
  refine on_lload (pc' := 305) rfl rfl rfl ?_
  refine on_lmul (pc' := 306) rfl rfl ?_
  refine on_ladd (pc' := 307) rfl rfl ?_
  refine on_lload (pc' := 309) rfl rfl rfl ?_
  refine on_lload (pc' := 311) rfl rfl rfl ?_
  refine on_lmul (pc' := 312) rfl rfl ?_
  refine on_ladd (pc' := 313) rfl rfl ?_
  refine on_lmul (pc' := 314) rfl rfl ?_
  refine on_ladd (pc' := 315) rfl rfl ?_
  refine on_lmul (pc' := 316) rfl rfl ?_
  refine on_ladd (pc' := 317) rfl rfl ?_
  apply on_lastoreK (pc' := 318) (t := 1) rfl rfl
  · repeat (first | assumption | exact on_up_eq _ _ _ | refine (on_up_ne (by omega)).trans ?_)
  · rfl
  · first | assumption | exact on_lit _ | rfl
  · first | assumption | omega | decide
  first | refine on_aload_n (pc' := 319) rfl rfl rfl rfl ?_ | refine on_aload_nQ (pc' := 319) rfl rfl rfl rfl ?_
  refine on_iconst (pc' := 320) (v := 3) rfl rfl li_3 ?_
  refine on_lload (pc' := 322) rfl rfl rfl ?_
  refine on_lload (pc' := 324) rfl rfl rfl ?_
  refine on_lmul (pc' := 325) rfl rfl ?_
  refine on_lload (pc' := 327) rfl rfl rfl ?_
  refine on_lload (pc' := 329) rfl rfl rfl ?_
  refine on_lmul (pc' := 330) rfl rfl ?_
  refine on_ladd (pc' := 331) rfl rfl ?_
  refine on_lload (pc' := 333) rfl rfl rfl ?_
  refine on_lload (pc' := 335) rfl rfl rfl ?_
  refine on_lmul (pc' := 336) rfl rfl ?_
  refine on_ladd (pc' := 337) rfl rfl ?_
  refine on_lload (pc' := 339) rfl rfl rfl ?_
  refine on_lload (pc' := 341) rfl rfl rfl ?_
  refine on_lmul (pc' := 342) rfl rfl ?_
  refine on_ladd (pc' := 343) rfl rfl ?_
  refine on_ldc2 (pc' := 346) rfl rfl ld_Curve_80 ?_
  refine on_lload (pc' := 348) rfl rfl rfl ?_
  refine on_lload (pc' := 350) rfl rfl rfl ?_
  refine on_lmul (pc' := 351) rfl rfl ?_
  refine on_lload (pc' := 353) rfl rfl rfl ?_
  refine on_lload (pc' := 355) rfl rfl rfl ?_
  refine on_lmul (pc' := 356) rfl rfl ?_
  refine on_ladd (pc' := 357) rfl rfl ?_
  refine on_lload (pc' := 359) rfl rfl rfl ?_
  refine on_lload (pc' := 361) rfl rfl rfl ?_
  refine on_lmul (pc' := 362) rfl rfl ?_
  refine on_ladd (pc' := 363) rfl rfl ?_
  refine on_lload (pc' := 365) rfl rfl rfl ?_
  refine on_lload (pc' := 367) rfl rfl rfl ?_
  refine on_lmul (pc' := 368) rfl rfl ?_
  refine on_ladd (pc' := 369) rfl rfl ?_
  refine on_lload (pc' := 371) rfl rfl rfl ?_
  refine on_lload (pc' := 373) rfl rfl rfl ?_
  refine on_lmul (pc' := 374) rfl rfl ?_
  refine on_ladd (pc' := 375) rfl rfl ?_
  refine on_lload (pc' := 377) rfl rfl rfl ?_
  refine on_lload (pc' := 379) rfl rfl rfl ?_
  refine on_lmul (pc' := 380) rfl rfl ?_
  refine on_ladd (pc' := 381) rfl rfl ?_
  refine on_lmul (pc' := 382) rfl rfl ?_
  refine on_ladd (pc' := 383) rfl rfl ?_
  apply on_lastoreK (pc' := 384) (t := 1) rfl rfl
  · repeat (first | assumption | exact on_up_eq _ _ _ | refine (on_up_ne (by omega)).trans ?_)
  · rfl
  · first | assumption | exact on_lit _ | rfl
  · first | assumption | omega | decide
  first | refine on_aload_n (pc' := 385) rfl rfl rfl rfl ?_ | refine on_aload_nQ (pc' := 385) rfl rfl rfl rfl ?_
  refine on_iconst (pc' := 386) (v := 4) rfl rfl li_4 ?_
  refine on_lload (pc' := 388) rfl rfl rfl ?_
  refine on_lload (pc' := 390) rfl rfl rfl ?_
  refine on_lmul (pc' := 391) rfl rfl ?_
  refine on_lload (pc' := 393) rfl rfl rfl ?_
  refine on_lload (pc' := 395) rfl rfl rfl ?_
  refine on_lmul (pc' := 396) rfl rfl ?_
  refine on_ladd (pc' := 397) rfl rfl ?_
  refine on_lload (pc' := 399) rfl rfl rfl ?_
  refine on_lload (pc' := 401) rfl rfl rfl ?_
  refine on_lmul (pc' := 402) rfl rfl ?_
  refine on_ladd (pc' := 403) rfl rfl ?_
  refine on_ldc2 (pc' := 406) rfl rfl ld_Curve_82 ?_
  refine on_lload (pc' := 408) rfl rfl rfl ?_
  refine on_lload (pc' := 410) rfl rfl rfl ?_
  refine on_lmul (pc' := 411) rfl rfl ?_
  refine on_lload (pc' := 413) rfl rfl rfl ?_
  refine on_lload (pc' := 415) rfl rfl rfl ?_
  refine on_lmul (pc' := 416) rfl rfl ?_
  refine on_ladd (pc' := 417) rfl rfl ?_
  refine on_lmul (pc' := 418) rfl rfl ?_
  refine on_ladd (pc' := 419) rfl rfl ?_
  refine on_ldc2 (pc' := 422) rfl rfl ld_Curve_80 ?_
  refine on_lload (pc' := 424) rfl rfl rfl ?_
  refine on_lload (pc' := 426) rfl rfl rfl ?_
  refine on_lmul (pc' := 427) rfl rfl ?_
  refine on_lload (pc' := 429) rfl rfl rfl ?_
  refine on_lload (pc' := 431) rfl rfl rfl ?_
  refine on_lmul (pc' := 432) rfl rfl ?_
  refine on_ladd (pc' := 433) rfl rfl ?_
  refine on_ldc2 (pc' := 436) rfl rfl ld_Curve_82 ?_
  refine on_lload (pc' := 438) rfl rfl rfl ?_
  refine on_lload (pc' := 440) rfl rfl rfl ?_
  refine on_lmul (pc' := 441) rfl rfl ?_
  refine on_lload (pc' := 443) rfl rfl rfl ?_
  refine on_lload (pc' := 445) rfl rfl rfl ?_
  refine on_lmul (pc' := 446) rfl rfl ?_
  refine on_ladd (pc' := 447) rfl rfl ?_
  refine on_lload (pc' := 449) rfl rfl rfl ?_
  refine on_lload (pc' := 451) rfl rfl rfl ?_
  refine on_lmul (pc' := 452) rfl rfl ?_
  refine on_ladd (pc' := 453) rfl rfl ?_
  refine on_lmul (pc' := 454) rfl rfl ?_
  refine on_ladd (pc' := 455) rfl rfl ?_
  refine on_lmul (pc' := 456) rfl rfl ?_
  refine on_ladd (pc' := 457) rfl rfl ?_
  apply on_lastoreK (pc' := 458) (t := 1) rfl rfl
  · repeat (first | assumption | exact on_up_eq _ _ _ | refine (on_up_ne (by omega)).trans ?_)
  · rfl
  · first | assumption | exact on_lit _ | rfl
  · first | assumption | omega | decide
  first | refine on_aload_n (pc' := 459) rfl rfl rfl rfl ?_ | refine on_aload_nQ (pc' := 459) rfl rfl rfl rfl ?_
  refine on_iconst (pc' := 460) (v := 5) rfl rfl li_5 ?_
  refine on_lload (pc' := 462) rfl rfl rfl ?_
  refine on_lload (pc' := 464) rfl rfl rfl ?_
  refine on_lmul (pc' := 465) rfl rfl ?_
  refine on_lload (pc' := 467) rfl rfl rfl ?_
  refine on_lload (pc' := 469) rfl rfl rfl ?_
  refine on_lmul (pc' := 470) rfl rfl ?_
  refine on_ladd (pc' := 471) rfl rfl ?_
  refine on_lload (pc' := 473) rfl rfl rfl ?_
  refine on_lload (pc' := 475) rfl rfl rfl ?_
  refine on_lmul (pc' := 476) rfl rfl ?_
  refine on_ladd (pc' := 477) rfl rfl ?_
  refine on_lload (pc' := 479) rfl rfl rfl ?_
  refine on_lload (pc' := 481) rfl rfl rfl ?_
  refine on_lmul (pc' := 482) rfl rfl ?_
  refine on_ladd (pc' := 483) rfl rfl ?_
  refine on_lload (pc' := 485) rfl rfl rfl ?_
  refine on_lload (pc' := 487) rfl rfl rfl ?_
  refine on_lmul (pc' := 488) rfl rfl ?_
  refine on_ladd (pc' := 489) rfl rfl ?_
  refine on_lload (pc' := 491) rfl rfl rfl ?_
  refine on_lload (pc' := 493) rfl rfl rfl ?_
  refine on_lmul (pc' := 494) rfl rfl ?_
  refine on_ladd (pc' := 495) rfl rfl ?_
  refine on_ldc2 (pc' := 498) rfl rfl ld_Curve_80 ?_
  refine on_lload (pc' := 500) rfl rfl rfl ?_
  refine on_lload (pc' := 502) rfl rfl rfl ?_
  refine on_lmul (pc' := 503) rfl rfl ?_
  refine on_lload (pc' := 505) rfl rfl rfl ?_
  refine on_lload (pc' := 507) rfl rfl rfl ?_
  refine on_lmul (pc' := 508) rfl rfl ?_
  refine on_ladd (pc' := 509) rfl rfl ?_
  refine on_lload (pc' := 511) rfl rfl rfl ?_
  refine on_lload (pc' := 513) rfl rfl rfl ?_
  refine on_lmul (pc' := 514) rfl rfl ?_
  refine on_ladd (pc' := 515) rfl rfl ?_
  refine on_lload (pc' := 517) rfl rfl rfl ?_
  refine on_lload (pc' := 519) rfl rfl rfl ?_
  refine on_lmul (pc' := 520) rfl rfl ?_
  refine on_ladd (pc' := 521) rfl rfl ?_
  refine on_lmul (pc' := 522) rfl rfl ?_
  refine on_ladd (pc' := 523) rfl rfl ?_
  apply on_lastoreK (pc' := 524) (t := 1) rfl rfl
  · repeat (first | assumption | exact on_up_eq _ _ _ | refine (on_up_ne (by omega)).trans ?_)
  · rfl
  · first | assumption | exact on_lit _ | rfl
  · first | assumption | omega | decide
  first | refine on_aload_n (pc' := 525) rfl rfl rfl rfl ?_ | refine on_aload_nQ (pc' := 525) rfl rfl rfl rfl ?_
  refine on_bipush (pc' := 527) (v := 6) rfl rfl lb_6 ?_
  refine on_lload (pc' := 529) rfl rfl rfl ?_
  refine on_lload (pc' := 531) rfl rfl rfl ?_
  refine on_lmul (pc' := 532) rfl rfl ?_
  refine on_lload (pc' := 534) rfl rfl rfl ?_
  refine on_lload (pc' := 536) rfl rfl rfl ?_
  refine on_lmul (pc' := 537) rfl rfl ?_
  refine on_ladd (pc' := 538) rfl rfl ?_
  refine on_lload (pc' := 540) rfl rfl rfl ?_
  refine on_lload (pc' := 542) rfl rfl rfl ?_
  refine on_lmul (pc' := 543) rfl rfl ?_
  refine on_ladd (pc' := 544) rfl rfl ?_
  refine on_lload (pc' := 546) rfl rfl rfl ?_
  refine on_lload (pc' := 548) rfl rfl rfl ?_
  refine on_lmul (pc' := 549) rfl rfl ?_
  refine on_ladd (pc' := 550) rfl rfl ?_
  refine on_ldc2 (pc' := 553) rfl rfl ld_Curve_82 ?_
  refine on_lload (pc' := 555) rfl rfl rfl ?_
  refine on_lload (pc' := 557) rfl rfl rfl ?_
  refine on_lmul (pc' := 558) rfl rfl ?_
  refine on_lload (pc' := 560) rfl rfl rfl ?_
  refine on_lload (pc' := 562) rfl rfl rfl ?_
  refine on_lmul (pc' := 563) rfl rfl ?_
  refine on_ladd (pc' := 564) rfl rfl ?_
  refine on_lload (pc' := 566) rfl rfl rfl ?_
  refine on_lload (pc' := 568) rfl rfl rfl ?_
  refine on_lmul (pc' := 569) rfl rfl ?_
  refine on_ladd (pc' := 570) rfl rfl ?_
  refine on_lmul (pc' := 571) rfl rfl ?_
  refine on_ladd (pc' := 572) rfl rfl ?_
  refine on_ldc2 (pc' := 575) rfl rfl ld_Curve_80 ?_
  refine on_lload (pc' := 577) rfl rfl rfl ?_
  refine on_lload (pc' := 579) rfl rfl rfl ?_
  refine on_lmul (pc' := 580) rfl rfl ?_
  refine on_ldc2 (pc' := 583) rfl rfl ld_Curve_82 ?_
  refine on_lload (pc' := 585) rfl rfl rfl ?_
  refine on_lload (pc' := 587) rfl rfl rfl ?_
  refine on_lmul (pc' := 588) rfl rfl ?_
  refine on_lload (pc' := 590) rfl rfl rfl ?_
  refine on_lload (pc' := 592) rfl rfl rfl ?_
  refine on_lmul (pc' := 593) rfl rfl ?_
  refine on_ladd (pc' := 594) rfl rfl ?_
  refine on_lmul (pc' := 595) rfl rfl ?_
  refine on_ladd (pc' := 596) rfl rfl ?_
  refine on_lmul (pc' := 597) rfl rfl ?_
  refine on_ladd (pc' := 598) rfl rfl ?_
  apply on_lastoreK (pc' := 599) (t := 1) rfl rfl
  · repeat (first | assumption | exact on_up_eq _ _ _ | refine (on_up_ne (by omega)).trans ?_)
  · rfl
  · first | assumption | exact on_lit _ | rfl
  · first | assumption | omega | decide
  first | refine on_aload_n (pc' := 600) rfl rfl rfl rfl ?_ | refine on_aload_nQ (pc' := 600) rfl rfl rfl rfl ?_
  refine on_bipush (pc' := 602) (v := 7) rfl rfl lb_7 ?_
  refine on_lload (pc' := 604) rfl rfl rfl ?_
  refine on_lload (pc' := 606) rfl rfl rfl ?_
  refine on_lmul (pc' := 607) rfl rfl ?_
  refine on_lload (pc' := 609) rfl rfl rfl ?_
  refine on_lload (pc' := 611) rfl rfl rfl ?_
  refine on_lmul (pc' := 612) rfl rfl ?_
  refine on_ladd (pc' := 613) rfl rfl ?_
  refine on_lload (pc' := 615) rfl rfl rfl ?_
  refine on_lload (pc' := 617) rfl rfl rfl ?_
  refine on_lmul (pc' := 618) rfl rfl ?_
  refine on_ladd (pc' := 619) rfl rfl ?_
  refine on_lload (pc' := 621) rfl rfl rfl ?_
  refine on_lload (pc' := 623) rfl rfl rfl ?_
  refine on_lmul (pc' := 624) rfl rfl ?_
  refine on_ladd (pc' := 625) rfl rfl ?_
  refine on_lload (pc' := 627) rfl rfl rfl ?_
  refine on_lload (pc' := 629) rfl rfl rfl ?_
  refine on_lmul (pc' := 630) rfl rfl ?_
  refine on_ladd (pc' := 631) rfl rfl ?_
  refine on_lload (pc' := 633) rfl rfl rfl ?_
  refine on_lload (pc' := 635) rfl rfl rfl ?_
  refine on_lmul (pc' := 636) rfl rfl ?_
  refine on_ladd (pc' := 637) rfl rfl ?_
  refine on_lload (pc' := 639) rfl rfl rfl ?_
  refine on_lload (pc' := 641) rfl rfl rfl ?_
  refine on_lmul (pc' := 642) rfl rfl ?_
  refine on_ladd (pc' := 643) rfl rfl ?_
  refine on_lload (pc' := 645) rfl rfl rfl ?_
  refine on_lload (pc' := 647) rfl rfl rfl ?_
  refine on_lmul (pc' := 648) rfl rfl ?_
  refine on_ladd (pc' := 649) rfl rfl ?_
  refine on_ldc2 (pc' := 652) rfl rfl ld_Curve_80 ?_
  refine on_lload (pc' := 654) rfl rfl rfl ?_
  refine on_lload (pc' := 656) rfl rfl rfl ?_
  refine on_lmul (pc' := 657) rfl rfl ?_
  refine on_lload (pc' := 659) rfl rfl rfl ?_
  refine on_lload (pc' := 661) rfl rfl rfl ?_
  refine on_lmul (pc' := 662) rfl rfl ?_
  refine on_ladd (pc' := 663) rfl rfl ?_
  refine on_lmul (pc' := 664) rfl rfl ?_
  refine on_ladd (pc' := 665) rfl rfl ?_
  apply on_lastoreK (pc' := 666) (t := 1) rfl rfl
  · repeat (first | assumption | exact on_up_eq _ _ _ | refine (on_up_ne (by omega)).trans ?_)
  · rfl
  · first | assumption | exact on_lit _ | rfl
  · first | assumption | omega | decide
  first | refine on_aload_n (pc' := 667) rfl rfl rfl rfl ?_ | refine on_aload_nQ (pc' := 667) rfl rfl rfl rfl ?_
  refine on_bipush (pc' := 669) (v := 8) rfl rfl lb_8 ?_
  refine on_lload (pc' := 671) rfl rfl rfl ?_
  refine on_lload (pc' := 673) rfl rfl rfl ?_
  refine on_lmul (pc' := 674) rfl rfl ?_
  refine on_lload (pc' := 676) rfl rfl rfl ?_
  refine on_lload (pc' := 678) rfl rfl rfl ?_
  refine on_lmul (pc' := 679) rfl rfl ?_
  refine on_ladd (pc' := 680) rfl rfl ?_
  refine on_lload (pc' := 682) rfl rfl rfl ?_
  refine on_lload (pc' := 684) rfl rfl rfl ?_
  refine on_lmul (pc' := 685) rfl rfl ?_
  refine on_ladd (pc' := 686) rfl rfl ?_
  refine on_lload (pc' := 688) rfl rfl rfl ?_
  refine on_lload (pc' := 690) rfl rfl rfl ?_
  refine on_lmul (pc' := 691) rfl rfl ?_
  refine on_ladd (pc' := 692) rfl rfl ?_
  refine on_lload (pc' := 694) rfl rfl rfl ?_
  refine on_lload (pc' := 696) rfl rfl rfl ?_
  refine on_lmul (pc' := 697) rfl rfl ?_
  refine on_ladd (pc' := 698) rfl rfl ?_
  refine on_ldc2 (pc' := 701) rfl rfl ld_Curve_82 ?_
  refine on_lload (pc' := 703) rfl rfl rfl ?_
  refine on_lload (pc' := 705) rfl rfl rfl ?_
  refine on_lmul (pc' := 706) rfl rfl ?_
  refine on_lload (pc' := 708) rfl rfl rfl ?_
  refine on_lload (pc' := 710) rfl rfl rfl ?_
  refine on_lmul (pc' := 711) rfl rfl ?_
  refine on_ladd (pc' := 712) rfl rfl ?_
  refine on_lload (pc' := 714) rfl rfl rfl ?_
  refine on_lload (pc' := 716) rfl rfl rfl ?_
  refine on_lmul (pc' := 717) rfl rfl ?_
  refine on_ladd (pc' := 718) rfl rfl ?_
  refine on_lload (pc' := 720) rfl rfl rfl ?_
  refine on_lload (pc' := 722) rfl rfl rfl ?_
  refine on_lmul (pc' := 723) rfl rfl ?_
  refine on_ladd (pc' := 724) rfl rfl ?_
  refine on_lmul (pc' := 725) rfl rfl ?_
  refine on_ladd (pc' := 726) rfl rfl ?_
  refine on_ldc2 (pc' := 729) rfl rfl ld_Curve_84 ?_
  refine on_lload (pc' := 731) rfl rfl rfl ?_
  refine on_lmul (pc' := 732) rfl rfl ?_
  refine on_lload (pc' := 734) rfl rfl rfl ?_
  refine on_lmul (pc' := 735) rfl rfl ?_
  refine on_ladd (pc' := 736) rfl rfl ?_
  apply on_lastoreK (pc' := 737) (t := 1) rfl rfl
  · repeat (first | assumption | exact on_up_eq _ _ _ | refine (on_up_ne (by omega)).trans ?_)
  · rfl
  · first | assumption | exact on_lit _ | rfl
  · first | assumption | omega | decide
  first | refine on_aload_n (pc' := 738) rfl rfl rfl rfl ?_ | refine on_aload_nQ (pc' := 738) rfl rfl rfl rfl ?_
  refine on_bipush (pc' := 740) (v := 9) rfl rfl lb_9 ?_
  refine on_lload (pc' := 742) rfl rfl rfl ?_
  refine on_lload (pc' := 744) rfl rfl rfl ?_
  refine on_lmul (pc' := 745) rfl rfl ?_
  refine on_lload (pc' := 747) rfl rfl rfl ?_
  refine on_lload (pc' := 749) rfl rfl rfl ?_
  refine on_lmul (pc' := 750) rfl rfl ?_
  refine on_ladd (pc' := 751) rfl rfl ?_
  refine on_lload (pc' := 753) rfl rfl rfl ?_
  refine on_lload (pc' := 755) rfl rfl rfl ?_
  refine on_lmul (pc' := 756) rfl rfl ?_
  refine on_ladd (pc' := 757) rfl rfl ?_
  refine on_lload (pc' := 759) rfl rfl rfl ?_
  refine on_lload (pc' := 761) rfl rfl rfl ?_
  refine on_lmul (pc' := 762) rfl rfl ?_
  refine on_ladd (pc' := 763) rfl rfl ?_
  refine on_lload (pc' := 765) rfl rfl rfl ?_
  refine on_lload (pc' := 767) rfl rfl rfl ?_
  refine on_lmul (pc' := 768) rfl rfl ?_
  refine on_ladd (pc' := 769) rfl rfl ?_
  refine on_lload (pc' := 771) rfl rfl rfl ?_
  refine on_lload (pc' := 773) rfl rfl rfl ?_
  refine on_lmul (pc' := 774) rfl rfl ?_
  refine on_ladd (pc' := 775) rfl rfl ?_
  refine on_lload (pc' := 777) rfl rfl rfl ?_
  refine on_lload (pc' := 779) rfl rfl rfl ?_
  refine on_lmul (pc' := 780) rfl rfl ?_
  refine on_ladd (pc' := 781) rfl rfl ?_
  refine on_lload (pc' := 783) rfl rfl rfl ?_
  refine on_lload (pc' := 785) rfl rfl rfl ?_
  refine on_lmul (pc' := 786) rfl rfl ?_
  refine on_ladd (pc' := 787) rfl rfl ?_
  refine on_lload (pc' := 789) rfl rfl rfl ?_
  refine on_lload (pc' := 791) rfl rfl rfl ?_
  refine on_lmul (pc' := 792) rfl rfl ?_
  refine on_ladd (pc' := 793) rfl rfl ?_
  refine on_lload (pc' := 795) rfl rfl rfl ?_
  refine on_lload (pc' := 797) rfl rfl rfl ?_
  refine on_lmul (pc' := 798) rfl rfl ?_
  refine on_ladd (pc' := 799) rfl rfl ?_
  apply on_lastoreK (pc' := 800) (t := 1) rfl rfl
  · repeat (first | assumption | exact on_up_eq _ _ _ | refine (on_up_ne (by omega)).trans ?_)
  · rfl
  · first | assumption | exact on_lit _ | rfl
  · first | assumption | omega | decide
  refine on_lconst (pc' := 801) (v := 0) rfl rfl ll_0 ?_
  refine on_lstore (pc' := 803) rfl rfl (by decide) ?_
  refine on_iconst (pc' := 804) (v := 0) rfl rfl li_0 ?_
  refine on_istore (pc' := 806) rfl rfl (by decide) ?_
  simp only [on_up_up]
  generalize hX : vp_updL (vp_updL (vp_updL (vp_updL (vp_updL (vp_updL (vp_updL (vp_updL (vp_updL (vp_updL R 0 _) 1 _) 2 _) 3 _) 4 _) 5 _) 6 _) 7 _) 8 _) 9 _ = X
  have hX2 : ∀ k, k < 10 → X k = cv_m F A k := by
    intro k hk
    rw [← hX]
    match k, hk with
    | 0, _ | 1, _ | 2, _ | 3, _ | 4, _ | 5, _ | 6, _ | 7, _ | 8, _ | 9, _ => rfl
  have := cu_mul_l (G := G) (r := r) (h := h) (X := X) (sz := sz) (bc := 0) (bs := 0) (Q := fun r2 h1 z => r2 = none ∧ z = sz ∧ ∃ R2, h1 = on_up h r (on_al 1 10 R2) ∧ ∀ i, i < 10 → R2 i = cv_red (cv_m F A) i) ?_ 10 0 rfl
  · rw [on_tk_0] at this
    exact on_relv (l := [(1, .ref r), (44, .long (cy_O X 0)), (46, .int (nI 0))]) ⟨rfl, rfl, rfl, trivial⟩ this
  · first | refine on_aload_n (pc' := 857) rfl rfl rfl rfl ?_ | refine on_aload_nQ (pc' := 857) rfl rfl rfl rfl ?_
    refine on_iconst (pc' := 858) (v := 0) rfl rfl li_0 ?_
    apply on_laloadK (pc' := 859) (t := 1) (k := 0) rfl rfl
    · repeat (first | assumption | exact on_up_eq _ _ _ | refine (on_up_ne (by omega)).trans ?_)
    · rfl
    · first | assumption | exact on_lit _ | rfl
    · first | assumption | omega | decide
    refine on_ldc2 (pc' := 862) rfl rfl ld_Curve_80 ?_
    refine on_lload (pc' := 864) rfl rfl rfl ?_
    refine on_lmul (pc' := 865) rfl rfl ?_
    refine on_ladd (pc' := 866) rfl rfl ?_
    refine on_lstore (pc' := 868) rfl rfl (by decide) ?_
    first | refine on_aload_n (pc' := 869) rfl rfl rfl rfl ?_ | refine on_aload_nQ (pc' := 869) rfl rfl rfl rfl ?_
    refine on_iconst (pc' := 870) (v := 0) rfl rfl li_0 ?_
    refine on_lload (pc' := 872) rfl rfl rfl ?_
    refine on_ldc2 (pc' := 875) rfl rfl ld_Curve_86 ?_
    refine on_land (pc' := 876) rfl rfl ?_
    apply on_lastoreK (pc' := 877) (t := 1) rfl rfl
    · repeat (first | assumption | exact on_up_eq _ _ _ | refine (on_up_ne (by omega)).trans ?_)
    · rfl
    · first | assumption | exact on_lit _ | rfl
    · first | assumption | omega | decide
    first | refine on_aload_n (pc' := 878) rfl rfl rfl rfl ?_ | refine on_aload_nQ (pc' := 878) rfl rfl rfl rfl ?_
    refine on_iconst (pc' := 879) (v := 1) rfl rfl li_1 ?_
    first | refine on_dup2_11 (pc' := 880) rfl rfl rfl rfl ?_ | refine on_dup2_2 (pc' := 880) rfl rfl rfl ?_
    apply on_laloadK (pc' := 881) (t := 1) rfl rfl
    · repeat (first | assumption | exact on_up_eq _ _ _ | refine (on_up_ne (by omega)).trans ?_)
    · rfl
    · first | assumption | exact on_lit _ | rfl
    · first | assumption | omega | decide
    refine on_lload (pc' := 883) rfl rfl rfl ?_
    refine on_bipush (pc' := 885) (v := 26) rfl rfl lb_26 ?_
    refine on_lshr (pc' := 886) rfl rfl ?_
    refine on_ladd (pc' := 887) rfl rfl ?_
    apply on_lastoreK (pc' := 888) (t := 1) rfl rfl
    · repeat (first | assumption | exact on_up_eq _ _ _ | refine (on_up_ne (by omega)).trans ?_)
    · rfl
    · first | assumption | exact on_lit _ | rfl
    · first | assumption | omega | decide
    refine on_vreturn rfl rfl ?_
    rw [on_up_up, on_up_up]
    refine ⟨rfl, rfl, _, rfl, fun i hi => ?_⟩
    rw [← cv_red_congr hX2 i hi]
    match i, hi with
    | 0, _ | 1, _ | 2, _ | 3, _ | 4, _ | 5, _ | 6, _ | 7, _ | 8, _ | 9, _ => rfl
end MUL
