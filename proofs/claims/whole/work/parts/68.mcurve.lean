section MCU
variable {G : on_G} {o s q sz bc bs n0 : Nat} {x3 : Int32 × Int32 × Int32} {h : on_H} {Q : Option Value → on_H → Nat → Prop} {c : Nat → Nat → Int64} {R0 : Nat → Int32} {k : Nat → Nat}
theorem va_up_s {f : Nat → Nat → Int64} {j : Nat} {v : Nat → Int64} : va_up f j v j = v := if_pos rfl
theorem va_up_n {f : Nat → Nat → Int64} {i j : Nat} {v : Nat → Int64} (h : i ≠ j) : va_up f j v i = f i := if_neg h
set_option maxHeartbeats 4000000 in
theorem mcu_1
    (kk : ∀ c2 h2, mc_S o x3 c2 h2 → on_sm (o + 29) (o + 41) h h2 → c2 0 = c 0 → mr (c2 1) 1 → mr (c2 2) 0 → mr (c2 4) 1 → on_E G M_M_curve 63 (on_l [(0, .ref o), (1, .ref s), (3, .ref q)]) [] h2 sz bc bs Q) :
    ∀ (m i : Nat) (c1 : Nat → Nat → Int64) (h1 : on_H), i + m = 17 → mc_S o x3 c1 h1 → on_sm (o + 29) (o + 41) h h1 → c1 0 = c 0 → (0 < i → c1 1 0 = 1 ∧ c1 4 0 = 1) → (∀ j, 0 < j → j < i → c1 1 j = 0 ∧ c1 4 j = 0) → (∀ j, j < i → c1 2 j = 0) → on_E G M_M_curve 11 (on_l [(0, .ref o), (1, .ref s), (3, .ref q), (4, .int (nI i))]) [] h1 sz bc bs Q := by
  intro m
  induction m with
  | zero =>
    intro i c1 h1 hi hS hs e0 h0 hA hB
    obtain rfl : i = 17 := by omega
    refine on_iload (pc' := 13) rfl rfl rfl ?_
    refine on_bipush (pc' := 15) (v := 17) rfl rfl lb_17 ?_
    refine on_icmp_ge (pc' := 18) (tgt := 63) rfl rfl rfl (fun cq => ?_) (fun cq => ?_)
    · exact on_relv (l := [(0, .ref o), (1, .ref s), (3, .ref q)]) ⟨rfl, rfl, rfl, trivial⟩ (kk c1 h1 hS hs e0 (mr_k 1 (by decide) (h0 (by omega)).1 (fun j j0 j1 => (hA j j0 j1).1)) (mr_k 0 (by decide) (hB 0 (by omega)) (fun j j0 j1 => hB j j1)) (mr_k 1 (by decide) (h0 (by omega)).2 (fun j j0 j1 => (hA j j0 j1).2)))
    · exact absurd (nI_le (a := 17) (by omega) (by omega)) cq
  | succ m ih =>
    intro i c1 h1 hi hS hs e0 h0 hA hB
    have hi2 : i < 17 ∧ 17 < 2 ^ 31 := by omega
    have s' := hS.1
    have s1 : h1 (o + 30) = some (on_al 1 17 (c1 1)) := hS.2.1 1 (by decide)
    have s2 : h1 (o + 31) = some (on_al 1 17 (c1 2)) := hS.2.1 2 (by decide)
    have s4 : h1 (o + 33) = some (on_al 1 17 (c1 4)) := hS.2.1 4 (by decide)
    have tail : ∀ v : Int64, v = (if i = 0 then 1 else 0) → on_E G M_M_curve 34 (on_l [(0, .ref o), (1, .ref s), (3, .ref q), (4, .int (nI i))]) [.long v, .int (nI i), .ref (o + 30)] h1 sz bc bs Q := by
      intro v hv
      apply on_lastoreK (pc' := 35) (t := 1) rfl rfl
      · repeat (first | assumption | exact on_up_eq _ _ _ | refine (on_up_ne (by omega)).trans ?_)
      · rfl
      · first | assumption | exact on_lit _ | rfl
      · first | assumption | omega | decide
      first | refine on_aload_n (pc' := 36) rfl rfl rfl rfl ?_ | refine on_aload_nQ (pc' := 36) rfl rfl rfl rfl ?_
      first | apply on_get (pc' := 39) rfl rfl fl_M_94 | apply on_getN (pc' := 39) rfl rfl fl_M_94
      · repeat (first | assumption | exact on_up_eq _ _ _ | refine (on_up_ne (by omega)).trans ?_)
      · rfl
      refine on_iload (pc' := 41) rfl rfl rfl ?_
      refine on_lconst (pc' := 42) (v := 0) rfl rfl ll_0 ?_
      apply on_lastoreK (pc' := 43) (t := 1) rfl rfl
      · repeat (first | assumption | exact on_up_eq _ _ _ | refine (on_up_ne (by omega)).trans ?_)
      · rfl
      · first | assumption | exact on_lit _ | rfl
      · first | assumption | omega | decide
      first | refine on_aload_n (pc' := 44) rfl rfl rfl rfl ?_ | refine on_aload_nQ (pc' := 44) rfl rfl rfl rfl ?_
      first | apply on_get (pc' := 47) rfl rfl fl_M_100 | apply on_getN (pc' := 47) rfl rfl fl_M_100
      · repeat (first | assumption | exact on_up_eq _ _ _ | refine (on_up_ne (by omega)).trans ?_)
      · rfl
      refine on_iload (pc' := 49) rfl rfl rfl ?_
      first | refine on_aload_n (pc' := 50) rfl rfl rfl rfl ?_ | refine on_aload_nQ (pc' := 50) rfl rfl rfl rfl ?_
      first | apply on_get (pc' := 53) rfl rfl fl_M_91 | apply on_getN (pc' := 53) rfl rfl fl_M_91
      · repeat (first | assumption | exact on_up_eq _ _ _ | refine (on_up_ne (by omega)).trans ?_)
      · rfl
      refine on_iload (pc' := 55) rfl rfl rfl ?_
      apply on_laloadK (pc' := 56) (t := 1) rfl rfl
      · repeat (first | assumption | exact on_up_eq _ _ _ | refine (on_up_ne (by omega)).trans ?_)
      · rfl
      · first | assumption | exact on_lit _ | rfl
      · first | assumption | omega | decide
      rw [pk_uLs]
      apply on_lastoreK (pc' := 57) (t := 1) rfl rfl
      · repeat (first | assumption | exact on_up_eq _ _ _ | refine (on_up_ne (by omega)).trans ?_)
      · rfl
      · first | assumption | exact on_lit _ | rfl
      · first | assumption | omega | decide
      refine on_iinc1 (pc' := 60) rfl rfl rfl ?_
      refine on_goto (tgt := 11) rfl rfl ?_
      refine on_relv (l := [(0, .ref o), (1, .ref s), (3, .ref q), (4, .int (nI (i + 1)))]) ⟨rfl, rfl, rfl, congrArg some (congrArg Value.int (nI_1 i)), trivial⟩ (ih (i + 1) (va_up (va_up (va_up c1 1 (vp_updL (c1 1) i v)) 2 (vp_updL (c1 2) i 0)) 4 (vp_updL (c1 4) i v)) _ (by omega) (mc_S_up (kr := 4) (mc_S_up (kr := 2) (mc_S_up (kr := 1) hS (by decide)) (by decide)) (by decide)) (((hs.up (by omega) (by omega)).up (by omega) (by omega)).up (by omega) (by omega)) e0 (fun _ => ?_) (fun j j0 j1 => ?_) (fun j j1 => ?_))
      · show vp_updL (c1 1) i v 0 = 1 ∧ vp_updL (c1 4) i v 0 = 1
        by_cases e : i = 0
        · subst e
          rw [pk_uLs, pk_uLs, hv]
          exact ⟨rfl, rfl⟩
        · rw [pk_uLn (by omega), pk_uLn (by omega)]
          exact h0 (by omega)
      · show vp_updL (c1 1) i v j = 0 ∧ vp_updL (c1 4) i v j = 0
        by_cases e : j = i
        · subst e
          rw [pk_uLs, pk_uLs, hv, if_neg (by omega)]
          exact ⟨rfl, rfl⟩
        · rw [pk_uLn e, pk_uLn e]
          exact hA j j0 (by omega)
      · show vp_updL (c1 2) i 0 j = 0
        by_cases e : j = i
        · subst e; exact pk_uLs
        · rw [pk_uLn e]; exact hB j (by omega)
    refine on_iload (pc' := 13) rfl rfl rfl ?_
    refine on_bipush (pc' := 15) (v := 17) rfl rfl lb_17 ?_
    refine on_icmp_ge (pc' := 18) (tgt := 63) rfl rfl rfl (fun cq => ?_) (fun cq => ?_)
    · exact absurd cq (nI_ge (b := 17) (by omega) (by omega))
    · first | refine on_aload_n (pc' := 19) rfl rfl rfl rfl ?_ | refine on_aload_nQ (pc' := 19) rfl rfl rfl rfl ?_
      first | apply on_get (pc' := 22) rfl rfl fl_M_91 | apply on_getN (pc' := 22) rfl rfl fl_M_91
      · repeat (first | assumption | exact on_up_eq _ _ _ | refine (on_up_ne (by omega)).trans ?_)
      · rfl
      refine on_iload (pc' := 24) rfl rfl rfl ?_
      refine on_iload (pc' := 26) rfl rfl rfl ?_
      refine on_if_ne (pc' := 29) (tgt := 33) rfl rfl rfl (fun cq => ?_) (fun cq => ?_)
      · have c0 : ¬ i = 0 := fun e => cq (by rw [e]; rfl)
        refine on_lconst (pc' := 34) (v := 0) rfl rfl ll_0 ?_
        exact tail 0 (by rw [if_neg c0])
      · have c0 : i = 0 := (nI_eq (b := 0) (by omega) (by omega)).mp cq
        refine on_lconst (pc' := 30) (v := 1) rfl rfl ll_1 ?_
        refine on_goto (tgt := 34) rfl rfl ?_
        exact tail 1 (by rw [if_pos c0])
set_option maxHeartbeats 4000000 in
theorem mcu_2 {x : Int} (hs : h s = some (on_ai 0 n0 R0)) (hso : s < o + 29 ∨ o + 41 ≤ s) (hn0 : 32 ≤ n0 ∧ n0 < 2 ^ 31) (hk : ∀ i, i < 32 → R0 i = nI (k i)) (hk2 : ∀ i, i < 32 → k i < 256)
    (kk : ∀ c2 h2, mc_S o x3 c2 h2 → on_sm (o + 29) (o + 41) h h2 → mr (c2 1) (l_n x (cl_b k) 255).1 → mr (c2 2) (l_n x (cl_b k) 255).2.1 → on_E G M_M_curve 220 (on_l [(0, .ref o), (3, .ref q)]) [] h2 sz bc bs Q) :
    ∀ (m n : Nat) (c1 : Nat → Nat → Int64) (h1 : on_H), n + m = 255 → mc_S o x3 c1 h1 → on_sm (o + 29) (o + 41) h h1 → mr (c1 0) x → mr (c1 1) (l_n x (cl_b k) n).1 → mr (c1 2) (l_n x (cl_b k) n).2.1 → mr (c1 3) (l_n x (cl_b k) n).2.2.1 → mr (c1 4) (l_n x (cl_b k) n).2.2.2 → on_E G M_M_curve 79 (on_l [(0, .ref o), (1, .ref s), (3, .ref q), (4, .int (ti_k n))]) [] h1 sz bc bs Q := by
  have n8 : ¬ (8 : Int32) = 0 := by decide
  intro m
  induction m with
  | zero =>
    intro n c1 h1 hn hS hs1 f0 f1 f2 f3 f4
    obtain rfl : n = 255 := by omega
    refine on_iload (pc' := 81) rfl rfl rfl ?_
    refine on_if_lt (pc' := 84) (tgt := 220) rfl rfl rfl (fun cq => ?_) (fun cq => ?_)
    · exact on_relv (l := [(0, .ref o), (3, .ref q)]) ⟨rfl, rfl, trivial⟩ (kk c1 h1 hS hs1 f1 f2)
    · exact absurd (by decide) cq
  | succ m ih =>
    intro n c1 h1 hn hS hs1 f0 f1 f2 f3 f4
    have s' := hS.1
    have hs' := (hs1 s hso).trans hs
    have et : ti_k n = nI (254 - n) := if_pos (by omega)
    have e3 : nI (254 - n) / 8 = nI ((254 - n) / 8) := pk_div (d := 8) (by omega) (by decide) (by decide)
    have e4 : i_rem (nI (254 - n)) 8 = nI ((254 - n) % 8) := pk_rem (d := 8) (by omega) (by decide) (by decide)
    have h32 : (254 - n) / 8 < n0 ∧ n0 < 2 ^ 31 := by omega
    have hb2 : cl_b k (254 - n) < 2 := Nat.mod_lt _ (by decide)
    have hgo : l_n x (cl_b k) (n + 1) = l_go x (cl_b k (254 - n)) (l_n x (cl_b k) n) := rfl
    have hkl := cl_k_lt hk2 ((254 - n) / 8) (by omega)
    have eb : sh_r (nI (cl_k k ((254 - n) / 8))) (nI ((254 - n) % 8)) &&& 1 = nI (cl_b k (254 - n)) := nI_shr1 _ (Nat.mod_lt _ (by decide)) _ hkl
    have hkt := hk2 ((254 - n) / 8) (by omega)
    -- the step with the bit known
    have tail : on_E G M_M_curve 133 (on_l [(0, .ref o), (1, .ref s), (3, .ref q), (4, .int (nI (254 - n)))]) [.int (nI (cl_k k ((254 - n) / 8)))] h1 sz bc bs Q := by
      refine on_istore (pc' := 135) rfl rfl (by decide) ?_
      refine on_iload (pc' := 137) rfl rfl rfl ?_
      refine on_iload (pc' := 139) rfl rfl rfl ?_
      refine on_bipush (pc' := 141) (v := 8) rfl rfl lb_8 ?_
      refine on_irem (pc' := 142) rfl rfl (by first | assumption | decide) ?_
      rw [e4]
      refine on_ishr (pc' := 143) rfl rfl ?_
      refine on_iconst (pc' := 144) (v := 1) rfl rfl li_1 ?_
      refine on_iand (pc' := 145) rfl rfl ?_
      rw [eb]
      refine on_iconst (pc' := 146) (v := 1) rfl rfl li_1 ?_
      refine on_icmp_ne (pc' := 149) (tgt := 153) rfl rfl rfl (fun cq => ?_) (fun cq => ?_)
      · have b1 : cl_b k (254 - n) = 0 := by
          by_cases e : cl_b k (254 - n) = 1
          · exact absurd (by rw [e]; rfl) cq
          · omega
        rw [show l_go x (cl_b k (254 - n)) (l_n x (cl_b k) n) = l_st x (l_n x (cl_b k) n) from if_pos b1] at hgo
        refine on_iconst (pc' := 154) (v := 0) rfl rfl li_0 ?_
        refine on_istore (pc' := 156) rfl rfl (by decide) ?_
        refine on_iload (pc' := 158) rfl rfl rfl ?_
        refine on_if_eq (pc' := 161) (tgt := 183) rfl rfl rfl (fun cq => ?_) (fun cq => ?_)
        · first | refine on_aload_n (pc' := 184) rfl rfl rfl rfl ?_ | refine on_aload_nQ (pc' := 184) rfl rfl rfl rfl ?_
          refine on_callV (pc' := 187) (As := []) (rest := []) (b := o) rfl rfl cw_M_curve_204 s' rfl rfl (by decide) (Nat.zero_le _) (Nat.zero_le _) (c_M_step hS f0 f1 f2 f3 f4) ?_
          rintro r h2 z ⟨rfl, rfl, c2, S2, t2, g0, g1, g2, g3, g4⟩
          refine on_iload (pc' := 189) rfl rfl rfl ?_
          refine on_if_eq (pc' := 192) (tgt := 214) rfl rfl rfl (fun cq => ?_) (fun cq => ?_)
          · refine on_iinc (pc' := 217) rfl rfl rfl rfl ?_
            refine on_goto (tgt := 79) rfl rfl ?_
            refine on_relv (l := [(0, .ref o), (1, .ref s), (3, .ref q), (4, .int (ti_k (n + 1)))]) ⟨rfl, rfl, rfl, congrArg some (congrArg Value.int (by rw [← et]; exact ti_k_s (by omega))), trivial⟩ (ih (n + 1) c2 h2 (by omega) S2 (hs1.trans t2) g0 ?_ ?_ ?_ ?_)
            · rw [hgo]; exact g1
            · rw [hgo]; exact g2
            · rw [hgo]; exact g3
            · rw [hgo]; exact g4
          · exact absurd rfl cq
        · exact absurd rfl cq
      · have b1 : ¬ cl_b k (254 - n) = 0 := fun e => absurd cq (by rw [e]; decide)
        rw [show l_go x (cl_b k (254 - n)) (l_n x (cl_b k) n) = l_sw (l_st x (l_sw (l_n x (cl_b k) n))) from if_neg b1] at hgo
        refine on_iconst (pc' := 150) (v := 1) rfl rfl li_1 ?_
        refine on_goto (tgt := 154) rfl rfl ?_
        refine on_istore (pc' := 156) rfl rfl (by decide) ?_
        refine on_iload (pc' := 158) rfl rfl rfl ?_
        refine on_if_eq (pc' := 161) (tgt := 183) rfl rfl rfl (fun cq => ?_) (fun cq => ?_)
        · exact absurd cq (by decide)
        · first | refine on_aload_n (pc' := 162) rfl rfl rfl rfl ?_ | refine on_aload_nQ (pc' := 162) rfl rfl rfl rfl ?_
          first | apply on_get (pc' := 165) rfl rfl fl_M_91 | apply on_getN (pc' := 165) rfl rfl fl_M_91
          · repeat (first | assumption | exact on_up_eq _ _ _ | refine (on_up_ne (by omega)).trans ?_)
          · rfl
          first | refine on_aload_n (pc' := 166) rfl rfl rfl rfl ?_ | refine on_aload_nQ (pc' := 166) rfl rfl rfl rfl ?_
          first | apply on_get (pc' := 169) rfl rfl fl_M_97 | apply on_getN (pc' := 169) rfl rfl fl_M_97
          · repeat (first | assumption | exact on_up_eq _ _ _ | refine (on_up_ne (by omega)).trans ?_)
          · rfl
          refine mc_exc (pc' := 172) 1 3 hS (by decide) (by decide) (by decide) f1 f3 rfl rfl cw_M_curve_201 (fun c2 h2 S2 v1 v3 k2 t2 => ?_)
          clear s'
          have s' := S2.1
          first | refine on_aload_n (pc' := 173) rfl rfl rfl rfl ?_ | refine on_aload_nQ (pc' := 173) rfl rfl rfl rfl ?_
          first | apply on_get (pc' := 176) rfl rfl fl_M_94 | apply on_getN (pc' := 176) rfl rfl fl_M_94
          · repeat (first | assumption | exact on_up_eq _ _ _ | refine (on_up_ne (by omega)).trans ?_)
          · rfl
          first | refine on_aload_n (pc' := 177) rfl rfl rfl rfl ?_ | refine on_aload_nQ (pc' := 177) rfl rfl rfl rfl ?_
          first | apply on_get (pc' := 180) rfl rfl fl_M_100 | apply on_getN (pc' := 180) rfl rfl fl_M_100
          · repeat (first | assumption | exact on_up_eq _ _ _ | refine (on_up_ne (by omega)).trans ?_)
          · rfl
          refine mc_exc (pc' := 183) 2 4 S2 (by decide) (by decide) (by decide) (by rw [k2 2 (by decide) (by decide)]; exact f2) (by rw [k2 4 (by decide) (by decide)]; exact f4) rfl rfl cw_M_curve_201 (fun c3 h3 S3 v2 v4 k3 t3 => ?_)
          clear s'
          have s' := S3.1
          first | refine on_aload_n (pc' := 184) rfl rfl rfl rfl ?_ | refine on_aload_nQ (pc' := 184) rfl rfl rfl rfl ?_
          refine on_callV (pc' := 187) (As := []) (rest := []) (b := o) rfl rfl cw_M_curve_204 s' rfl rfl (by decide) (Nat.zero_le _) (Nat.zero_le _) (c_M_step S3 (by rw [k3 0 (by decide) (by decide), k2 0 (by decide) (by decide)]; exact f0) (by rw [k3 1 (by decide) (by decide)]; exact v1) v2 (by rw [k3 3 (by decide) (by decide)]; exact v3) v4) ?_
          rintro r h4 z ⟨rfl, rfl, c4, S4, t4, g0, g1, g2, g3, g4⟩
          clear s'
          have s' := S4.1
          refine on_iload (pc' := 189) rfl rfl rfl ?_
          refine on_if_eq (pc' := 192) (tgt := 214) rfl rfl rfl (fun cq => ?_) (fun cq => ?_)
          · exact absurd cq (by decide)
          · first | refine on_aload_n (pc' := 193) rfl rfl rfl rfl ?_ | refine on_aload_nQ (pc' := 193) rfl rfl rfl rfl ?_
            first | apply on_get (pc' := 196) rfl rfl fl_M_91 | apply on_getN (pc' := 196) rfl rfl fl_M_91
            · repeat (first | assumption | exact on_up_eq _ _ _ | refine (on_up_ne (by omega)).trans ?_)
            · rfl
            first | refine on_aload_n (pc' := 197) rfl rfl rfl rfl ?_ | refine on_aload_nQ (pc' := 197) rfl rfl rfl rfl ?_
            first | apply on_get (pc' := 200) rfl rfl fl_M_97 | apply on_getN (pc' := 200) rfl rfl fl_M_97
            · repeat (first | assumption | exact on_up_eq _ _ _ | refine (on_up_ne (by omega)).trans ?_)
            · rfl
            refine mc_exc (pc' := 203) 1 3 S4 (by decide) (by decide) (by decide) g1 g3 rfl rfl cw_M_curve_201 (fun c5 h5 S5 w1 w3 k5 t5 => ?_)
            clear s'
            have s' := S5.1
            first | refine on_aload_n (pc' := 204) rfl rfl rfl rfl ?_ | refine on_aload_nQ (pc' := 204) rfl rfl rfl rfl ?_
            first | apply on_get (pc' := 207) rfl rfl fl_M_94 | apply on_getN (pc' := 207) rfl rfl fl_M_94
            · repeat (first | assumption | exact on_up_eq _ _ _ | refine (on_up_ne (by omega)).trans ?_)
            · rfl
            first | refine on_aload_n (pc' := 208) rfl rfl rfl rfl ?_ | refine on_aload_nQ (pc' := 208) rfl rfl rfl rfl ?_
            first | apply on_get (pc' := 211) rfl rfl fl_M_100 | apply on_getN (pc' := 211) rfl rfl fl_M_100
            · repeat (first | assumption | exact on_up_eq _ _ _ | refine (on_up_ne (by omega)).trans ?_)
            · rfl
            refine mc_exc (pc' := 214) 2 4 S5 (by decide) (by decide) (by decide) (by rw [k5 2 (by decide) (by decide)]; exact g2) (by rw [k5 4 (by decide) (by decide)]; exact g4) rfl rfl cw_M_curve_201 (fun c6 h6 S6 w2 w4 k6 t6 => ?_)
            refine on_iinc (pc' := 217) rfl rfl rfl rfl ?_
            refine on_goto (tgt := 79) rfl rfl ?_
            refine on_relv (l := [(0, .ref o), (1, .ref s), (3, .ref q), (4, .int (ti_k (n + 1)))]) ⟨rfl, rfl, rfl, congrArg some (congrArg Value.int (by rw [← et]; exact ti_k_s (by omega))), trivial⟩ (ih (n + 1) c6 h6 (by omega) S6 (((((hs1.trans t2).trans t3).trans t4).trans t5).trans t6) (by rw [k6 0 (by decide) (by decide), k5 0 (by decide) (by decide)]; exact g0) ?_ ?_ ?_ ?_)
            · rw [hgo, k6 1 (by decide) (by decide)]; exact w1
            · rw [hgo]; exact w2
            · rw [hgo, k6 3 (by decide) (by decide)]; exact w3
            · rw [hgo]; exact w4
    refine on_iload (pc' := 81) rfl rfl rfl ?_
    refine on_if_lt (pc' := 84) (tgt := 220) rfl rfl rfl (fun cq => ?_) (fun cq => ?_)
    · rw [et] at cq
      exact absurd cq (nI_pos (by omega))
    · rw [et]
      first | refine on_aload_n (pc' := 85) rfl rfl rfl rfl ?_ | refine on_aload_nQ (pc' := 85) rfl rfl rfl rfl ?_
      refine on_iload (pc' := 87) rfl rfl rfl ?_
      refine on_bipush (pc' := 89) (v := 8) rfl rfl lb_8 ?_
      refine on_idiv (pc' := 90) rfl rfl (by first | assumption | decide) ?_
      rw [e3]
      apply on_ialoadK (pc' := 91) (t := 0) rfl rfl
      · repeat (first | assumption | exact on_up_eq _ _ _ | refine (on_up_ne (by omega)).trans ?_)
      · rfl
      · first | assumption | exact on_lit _ | rfl
      · first | assumption | omega | decide
      rw [hk _ (by omega)]
      refine on_istore (pc' := 93) rfl rfl (by decide) ?_
      refine on_iload (pc' := 95) rfl rfl rfl ?_
      refine on_bipush (pc' := 97) (v := 8) rfl rfl lb_8 ?_
      refine on_idiv (pc' := 98) rfl rfl (by first | assumption | decide) ?_
      rw [e3]
      refine on_if_ne (pc' := 101) (tgt := 110) rfl rfl rfl (fun cq => ?_) (fun cq => ?_)
      · have d0 : ¬ (254 - n) / 8 = 0 := fun e => cq (by rw [e]; rfl)
        refine on_iload (pc' := 112) rfl rfl rfl ?_
        refine on_bipush (pc' := 114) (v := 8) rfl rfl lb_8 ?_
        refine on_idiv (pc' := 115) rfl rfl (by first | assumption | decide) ?_
        rw [e3]
        refine on_bipush (pc' := 117) (v := 31) rfl rfl lb_31 ?_
        refine on_icmp_ne (pc' := 120) (tgt := 131) rfl rfl rfl (fun cq => ?_) (fun cq => ?_)
        · have d1 : ¬ (254 - n) / 8 = 31 := fun e => cq (by rw [e]; rfl)
          refine on_iload (pc' := 133) rfl rfl rfl ?_
          refine on_relv (l := [(0, .ref o), (1, .ref s), (3, .ref q), (4, .int (nI (254 - n)))]) ⟨rfl, rfl, rfl, rfl, trivial⟩ ?_
          rw [show cl_k k ((254 - n) / 8) = k ((254 - n) / 8) from (if_neg d0).trans (if_neg d1)] at tail
          exact tail
        · have d1 : (254 - n) / 8 = 31 := (nI_eq (b := 31) (by omega) (by omega)).mp cq
          refine on_iload (pc' := 122) rfl rfl rfl ?_
          refine on_bipush (pc' := 124) (v := 127) rfl rfl lb_127 ?_
          refine on_iand (pc' := 125) rfl rfl ?_
          refine on_bipush (pc' := 127) (v := 64) rfl rfl lb_64 ?_
          refine on_ior (pc' := 128) rfl rfl ?_
          refine on_goto (tgt := 133) rfl rfl ?_
          refine on_relv (l := [(0, .ref o), (1, .ref s), (3, .ref q), (4, .int (nI (254 - n)))]) ⟨rfl, rfl, rfl, rfl, trivial⟩ ?_
          rw [cl_a127 _ hkt]
          rw [show cl_k k ((254 - n) / 8) = k ((254 - n) / 8) % 64 + 64 by rw [d1]; rfl] at tail
          exact tail
      · have d0 : (254 - n) / 8 = 0 := (nI_eq (b := 0) (by omega) (by omega)).mp cq
        refine on_iload (pc' := 103) rfl rfl rfl ?_
        refine on_sipush (pc' := 106) (v := 248) rfl rfl ls_248 ?_
        refine on_iand (pc' := 107) rfl rfl ?_
        refine on_goto (tgt := 133) rfl rfl ?_
        refine on_relv (l := [(0, .ref o), (1, .ref s), (3, .ref q), (4, .int (nI (254 - n)))]) ⟨rfl, rfl, rfl, rfl, trivial⟩ ?_
        rw [cl_a248 _ hkt]
        rw [show cl_k k ((254 - n) / 8) = k ((254 - n) / 8) / 8 * 8 by rw [d0]; rfl] at tail
        exact tail
set_option maxHeartbeats 4000000 in
/-- the reference's curve -/
theorem c_M_curve {b n n2 : Nat} {R R1 : Nat → Int32} {p : Nat → Nat} (hS : mc_S o x3 c h) (hs : h s = some (on_ai 0 n0 R0)) (hso : s < o + 29 ∨ o + 41 ≤ s) (hn0 : 32 ≤ n0 ∧ n0 < 2 ^ 31) (hk : ∀ i, i < 32 → R0 i = nI (k i)) (hk2 : ∀ i, i < 32 → k i < 256)
    (hb : h b = some (on_ai 0 n R1)) (hn : 32 ≤ n ∧ n < 2 ^ 31) (hp : ∀ i, i < 32 → R1 i = nI (p i)) (hp2 : ∀ i, i < 32 → p i < 256)
    (hq : h q = some (on_ai 0 n2 R)) (hn2 : 32 ≤ n2 ∧ n2 < 2 ^ 31) (hqo : q < o + 29 ∨ o + 41 ≤ q) :
    on_Ct G M_M_curve [.ref o, .ref s, .ref b, .ref q] h sz 0 0 (fun r h1 z => r = none ∧ z = sz ∧ (∃ c2, mc_S o x3 c2 h1) ∧ h1 q = some (on_ai 0 n2 (wr_by R 0 (cv_x k p) 32)) ∧ ∀ a, a ≠ q → (a < o + 29 ∨ o + 41 ≤ a) → h1 a = h a) := by
  have s' := hS.1
  have hqo' : q ≠ o := fun e => by rw [e, s'] at hq; cases hq
  have s0 : h (o + 29) = some (on_al 1 17 (c 0)) := hS.2.1 0 (by decide)
  refine on_Ct.of (by decide) v_M_curve (Nat.le_of_ble_eq_true rfl) ?_
  first | refine on_aload_n (pc' := 1) rfl rfl rfl rfl ?_ | refine on_aload_nQ (pc' := 1) rfl rfl rfl rfl ?_
  first | apply on_get (pc' := 4) rfl rfl fl_M_88 | apply on_getN (pc' := 4) rfl rfl fl_M_88
  · repeat (first | assumption | exact on_up_eq _ _ _ | refine (on_up_ne (by omega)).trans ?_)
  · rfl
  first | refine on_aload_n (pc' := 5) rfl rfl rfl rfl ?_ | refine on_aload_nQ (pc' := 5) rfl rfl rfl rfl ?_
  refine on_callS (pc' := 8) (As := [.ref (o + 29), .ref b]) (rest := []) rfl rfl cw_M_curve_197 rfl rfl (by decide) (Nat.zero_le _) (Nat.zero_le _) (c_M_fromBytes s0 hb hn hp hp2) ?_
  rintro r h1 z ⟨rfl, rfl, X, rfl, hX⟩
  have S1 := mc_S_up (kr := 0) (R := X) hS (by decide)
  refine on_iconst (pc' := 9) (v := 0) rfl rfl li_0 ?_
  refine on_istore (pc' := 11) rfl rfl (by decide) ?_
  refine on_relv (l := [(0, .ref o), (1, .ref s), (3, .ref q), (4, .int (nI 0))]) ⟨rfl, rfl, rfl, rfl, trivial⟩ (mcu_1 (c := va_up c 0 X) (h := h) (fun c2 h2 S2 t2 e0 f1 f2 f4 => ?_) 17 0 (va_up c 0 X) _ rfl S1 (on_sm.rf.up (by omega) (by omega)) rfl (fun e => absurd e (by omega)) (fun j j0 j1 => absurd j1 (by omega)) (fun j j1 => absurd j1 (by omega)))
  have f0 : mr (c2 0) ((le_v p 32 % 57896044618658097711785492504343953926634992332820282019728792003956564819968 : Nat) : Int) := by rw [e0]; exact hX
  clear s'
  have s' := S2.1
  first | refine on_aload_n (pc' := 64) rfl rfl rfl rfl ?_ | refine on_aload_nQ (pc' := 64) rfl rfl rfl rfl ?_
  first | apply on_get (pc' := 67) rfl rfl fl_M_97 | apply on_getN (pc' := 67) rfl rfl fl_M_97
  · repeat (first | assumption | exact on_up_eq _ _ _ | refine (on_up_ne (by omega)).trans ?_)
  · rfl
  first | refine on_aload_n (pc' := 68) rfl rfl rfl rfl ?_ | refine on_aload_nQ (pc' := 68) rfl rfl rfl rfl ?_
  first | apply on_get (pc' := 71) rfl rfl fl_M_88 | apply on_getN (pc' := 71) rfl rfl fl_M_88
  · repeat (first | assumption | exact on_up_eq _ _ _ | refine (on_up_ne (by omega)).trans ?_)
  · rfl
  refine mc_cpy (pc' := 74) 3 0 S2 (by decide) (by decide) (by decide) f0 rfl rfl cw_M_curve_191 (fun c3 h3 S3 v3 e3 t3 => ?_)
  refine on_sipush (pc' := 77) (v := 254) rfl rfl ls_254 ?_
  refine on_istore (pc' := 79) rfl rfl (by decide) ?_
  refine on_relv (l := [(0, .ref o), (1, .ref s), (3, .ref q), (4, .int (ti_k 0))]) ⟨rfl, rfl, rfl, rfl, trivial⟩ (mcu_2 (h := h) (k := k) (x := ((le_v p 32 % 57896044618658097711785492504343953926634992332820282019728792003956564819968 : Nat) : Int)) hs hso hn0 hk hk2 (fun c4 h4 S4 t4 g1 g2 => ?_) 255 0 c3 h3 rfl S3 (t2.trans t3) (by rw [e3 0 (by decide)]; exact f0) (by rw [e3 1 (by decide)]; exact f1) (by rw [e3 2 (by decide)]; exact f2) v3 (by rw [e3 4 (by decide)]; exact f4))
  clear s'
  have s' := S4.1
  first | refine on_aload_n (pc' := 221) rfl rfl rfl rfl ?_ | refine on_aload_nQ (pc' := 221) rfl rfl rfl rfl ?_
  first | refine on_aload_n (pc' := 222) rfl rfl rfl rfl ?_ | refine on_aload_nQ (pc' := 222) rfl rfl rfl rfl ?_
  first | apply on_get (pc' := 225) rfl rfl fl_M_103 | apply on_getN (pc' := 225) rfl rfl fl_M_103
  · repeat (first | assumption | exact on_up_eq _ _ _ | refine (on_up_ne (by omega)).trans ?_)
  · rfl
  first | refine on_aload_n (pc' := 226) rfl rfl rfl rfl ?_ | refine on_aload_nQ (pc' := 226) rfl rfl rfl rfl ?_
  first | apply on_get (pc' := 229) rfl rfl fl_M_94 | apply on_getN (pc' := 229) rfl rfl fl_M_94
  · repeat (first | assumption | exact on_up_eq _ _ _ | refine (on_up_ne (by omega)).trans ?_)
  · rfl
  refine on_callV (pc' := 232) (As := [.ref (o + 34), .ref (o + 31)]) (rest := []) (b := o) rfl rfl cw_M_curve_207 s' rfl rfl (by decide) (Nat.zero_le _) (Nat.zero_le _) (c_M_invertParts S4 g2 g1) ?_
  rintro r h5 z ⟨rfl, rfl, c5, S5, t5, i1, i5⟩
  clear s'
  have s' := S5.1
  first | refine on_aload_n (pc' := 233) rfl rfl rfl rfl ?_ | refine on_aload_nQ (pc' := 233) rfl rfl rfl rfl ?_
  first | refine on_aload_n (pc' := 234) rfl rfl rfl rfl ?_ | refine on_aload_nQ (pc' := 234) rfl rfl rfl rfl ?_
  first | apply on_get (pc' := 237) rfl rfl fl_M_106 | apply on_getN (pc' := 237) rfl rfl fl_M_106
  · repeat (first | assumption | exact on_up_eq _ _ _ | refine (on_up_ne (by omega)).trans ?_)
  · rfl
  first | refine on_aload_n (pc' := 238) rfl rfl rfl rfl ?_ | refine on_aload_nQ (pc' := 238) rfl rfl rfl rfl ?_
  first | apply on_get (pc' := 241) rfl rfl fl_M_91 | apply on_getN (pc' := 241) rfl rfl fl_M_91
  · repeat (first | assumption | exact on_up_eq _ _ _ | refine (on_up_ne (by omega)).trans ?_)
  · rfl
  first | refine on_aload_n (pc' := 242) rfl rfl rfl rfl ?_ | refine on_aload_nQ (pc' := 242) rfl rfl rfl rfl ?_
  first | apply on_get (pc' := 245) rfl rfl fl_M_103 | apply on_getN (pc' := 245) rfl rfl fl_M_103
  · repeat (first | assumption | exact on_up_eq _ _ _ | refine (on_up_ne (by omega)).trans ?_)
  · rfl
  refine mc_mul (pc' := 248) 6 1 5 S5 (by decide) (by decide) (by decide) i1 i5 rfl rfl cw_M_curve_187 (fun c6 h6 S6 v6 e6 t6 => ?_)
  clear s'
  have s' := S6.1
  have tt := (t4.trans t5).trans t6
  first | refine on_aload_n (pc' := 249) rfl rfl rfl rfl ?_ | refine on_aload_nQ (pc' := 249) rfl rfl rfl rfl ?_
  first | refine on_aload_n (pc' := 250) rfl rfl rfl rfl ?_ | refine on_aload_nQ (pc' := 250) rfl rfl rfl rfl ?_
  first | apply on_get (pc' := 253) rfl rfl fl_M_106 | apply on_getN (pc' := 253) rfl rfl fl_M_106
  · repeat (first | assumption | exact on_up_eq _ _ _ | refine (on_up_ne (by omega)).trans ?_)
  · rfl
  refine on_callS (pc' := 256) (As := [.ref q, .ref (o + 35)]) (rest := []) rfl rfl cw_M_curve_210 rfl rfl (by decide) (Nat.zero_le _) (Nat.zero_le _) (c_M_toBytes (S6.2.1 6 (by decide)) v6 ((tt q hqo).trans hq) hn2) ?_
  rintro r h7 z ⟨rfl, rfl, T, B, rfl, B1, B2⟩
  refine on_vreturn rfl rfl ?_
  refine ⟨rfl, rfl, ⟨va_up c6 6 T, mc_S_sm (mc_S_up (kr := 6) S6 (by decide)) (fun a ha => on_up_ne (by omega))⟩, ?_, fun a h1 h2 => ?_⟩
  · rw [on_up_eq]
    refine congrArg some (congrArg (on_ai 0 n2) (funext fun j => ?_))
    unfold wr_by
    rw [cv_x_eq]
    by_cases e : j < 32
    · rw [if_pos ⟨Nat.zero_le _, by omega⟩]; exact B1 j e
    · rw [if_neg (by omega)]; exact B2 j (by omega)
  · rw [on_up_ne h1, on_up_ne (by omega), tt a h2]
end MCU
