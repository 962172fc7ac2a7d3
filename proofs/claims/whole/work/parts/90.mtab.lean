/-! the reference's table: cube roots of the first primes -/
def cf (t : Int64) (p : Int32) : Bool :=
  let a : Int64 := sl_r t 18
  let b : Int64 := t &&& 262143
  let c0 : Int64 := b * b
  let c1 : Int64 := 2 * a * b
  let c2 : Int64 := a * a
  let d0 : Int64 := c0 &&& 262143
  let d1 : Int64 := sl_r c0 18 + (c1 &&& 262143)
  let d2 : Int64 := sl_r c1 18 + c2
  let d2b : Int64 := d2 + sl_r d1 18
  let d1b : Int64 := d1 &&& 262143
  let d3 : Int64 := sl_r d2b 18
  let d2c : Int64 := d2b &&& 262143
  let e0 : Int64 := d0 * b
  let e1 : Int64 := d0 * a + d1b * b + sl_r e0 18
  let e2 : Int64 := d1b * a + d2c * b + sl_r e1 18
  let e3 : Int64 := d2c * a + d3 * b + sl_r e2 18
  let e4 : Int64 := d3 * a + sl_r e3 18
  let li : Int64 := sl_l p.toInt64 24
  let rest : Bool := decide ((0 : Int64) < e0 &&& 262143) || (decide ((0 : Int64) < e1 &&& 262143) || (decide ((0 : Int64) < e2 &&& 262143) || decide ((0 : Int64) < e3 &&& 262143)))
  decide (e4 < li) || (decide (e4 = li) && !rest)
section MTB2
variable {G : on_G} {o sz bc bs : Nat} {x3 : Int32 × Int32 × Int32} {h : on_H} {Q : Option Value → on_H → Nat → Prop}
set_option maxHeartbeats 8000000 in
theorem c_M_cubeFits {t : Int64} {p : Int32} : on_Ct G M_M_cubeFits [.ref o, .long t, .int p] h sz 0 0 (fun r h1 z => r = some (.int (if cf t p then 1 else 0)) ∧ z = sz ∧ h1 = h) := by
  have hq : ∃ u : Bool, u = cf t p := ⟨_, rfl⟩
  obtain ⟨u, hu⟩ := hq
  rw [← hu]
  refine on_Ct.of (by decide) v_M_cubeFits (Nat.le_of_ble_eq_true rfl) ?_
  refine on_lload_n (pc' := 1) rfl rfl rfl rfl ?_
  refine on_bipush (pc' := 3) (v := 18) rfl rfl lb_18 ?_
  refine on_lshr (pc' := 4) rfl rfl ?_
  refine on_lstore (pc' := 6) rfl rfl (by decide) ?_
  generalize e_a : sl_r t 18 = a
  refine on_lload_n (pc' := 7) rfl rfl rfl rfl ?_
  refine on_ldc2 (pc' := 10) rfl rfl ld_M_139 ?_
  refine on_land (pc' := 11) rfl rfl ?_
  refine on_lstore (pc' := 13) rfl rfl (by decide) ?_
  generalize e_b : t &&& 262143 = b
  refine on_lload (pc' := 15) rfl rfl rfl ?_
  refine on_lload (pc' := 17) rfl rfl rfl ?_
  refine on_lmul (pc' := 18) rfl rfl ?_
  refine on_lstore (pc' := 20) rfl rfl (by decide) ?_
  generalize e_c0 : b * b = c0
  refine on_ldc2 (pc' := 23) rfl rfl ld_M_141 ?_
  refine on_lload (pc' := 25) rfl rfl rfl ?_
  refine on_lmul (pc' := 26) rfl rfl ?_
  refine on_lload (pc' := 28) rfl rfl rfl ?_
  refine on_lmul (pc' := 29) rfl rfl ?_
  refine on_lstore (pc' := 31) rfl rfl (by decide) ?_
  generalize e_c1 : 2 * a * b = c1
  refine on_lload (pc' := 33) rfl rfl rfl ?_
  refine on_lload (pc' := 35) rfl rfl rfl ?_
  refine on_lmul (pc' := 36) rfl rfl ?_
  refine on_lstore (pc' := 38) rfl rfl (by decide) ?_
  generalize e_c2 : a * a = c2
  refine on_lload (pc' := 40) rfl rfl rfl ?_
  refine on_ldc2 (pc' := 43) rfl rfl ld_M_139 ?_
  refine on_land (pc' := 44) rfl rfl ?_
  refine on_lstore (pc' := 46) rfl rfl (by decide) ?_
  generalize e_d0 : c0 &&& 262143 = d0
  refine on_lload (pc' := 48) rfl rfl rfl ?_
  refine on_bipush (pc' := 50) (v := 18) rfl rfl lb_18 ?_
  refine on_lshr (pc' := 51) rfl rfl ?_
  refine on_lload (pc' := 53) rfl rfl rfl ?_
  refine on_ldc2 (pc' := 56) rfl rfl ld_M_139 ?_
  refine on_land (pc' := 57) rfl rfl ?_
  refine on_ladd (pc' := 58) rfl rfl ?_
  refine on_lstore (pc' := 60) rfl rfl (by decide) ?_
  generalize e_d1 : sl_r c0 18 + (c1 &&& 262143) = d1
  refine on_lload (pc' := 62) rfl rfl rfl ?_
  refine on_bipush (pc' := 64) (v := 18) rfl rfl lb_18 ?_
  refine on_lshr (pc' := 65) rfl rfl ?_
  refine on_lload (pc' := 67) rfl rfl rfl ?_
  refine on_ladd (pc' := 68) rfl rfl ?_
  refine on_lstore (pc' := 70) rfl rfl (by decide) ?_
  generalize e_d2 : sl_r c1 18 + c2 = d2
  refine on_lload (pc' := 72) rfl rfl rfl ?_
  refine on_lload (pc' := 74) rfl rfl rfl ?_
  refine on_bipush (pc' := 76) (v := 18) rfl rfl lb_18 ?_
  refine on_lshr (pc' := 77) rfl rfl ?_
  refine on_ladd (pc' := 78) rfl rfl ?_
  refine on_lstore (pc' := 80) rfl rfl (by decide) ?_
  generalize e_d2b : d2 + sl_r d1 18 = d2b
  refine on_lload (pc' := 82) rfl rfl rfl ?_
  refine on_ldc2 (pc' := 85) rfl rfl ld_M_139 ?_
  refine on_land (pc' := 86) rfl rfl ?_
  refine on_lstore (pc' := 88) rfl rfl (by decide) ?_
  generalize e_d1b : d1 &&& 262143 = d1b
  refine on_lload (pc' := 90) rfl rfl rfl ?_
  refine on_bipush (pc' := 92) (v := 18) rfl rfl lb_18 ?_
  refine on_lshr (pc' := 93) rfl rfl ?_
  refine on_lstore (pc' := 95) rfl rfl (by decide) ?_
  generalize e_d3 : sl_r d2b 18 = d3
  refine on_lload (pc' := 97) rfl rfl rfl ?_
  refine on_ldc2 (pc' := 100) rfl rfl ld_M_139 ?_
  refine on_land (pc' := 101) rfl rfl ?_
  refine on_lstore (pc' := 103) rfl rfl (by decide) ?_
  generalize e_d2c : d2b &&& 262143 = d2c
  refine on_lload (pc' := 105) rfl rfl rfl ?_
  refine on_lload (pc' := 107) rfl rfl rfl ?_
  refine on_lmul (pc' := 108) rfl rfl ?_
  refine on_lstore (pc' := 110) rfl rfl (by decide) ?_
  generalize e_e0 : d0 * b = e0
  refine on_lload (pc' := 112) rfl rfl rfl ?_
  refine on_lload (pc' := 114) rfl rfl rfl ?_
  refine on_lmul (pc' := 115) rfl rfl ?_
  refine on_lload (pc' := 117) rfl rfl rfl ?_
  refine on_lload (pc' := 119) rfl rfl rfl ?_
  refine on_lmul (pc' := 120) rfl rfl ?_
  refine on_ladd (pc' := 121) rfl rfl ?_
  refine on_lload (pc' := 123) rfl rfl rfl ?_
  refine on_bipush (pc' := 125) (v := 18) rfl rfl lb_18 ?_
  refine on_lshr (pc' := 126) rfl rfl ?_
  refine on_ladd (pc' := 127) rfl rfl ?_
  refine on_lstore (pc' := 129) rfl rfl (by decide) ?_
  generalize e_e1 : d0 * a + d1b * b + sl_r e0 18 = e1
  refine on_lload (pc' := 131) rfl rfl rfl ?_
  refine on_lload (pc' := 133) rfl rfl rfl ?_
  refine on_lmul (pc' := 134) rfl rfl ?_
  refine on_lload (pc' := 136) rfl rfl rfl ?_
  refine on_lload (pc' := 138) rfl rfl rfl ?_
  refine on_lmul (pc' := 139) rfl rfl ?_
  refine on_ladd (pc' := 140) rfl rfl ?_
  refine on_lload (pc' := 142) rfl rfl rfl ?_
  refine on_bipush (pc' := 144) (v := 18) rfl rfl lb_18 ?_
  refine on_lshr (pc' := 145) rfl rfl ?_
  refine on_ladd (pc' := 146) rfl rfl ?_
  refine on_lstore (pc' := 148) rfl rfl (by decide) ?_
  generalize e_e2 : d1b * a + d2c * b + sl_r e1 18 = e2
  refine on_lload (pc' := 150) rfl rfl rfl ?_
  refine on_lload (pc' := 152) rfl rfl rfl ?_
  refine on_lmul (pc' := 153) rfl rfl ?_
  refine on_lload (pc' := 155) rfl rfl rfl ?_
  refine on_lload (pc' := 157) rfl rfl rfl ?_
  refine on_lmul (pc' := 158) rfl rfl ?_
  refine on_ladd (pc' := 159) rfl rfl ?_
  refine on_lload (pc' := 161) rfl rfl rfl ?_
  refine on_bipush (pc' := 163) (v := 18) rfl rfl lb_18 ?_
  refine on_lshr (pc' := 164) rfl rfl ?_
  refine on_ladd (pc' := 165) rfl rfl ?_
  refine on_lstore (pc' := 167) rfl rfl (by decide) ?_
  generalize e_e3 : d2c * a + d3 * b + sl_r e2 18 = e3
  refine on_lload (pc' := 169) rfl rfl rfl ?_
  refine on_lload (pc' := 171) rfl rfl rfl ?_
  refine on_lmul (pc' := 172) rfl rfl ?_
  refine on_lload (pc' := 174) rfl rfl rfl ?_
  refine on_bipush (pc' := 176) (v := 18) rfl rfl lb_18 ?_
  refine on_lshr (pc' := 177) rfl rfl ?_
  refine on_ladd (pc' := 178) rfl rfl ?_
  refine on_lstore (pc' := 180) rfl rfl (by decide) ?_
  generalize e_e4 : d3 * a + sl_r e3 18 = e4
  refine on_lload (pc' := 182) rfl rfl rfl ?_
  refine on_lstore (pc' := 184) rfl rfl (by decide) ?_
  refine on_iload_n (pc' := 185) rfl rfl rfl rfl ?_
  refine on_i2l (pc' := 186) rfl rfl ?_
  refine on_bipush (pc' := 188) (v := 24) rfl rfl lb_24 ?_
  refine on_lshl (pc' := 189) rfl rfl ?_
  refine on_lstore (pc' := 191) rfl rfl (by decide) ?_
  generalize e_li : sl_l p.toInt64 24 = li
  have hu2 : u = (decide (e4 < li) || (decide (e4 = li) && !(decide ((0 : Int64) < e0 &&& 262143) || (decide ((0 : Int64) < e1 &&& 262143) || (decide ((0 : Int64) < e2 &&& 262143) || decide ((0 : Int64) < e3 &&& 262143)))))) := by
    rw [hu]
    subst e_li e_e4 e_e3 e_e2 e_e1 e_e0 e_d2c e_d3 e_d1b e_d2b e_d2 e_d1 e_d0 e_c2 e_c1 e_c0 e_b e_a
    rfl
  clear hu
  have hu := hu2
  have fin : ∀ rest : Bool, u = (decide (e4 < li) || (decide (e4 = li) && !rest)) → on_E G M_M_cubeFits 240 (on_l [(32, .long e4), (34, .long li)]) [.int (if rest then 1 else 0)] h sz 0 0 (fun r h1 z => r = some (.int (if u then 1 else 0)) ∧ z = sz ∧ h1 = h) := by
    intro rest hr
    refine on_istore (pc' := 242) rfl rfl (by decide) ?_
    refine on_lload (pc' := 244) rfl rfl rfl ?_
    refine on_lload (pc' := 246) rfl rfl rfl ?_
    refine on_lcmp (pc' := 247) rfl rfl ?_
    refine on_if_lt (pc' := 250) (tgt := 263) rfl rfl rfl (fun cq => ?_) (fun cq => ?_)
    · have g : e4 < li := (lg_cmp_lt _ _).mp cq
      refine on_iconst (pc' := 264) (v := 1) rfl rfl li_1 ?_
      refine on_goto (tgt := 268) rfl rfl ?_
      refine on_zreturn rfl rfl ?_ ?_
      · first | rfl | assumption
      rw [hr, decide_eq_true g]
      exact ⟨rfl, rfl, rfl⟩
    · have g : ¬ e4 < li := fun z => cq ((lg_cmp_lt _ _).mpr z)
      refine on_lload (pc' := 252) rfl rfl rfl ?_
      refine on_lload (pc' := 254) rfl rfl rfl ?_
      refine on_lcmp (pc' := 255) rfl rfl ?_
      refine on_if_ne (pc' := 258) (tgt := 267) rfl rfl rfl (fun cq => ?_) (fun cq => ?_)
      · have g2 : ¬ e4 = li := fun z => cq ((lg_cmp_eq _ _).mpr z)
        refine on_iconst (pc' := 268) (v := 0) rfl rfl li_0 ?_
        refine on_zreturn rfl rfl ?_ ?_
        · first | rfl | assumption
        rw [hr, decide_eq_false g, decide_eq_false g2]
        exact ⟨rfl, rfl, rfl⟩
      · have g2 : e4 = li := (lg_cmp_eq _ _).mp cq
        clear cq
        refine on_iload (pc' := 260) rfl rfl rfl ?_
        refine on_if_ne (pc' := 263) (tgt := 267) rfl rfl rfl (fun cq => ?_) (fun cq => ?_)
        · have g3 : rest = true := by
            cases rest with
            | true => rfl
            | false => exact absurd rfl cq
          refine on_iconst (pc' := 268) (v := 0) rfl rfl li_0 ?_
          refine on_zreturn rfl rfl ?_ ?_
          · first | rfl | assumption
          rw [hr, decide_eq_false g, decide_eq_true g2, g3]
          exact ⟨rfl, rfl, rfl⟩
        · have g3 : rest = false := by
            cases rest with
            | false => rfl
            | true => exact absurd cq (by decide)
          refine on_iconst (pc' := 264) (v := 1) rfl rfl li_1 ?_
          refine on_goto (tgt := 268) rfl rfl ?_
          refine on_zreturn rfl rfl ?_ ?_
          · first | rfl | assumption
          rw [hr, decide_eq_false g, decide_eq_true g2, g3]
          exact ⟨rfl, rfl, rfl⟩
  have yes : u = (decide (e4 < li) || (decide (e4 = li) && !true)) → on_E G M_M_cubeFits 235 (on_l [(32, .long e4), (34, .long li)]) [] h sz 0 0 (fun r h1 z => r = some (.int (if u then 1 else 0)) ∧ z = sz ∧ h1 = h) := by
    intro hr
    refine on_iconst (pc' := 236) (v := 1) rfl rfl li_1 ?_
    refine on_goto (tgt := 240) rfl rfl ?_
    exact fin true hr
  refine on_lload (pc' := 193) rfl rfl rfl ?_
  refine on_ldc2 (pc' := 196) rfl rfl ld_M_139 ?_
  refine on_land (pc' := 197) rfl rfl ?_
  refine on_lconst (pc' := 198) (v := 0) rfl rfl ll_0 ?_
  refine on_lcmp (pc' := 199) rfl rfl ?_
  refine on_if_gt (pc' := 202) (tgt := 235) rfl rfl rfl (fun cq => ?_) (fun cq => ?_)
  · have g0 := (lg_cmp_gt _ _).mp cq
    rw [decide_eq_true g0] at hu
    exact on_relv (l := [(32, .long e4), (34, .long li)]) ⟨rfl, rfl, trivial⟩ (yes hu)
  have g0 : ¬ (0 : Int64) < e0 &&& 262143 := fun z => cq ((lg_cmp_gt _ _).mpr z)
  clear cq
  refine on_lload (pc' := 204) rfl rfl rfl ?_
  refine on_ldc2 (pc' := 207) rfl rfl ld_M_139 ?_
  refine on_land (pc' := 208) rfl rfl ?_
  refine on_lconst (pc' := 209) (v := 0) rfl rfl ll_0 ?_
  refine on_lcmp (pc' := 210) rfl rfl ?_
  refine on_if_gt (pc' := 213) (tgt := 235) rfl rfl rfl (fun cq => ?_) (fun cq => ?_)
  · have g1 := (lg_cmp_gt _ _).mp cq
    rw [decide_eq_false g0, decide_eq_true g1] at hu
    exact on_relv (l := [(32, .long e4), (34, .long li)]) ⟨rfl, rfl, trivial⟩ (yes hu)
  have g1 : ¬ (0 : Int64) < e1 &&& 262143 := fun z => cq ((lg_cmp_gt _ _).mpr z)
  clear cq
  refine on_lload (pc' := 215) rfl rfl rfl ?_
  refine on_ldc2 (pc' := 218) rfl rfl ld_M_139 ?_
  refine on_land (pc' := 219) rfl rfl ?_
  refine on_lconst (pc' := 220) (v := 0) rfl rfl ll_0 ?_
  refine on_lcmp (pc' := 221) rfl rfl ?_
  refine on_if_gt (pc' := 224) (tgt := 235) rfl rfl rfl (fun cq => ?_) (fun cq => ?_)
  · have g2 := (lg_cmp_gt _ _).mp cq
    rw [decide_eq_false g0, decide_eq_false g1, decide_eq_true g2] at hu
    exact on_relv (l := [(32, .long e4), (34, .long li)]) ⟨rfl, rfl, trivial⟩ (yes hu)
  have g2 : ¬ (0 : Int64) < e2 &&& 262143 := fun z => cq ((lg_cmp_gt _ _).mpr z)
  clear cq
  refine on_lload (pc' := 226) rfl rfl rfl ?_
  refine on_ldc2 (pc' := 229) rfl rfl ld_M_139 ?_
  refine on_land (pc' := 230) rfl rfl ?_
  refine on_lconst (pc' := 231) (v := 0) rfl rfl ll_0 ?_
  refine on_lcmp (pc' := 232) rfl rfl ?_
  refine on_if_le (pc' := 235) (tgt := 239) rfl rfl rfl (fun cq => ?_) (fun cq => ?_)
  · have g3 : ¬ (0 : Int64) < e3 &&& 262143 := fun z => by
      have z2 := (lg_cmp_gt _ _).mpr z
      exact absurd cq (Int32.not_le.mpr z2)
    rw [decide_eq_false g0, decide_eq_false g1, decide_eq_false g2, decide_eq_false g3] at hu
    refine on_iconst (pc' := 240) (v := 0) rfl rfl li_0 ?_
    exact on_relv (l := [(32, .long e4), (34, .long li)]) ⟨rfl, rfl, trivial⟩ (fin false hu)
  · have g3 : (0 : Int64) < e3 &&& 262143 := (lg_cmp_gt _ _).mp (Int32.not_le.mp cq)
    rw [decide_eq_false g0, decide_eq_false g1, decide_eq_false g2, decide_eq_true g3] at hu
    exact on_relv (l := [(32, .long e4), (34, .long li)]) ⟨rfl, rfl, trivial⟩ (yes hu)
/-- the root, n bits of it -/
def rq (p : Int32) : Nat → Int64
  | 0 => 0
  | n + 1 => if cf (rq p n ||| sl_l 1 (nI (35 - n))) p then rq p n ||| sl_l 1 (nI (35 - n)) else rq p n
def rqk (n : Nat) : Int32 := if n < 36 then nI (35 - n) else -1
theorem rqk_s : ∀ n, n < 36 → rqk n + Int32.ofInt (-1) = rqk (n + 1) := by decide +kernel
set_option maxHeartbeats 4000000 in
theorem mrt_l {p : Int32} {fs : List Value} (ho : h o = some (.inr (17, fs)))
    (k : on_E G M_M_rootPart 42 (on_l [(2, .long (rq p 36))]) [] h sz bc bs Q) :
    ∀ (m n : Nat), n + m = 36 → on_E G M_M_rootPart 6 (on_l [(0, .ref o), (1, .int p), (2, .long (rq p n)), (4, .int (rqk n))]) [] h sz bc bs Q := by
  intro m
  induction m with
  | zero =>
    intro n hn
    obtain rfl : n = 36 := by omega
    refine on_iload (pc' := 8) rfl rfl rfl ?_
    refine on_if_lt (pc' := 11) (tgt := 42) rfl rfl rfl (fun cq => ?_) (fun cq => ?_)
    · exact on_relv (l := [(2, .long (rq p 36))]) ⟨rfl, trivial⟩ k
    · exact absurd (by decide) cq
  | succ m ih =>
    intro n hn
    have ek : rqk n = nI (35 - n) := if_pos (by omega)
    refine on_iload (pc' := 8) rfl rfl rfl ?_
    refine on_if_lt (pc' := 11) (tgt := 42) rfl rfl rfl (fun cq => ?_) (fun cq => ?_)
    · rw [ek] at cq
      exact absurd cq (nI_pos (by omega))
    · rw [ek]
      refine on_lload_n (pc' := 12) rfl rfl rfl rfl ?_
      refine on_lconst (pc' := 13) (v := 1) rfl rfl ll_1 ?_
      refine on_iload (pc' := 15) rfl rfl rfl ?_
      refine on_lshl (pc' := 16) rfl rfl ?_
      refine on_lor (pc' := 17) rfl rfl ?_
      refine on_lstore (pc' := 19) rfl rfl (by decide) ?_
      first | refine on_aload_n (pc' := 20) rfl rfl rfl rfl ?_ | refine on_aload_nQ (pc' := 20) rfl rfl rfl rfl ?_
      refine on_lload (pc' := 22) rfl rfl rfl ?_
      refine on_iload_n (pc' := 23) rfl rfl rfl rfl ?_
      refine on_callV (pc' := 26) (As := [.long (rq p n ||| sl_l 1 (nI (35 - n))), .int p]) (rest := []) (b := o) rfl rfl cw_M_rootPart_135 ho rfl rfl (by decide) (Nat.zero_le _) (Nat.zero_le _) c_M_cubeFits ?_
      rintro r h1 sz ⟨rfl, rfl, rfl⟩
      have hs : rq p (n + 1) = if cf (rq p n ||| sl_l 1 (nI (35 - n))) p then rq p n ||| sl_l 1 (nI (35 - n)) else rq p n := rfl
      refine on_if_eq (pc' := 29) (tgt := 34) rfl rfl rfl (fun cq => ?_) (fun cq => ?_)
      · have g : ¬ (cf (rq p n ||| sl_l 1 (nI (35 - n))) p = true) := fun e => by rw [if_pos e] at cq; exact absurd cq (by decide)
        rw [if_neg g] at hs
        refine on_lload_n (pc' := 35) rfl rfl rfl rfl ?_
        refine on_lstore_n (pc' := 36) rfl rfl rfl (by decide) ?_
        refine on_iinc (pc' := 39) rfl rfl rfl rfl ?_
        refine on_goto (tgt := 6) rfl rfl ?_
        exact on_relv (l := [(0, .ref o), (1, .int p), (2, .long (rq p (n + 1))), (4, .int (rqk (n + 1)))]) ⟨rfl, rfl, congrArg some (congrArg Value.long hs.symm), congrArg some (congrArg Value.int (by rw [← ek]; exact rqk_s n (by omega))), trivial⟩ (ih (n + 1) (by omega))
      · have g : cf (rq p n ||| sl_l 1 (nI (35 - n))) p = true := by
          cases e : cf (rq p n ||| sl_l 1 (nI (35 - n))) p with
          | true => rfl
          | false => rw [e] at cq; exact absurd rfl cq
        rw [if_pos g] at hs
        refine on_lload (pc' := 31) rfl rfl rfl ?_
        refine on_goto (tgt := 35) rfl rfl ?_
        refine on_lstore_n (pc' := 36) rfl rfl rfl (by decide) ?_
        refine on_iinc (pc' := 39) rfl rfl rfl rfl ?_
        refine on_goto (tgt := 6) rfl rfl ?_
        exact on_relv (l := [(0, .ref o), (1, .int p), (2, .long (rq p (n + 1))), (4, .int (rqk (n + 1)))]) ⟨rfl, rfl, congrArg some (congrArg Value.long hs.symm), congrArg some (congrArg Value.int (by rw [← ek]; exact rqk_s n (by omega))), trivial⟩ (ih (n + 1) (by omega))
theorem c_M_rootPart {p : Int32} {fs : List Value} (ho : h o = some (.inr (17, fs))) : on_Ct G M_M_rootPart [.ref o, .int p] h sz 0 0 (fun r h1 z => r = some (.int (rq p 36).toInt32) ∧ z = sz ∧ h1 = h) := by
  refine on_Ct.of (by decide) v_M_rootPart (Nat.le_of_ble_eq_true rfl) ?_
  refine on_lconst (pc' := 1) (v := 0) rfl rfl ll_0 ?_
  refine on_lstore_n (pc' := 2) rfl rfl rfl (by decide) ?_
  refine on_bipush (pc' := 4) (v := 35) rfl rfl lb_35 ?_
  refine on_istore (pc' := 6) rfl rfl (by decide) ?_
  refine on_relv (l := [(0, .ref o), (1, .int p), (2, .long (rq p 0)), (4, .int (rqk 0))]) ⟨rfl, rfl, rfl, rfl, trivial⟩ (mrt_l ho ?_ 36 0 rfl)
  refine on_lload_n (pc' := 43) rfl rfl rfl rfl ?_
  refine on_l2i (pc' := 44) rfl rfl ?_
  refine on_ireturn rfl rfl ?_
  exact ⟨rfl, rfl, rfl⟩
/-- whether no number from 2 up to d - 1 divides n -/
def npd (n : Nat) : Nat → Bool
  | 0 => true
  | d + 1 => npd n d && decide (¬ n % (d + 2) = 0)

set_option maxHeartbeats 4000000 in
theorem mip_l {n D : Nat} (hn : n < 1000) (hD : D < 40) (h1 : ∀ d, d < D → (d + 2) * (d + 2) ≤ n) (h2 : n < (D + 2) * (D + 2))
    (k : on_E G M_M_isPrime 33 (on_l [(1, .int (if npd n D then 1 else 0))]) [] h sz bc bs Q) :
    ∀ (m d : Nat), d + m = D → on_E G M_M_isPrime 4 (on_l [(0, .int (nI n)), (1, .int (if npd n d then 1 else 0)), (2, .int (nI (d + 2)))]) [] h sz bc bs Q := by
  intro m
  induction m with
  | zero =>
    intro d hd
    obtain rfl : d = D := by omega
    have e1 : nI (d + 2) * nI (d + 2) = nI ((d + 2) * (d + 2)) := pk_mul _ _
    have l1 : (d + 2) * (d + 2) < 42 * 42 := Nat.mul_lt_mul'' (by omega) (by omega)
    refine on_iload_n (pc' := 5) rfl rfl rfl rfl ?_
    refine on_iload_n (pc' := 6) rfl rfl rfl rfl ?_
    refine on_imul (pc' := 7) rfl rfl ?_
    rw [e1]
    refine on_iload_n (pc' := 8) rfl rfl rfl rfl ?_
    refine on_icmp_gt (pc' := 11) (tgt := 33) rfl rfl rfl (fun cq => ?_) (fun cq => ?_)
    · exact on_relv (l := [(1, .int (if npd n d then 1 else 0))]) ⟨rfl, trivial⟩ k
    · exact absurd (nI_lt h2 (by omega)) cq
  | succ m ih =>
    intro d hd
    have e1 : nI (d + 2) * nI (d + 2) = nI ((d + 2) * (d + 2)) := pk_mul _ _
    have l1 := h1 d (by omega)
    have e2 : i_rem (nI n) (nI (d + 2)) = nI (n % (d + 2)) := pk_rem (by omega) (by omega) (by omega)
    have l2 : n % (d + 2) < d + 2 := Nat.mod_lt _ (by omega)
    have ne : ¬ nI (d + 2) = 0 := fun e => by have := (nI_eq (b := 0) (by omega) (by omega)).mp e; omega
    have tail : ∀ v : Int32, v = (if npd n (d + 1) then 1 else 0) → on_E G M_M_isPrime 26 (on_l [(0, .int (nI n)), (2, .int (nI (d + 2)))]) [.int v] h sz bc bs Q := by
      intro v hv
      refine on_istore_n (pc' := 27) rfl rfl rfl (by decide) ?_
      refine on_iinc1 (pc' := 30) rfl rfl rfl ?_
      refine on_goto (tgt := 4) rfl rfl ?_
      exact on_relv (l := [(0, .int (nI n)), (1, .int (if npd n (d + 1) then 1 else 0)), (2, .int (nI (d + 1 + 2)))]) ⟨rfl, congrArg some (congrArg Value.int hv), congrArg some (congrArg Value.int (nI_1 (d + 2))), trivial⟩ (ih (d + 1) (by omega))
    refine on_iload_n (pc' := 5) rfl rfl rfl rfl ?_
    refine on_iload_n (pc' := 6) rfl rfl rfl rfl ?_
    refine on_imul (pc' := 7) rfl rfl ?_
    rw [e1]
    refine on_iload_n (pc' := 8) rfl rfl rfl rfl ?_
    refine on_icmp_gt (pc' := 11) (tgt := 33) rfl rfl rfl (fun cq => ?_) (fun cq => ?_)
    · exact absurd cq (nI_nlt (a := n) (b := (d + 2) * (d + 2)) l1 (by omega))
    · clear cq
      refine on_iload_n (pc' := 12) rfl rfl rfl rfl ?_
      refine on_if_eq (pc' := 15) (tgt := 25) rfl rfl rfl (fun cq => ?_) (fun cq => ?_)
      · have hf : npd n d = false := by
          cases e : npd n d with
          | false => rfl
          | true => rw [e] at cq; exact absurd cq (by decide)
        refine on_iconst (pc' := 26) (v := 0) rfl rfl li_0 ?_
        refine on_relv (l := [(0, .int (nI n)), (2, .int (nI (d + 2)))]) ⟨rfl, rfl, trivial⟩ (tail 0 ?_)
        show (0 : Int32) = if (npd n d && decide (¬ n % (d + 2) = 0)) = true then 1 else 0
        rw [hf]; rfl
      · have hf : npd n d = true := by
          cases e : npd n d with
          | true => rfl
          | false => rw [e] at cq; exact absurd rfl cq
        clear cq
        refine on_iload_n (pc' := 16) rfl rfl rfl rfl ?_
        refine on_iload_n (pc' := 17) rfl rfl rfl rfl ?_
        refine on_irem (pc' := 18) rfl rfl (by first | assumption | decide) ?_
        rw [e2]
        refine on_if_eq (pc' := 21) (tgt := 25) rfl rfl rfl (fun cq => ?_) (fun cq => ?_)
        · have z := (nI_eq (b := 0) (by omega) (by omega)).mp cq
          refine on_iconst (pc' := 26) (v := 0) rfl rfl li_0 ?_
          refine on_relv (l := [(0, .int (nI n)), (2, .int (nI (d + 2)))]) ⟨rfl, rfl, trivial⟩ (tail 0 ?_)
          show (0 : Int32) = if (npd n d && decide (¬ n % (d + 2) = 0)) = true then 1 else 0
          rw [hf, decide_eq_false (fun q => q z)]; rfl
        · have z : ¬ n % (d + 2) = 0 := fun e => cq (by rw [e]; rfl)
          refine on_iconst (pc' := 22) (v := 1) rfl rfl li_1 ?_
          refine on_goto (tgt := 26) rfl rfl ?_
          refine on_relv (l := [(0, .int (nI n)), (2, .int (nI (d + 2)))]) ⟨rfl, rfl, trivial⟩ (tail 1 ?_)
          show (1 : Int32) = if (npd n d && decide (¬ n % (d + 2) = 0)) = true then 1 else 0
          rw [hf, decide_eq_true z]; rfl
/-- how many d are tried for n -/
def npD (n : Nat) : Nat := ((List.range 20).filter (fun d => decide ((d + 2) * (d + 2) ≤ n))).length
theorem npD_ok : ∀ m, m < 320 → (npD m < 20 ∧ (∀ d, d < npD m → (d + 2) * (d + 2) ≤ m) ∧ m < (npD m + 2) * (npD m + 2)) := by decide +kernel
theorem c_M_isPrime {n : Nat} (hn : n < 320) : on_Ct G M_M_isPrime [.int (nI n)] h sz 0 0 (fun r h1 z => r = some (.int (if npd n (npD n) then 1 else 0)) ∧ z = sz ∧ h1 = h) := by
  obtain ⟨d1, d2, d3⟩ := npD_ok n hn
  refine on_Ct.of (by decide) v_M_isPrime (Nat.le_of_ble_eq_true rfl) ?_
  refine on_iconst (pc' := 1) (v := 1) rfl rfl li_1 ?_
  refine on_istore_n (pc' := 2) rfl rfl rfl (by decide) ?_
  refine on_iconst (pc' := 3) (v := 2) rfl rfl li_2 ?_
  refine on_istore_n (pc' := 4) rfl rfl rfl (by decide) ?_
  refine on_relv (l := [(0, .int (nI n)), (1, .int (if npd n 0 then 1 else 0)), (2, .int (nI (0 + 2)))]) ⟨rfl, rfl, rfl, trivial⟩ (mip_l (by omega) (by omega) d2 d3 ?_ (npD n) 0 (by omega))
  refine on_iload_n (pc' := 34) rfl rfl rfl rfl ?_
  cases e : npd n (npD n) with
  | true =>
    refine on_zreturn rfl rfl ?_ ?_
    · first | rfl | assumption
    exact ⟨rfl, rfl, rfl⟩
  | false =>
    refine on_zreturn rfl rfl ?_ ?_
    · first | rfl | assumption
    exact ⟨rfl, rfl, rfl⟩
/-- the first primes -/
def pr (k : Nat) : Nat := [2, 3, 5, 7, 11, 13, 17, 19, 23, 29, 31, 37, 41, 43, 47, 53, 59, 61, 67, 71, 73, 79, 83, 89, 97, 101, 103, 107, 109, 113, 127, 131, 137, 139, 149, 151, 157, 163, 167, 173, 179, 181, 191, 193, 197, 199, 211, 223, 227, 229, 233, 239, 241, 251, 257, 263, 269, 271, 277, 281, 283, 293, 307, 311, 313].getD k 0
theorem pr_ok : ∀ k, k < 64 → (pr k < pr (k + 1) ∧ pr (k + 1) < 320 ∧ npd (pr (k + 1)) (npD (pr (k + 1))) = true ∧ ∀ m, m < pr (k + 1) → pr k < m → npd m (npD m) = false) := by decide +kernel
theorem pr_K : ∀ k, k < 64 → (rq (nI (pr k)) 36).toInt32 = sp_K k := by decide +kernel
set_option maxHeartbeats 4000000 in
/-- on to the next prime -/
theorem min_2 {k : Nat} (hk : k < 64) (kk : on_E G M_M_init 332 (on_l [(0, .ref o), (1, .int (nI (pr (k + 1)))), (2, .int (nI k))]) [] h sz bc bs Q) :
    ∀ (m n : Nat), n + m = pr (k + 1) → pr k < n → on_E G M_M_init 319 (on_l [(0, .ref o), (1, .int (nI n)), (2, .int (nI k))]) [] h sz bc bs Q := by
  obtain ⟨p1, p2, p3, p4⟩ := pr_ok k hk
  intro m
  induction m with
  | zero =>
    intro n hn h1
    obtain rfl : n = pr (k + 1) := by omega
    refine on_iload_n (pc' := 320) rfl rfl rfl rfl ?_
    refine on_callS (pc' := 323) (As := [.int (nI (pr (k + 1)))]) (rest := []) rfl rfl cw_M_init_131 rfl rfl (by decide) (Nat.zero_le _) (Nat.zero_le _) (c_M_isPrime p2) ?_
    rintro r h2 sz ⟨rfl, rfl, rfl⟩
    rw [if_pos p3]
    refine on_if_ne (pc' := 326) (tgt := 332) rfl rfl rfl (fun cq => ?_) (fun cq => ?_)
    · exact kk
    · exact absurd cq (by decide)
  | succ m ih =>
    intro n hn h1
    have hf := p4 n (by omega) h1
    refine on_iload_n (pc' := 320) rfl rfl rfl rfl ?_
    refine on_callS (pc' := 323) (As := [.int (nI n)]) (rest := []) rfl rfl cw_M_init_131 rfl rfl (by decide) (Nat.zero_le _) (Nat.zero_le _) (c_M_isPrime (by omega)) ?_
    rintro r h2 sz ⟨rfl, rfl, rfl⟩
    rw [if_neg (by rw [hf]; decide)]
    refine on_if_ne (pc' := 326) (tgt := 332) rfl rfl rfl (fun cq => ?_) (fun cq => ?_)
    · exact absurd rfl cq
    · refine on_iinc1 (pc' := 329) rfl rfl rfl ?_
      refine on_goto (tgt := 319) rfl rfl ?_
      exact on_relv (l := [(0, .ref o), (1, .int (nI (n + 1))), (2, .int (nI k))]) ⟨rfl, congrArg some (congrArg Value.int (nI_1 n)), rfl, trivial⟩ (ih (n + 1) (by omega) (by omega))
set_option maxHeartbeats 4000000 in
/-- the table is laid -/
theorem min_1 (ho : h o = some (.inr (17, mo_f o x3.1 x3.2.1 x3.2.2)))
    (kk : ∀ T : Nat → Int32, (∀ k, k < 64 → T k = sp_K k) → on_E G M_M_init 338 (on_l []) [] (on_up h (o + 17) (on_ai 0 64 T)) sz bc bs Q) :
    ∀ (m k : Nat) (T : Nat → Int32), k + m = 64 → (∀ j, j < k → T j = sp_K j) → on_E G M_M_init 299 (on_l [(0, .ref o), (1, .int (nI (pr k))), (2, .int (nI k))]) [] (on_up h (o + 17) (on_ai 0 64 T)) sz bc bs Q := by
  intro m
  induction m with
  | zero =>
    intro k T hk hT
    obtain rfl : k = 64 := by omega
    refine on_iload_n (pc' := 300) rfl rfl rfl rfl ?_
    refine on_bipush (pc' := 302) (v := 64) rfl rfl lb_64 ?_
    refine on_icmp_ge (pc' := 305) (tgt := 338) rfl rfl rfl (fun cq => ?_) (fun cq => ?_)
    · exact on_relv (l := []) trivial (kk T hT)
    · exact absurd (nI_le (a := 64) (by omega) (by omega)) cq
  | succ m ih =>
    intro k T hk hT
    have hi2 : k < 64 ∧ 64 < 2 ^ 31 := by omega
    obtain ⟨p1, p2, p3, p4⟩ := pr_ok k hi2.1
    refine on_iload_n (pc' := 300) rfl rfl rfl rfl ?_
    refine on_bipush (pc' := 302) (v := 64) rfl rfl lb_64 ?_
    refine on_icmp_ge (pc' := 305) (tgt := 338) rfl rfl rfl (fun cq => ?_) (fun cq => ?_)
    · exact absurd cq (nI_ge (b := 64) (by omega) (by omega))
    · first | refine on_aload_n (pc' := 306) rfl rfl rfl rfl ?_ | refine on_aload_nQ (pc' := 306) rfl rfl rfl rfl ?_
      first | apply on_get (pc' := 309) rfl rfl fl_M_52 | apply on_getN (pc' := 309) rfl rfl fl_M_52
      · repeat (first | assumption | exact on_up_eq _ _ _ | refine (on_up_ne (by omega)).trans ?_)
      · rfl
      refine on_iload_n (pc' := 310) rfl rfl rfl rfl ?_
      first | refine on_aload_n (pc' := 311) rfl rfl rfl rfl ?_ | refine on_aload_nQ (pc' := 311) rfl rfl rfl rfl ?_
      refine on_iload_n (pc' := 312) rfl rfl rfl rfl ?_
      refine on_callV (pc' := 315) (As := [.int (nI (pr k))]) (rest := [.int (nI k), .ref (o + 17)]) (b := o) rfl rfl cw_M_init_127 ((on_up_ne (by omega)).trans ho) rfl rfl (Nat.le_of_ble_eq_true rfl) (Nat.zero_le _) (Nat.zero_le _) (c_M_rootPart ((on_up_ne (by omega)).trans ho)) ?_
      rintro r h2 sz ⟨rfl, rfl, rfl⟩
      rw [pr_K k hi2.1]
      apply on_iastoreK (pc' := 316) (t := 0) rfl rfl
      · repeat (first | assumption | exact on_up_eq _ _ _ | refine (on_up_ne (by omega)).trans ?_)
      · rfl
      · first | assumption | exact on_lit _ | rfl
      · first | assumption | omega | decide
      refine on_iinc1 (pc' := 319) rfl rfl rfl ?_
      rw [on_up_up]
      refine on_relv (l := [(0, .ref o), (1, .int (nI (pr k + 1))), (2, .int (nI k))]) ⟨rfl, congrArg some (congrArg Value.int (nI_1 (pr k))), rfl, trivial⟩ (min_2 hi2.1 ?_ (pr (k + 1) - (pr k + 1)) (pr k + 1) (by omega) (by omega))
      refine on_iinc1 (pc' := 335) rfl rfl rfl ?_
      refine on_goto (tgt := 299) rfl rfl ?_
      refine on_relv (l := [(0, .ref o), (1, .int (nI (pr (k + 1)))), (2, .int (nI (k + 1)))]) ⟨rfl, rfl, congrArg some (congrArg Value.int (nI_1 k)), trivial⟩ (ih (k + 1) _ (by omega) (fun j hj => ?_))
      by_cases e : j = k
      · subst e; exact pk_us
      · rw [pk_un e]; exact hT j (by omega)
end MTB2
