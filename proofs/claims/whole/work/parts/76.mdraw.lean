/-! the reference's draws -/
theorem sh_r_aux (x D : Int32) {d : Nat} (hD : (D.toBitVec.smod 32).toNat = d) : (x >>> D).toInt = x.toInt >>> d := by
  rw [← hD]
  exact BitVec.toInt_sshiftRight ..
theorem sh_r_int (x : Int32) {k : Nat} (hk : k < 32) : (sh_r x (nI k)).toInt = x.toInt / 2 ^ k := by
  have hc : ∀ k, k < 32 → (nI k &&& 31) = nI k := by decide +kernel
  have hd : ∀ k, k < 32 → ((nI k).toBitVec.smod 32).toNat = k := by decide +kernel
  unfold sh_r
  rw [hc k hk, sh_r_aux x (nI k) (hd k hk), Int.shiftRight_eq_div_pow]
  rfl
/-- the bytes of an int, the highest first -/
def db_b (v : Int32) : Nat → Nat := fun i => v.toBitVec.toNat / 2 ^ (24 - 8 * i) % 256
theorem db_lt (v : Int32) (i : Nat) : db_b v i < 256 := Nat.mod_lt _ (by decide)
theorem db_e (v : Int32) {j : Nat} (hj : j < 4) : sh_r v (nI (24 - 8 * j)) &&& 255 = nI (db_b v j) := by
  rw [pk_and _ 8 rfl]
  refine congrArg nI ?_
  unfold db_b
  have e := sh_r_int v (k := 24 - 8 * j) (by omega)
  generalize sh_r v (nI (24 - 8 * j)) = y at e ⊢
  have e3 : v.toInt = if 2 * v.toBitVec.toNat < 2 ^ 32 then (v.toBitVec.toNat : Int) else (v.toBitVec.toNat : Int) - (2 ^ 32 : Nat) := BitVec.toInt_eq_toNat_cond _
  have e4 : y.toInt = if 2 * y.toBitVec.toNat < 2 ^ 32 then (y.toBitVec.toNat : Int) else (y.toBitVec.toNat : Int) - (2 ^ 32 : Nat) := BitVec.toInt_eq_toNat_cond _
  have h1 := v.toBitVec.isLt
  have h2 := y.toBitVec.isLt
  generalize v.toBitVec.toNat = a at *
  generalize y.toBitVec.toNat = b at *
  rw [e3, e4] at e
  match j, hj with
  | 0, _ => revert e; simp only [Nat.mul_zero, Nat.sub_zero]; split <;> split <;> intro e <;> omega
  | 1, _ => revert e; simp only [Nat.reduceMul, Nat.reduceSub]; split <;> split <;> intro e <;> omega
  | 2, _ => revert e; simp only [Nat.reduceMul, Nat.reduceSub]; split <;> split <;> intro e <;> omega
  | 3, _ => revert e; simp only [Nat.reduceMul, Nat.reduceSub]; split <;> split <;> intro e <;> omega
/-- what is hashed for a draw -/
def dr_m (seed : Int64) (n : Int32) : List Nat := sp_sl nm_b 0 8 ++ [1] ++ sp_sl (sd_b seed) 0 8 ++ sp_sl (db_b n) 0 4
def dk_k (j : Nat) : Int32 := if j < 4 then nI (24 - 8 * j) else -8
theorem dk_k_s {j : Nat} (hj : j < 4) : dk_k j + Int32.ofInt (-8) = dk_k (j + 1) := by
  match j, hj with
  | 0, _ => decide
  | 1, _ => decide
  | 2, _ => decide
  | 3, _ => decide
section MDR
variable {G : on_G} {o q sz bc bs : Nat} {x3 : Int32 × Int32 × Int32} {h : on_H} {Q : Option Value → on_H → Nat → Prop} {ms : List Nat}
set_option maxHeartbeats 4000000 in
theorem md_l {n : Int32} (hL : ms.length + 4 < 2 ^ 31)
    (k : ∀ h2, mo_O o x3 h2 → ms_X (o + 8) (ms ++ sp_sl (db_b n) 0 4) h2 → on_sm (o + 8) (o + 11) h h2 → on_E G M_M_draw 44 (on_l [(0, .ref o), (4, .ref q)]) [] h2 sz bc bs Q) :
    ∀ (m i : Nat) (h1 : on_H), i + m = 4 → mo_O o x3 h1 → ms_X (o + 8) (ms ++ sp_sl (db_b n) 0 i) h1 → on_sm (o + 8) (o + 11) h h1 → on_E G M_M_draw 21 (on_l [(0, .ref o), (3, .int n), (4, .ref q), (5, .int (dk_k i))]) [] h1 sz bc bs Q := by
  intro m
  induction m with
  | zero =>
    intro i h1 hi hO hX hs
    obtain rfl : i = 4 := by omega
    refine on_iload (pc' := 23) rfl rfl rfl ?_
    refine on_if_lt (pc' := 26) (tgt := 44) rfl rfl rfl (fun cq => ?_) (fun cq => ?_)
    · exact on_relv (l := [(0, .ref o), (4, .ref q)]) ⟨rfl, rfl, trivial⟩ (k h1 hO hX hs)
    · exact absurd (by decide) cq
  | succ m ih =>
    intro i h1 hi hO hX hs
    have ek : dk_k i = nI (24 - 8 * i) := if_pos (by omega)
    refine on_iload (pc' := 23) rfl rfl rfl ?_
    refine on_if_lt (pc' := 26) (tgt := 44) rfl rfl rfl (fun cq => ?_) (fun cq => ?_)
    · rw [ek] at cq
      exact absurd cq (nI_pos (by omega))
    · rw [ek]
      first | refine on_aload_n (pc' := 27) rfl rfl rfl rfl ?_ | refine on_aload_nQ (pc' := 27) rfl rfl rfl rfl ?_
      refine on_iload_n (pc' := 28) rfl rfl rfl rfl ?_
      refine on_iload (pc' := 30) rfl rfl rfl ?_
      refine on_ishr (pc' := 31) rfl rfl ?_
      refine on_sipush (pc' := 34) (v := 255) rfl rfl ls_255 ?_
      refine on_iand (pc' := 35) rfl rfl ?_
      rw [db_e n (by omega)]
      refine on_hash (pc' := 38) hO hX (by rw [List.length_append, sp_sl_len]; omega) (nI_255 (db_lt n i)) (db_lt n i) rfl rfl cw_M_draw_155 (fun h2 O2 X2 t2 => ?_)
      refine on_iinc (pc' := 41) rfl rfl rfl rfl ?_
      refine on_goto (tgt := 21) rfl rfl ?_
      refine on_relv (l := [(0, .ref o), (3, .int n), (4, .ref q), (5, .int (dk_k (i + 1)))]) ⟨rfl, rfl, rfl, congrArg some (congrArg Value.int (by rw [← ek]; exact dk_k_s (by omega))), trivial⟩ (ih (i + 1) h2 (by omega) O2 ?_ (hs.trans t2))
      rw [sp_sl_s, Nat.zero_add, ← List.append_assoc]
      exact X2
set_option maxHeartbeats 4000000 in
/-- draw -/
theorem c_M_draw {seed : Int64} {n : Int32} {R : Nat → Int32} (hO : mo_O o x3 h) (hA : ms_W (o + 8) h) (hq : h q = some (on_ai 0 32 R)) (hqo : q < o + 8 ∨ o + 11 ≤ q) (hqt : q ≠ o + 17) :
    on_Ct G M_M_draw [.ref o, .long seed, .int n, .ref q] h sz 0 0 (fun r h1 z => r = none ∧ z = sz ∧ mo_O o x3 h1 ∧ ms_W (o + 8) h1 ∧ (∃ R2, h1 q = some (on_ai 0 32 R2) ∧ on_by R2 (sp_d (dr_m seed n)) 32) ∧ ∀ a, a ≠ q → (a < o + 8 ∨ o + 11 ≤ a) → h1 a = h a) := by
  have ho := hO.1
  have hqo' : q ≠ o := fun e => by rw [e, ho] at hq; cases hq
  obtain ⟨f0, g0, l0, A0⟩ := id hA
  refine on_Ct.of (by decide) v_M_draw (Nat.le_of_ble_eq_true rfl) ?_
  first | refine on_aload_n (pc' := 1) rfl rfl rfl rfl ?_ | refine on_aload_nQ (pc' := 1) rfl rfl rfl rfl ?_
  first | apply on_get (pc' := 4) rfl rfl fl_M_42 | apply on_getN (pc' := 4) rfl rfl fl_M_42
  · repeat (first | assumption | exact on_up_eq _ _ _ | refine (on_up_ne (by omega)).trans ?_)
  · rfl
  refine on_callV (pc' := 7) (As := []) (rest := []) (b := o + 8) rfl rfl cw_M_draw_161 A0.1 rfl rfl (by decide) (Nat.zero_le _) (Nat.zero_le _) (c_MSha_begin hA) ?_
  rintro r h1 z ⟨rfl, rfl, X1, t1⟩
  have O1 : mo_O o x3 h1 := hO.keep (t1 _ (by omega)) (t1 _ (by omega))
  first | refine on_aload_n (pc' := 8) rfl rfl rfl rfl ?_ | refine on_aload_nQ (pc' := 8) rfl rfl rfl rfl ?_
  refine on_iconst (pc' := 9) (v := 1) rfl rfl li_1 ?_
  refine on_callV (pc' := 12) (As := [.int (nI 1)]) (rest := []) (b := o) rfl rfl cw_M_draw_172 O1.1 rfl rfl (by decide) (Nat.zero_le _) (Nat.zero_le _) (c_M_hashName O1 X1 (by decide) (by decide)) ?_
  rintro r h2 z ⟨rfl, rfl, X2, t2⟩
  have O2 : mo_O o x3 h2 := O1.keep (t2 _ (by omega)) (t2 _ (by omega))
  first | refine on_aload_n (pc' := 13) rfl rfl rfl rfl ?_ | refine on_aload_nQ (pc' := 13) rfl rfl rfl rfl ?_
  refine on_lload_n (pc' := 14) rfl rfl rfl rfl ?_
  refine on_callV (pc' := 17) (As := [.long seed]) (rest := []) (b := o) rfl rfl cw_M_draw_175 O2.1 rfl rfl (by decide) (Nat.zero_le _) (Nat.zero_le _) (c_M_hashLong O2 X2 (by rw [List.length_append, List.length_append, sp_sl_len]; decide)) ?_
  rintro r h3 z ⟨rfl, rfl, X3, t3⟩
  have O3 : mo_O o x3 h3 := O2.keep (t3 _ (by omega)) (t3 _ (by omega))
  refine on_bipush (pc' := 19) (v := 24) rfl rfl lb_24 ?_
  refine on_istore (pc' := 21) rfl rfl (by decide) ?_
  refine on_relv (l := [(0, .ref o), (3, .int n), (4, .ref q), (5, .int (dk_k 0))]) ⟨rfl, rfl, rfl, rfl, trivial⟩ (md_l (h := h3) (n := n) (ms := [] ++ sp_sl nm_b 0 8 ++ [1] ++ sp_sl (sd_b seed) 0 8) (by rw [List.length_append, List.length_append, List.length_append, sp_sl_len, sp_sl_len]; decide) (fun h4 O4 X4 t4 => ?_) 4 0 h3 rfl O3 (by rw [show sp_sl (db_b n) 0 0 = [] from rfl, List.append_nil]; exact X3) on_sm.rf)
  clear ho
  have ho := O4.1
  have tt : on_sm (o + 8) (o + 11) h h4 := ((t1.trans t2).trans t3).trans t4
  obtain ⟨f4, g4, X4', -⟩ := id X4
  first | refine on_aload_n (pc' := 45) rfl rfl rfl rfl ?_ | refine on_aload_nQ (pc' := 45) rfl rfl rfl rfl ?_
  first | apply on_get (pc' := 48) rfl rfl fl_M_42 | apply on_getN (pc' := 48) rfl rfl fl_M_42
  · repeat (first | assumption | exact on_up_eq _ _ _ | refine (on_up_ne (by omega)).trans ?_)
  · rfl
  first | refine on_aload (pc' := 50) rfl rfl rfl ?_ | refine on_aloadQ (pc' := 50) rfl rfl rfl ?_
  refine on_iconst (pc' := 51) (v := 0) rfl rfl li_0 ?_
  first | refine on_aload_n (pc' := 52) rfl rfl rfl rfl ?_ | refine on_aload_nQ (pc' := 52) rfl rfl rfl rfl ?_
  first | apply on_get (pc' := 55) rfl rfl fl_M_52 | apply on_getN (pc' := 55) rfl rfl fl_M_52
  · repeat (first | assumption | exact on_up_eq _ _ _ | refine (on_up_ne (by omega)).trans ?_)
  · rfl
  refine on_callV (pc' := 58) (As := [.ref q, .int 0, .ref (o + 17)]) (rest := []) (b := o + 8) rfl rfl cw_M_draw_164 X4'.1 rfl rfl (by decide) (Nat.zero_le _) (Nat.zero_le _) (c_MSha_end X4 (by rw [List.length_append, List.length_append, List.length_append, List.length_append, sp_sl_len, sp_sl_len, sp_sl_len]; decide) O4.2 (by omega) ((tt q hqo).trans hq) (by omega)) ?_
  rintro r h5 z ⟨rfl, rfl, A5, d5, t5⟩
  refine on_vreturn rfl rfl ?_
  refine ⟨rfl, rfl, O4.keep (t5 _ (by omega) (by omega)) (t5 _ (by omega) (by omega)), A5, ⟨_, d5, fun i hi => ⟨on_tk_lt hi, sp_d_lt _ _⟩⟩, fun a h1 h2 => (t5 a h1 h2).trans (tt a h2)⟩
end MDR
