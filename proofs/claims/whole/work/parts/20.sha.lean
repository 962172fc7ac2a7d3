/-! SHA-256: what one block does (both sides reckon it so) -/
def sp_0 (p : Int32) : Int32 := (sh_u p 7 ||| sh_l p 25) ^^^ (sh_u p 18 ||| sh_l p 14) ^^^ sh_u p 3
def sp_1 (q : Int32) : Int32 := (sh_u q 17 ||| sh_l q 15) ^^^ (sh_u q 19 ||| sh_l q 13) ^^^ sh_u q 10
/-- the words after n more have been reckoned -/
def sp_w (g : Nat → Int32) : Nat → Nat → Int32
  | 0 => g
  | n + 1 => upd (sp_w g n) (16 + n) (sp_w g n n + sp_0 (sp_w g n (n + 1)) + sp_w g n (n + 9) + sp_1 (sp_w g n (n + 14)))
abbrev sp_T : Type := Int32 × Int32 × Int32 × Int32 × Int32 × Int32 × Int32 × Int32
def sp_hi (e : Int32) : Int32 := (sh_u e 6 ||| sh_l e 26) ^^^ (sh_u e 11 ||| sh_l e 21) ^^^ (sh_u e 25 ||| sh_l e 7)
def sp_lo (a : Int32) : Int32 := (sh_u a 2 ||| sh_l a 30) ^^^ (sh_u a 13 ||| sh_l a 19) ^^^ (sh_u a 22 ||| sh_l a 10)
def sp_one (e f g h k w : Int32) : Int32 := h + sp_hi e + ((e &&& f) ^^^ ((e ^^^ (-1)) &&& g)) + k + w
def sp_two (a b c : Int32) : Int32 := sp_lo a + ((a &&& b) ^^^ (a &&& c) ^^^ (b &&& c))
def sp_st (k w : Int32) (s : sp_T) : sp_T := match s with
  | (a, b, c, d, e, f, g, h) => (sp_one e f g h k w + sp_two a b c, a, b, c, d + sp_one e f g h k w, e, f, g)
def sp_rn (K W : Nat → Int32) (s : sp_T) : Nat → sp_T
  | 0 => s
  | n + 1 => sp_st (K n) (W n) (sp_rn K W s n)
def sp_K (n : Nat) : Int32 := on_st1.getD n 0
def sp_s (f : Nat → Int32) : sp_T := (f 0, f 1, f 2, f 3, f 4, f 5, f 6, f 7)
def sp_add (f : Nat → Int32) (s : sp_T) : Nat → Int32 := match s with
  | (a, b, c, d, e, x, y, z) => fun i => match i with
    | 0 => f 0 + a
    | 1 => f 1 + b
    | 2 => f 2 + c
    | 3 => f 3 + d
    | 4 => f 4 + e
    | 5 => f 5 + x
    | 6 => f 6 + y
    | 7 => f 7 + z
    | i => f i
/-- a block: the state behind it -/
def sp_c (f g : Nat → Int32) : Nat → Int32 := sp_add f (sp_rn sp_K (sp_w g 48) (sp_s f) 64)
theorem sp_add_eq (f : Nat → Int32) (a b c d e x y z : Int32) : upd (upd (upd (upd (upd (upd (upd (upd f 0 (f 0 + a)) 1 (f 1 + b)) 2 (f 2 + c)) 3 (f 3 + d)) 4 (f 4 + e)) 5 (f 5 + x)) 6 (f 6 + y)) 7 (f 7 + z) = sp_add f (a, b, c, d, e, x, y, z) := by
  funext i
  match i with
  | 0 | 1 | 2 | 3 | 4 | 5 | 6 | 7 => rfl
  | i + 8 => simp [upd, sp_add]
/-- what lies off the addresses lo .. hi - 1 is the same -/
def on_sm (lo hi : Nat) (h h2 : on_H) : Prop := ∀ a : Nat, a < lo ∨ hi ≤ a → h2 a = h a
theorem on_sm.rf {lo hi : Nat} {h : on_H} : on_sm lo hi h h := fun _ _ => rfl
theorem on_sm.up {lo hi : Nat} {h h2 : on_H} {a : Nat} {e : va_E} (k : on_sm lo hi h h2) (h1 : lo ≤ a) (h3 : a < hi) : on_sm lo hi h (on_up h2 a e) := fun q hq => by
  rw [on_up_ne (by omega)]; exact k q hq
theorem on_sm.trans {lo hi : Nat} {h h2 h3 : on_H} (k : on_sm lo hi h h2) (k2 : on_sm lo hi h2 h3) : on_sm lo hi h h3 := fun q hq => (k2 q hq).trans (k q hq)
theorem on_sm.wide {lo hi lo2 hi2 : Nat} {h h2 : on_H} (k : on_sm lo hi h h2) (h1 : lo2 ≤ lo) (h3 : hi ≤ hi2) : on_sm lo2 hi2 h h2 := fun q hq => k q (by omega)
/-- the class's Sha at o: its state, its words, its length -/
def sh_B (o : Nat) (f g : Nat → Int32) (len : Int32) (h : on_H) : Prop := h o = some (.inr (0, [.ref (o + 1), .ref (o + 2), .int len])) ∧ h (o + 1) = some (on_ai 0 8 f) ∧ h (o + 2) = some (on_ai 0 64 g)
section SHA
variable {G : on_G} {o sz bc bs : Nat} {f g : Nat → Int32} {len : Int32} {h : on_H} {Q : Option Value → on_H → Nat → Prop}
set_option maxHeartbeats 4000000 in
theorem sh_mix1 (k : ∀ h2, sh_B o f (sp_w g 48) len h2 → on_sm o (o + 3) h h2 → on_E G M_Sha_mix 116 (on_l [(0, .ref o)]) [] h2 sz bc bs Q) :
    ∀ (m n : Nat) (h1 : on_H), n + m = 48 → sh_B o f (sp_w g n) len h1 → on_sm o (o + 3) h h1 → on_E G M_Sha_mix 3 (on_l [(0, .ref o), (1, .int (nI (16 + n)))]) [] h1 sz bc bs Q := by
  intro m
  induction m with
  | zero =>
    intro n h1 hn hB hs
    refine on_iload_n (pc' := 4) rfl rfl rfl rfl ?_
    refine on_bipush (pc' := 6) (v := 64) rfl rfl lb_64 ?_
    refine on_icmp_ge (pc' := 9) (tgt := 116) rfl rfl rfl (fun cq => ?_) (fun cq => ?_)
    · refine on_relv (l := [(0, .ref o)]) ⟨rfl, trivial⟩ (k h1 ?_ hs)
      rw [show n = 48 by omega] at hB
      exact hB
    · exact absurd (by rw [show n = 48 by omega]; decide) cq
  | succ m ih =>
    intro n h1 hn hB hs
    obtain ⟨b1, b2, b3⟩ := id hB
    have e15 : nI (16 + n) - 15 = nI (n + 1) := by rw [show (15 : Int32) = nI 15 from rfl, pk_sub (by omega)]; congr 1; omega
    have e2 : nI (16 + n) - 2 = nI (n + 14) := by rw [show (2 : Int32) = nI 2 from rfl, pk_sub (by omega)]; congr 1; omega
    have e16 : nI (16 + n) - 16 = nI n := by rw [show (16 : Int32) = nI 16 from rfl, pk_sub (by omega)]; congr 1; omega
    have e7 : nI (16 + n) - 7 = nI (n + 9) := by rw [show (7 : Int32) = nI 7 from rfl, pk_sub (by omega)]; congr 1; omega
    refine on_iload_n (pc' := 4) rfl rfl rfl rfl ?_
    refine on_bipush (pc' := 6) (v := 64) rfl rfl lb_64 ?_
    refine on_icmp_ge (pc' := 9) (tgt := 116) rfl rfl rfl (fun cq => ?_) (fun cq => ?_)
    · exact absurd cq (by rw [show (64 : Int32) = nI 64 from rfl]; exact nI_ge (by omega) (by omega))
    · first | refine on_aload_n (pc' := 10) rfl rfl rfl rfl ?_ | refine on_aload_nQ (pc' := 10) rfl rfl rfl rfl ?_
      apply on_get (pc' := 13) rfl rfl fl_Sha_15
      · repeat (first | assumption | exact on_up_eq _ _ _ | refine (on_up_ne (by omega)).trans ?_)
      · rfl
      refine on_iload_n (pc' := 14) rfl rfl rfl rfl ?_
      refine on_bipush (pc' := 16) (v := 15) rfl rfl lb_15 ?_
      refine on_isub (pc' := 17) rfl rfl ?_
      apply on_ialoadK (pc' := 18) (t := 0) rfl rfl
      · repeat (first | assumption | exact on_up_eq _ _ _ | refine (on_up_ne (by omega)).trans ?_)
      · rfl
      · first | assumption | exact on_lit _ | rfl
      · first | assumption | omega | decide
      refine on_istore_n (pc' := 19) rfl rfl rfl (by decide) ?_
      first | refine on_aload_n (pc' := 20) rfl rfl rfl rfl ?_ | refine on_aload_nQ (pc' := 20) rfl rfl rfl rfl ?_
      apply on_get (pc' := 23) rfl rfl fl_Sha_15
      · repeat (first | assumption | exact on_up_eq _ _ _ | refine (on_up_ne (by omega)).trans ?_)
      · rfl
      refine on_iload_n (pc' := 24) rfl rfl rfl rfl ?_
      refine on_iconst (pc' := 25) (v := 2) rfl rfl li_2 ?_
      refine on_isub (pc' := 26) rfl rfl ?_
      apply on_ialoadK (pc' := 27) (t := 0) rfl rfl
      · repeat (first | assumption | exact on_up_eq _ _ _ | refine (on_up_ne (by omega)).trans ?_)
      · rfl
      · first | assumption | exact on_lit _ | rfl
      · first | assumption | omega | decide
      refine on_istore_n (pc' := 28) rfl rfl rfl (by decide) ?_
      refine on_iload_n (pc' := 29) rfl rfl rfl rfl ?_
      refine on_bipush (pc' := 31) (v := 7) rfl rfl lb_7 ?_
      refine on_iushr (pc' := 32) rfl rfl ?_
      refine on_iload_n (pc' := 33) rfl rfl rfl rfl ?_
      refine on_bipush (pc' := 35) (v := 25) rfl rfl lb_25 ?_
      refine on_ishl (pc' := 36) rfl rfl ?_
      refine on_ior (pc' := 37) rfl rfl ?_
      refine on_iload_n (pc' := 38) rfl rfl rfl rfl ?_
      refine on_bipush (pc' := 40) (v := 18) rfl rfl lb_18 ?_
      refine on_iushr (pc' := 41) rfl rfl ?_
      refine on_iload_n (pc' := 42) rfl rfl rfl rfl ?_
      refine on_bipush (pc' := 44) (v := 14) rfl rfl lb_14 ?_
      refine on_ishl (pc' := 45) rfl rfl ?_
      refine on_ior (pc' := 46) rfl rfl ?_
      refine on_ixor (pc' := 47) rfl rfl ?_
      refine on_iload_n (pc' := 48) rfl rfl rfl rfl ?_
      refine on_iconst (pc' := 49) (v := 3) rfl rfl li_3 ?_
      refine on_iushr (pc' := 50) rfl rfl ?_
      refine on_ixor (pc' := 51) rfl rfl ?_
      refine on_istore (pc' := 53) rfl rfl (by decide) ?_
      refine on_iload_n (pc' := 54) rfl rfl rfl rfl ?_
      refine on_bipush (pc' := 56) (v := 17) rfl rfl lb_17 ?_
      refine on_iushr (pc' := 57) rfl rfl ?_
      refine on_iload_n (pc' := 58) rfl rfl rfl rfl ?_
      refine on_bipush (pc' := 60) (v := 15) rfl rfl lb_15 ?_
      refine on_ishl (pc' := 61) rfl rfl ?_
      refine on_ior (pc' := 62) rfl rfl ?_
      refine on_iload_n (pc' := 63) rfl rfl rfl rfl ?_
      refine on_bipush (pc' := 65) (v := 19) rfl rfl lb_19 ?_
      refine on_iushr (pc' := 66) rfl rfl ?_
      refine on_iload_n (pc' := 67) rfl rfl rfl rfl ?_
      refine on_bipush (pc' := 69) (v := 13) rfl rfl lb_13 ?_
      refine on_ishl (pc' := 70) rfl rfl ?_
      refine on_ior (pc' := 71) rfl rfl ?_
      refine on_ixor (pc' := 72) rfl rfl ?_
      refine on_iload_n (pc' := 73) rfl rfl rfl rfl ?_
      refine on_bipush (pc' := 75) (v := 10) rfl rfl lb_10 ?_
      refine on_iushr (pc' := 76) rfl rfl ?_
      refine on_ixor (pc' := 77) rfl rfl ?_
      refine on_istore (pc' := 79) rfl rfl (by decide) ?_
      first | refine on_aload_n (pc' := 80) rfl rfl rfl rfl ?_ | refine on_aload_nQ (pc' := 80) rfl rfl rfl rfl ?_
      apply on_get (pc' := 83) rfl rfl fl_Sha_15
      · repeat (first | assumption | exact on_up_eq _ _ _ | refine (on_up_ne (by omega)).trans ?_)
      · rfl
      refine on_iload_n (pc' := 84) rfl rfl rfl rfl ?_
      first | refine on_aload_n (pc' := 85) rfl rfl rfl rfl ?_ | refine on_aload_nQ (pc' := 85) rfl rfl rfl rfl ?_
      apply on_get (pc' := 88) rfl rfl fl_Sha_15
      · repeat (first | assumption | exact on_up_eq _ _ _ | refine (on_up_ne (by omega)).trans ?_)
      · rfl
      refine on_iload_n (pc' := 89) rfl rfl rfl rfl ?_
      refine on_bipush (pc' := 91) (v := 16) rfl rfl lb_16 ?_
      refine on_isub (pc' := 92) rfl rfl ?_
      apply on_ialoadK (pc' := 93) (t := 0) rfl rfl
      · repeat (first | assumption | exact on_up_eq _ _ _ | refine (on_up_ne (by omega)).trans ?_)
      · rfl
      · first | assumption | exact on_lit _ | rfl
      · first | assumption | omega | decide
      refine on_iload (pc' := 95) rfl rfl rfl ?_
      refine on_iadd (pc' := 96) rfl rfl ?_
      first | refine on_aload_n (pc' := 97) rfl rfl rfl rfl ?_ | refine on_aload_nQ (pc' := 97) rfl rfl rfl rfl ?_
      apply on_get (pc' := 100) rfl rfl fl_Sha_15
      · repeat (first | assumption | exact on_up_eq _ _ _ | refine (on_up_ne (by omega)).trans ?_)
      · rfl
      refine on_iload_n (pc' := 101) rfl rfl rfl rfl ?_
      refine on_bipush (pc' := 103) (v := 7) rfl rfl lb_7 ?_
      refine on_isub (pc' := 104) rfl rfl ?_
      apply on_ialoadK (pc' := 105) (t := 0) rfl rfl
      · repeat (first | assumption | exact on_up_eq _ _ _ | refine (on_up_ne (by omega)).trans ?_)
      · rfl
      · first | assumption | exact on_lit _ | rfl
      · first | assumption | omega | decide
      refine on_iadd (pc' := 106) rfl rfl ?_
      refine on_iload (pc' := 108) rfl rfl rfl ?_
      refine on_iadd (pc' := 109) rfl rfl ?_
      apply on_iastoreK (pc' := 110) (t := 0) rfl rfl
      · repeat (first | assumption | exact on_up_eq _ _ _ | refine (on_up_ne (by omega)).trans ?_)
      · rfl
      · first | assumption | exact on_lit _ | rfl
      · first | assumption | omega | decide
      refine on_iinc1 (pc' := 113) rfl rfl rfl ?_
      refine on_goto (tgt := 3) rfl rfl ?_
      refine on_relv (l := [(0, .ref o), (1, .int (nI (16 + (n + 1))))]) ⟨rfl, ?_, trivial⟩ ?_
      · show some (Value.int (nI (16 + n) + 1)) = _
        rw [nI_1]; rfl
      · refine ih (n + 1) _ (by omega) ⟨?_, ?_, ?_⟩ (hs.up (by omega) (by omega))
        · repeat (first | assumption | exact on_up_eq _ _ _ | refine (on_up_ne (by omega)).trans ?_)
        · repeat (first | assumption | exact on_up_eq _ _ _ | refine (on_up_ne (by omega)).trans ?_)
        · exact on_up_eq _ _ _
set_option maxHeartbeats 4000000 in
theorem sh_mix2 {W : Nat → Int32} (hB : sh_B o f W len h) (k : ∀ a b c d e x y z : Int32, (a, b, c, d, e, x, y, z) = sp_rn sp_K W (sp_s f) 64 → on_E G M_Sha_mix 346 (on_l [(0, .ref o), (1, .int a), (2, .int b), (3, .int c), (4, .int d), (5, .int e), (6, .int x), (7, .int y), (8, .int z)]) [] h sz bc bs Q) :
    ∀ (m n : Nat) (a b c d e x y z : Int32), n + m = 64 → (a, b, c, d, e, x, y, z) = sp_rn sp_K W (sp_s f) n → on_E G M_Sha_mix 182 (on_l [(0, .ref o), (1, .int a), (2, .int b), (3, .int c), (4, .int d), (5, .int e), (6, .int x), (7, .int y), (8, .int z), (9, .int (nI n))]) [] h sz bc bs Q := by
  intro m
  induction m with
  | zero =>
    intro n a b c d e x y z hn hT
    refine on_iload (pc' := 184) rfl rfl rfl ?_
    refine on_bipush (pc' := 186) (v := 64) rfl rfl lb_64 ?_
    refine on_icmp_ge (pc' := 189) (tgt := 346) rfl rfl rfl (fun cq => ?_) (fun cq => ?_)
    · rw [show n = 64 by omega] at hT
      exact on_relv (l := [(0, .ref o), (1, .int a), (2, .int b), (3, .int c), (4, .int d), (5, .int e), (6, .int x), (7, .int y), (8, .int z)]) ⟨rfl, rfl, rfl, rfl, rfl, rfl, rfl, rfl, rfl, trivial⟩ (k a b c d e x y z hT)
    · exact absurd (by rw [show n = 64 by omega]; decide) cq
  | succ m ih =>
    intro n a b c d e x y z hn hT
    obtain ⟨b1, b2, b3⟩ := id hB
    refine on_iload (pc' := 184) rfl rfl rfl ?_
    refine on_bipush (pc' := 186) (v := 64) rfl rfl lb_64 ?_
    refine on_icmp_ge (pc' := 189) (tgt := 346) rfl rfl rfl (fun cq => ?_) (fun cq => ?_)
    · exact absurd cq (by rw [show (64 : Int32) = nI 64 from rfl]; exact nI_ge (by omega) (by omega))
    · refine on_iload (pc' := 191) rfl rfl rfl ?_
      refine on_bipush (pc' := 193) (v := 6) rfl rfl lb_6 ?_
      refine on_iushr (pc' := 194) rfl rfl ?_
      refine on_iload (pc' := 196) rfl rfl rfl ?_
      refine on_bipush (pc' := 198) (v := 26) rfl rfl lb_26 ?_
      refine on_ishl (pc' := 199) rfl rfl ?_
      refine on_ior (pc' := 200) rfl rfl ?_
      refine on_iload (pc' := 202) rfl rfl rfl ?_
      refine on_bipush (pc' := 204) (v := 11) rfl rfl lb_11 ?_
      refine on_iushr (pc' := 205) rfl rfl ?_
      refine on_iload (pc' := 207) rfl rfl rfl ?_
      refine on_bipush (pc' := 209) (v := 21) rfl rfl lb_21 ?_
      refine on_ishl (pc' := 210) rfl rfl ?_
      refine on_ior (pc' := 211) rfl rfl ?_
      refine on_ixor (pc' := 212) rfl rfl ?_
      refine on_iload (pc' := 214) rfl rfl rfl ?_
      refine on_bipush (pc' := 216) (v := 25) rfl rfl lb_25 ?_
      refine on_iushr (pc' := 217) rfl rfl ?_
      refine on_iload (pc' := 219) rfl rfl rfl ?_
      refine on_bipush (pc' := 221) (v := 7) rfl rfl lb_7 ?_
      refine on_ishl (pc' := 222) rfl rfl ?_
      refine on_ior (pc' := 223) rfl rfl ?_
      refine on_ixor (pc' := 224) rfl rfl ?_
      refine on_istore (pc' := 226) rfl rfl (by decide) ?_
      refine on_iload (pc' := 228) rfl rfl rfl ?_
      refine on_iload (pc' := 230) rfl rfl rfl ?_
      refine on_iadd (pc' := 231) rfl rfl ?_
      refine on_iload (pc' := 233) rfl rfl rfl ?_
      refine on_iload (pc' := 235) rfl rfl rfl ?_
      refine on_iand (pc' := 236) rfl rfl ?_
      refine on_iload (pc' := 238) rfl rfl rfl ?_
      refine on_iconst (pc' := 239) (v := (-1)) rfl rfl li_m1 ?_
      refine on_ixor (pc' := 240) rfl rfl ?_
      refine on_iload (pc' := 242) rfl rfl rfl ?_
      refine on_iand (pc' := 243) rfl rfl ?_
      refine on_ixor (pc' := 244) rfl rfl ?_
      refine on_iadd (pc' := 245) rfl rfl ?_
      refine on_getstatic (pc' := 248) (k := 1) rfl rfl rfl gs_Sha_49 ?_
      refine on_iload (pc' := 250) rfl rfl rfl ?_
      apply on_saloadK (pc' := 251) (k := 1) rfl rfl rfl
      · first | assumption | exact on_lit _ | rfl
      · exact ⟨(show _ < 64 by omega), by decide⟩
      refine on_iadd (pc' := 252) rfl rfl ?_
      first | refine on_aload_n (pc' := 253) rfl rfl rfl rfl ?_ | refine on_aload_nQ (pc' := 253) rfl rfl rfl rfl ?_
      apply on_get (pc' := 256) rfl rfl fl_Sha_15
      · repeat (first | assumption | exact on_up_eq _ _ _ | refine (on_up_ne (by omega)).trans ?_)
      · rfl
      refine on_iload (pc' := 258) rfl rfl rfl ?_
      apply on_ialoadK (pc' := 259) (t := 0) rfl rfl
      · repeat (first | assumption | exact on_up_eq _ _ _ | refine (on_up_ne (by omega)).trans ?_)
      · rfl
      · first | assumption | exact on_lit _ | rfl
      · first | assumption | omega | decide
      refine on_iadd (pc' := 260) rfl rfl ?_
      refine on_istore (pc' := 262) rfl rfl (by decide) ?_
      refine on_iload_n (pc' := 263) rfl rfl rfl rfl ?_
      refine on_iconst (pc' := 264) (v := 2) rfl rfl li_2 ?_
      refine on_iushr (pc' := 265) rfl rfl ?_
      refine on_iload_n (pc' := 266) rfl rfl rfl rfl ?_
      refine on_bipush (pc' := 268) (v := 30) rfl rfl lb_30 ?_
      refine on_ishl (pc' := 269) rfl rfl ?_
      refine on_ior (pc' := 270) rfl rfl ?_
      refine on_iload_n (pc' := 271) rfl rfl rfl rfl ?_
      refine on_bipush (pc' := 273) (v := 13) rfl rfl lb_13 ?_
      refine on_iushr (pc' := 274) rfl rfl ?_
      refine on_iload_n (pc' := 275) rfl rfl rfl rfl ?_
      refine on_bipush (pc' := 277) (v := 19) rfl rfl lb_19 ?_
      refine on_ishl (pc' := 278) rfl rfl ?_
      refine on_ior (pc' := 279) rfl rfl ?_
      refine on_ixor (pc' := 280) rfl rfl ?_
      refine on_iload_n (pc' := 281) rfl rfl rfl rfl ?_
      refine on_bipush (pc' := 283) (v := 22) rfl rfl lb_22 ?_
      refine on_iushr (pc' := 284) rfl rfl ?_
      refine on_iload_n (pc' := 285) rfl rfl rfl rfl ?_
      refine on_bipush (pc' := 287) (v := 10) rfl rfl lb_10 ?_
      refine on_ishl (pc' := 288) rfl rfl ?_
      refine on_ior (pc' := 289) rfl rfl ?_
      refine on_ixor (pc' := 290) rfl rfl ?_
      refine on_istore (pc' := 292) rfl rfl (by decide) ?_
      refine on_iload (pc' := 294) rfl rfl rfl ?_
      refine on_iload_n (pc' := 295) rfl rfl rfl rfl ?_
      refine on_iload_n (pc' := 296) rfl rfl rfl rfl ?_
      refine on_iand (pc' := 297) rfl rfl ?_
      refine on_iload_n (pc' := 298) rfl rfl rfl rfl ?_
      refine on_iload_n (pc' := 299) rfl rfl rfl rfl ?_
      refine on_iand (pc' := 300) rfl rfl ?_
      refine on_ixor (pc' := 301) rfl rfl ?_
      refine on_iload_n (pc' := 302) rfl rfl rfl rfl ?_
      refine on_iload_n (pc' := 303) rfl rfl rfl rfl ?_
      refine on_iand (pc' := 304) rfl rfl ?_
      refine on_ixor (pc' := 305) rfl rfl ?_
      refine on_iadd (pc' := 306) rfl rfl ?_
      refine on_istore (pc' := 308) rfl rfl (by decide) ?_
      refine on_iload (pc' := 310) rfl rfl rfl ?_
      refine on_istore (pc' := 312) rfl rfl (by decide) ?_
      refine on_iload (pc' := 314) rfl rfl rfl ?_
      refine on_istore (pc' := 316) rfl rfl (by decide) ?_
      refine on_iload (pc' := 318) rfl rfl rfl ?_
      refine on_istore (pc' := 320) rfl rfl (by decide) ?_
      refine on_iload (pc' := 322) rfl rfl rfl ?_
      refine on_iload (pc' := 324) rfl rfl rfl ?_
      refine on_iadd (pc' := 325) rfl rfl ?_
      refine on_istore (pc' := 327) rfl rfl (by decide) ?_
      refine on_iload_n (pc' := 328) rfl rfl rfl rfl ?_
      refine on_istore (pc' := 330) rfl rfl (by decide) ?_
      refine on_iload_n (pc' := 331) rfl rfl rfl rfl ?_
      refine on_istore_n (pc' := 332) rfl rfl rfl (by decide) ?_
      refine on_iload_n (pc' := 333) rfl rfl rfl rfl ?_
      refine on_istore_n (pc' := 334) rfl rfl rfl (by decide) ?_
      refine on_iload (pc' := 336) rfl rfl rfl ?_
      refine on_iload (pc' := 338) rfl rfl rfl ?_
      refine on_iadd (pc' := 339) rfl rfl ?_
      refine on_istore_n (pc' := 340) rfl rfl rfl (by decide) ?_
      refine on_iinc1 (pc' := 343) rfl rfl rfl ?_
      refine on_goto (tgt := 182) rfl rfl ?_
      refine on_relv (l := [(0, .ref o), (1, .int (sp_one e x y z (sp_K n) (W n) + sp_two a b c)), (2, .int a), (3, .int b), (4, .int c), (5, .int (d + sp_one e x y z (sp_K n) (W n))), (6, .int e), (7, .int x), (8, .int y), (9, .int (nI (n + 1)))]) ⟨rfl, rfl, rfl, rfl, rfl, rfl, rfl, rfl, rfl, ?_, trivial⟩ ?_
      · show some (Value.int (nI n + 1)) = _
        rw [nI_1]
      · refine ih (n + 1) _ _ _ _ _ _ _ _ (by omega) ?_
        show _ = sp_st _ _ (sp_rn sp_K W (sp_s f) n)
        rw [← hT]
        rfl
set_option maxHeartbeats 4000000 in
/-- Sha.mix: one block -/
theorem c_Sha_mix (hB : sh_B o f g len h) : on_Ct G M_Sha_mix [.ref o] h sz 0 0 (fun r h1 z => r = none ∧ z = sz ∧ sh_B o (sp_c f g) (sp_w g 48) len h1 ∧ on_sm o (o + 3) h h1) := by
  refine on_Ct.of (by decide) v_Sha_mix (Nat.le_of_ble_eq_true rfl) ?_
  refine on_bipush (pc' := 2) (v := 16) rfl rfl lb_16 ?_
  refine on_istore_n (pc' := 3) rfl rfl rfl (by decide) ?_
  refine on_relv (l := [(0, .ref o), (1, .int (nI (16 + 0)))]) ⟨rfl, rfl, trivial⟩ (sh_mix1 (fun h2 hB2 hs2 => ?_) 48 0 h rfl hB on_sm.rf)
  obtain ⟨b1, b2, b3⟩ := id hB2
  first | refine on_aload_n (pc' := 117) rfl rfl rfl rfl ?_ | refine on_aload_nQ (pc' := 117) rfl rfl rfl rfl ?_
  apply on_get (pc' := 120) rfl rfl fl_Sha_9
  · repeat (first | assumption | exact on_up_eq _ _ _ | refine (on_up_ne (by omega)).trans ?_)
  · rfl
  refine on_iconst (pc' := 121) (v := 0) rfl rfl li_0 ?_
  apply on_ialoadK (pc' := 122) (t := 0) (k := 0) rfl rfl
  · repeat (first | assumption | exact on_up_eq _ _ _ | refine (on_up_ne (by omega)).trans ?_)
  · rfl
  · first | assumption | exact on_lit _ | rfl
  · first | assumption | omega | decide
  refine on_istore_n (pc' := 123) rfl rfl rfl (by decide) ?_
  first | refine on_aload_n (pc' := 124) rfl rfl rfl rfl ?_ | refine on_aload_nQ (pc' := 124) rfl rfl rfl rfl ?_
  apply on_get (pc' := 127) rfl rfl fl_Sha_9
  · repeat (first | assumption | exact on_up_eq _ _ _ | refine (on_up_ne (by omega)).trans ?_)
  · rfl
  refine on_iconst (pc' := 128) (v := 1) rfl rfl li_1 ?_
  apply on_ialoadK (pc' := 129) (t := 0) (k := 1) rfl rfl
  · repeat (first | assumption | exact on_up_eq _ _ _ | refine (on_up_ne (by omega)).trans ?_)
  · rfl
  · first | assumption | exact on_lit _ | rfl
  · first | assumption | omega | decide
  refine on_istore_n (pc' := 130) rfl rfl rfl (by decide) ?_
  first | refine on_aload_n (pc' := 131) rfl rfl rfl rfl ?_ | refine on_aload_nQ (pc' := 131) rfl rfl rfl rfl ?_
  apply on_get (pc' := 134) rfl rfl fl_Sha_9
  · repeat (first | assumption | exact on_up_eq _ _ _ | refine (on_up_ne (by omega)).trans ?_)
  · rfl
  refine on_iconst (pc' := 135) (v := 2) rfl rfl li_2 ?_
  apply on_ialoadK (pc' := 136) (t := 0) (k := 2) rfl rfl
  · repeat (first | assumption | exact on_up_eq _ _ _ | refine (on_up_ne (by omega)).trans ?_)
  · rfl
  · first | assumption | exact on_lit _ | rfl
  · first | assumption | omega | decide
  refine on_istore_n (pc' := 137) rfl rfl rfl (by decide) ?_
  first | refine on_aload_n (pc' := 138) rfl rfl rfl rfl ?_ | refine on_aload_nQ (pc' := 138) rfl rfl rfl rfl ?_
  apply on_get (pc' := 141) rfl rfl fl_Sha_9
  · repeat (first | assumption | exact on_up_eq _ _ _ | refine (on_up_ne (by omega)).trans ?_)
  · rfl
  refine on_iconst (pc' := 142) (v := 3) rfl rfl li_3 ?_
  apply on_ialoadK (pc' := 143) (t := 0) (k := 3) rfl rfl
  · repeat (first | assumption | exact on_up_eq _ _ _ | refine (on_up_ne (by omega)).trans ?_)
  · rfl
  · first | assumption | exact on_lit _ | rfl
  · first | assumption | omega | decide
  refine on_istore (pc' := 145) rfl rfl (by decide) ?_
  first | refine on_aload_n (pc' := 146) rfl rfl rfl rfl ?_ | refine on_aload_nQ (pc' := 146) rfl rfl rfl rfl ?_
  apply on_get (pc' := 149) rfl rfl fl_Sha_9
  · repeat (first | assumption | exact on_up_eq _ _ _ | refine (on_up_ne (by omega)).trans ?_)
  · rfl
  refine on_iconst (pc' := 150) (v := 4) rfl rfl li_4 ?_
  apply on_ialoadK (pc' := 151) (t := 0) (k := 4) rfl rfl
  · repeat (first | assumption | exact on_up_eq _ _ _ | refine (on_up_ne (by omega)).trans ?_)
  · rfl
  · first | assumption | exact on_lit _ | rfl
  · first | assumption | omega | decide
  refine on_istore (pc' := 153) rfl rfl (by decide) ?_
  first | refine on_aload_n (pc' := 154) rfl rfl rfl rfl ?_ | refine on_aload_nQ (pc' := 154) rfl rfl rfl rfl ?_
  apply on_get (pc' := 157) rfl rfl fl_Sha_9
  · repeat (first | assumption | exact on_up_eq _ _ _ | refine (on_up_ne (by omega)).trans ?_)
  · rfl
  refine on_iconst (pc' := 158) (v := 5) rfl rfl li_5 ?_
  apply on_ialoadK (pc' := 159) (t := 0) (k := 5) rfl rfl
  · repeat (first | assumption | exact on_up_eq _ _ _ | refine (on_up_ne (by omega)).trans ?_)
  · rfl
  · first | assumption | exact on_lit _ | rfl
  · first | assumption | omega | decide
  refine on_istore (pc' := 161) rfl rfl (by decide) ?_
  first | refine on_aload_n (pc' := 162) rfl rfl rfl rfl ?_ | refine on_aload_nQ (pc' := 162) rfl rfl rfl rfl ?_
  apply on_get (pc' := 165) rfl rfl fl_Sha_9
  · repeat (first | assumption | exact on_up_eq _ _ _ | refine (on_up_ne (by omega)).trans ?_)
  · rfl
  refine on_bipush (pc' := 167) (v := 6) rfl rfl lb_6 ?_
  apply on_ialoadK (pc' := 168) (t := 0) (k := 6) rfl rfl
  · repeat (first | assumption | exact on_up_eq _ _ _ | refine (on_up_ne (by omega)).trans ?_)
  · rfl
  · first | assumption | exact on_lit _ | rfl
  · first | assumption | omega | decide
  refine on_istore (pc' := 170) rfl rfl (by decide) ?_
  first | refine on_aload_n (pc' := 171) rfl rfl rfl rfl ?_ | refine on_aload_nQ (pc' := 171) rfl rfl rfl rfl ?_
  apply on_get (pc' := 174) rfl rfl fl_Sha_9
  · repeat (first | assumption | exact on_up_eq _ _ _ | refine (on_up_ne (by omega)).trans ?_)
  · rfl
  refine on_bipush (pc' := 176) (v := 7) rfl rfl lb_7 ?_
  apply on_ialoadK (pc' := 177) (t := 0) (k := 7) rfl rfl
  · repeat (first | assumption | exact on_up_eq _ _ _ | refine (on_up_ne (by omega)).trans ?_)
  · rfl
  · first | assumption | exact on_lit _ | rfl
  · first | assumption | omega | decide
  refine on_istore (pc' := 179) rfl rfl (by decide) ?_
  refine on_iconst (pc' := 180) (v := 0) rfl rfl li_0 ?_
  refine on_istore (pc' := 182) rfl rfl (by decide) ?_
  refine on_relv (l := [(0, .ref o), (1, .int (f 0)), (2, .int (f 1)), (3, .int (f 2)), (4, .int (f 3)), (5, .int (f 4)), (6, .int (f 5)), (7, .int (f 6)), (8, .int (f 7)), (9, .int (nI 0))]) ⟨rfl, rfl, rfl, rfl, rfl, rfl, rfl, rfl, rfl, rfl, trivial⟩ (sh_mix2 hB2 (fun a b c d e x y z hT => ?_) 64 0 _ _ _ _ _ _ _ _ rfl rfl)
  first | refine on_aload_n (pc' := 347) rfl rfl rfl rfl ?_ | refine on_aload_nQ (pc' := 347) rfl rfl rfl rfl ?_
  apply on_get (pc' := 350) rfl rfl fl_Sha_9
  · repeat (first | assumption | exact on_up_eq _ _ _ | refine (on_up_ne (by omega)).trans ?_)
  · rfl
  refine on_iconst (pc' := 351) (v := 0) rfl rfl li_0 ?_
  first | refine on_dup2_11 (pc' := 352) rfl rfl rfl rfl ?_ | refine on_dup2_2 (pc' := 352) rfl rfl rfl ?_
  apply on_ialoadK (pc' := 353) (t := 0) rfl rfl
  · repeat (first | assumption | exact on_up_eq _ _ _ | refine (on_up_ne (by omega)).trans ?_)
  · rfl
  · first | assumption | exact on_lit _ | rfl
  · first | assumption | omega | decide
  refine on_iload_n (pc' := 354) rfl rfl rfl rfl ?_
  refine on_iadd (pc' := 355) rfl rfl ?_
  apply on_iastoreK (pc' := 356) (t := 0) rfl rfl
  · repeat (first | assumption | exact on_up_eq _ _ _ | refine (on_up_ne (by omega)).trans ?_)
  · rfl
  · first | assumption | exact on_lit _ | rfl
  · first | assumption | omega | decide
  first | refine on_aload_n (pc' := 357) rfl rfl rfl rfl ?_ | refine on_aload_nQ (pc' := 357) rfl rfl rfl rfl ?_
  apply on_get (pc' := 360) rfl rfl fl_Sha_9
  · repeat (first | assumption | exact on_up_eq _ _ _ | refine (on_up_ne (by omega)).trans ?_)
  · rfl
  refine on_iconst (pc' := 361) (v := 1) rfl rfl li_1 ?_
  first | refine on_dup2_11 (pc' := 362) rfl rfl rfl rfl ?_ | refine on_dup2_2 (pc' := 362) rfl rfl rfl ?_
  apply on_ialoadK (pc' := 363) (t := 0) rfl rfl
  · repeat (first | assumption | exact on_up_eq _ _ _ | refine (on_up_ne (by omega)).trans ?_)
  · rfl
  · first | assumption | exact on_lit _ | rfl
  · first | assumption | omega | decide
  refine on_iload_n (pc' := 364) rfl rfl rfl rfl ?_
  refine on_iadd (pc' := 365) rfl rfl ?_
  apply on_iastoreK (pc' := 366) (t := 0) rfl rfl
  · repeat (first | assumption | exact on_up_eq _ _ _ | refine (on_up_ne (by omega)).trans ?_)
  · rfl
  · first | assumption | exact on_lit _ | rfl
  · first | assumption | omega | decide
  first | refine on_aload_n (pc' := 367) rfl rfl rfl rfl ?_ | refine on_aload_nQ (pc' := 367) rfl rfl rfl rfl ?_
  apply on_get (pc' := 370) rfl rfl fl_Sha_9
  · repeat (first | assumption | exact on_up_eq _ _ _ | refine (on_up_ne (by omega)).trans ?_)
  · rfl
  refine on_iconst (pc' := 371) (v := 2) rfl rfl li_2 ?_
  first | refine on_dup2_11 (pc' := 372) rfl rfl rfl rfl ?_ | refine on_dup2_2 (pc' := 372) rfl rfl rfl ?_
  apply on_ialoadK (pc' := 373) (t := 0) rfl rfl
  · repeat (first | assumption | exact on_up_eq _ _ _ | refine (on_up_ne (by omega)).trans ?_)
  · rfl
  · first | assumption | exact on_lit _ | rfl
  · first | assumption | omega | decide
  refine on_iload_n (pc' := 374) rfl rfl rfl rfl ?_
  refine on_iadd (pc' := 375) rfl rfl ?_
  apply on_iastoreK (pc' := 376) (t := 0) rfl rfl
  · repeat (first | assumption | exact on_up_eq _ _ _ | refine (on_up_ne (by omega)).trans ?_)
  · rfl
  · first | assumption | exact on_lit _ | rfl
  · first | assumption | omega | decide
  first | refine on_aload_n (pc' := 377) rfl rfl rfl rfl ?_ | refine on_aload_nQ (pc' := 377) rfl rfl rfl rfl ?_
  apply on_get (pc' := 380) rfl rfl fl_Sha_9
  · repeat (first | assumption | exact on_up_eq _ _ _ | refine (on_up_ne (by omega)).trans ?_)
  · rfl
  refine on_iconst (pc' := 381) (v := 3) rfl rfl li_3 ?_
  first | refine on_dup2_11 (pc' := 382) rfl rfl rfl rfl ?_ | refine on_dup2_2 (pc' := 382) rfl rfl rfl ?_
  apply on_ialoadK (pc' := 383) (t := 0) rfl rfl
  · repeat (first | assumption | exact on_up_eq _ _ _ | refine (on_up_ne (by omega)).trans ?_)
  · rfl
  · first | assumption | exact on_lit _ | rfl
  · first | assumption | omega | decide
  refine on_iload (pc' := 385) rfl rfl rfl ?_
  refine on_iadd (pc' := 386) rfl rfl ?_
  apply on_iastoreK (pc' := 387) (t := 0) rfl rfl
  · repeat (first | assumption | exact on_up_eq _ _ _ | refine (on_up_ne (by omega)).trans ?_)
  · rfl
  · first | assumption | exact on_lit _ | rfl
  · first | assumption | omega | decide
  first | refine on_aload_n (pc' := 388) rfl rfl rfl rfl ?_ | refine on_aload_nQ (pc' := 388) rfl rfl rfl rfl ?_
  apply on_get (pc' := 391) rfl rfl fl_Sha_9
  · repeat (first | assumption | exact on_up_eq _ _ _ | refine (on_up_ne (by omega)).trans ?_)
  · rfl
  refine on_iconst (pc' := 392) (v := 4) rfl rfl li_4 ?_
  first | refine on_dup2_11 (pc' := 393) rfl rfl rfl rfl ?_ | refine on_dup2_2 (pc' := 393) rfl rfl rfl ?_
  apply on_ialoadK (pc' := 394) (t := 0) rfl rfl
  · repeat (first | assumption | exact on_up_eq _ _ _ | refine (on_up_ne (by omega)).trans ?_)
  · rfl
  · first | assumption | exact on_lit _ | rfl
  · first | assumption | omega | decide
  refine on_iload (pc' := 396) rfl rfl rfl ?_
  refine on_iadd (pc' := 397) rfl rfl ?_
  apply on_iastoreK (pc' := 398) (t := 0) rfl rfl
  · repeat (first | assumption | exact on_up_eq _ _ _ | refine (on_up_ne (by omega)).trans ?_)
  · rfl
  · first | assumption | exact on_lit _ | rfl
  · first | assumption | omega | decide
  first | refine on_aload_n (pc' := 399) rfl rfl rfl rfl ?_ | refine on_aload_nQ (pc' := 399) rfl rfl rfl rfl ?_
  apply on_get (pc' := 402) rfl rfl fl_Sha_9
  · repeat (first | assumption | exact on_up_eq _ _ _ | refine (on_up_ne (by omega)).trans ?_)
  · rfl
  refine on_iconst (pc' := 403) (v := 5) rfl rfl li_5 ?_
  first | refine on_dup2_11 (pc' := 404) rfl rfl rfl rfl ?_ | refine on_dup2_2 (pc' := 404) rfl rfl rfl ?_
  apply on_ialoadK (pc' := 405) (t := 0) rfl rfl
  · repeat (first | assumption | exact on_up_eq _ _ _ | refine (on_up_ne (by omega)).trans ?_)
  · rfl
  · first | assumption | exact on_lit _ | rfl
  · first | assumption | omega | decide
  refine on_iload (pc' := 407) rfl rfl rfl ?_
  refine on_iadd (pc' := 408) rfl rfl ?_
  apply on_iastoreK (pc' := 409) (t := 0) rfl rfl
  · repeat (first | assumption | exact on_up_eq _ _ _ | refine (on_up_ne (by omega)).trans ?_)
  · rfl
  · first | assumption | exact on_lit _ | rfl
  · first | assumption | omega | decide
  first | refine on_aload_n (pc' := 410) rfl rfl rfl rfl ?_ | refine on_aload_nQ (pc' := 410) rfl rfl rfl rfl ?_
  apply on_get (pc' := 413) rfl rfl fl_Sha_9
  · repeat (first | assumption | exact on_up_eq _ _ _ | refine (on_up_ne (by omega)).trans ?_)
  · rfl
  refine on_bipush (pc' := 415) (v := 6) rfl rfl lb_6 ?_
  first | refine on_dup2_11 (pc' := 416) rfl rfl rfl rfl ?_ | refine on_dup2_2 (pc' := 416) rfl rfl rfl ?_
  apply on_ialoadK (pc' := 417) (t := 0) rfl rfl
  · repeat (first | assumption | exact on_up_eq _ _ _ | refine (on_up_ne (by omega)).trans ?_)
  · rfl
  · first | assumption | exact on_lit _ | rfl
  · first | assumption | omega | decide
  refine on_iload (pc' := 419) rfl rfl rfl ?_
  refine on_iadd (pc' := 420) rfl rfl ?_
  apply on_iastoreK (pc' := 421) (t := 0) rfl rfl
  · repeat (first | assumption | exact on_up_eq _ _ _ | refine (on_up_ne (by omega)).trans ?_)
  · rfl
  · first | assumption | exact on_lit _ | rfl
  · first | assumption | omega | decide
  first | refine on_aload_n (pc' := 422) rfl rfl rfl rfl ?_ | refine on_aload_nQ (pc' := 422) rfl rfl rfl rfl ?_
  apply on_get (pc' := 425) rfl rfl fl_Sha_9
  · repeat (first | assumption | exact on_up_eq _ _ _ | refine (on_up_ne (by omega)).trans ?_)
  · rfl
  refine on_bipush (pc' := 427) (v := 7) rfl rfl lb_7 ?_
  first | refine on_dup2_11 (pc' := 428) rfl rfl rfl rfl ?_ | refine on_dup2_2 (pc' := 428) rfl rfl rfl ?_
  apply on_ialoadK (pc' := 429) (t := 0) rfl rfl
  · repeat (first | assumption | exact on_up_eq _ _ _ | refine (on_up_ne (by omega)).trans ?_)
  · rfl
  · first | assumption | exact on_lit _ | rfl
  · first | assumption | omega | decide
  refine on_iload (pc' := 431) rfl rfl rfl ?_
  refine on_iadd (pc' := 432) rfl rfl ?_
  apply on_iastoreK (pc' := 433) (t := 0) rfl rfl
  · repeat (first | assumption | exact on_up_eq _ _ _ | refine (on_up_ne (by omega)).trans ?_)
  · rfl
  · first | assumption | exact on_lit _ | rfl
  · first | assumption | omega | decide
  refine on_vreturn rfl rfl ?_
  refine ⟨rfl, rfl, ⟨?_, ?_, ?_⟩, ?_⟩
  · repeat (first | assumption | exact on_up_eq _ _ _ | refine (on_up_ne (by omega)).trans ?_)
  · refine (on_up_eq _ _ _).trans ?_
    unfold sp_c
    rw [← hT]
    exact congrArg (fun q => some (on_ai 0 8 q)) (sp_add_eq f a b c d e x y z)
  · repeat (first | assumption | exact on_up_eq _ _ _ | refine (on_up_ne (by omega)).trans ?_)
  · exact (((((((hs2.up (by omega) (by omega)).up (by omega) (by omega)).up (by omega) (by omega)).up (by omega) (by omega)).up (by omega) (by omega)).up (by omega) (by omega)).up (by omega) (by omega)).up (by omega) (by omega)
end SHA
