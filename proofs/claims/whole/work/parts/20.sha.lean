/-! SHA-256: what one block does (both sides reckon it so) -/
def sp_0 (p : Int32) : Int32 := (sh_u p 7 ||| sh_l p 25) ^^^ (sh_u p 18 ||| sh_l p 14) ^^^ sh_u p 3
def sp_1 (q : Int32) : Int32 := (sh_u q 17 ||| sh_l q 15) ^^^ (sh_u q 19 ||| sh_l q 13) ^^^ sh_u q 10
/-- the words after n more have been reckoned -/
def sp_w (g : Nat → Int32) : Nat → Nat → Int32
  | 0 => g
  | n + 1 => upd (sp_w g n) (16 + n) (sp_w g n n + sp_0 (sp_w g n (n + 1)) + sp_w g n (n + 9) + sp_1 (sp_w g n (n + 14)))
abbrev sp_T : Type := Int32 × Int32 × Int32 × Int32 × Int32 × Int32 × Int32 × Int32
def sp_hi (e : Int32) : Int32 := (sh_u e 6 ||| sh_l e 26) ^^^ (sh_u e 11 ||| sh_l e 21) ^^^ (sh_u e 25 ||| sh_l e 7)
def sp_lo (a : Int32) : Int32 := (sh_u a 2 ||| sh_l a 30) ^^^ (sh_u a 13 ||| sh_l a 19) ^^^ (sh_u a 22 ||| sh_l a 10)
def sp_one (e f g h k w : Int32) : Int32 := h + sp_hi e + ((e &&& f) ^^^ ((e ^^^ (-1)) &&& g)) + k + w
def sp_two (a b c : Int32) : Int32 := sp_lo a + ((a &&& b) ^^^ (a &&& c) ^^^ (b &&& c))
def sp_st (k w : Int32) (s : sp_T) : sp_T := match s with
  | (a, b, c, d, e, f, g, h) => (sp_one e f g h k w + sp_two a b c, a, b, c, d + sp_one e f g h k w, e, f, g)
def sp_rn (K W : Nat → Int32) (s : sp_T) : Nat → sp_T
  | 0 => s
  | n + 1 => sp_st (K n) (W n) (sp_rn K W s n)
def sp_K (n : Nat) : Int32 := on_st1.getD n 0
def sp_s (f : Nat → Int32) : sp_T := (f 0, f 1, f 2, f 3, f 4, f 5, f 6, f 7)
def sp_add (f : Nat → Int32) (s : sp_T) : Nat → Int32 := match s with
  | (a, b, c, d, e, x, y, z) => fun i => match i with
    | 0 => f 0 + a
    | 1 => f 1 + b
    | 2 => f 2 + c
    | 3 => f 3 + d
    | 4 => f 4 + e
    | 5 => f 5 + x
    | 6 => f 6 + y
    | 7 => f 7 + z
    | i => f i
/-- a block: the state behind it -/
def sp_c (f g : Nat → Int32) : Nat → Int32 := sp_add f (sp_rn sp_K (sp_w g 48) (sp_s f) 64)
theorem sp_add_eq (f : Nat → Int32) (a b c d e x y z : Int32) : upd (upd (upd (upd (upd (upd (upd (upd f 0 (f 0 + a)) 1 (f 1 + b)) 2 (f 2 + c)) 3 (f 3 + d)) 4 (f 4 + e)) 5 (f 5 + x)) 6 (f 6 + y)) 7 (f 7 + z) = sp_add f (a, b, c, d, e, x, y, z) := by
  funext i
  match i with
  | 0 | 1 | 2 | 3 | 4 | 5 | 6 | 7 => rfl
  | i + 8 => simp [upd, sp_add]
/-- what lies off the addresses lo .. hi - 1 is the same -/
def on_sm (lo hi : Nat) (h h2 : on_H) : Prop := ∀ a : Nat, a < lo ∨ hi ≤ a → h2 a = h a
theorem on_sm.rf {lo hi : Nat} {h : on_H} : on_sm lo hi h h := fun _ _ => rfl
theorem on_sm.up {lo hi : Nat} {h h2 : on_H} {a : Nat} {e : va_E} (k : on_sm lo hi h h2) (h1 : lo ≤ a) (h3 : a < hi) : on_sm lo hi h (on_up h2 a e) := fun q hq => by
  rw [on_up_ne (by omega)]; exact k q hq
theorem on_sm.trans {lo hi : Nat} {h h2 h3 : on_H} (k : on_sm lo hi h h2) (k2 : on_sm lo hi h2 h3) : on_sm lo hi h h3 := fun q hq => (k2 q hq).trans (k q hq)
theorem on_sm.wide {lo hi lo2 hi2 : Nat} {h h2 : on_H} (k : on_sm lo hi h h2) (h1 : lo2 ≤ lo) (h3 : hi ≤ hi2) : on_sm lo2 hi2 h h2 := fun q hq => k q (by omega)
/-- the class's Sha at o: its state, its words, its length -/
def sh_B (o : Nat) (f g : Nat → Int32) (len : Int32) (h : on_H) : Prop := h o = some (.inr (0, [.ref (o + 1), .ref (o + 2), .int len])) ∧ h (o + 1) = some (on_ai 0 8 f) ∧ h (o + 2) = some (on_ai 0 64 g)
section SHA
variable {G : on_G} {o sz bc bs : Nat} {f g : Nat → Int32} {len : Int32} {h : on_H} {Q : Option Value → on_H → Nat → Prop}
set_option maxHeartbeats 4000000 in
theorem sh_mix1 (k : ∀ h2, sh_B o f (sp_w g 48) len h2 → on_sm o (o + 3) h h2 → on_E G M_Sha_mix 116 (on_l [(0, .ref o)]) [] h2 sz bc bs Q) :
    ∀ (m n : Nat) (h1 : on_H), n + m = 48 → sh_B o f (sp_w g n) len h1 → on_sm o (o + 3) h h1 → on_E G M_Sha_mix 3 (on_l [(0, .ref o), (1, .int (nI (16 + n)))]) [] h1 sz bc bs Q := by
  intro m
  induction m with
  | zero =>
    intro n h1 hn hB hs
    refine on_iload_n (pc' := 4) rfl rfl rfl rfl ?_
    refine on_bipush (pc' := 6) (v := 64) rfl rfl lb_64 ?_
    refine on_icmp_ge (pc' := 9) (tgt := 116) rfl rfl rfl (fun cq => ?_) (fun cq => ?_)
    · refine on_relv (l := [(0, .ref o)]) ⟨rfl, trivial⟩ (k h1 ?_ hs)
      rw [show n = 48 by omega] at hB
      exact hB
    · exact absurd (by rw [show n = 48 by omega]; decide) cq
  | succ m ih =>
    intro n h1 hn hB hs
    obtain ⟨b1, b2, b3⟩ := id hB
    have e15 : nI (16 + n) - 15 = nI (n + 1) := by rw [show (15 : Int32) = nI 15 from rfl, pk_sub (by omega)]; congr 1; omega
    have e2 : nI (16 + n) - 2 = nI (n + 14) := by rw [show (2 : Int32) = nI 2 from rfl, pk_sub (by omega)]; congr 1; omega
    have e16 : nI (16 + n) - 16 = nI n := by rw [show (16 : Int32) = nI 16 from rfl, pk_sub (by omega)]; congr 1; omega
    have e7 : nI (16 + n) - 7 = nI (n + 9) := by rw [show (7 : Int32) = nI 7 from rfl, pk_sub (by omega)]; congr 1; omega
    refine on_iload_n (pc' := 4) rfl rfl rfl rfl ?_
    refine on_bipush (pc' := 6) (v := 64) rfl rfl lb_64 ?_
    refine on_icmp_ge (pc' := 9) (tgt := 116) rfl rfl rfl (fun cq => ?_) (fun cq => ?_)
    · exact absurd cq (by rw [show (64 : Int32) = nI 64 from rfl]; exact nI_ge (by omega) (by omega))
    · first | refine on_aload_n (pc' := 10) rfl rfl rfl rfl ?_ | refine on_aload_nQ (pc' := 10) rfl rfl rfl rfl ?_
      apply on_get (pc' := 13) rfl rfl fl_Sha_15
      · repeat (first | assumption | exact on_up_eq _ _ _ | refine (on_up_ne (by omega)).trans ?_)
      · rfl
      refine on_iload_n (pc' := 14) rfl rfl rfl rfl ?_
      refine on_bipush (pc' := 16) (v := 15) rfl rfl lb_15 ?_
      refine on_isub (pc' := 17) rfl rfl ?_
      apply on_ialoadK (pc' := 18) (t := 0) rfl rfl
      · repeat (first | assumption | exact on_up_eq _ _ _ | refine (on_up_ne (by omega)).trans ?_)
      · rfl
      · first | assumption | decide | rfl
      · first | assumption | omega
      refine on_istore_n (pc' := 19) rfl rfl rfl (by decide) ?_
      first | refine on_aload_n (pc' := 20) rfl rfl rfl rfl ?_ | refine on_aload_nQ (pc' := 20) rfl rfl rfl rfl ?_
      apply on_get (pc' := 23) rfl rfl fl_Sha_15
      · repeat (first | assumption | exact on_up_eq _ _ _ | refine (on_up_ne (by omega)).trans ?_)
      · rfl
      refine on_iload_n (pc' := 24) rfl rfl rfl rfl ?_
      refine on_iconst (pc' := 25) (v := 2) rfl rfl li_2 ?_
      refine on_isub (pc' := 26) rfl rfl ?_
      apply on_ialoadK (pc' := 27) (t := 0) rfl rfl
      · repeat (first | assumption | exact on_up_eq _ _ _ | refine (on_up_ne (by omega)).trans ?_)
      · rfl
      · first | assumption | decide | rfl
      · first | assumption | omega
      refine on_istore_n (pc' := 28) rfl rfl rfl (by decide) ?_
      refine on_iload_n (pc' := 29) rfl rfl rfl rfl ?_
      refine on_bipush (pc' := 31) (v := 7) rfl rfl lb_7 ?_
      refine on_iushr (pc' := 32) rfl rfl ?_
      refine on_iload_n (pc' := 33) rfl rfl rfl rfl ?_
      refine on_bipush (pc' := 35) (v := 25) rfl rfl lb_25 ?_
      refine on_ishl (pc' := 36) rfl rfl ?_
      refine on_ior (pc' := 37) rfl rfl ?_
      refine on_iload_n (pc' := 38) rfl rfl rfl rfl ?_
      refine on_bipush (pc' := 40) (v := 18) rfl rfl lb_18 ?_
      refine on_iushr (pc' := 41) rfl rfl ?_
      refine on_iload_n (pc' := 42) rfl rfl rfl rfl ?_
      refine on_bipush (pc' := 44) (v := 14) rfl rfl lb_14 ?_
      refine on_ishl (pc' := 45) rfl rfl ?_
      refine on_ior (pc' := 46) rfl rfl ?_
      refine on_ixor (pc' := 47) rfl rfl ?_
      refine on_iload_n (pc' := 48) rfl rfl rfl rfl ?_
      refine on_iconst (pc' := 49) (v := 3) rfl rfl li_3 ?_
      refine on_iushr (pc' := 50) rfl rfl ?_
      refine on_ixor (pc' := 51) rfl rfl ?_
      refine on_istore (pc' := 53) rfl rfl (by decide) ?_
      refine on_iload_n (pc' := 54) rfl rfl rfl rfl ?_
      refine on_bipush (pc' := 56) (v := 17) rfl rfl lb_17 ?_
      refine on_iushr (pc' := 57) rfl rfl ?_
      refine on_iload_n (pc' := 58) rfl rfl rfl rfl ?_
      refine on_bipush (pc' := 60) (v := 15) rfl rfl lb_15 ?_
      refine on_ishl (pc' := 61) rfl rfl ?_
      refine on_ior (pc' := 62) rfl rfl ?_
      refine on_iload_n (pc' := 63) rfl rfl rfl rfl ?_
      refine on_bipush (pc' := 65) (v := 19) rfl rfl lb_19 ?_
      refine on_iushr (pc' := 66) rfl rfl ?_
      refine on_iload_n (pc' := 67) rfl rfl rfl rfl ?_
      refine on_bipush (pc' := 69) (v := 13) rfl rfl lb_13 ?_
      refine on_ishl (pc' := 70) rfl rfl ?_
      refine on_ior (pc' := 71) rfl rfl ?_
      refine on_ixor (pc' := 72) rfl rfl ?_
      refine on_iload_n (pc' := 73) rfl rfl rfl rfl ?_
      refine on_bipush (pc' := 75) (v := 10) rfl rfl lb_10 ?_
      refine on_iushr (pc' := 76) rfl rfl ?_
      refine on_ixor (pc' := 77) rfl rfl ?_
      refine on_istore (pc' := 79) rfl rfl (by decide) ?_
      first | refine on_aload_n (pc' := 80) rfl rfl rfl rfl ?_ | refine on_aload_nQ (pc' := 80) rfl rfl rfl rfl ?_
      apply on_get (pc' := 83) rfl rfl fl_Sha_15
      · repeat (first | assumption | exact on_up_eq _ _ _ | refine (on_up_ne (by omega)).trans ?_)
      · rfl
      refine on_iload_n (pc' := 84) rfl rfl rfl rfl ?_
      first | refine on_aload_n (pc' := 85) rfl rfl rfl rfl ?_ | refine on_aload_nQ (pc' := 85) rfl rfl rfl rfl ?_
      apply on_get (pc' := 88) rfl rfl fl_Sha_15
      · repeat (first | assumption | exact on_up_eq _ _ _ | refine (on_up_ne (by omega)).trans ?_)
      · rfl
      refine on_iload_n (pc' := 89) rfl rfl rfl rfl ?_
      refine on_bipush (pc' := 91) (v := 16) rfl rfl lb_16 ?_
      refine on_isub (pc' := 92) rfl rfl ?_
      apply on_ialoadK (pc' := 93) (t := 0) rfl rfl
      · repeat (first | assumption | exact on_up_eq _ _ _ | refine (on_up_ne (by omega)).trans ?_)
      · rfl
      · first | assumption | decide | rfl
      · first | assumption | omega
      refine on_iload (pc' := 95) rfl rfl rfl ?_
      refine on_iadd (pc' := 96) rfl rfl ?_
      first | refine on_aload_n (pc' := 97) rfl rfl rfl rfl ?_ | refine on_aload_nQ (pc' := 97) rfl rfl rfl rfl ?_
      apply on_get (pc' := 100) rfl rfl fl_Sha_15
      · repeat (first | assumption | exact on_up_eq _ _ _ | refine (on_up_ne (by omega)).trans ?_)
      · rfl
      refine on_iload_n (pc' := 101) rfl rfl rfl rfl ?_
      refine on_bipush (pc' := 103) (v := 7) rfl rfl lb_7 ?_
      refine on_isub (pc' := 104) rfl rfl ?_
      apply on_ialoadK (pc' := 105) (t := 0) rfl rfl
      · repeat (first | assumption | exact on_up_eq _ _ _ | refine (on_up_ne (by omega)).trans ?_)
      · rfl
      · first | assumption | decide | rfl
      · first | assumption | omega
      refine on_iadd (pc' := 106) rfl rfl ?_
      refine on_iload (pc' := 108) rfl rfl rfl ?_
      refine on_iadd (pc' := 109) rfl rfl ?_
      apply on_iastoreK (pc' := 110) (t := 0) rfl rfl
      · repeat (first | assumption | exact on_up_eq _ _ _ | refine (on_up_ne (by omega)).trans ?_)
      · rfl
      · first | assumption | decide | rfl
      · first | assumption | omega
      refine on_iinc1 (pc' := 113) rfl rfl rfl ?_
      refine on_goto (tgt := 3) rfl rfl ?_
      refine on_relv (l := [(0, .ref o), (1, .int (nI (16 + (n + 1))))]) ⟨rfl, ?_, trivial⟩ ?_
      · show some (Value.int (nI (16 + n) + 1)) = _
        rw [nI_1]; rfl
      · refine ih (n + 1) _ (by omega) ⟨?_, ?_, ?_⟩ (hs.up (by omega) (by omega))
        · repeat (first | assumption | exact on_up_eq _ _ _ | refine (on_up_ne (by omega)).trans ?_)
        · repeat (first | assumption | exact on_up_eq _ _ _ | refine (on_up_ne (by omega)).trans ?_)
        · exact on_up_eq _ _ _
end SHA
