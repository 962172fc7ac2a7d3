/-- the ladder: one step (both pairs), the pairs exchanged, n steps from the highest bit on -/
def l_x (p pz : Int) : Int := (((p) + (pz)) * ((p) + (pz))) * (((p) - (pz)) * ((p) - (pz)))
def l_z (p pz : Int) : Int := ((((p) + (pz)) * ((p) + (pz))) - (((p) - (pz)) * ((p) - (pz)))) * ((((((p) + (pz)) * ((p) + (pz))) - (((p) - (pz)) * ((p) - (pz)))) * (121665)) + (((p) + (pz)) * ((p) + (pz))))
def l_a (p pz q qz : Int) : Int := ((((q) - (qz)) * ((p) + (pz))) + (((q) + (qz)) * ((p) - (pz)))) * ((((q) - (qz)) * ((p) + (pz))) + (((q) + (qz)) * ((p) - (pz))))
def l_b (x p pz q qz : Int) : Int := (((((q) - (qz)) * ((p) + (pz))) - (((q) + (qz)) * ((p) - (pz)))) * ((((q) - (qz)) * ((p) + (pz))) - (((q) + (qz)) * ((p) - (pz))))) * (x)
abbrev l_S : Type := Int × Int × Int × Int
def l_st (x : Int) (s : l_S) : l_S := (l_x s.1 s.2.1, l_z s.1 s.2.1, l_a s.1 s.2.1 s.2.2.1 s.2.2.2, l_b x s.1 s.2.1 s.2.2.1 s.2.2.2)
def l_sw (s : l_S) : l_S := (s.2.2.1, s.2.2.2, s.1, s.2.1)
def l_go (x : Int) (b : Nat) (s : l_S) : l_S := if b = 0 then l_st x s else l_sw (l_st x (l_sw s))
def l_n (x : Int) (bit : Nat → Nat) : Nat → l_S
  | 0 => (1, 0, x, 1)
  | n + 1 => l_go x (bit (254 - n)) (l_n x bit n)
/-- a scalar's bytes as they are used, its bits -/
def cl_k (k : Nat → Nat) : Nat → Nat := fun j => if j = 0 then k 0 / 8 * 8 else if j = 31 then k 31 % 64 + 64 else k j
def cl_b (k : Nat → Nat) (t : Nat) : Nat := cl_k k (t / 8) / 2 ^ (t % 8) % 2
/-- the curve's answer as a number -/
def cv_x (k p : Nat → Nat) : Nat :=
  cv_n ((l_n ((le_v p 32 % 57896044618658097711785492504343953926634992332820282019728792003956564819968 : Nat) : Int) (cl_b k) 255).1 * (l_n ((le_v p 32 % 57896044618658097711785492504343953926634992332820282019728792003956564819968 : Nat) : Int) (cl_b k) 255).2.1 ^ cv_E)
theorem cl_a248 : ∀ a, a < 256 → nI a &&& 248 = nI (a / 8 * 8) := by decide +kernel
theorem cl_a127 : ∀ a, a < 256 → (nI a &&& 127) ||| 64 = nI (a % 64 + 64) := by decide +kernel
theorem cl_k_lt {k : Nat → Nat} (h : ∀ i, i < 32 → k i < 256) : ∀ i, i < 32 → cl_k k i < 256 := fun i hi => by
  have h0 := h 0 (by omega)
  have h1 := h i hi
  unfold cl_k
  split
  · omega
  · split
    · omega
    · exact h1
theorem nI_sh : ∀ s, s < 8 → ∀ a, a < 256 → sh_u (nI a) (nI s) &&& 1 = nI (a / 2 ^ s % 2) := by decide +kernel
theorem nI_sh3 {a : Nat} (h : a < 2 ^ 31) : sh_u (nI a) 3 = nI (a / 8) := e_ush (k := 3) h (by decide)
def ti_k (n : Nat) : Int32 := if n < 255 then nI (254 - n) else -1
theorem ti_k_s {n : Nat} (h : n < 255) : ti_k n + Int32.ofInt (-1) = ti_k (n + 1) := by
  unfold ti_k
  rw [if_pos h]
  by_cases e : n + 1 < 255
  · rw [if_pos e, show 254 - n = (254 - (n + 1)) + 1 by omega]
    exact pk_m1 _
  · rw [if_neg e, show 254 - n = 0 by omega]
    decide
theorem rp_k {F : Nat → Int64} (v : Nat) (hv : v < 1000000) (h0 : F 0 = lN v) (h : ∀ i, 0 < i → i < 10 → F i = 0) : rp F v := by
  refine ⟨fun i => if i = 0 then (v : Int) else 0, fun i hi => ?_, ?_⟩
  · by_cases e : i = 0
    · subst e
      refine ⟨by rw [h0, pf_lI (by omega)]; rfl, ?_⟩
      show ((v : Nat) : Int).natAbs ≤ 67108864
      omega
    · refine ⟨?_, ?_⟩
      · show _ = if i = 0 then (v : Int) else 0
        rw [h i (by omega) hi, if_neg e]; decide
      · show (if i = 0 then (v : Int) else 0).natAbs ≤ _
        rw [if_neg e]
        exact Nat.zero_le _
  · have : cv_v (fun i => if i = 0 then (v : Int) else 0) = v := by
      unfold cv_v
      simp
    rw [this]
    exact cg.rf _
/-- the class's Curve between two calls -/
def cu_K (o : Nat) (h : on_H) : Prop := ∃ (c : Nat → Nat → Int64) (cl : Nat → Int32), cu_S o c h ∧ ip (c 9) 121665 ∧ h (o + 11) = some (on_ai 0 32 cl)
section TIM
variable {G : on_G} {o b q s n0 n sz bc bs : Nat} {h : on_H} {Q : Option Value → on_H → Nat → Prop} {R R0 R1 : Nat → Int32} {p k : Nat → Nat} {at_ rat : Nat}
set_option maxHeartbeats 4000000 in
theorem cu_ti_l {x : Int} {cl : Nat → Int32} (hcl : ∀ i, i < 32 → cl i = nI (cl_k k i)) (hk : ∀ i, i < 32 → k i < 256)
    (kk : ∀ c2 h2, cu_S o c2 h2 → on_sm o (o + 11) h h2 → ip (c2 9) 121665 → rp (c2 1) (l_n x (cl_b k) 255).1 → rp (c2 2) (l_n x (cl_b k) 255).2.1 → on_E G M_Curve_times 182 (on_l [(0, .ref o), (4, .ref q), (5, .int (nI rat))]) [] h2 sz bc bs Q) :
    ∀ (m n : Nat) (c1 : Nat → Nat → Int64) (h1 : on_H), n + m = 255 → cu_S o c1 h1 → h1 (o + 11) = some (on_ai 0 32 cl) → on_sm o (o + 11) h h1 → ip (c1 9) 121665 → rp (c1 0) x → rp (c1 1) (l_n x (cl_b k) n).1 → rp (c1 2) (l_n x (cl_b k) n).2.1 → rp (c1 3) (l_n x (cl_b k) n).2.2.1 → rp (c1 4) (l_n x (cl_b k) n).2.2.2 → on_E G M_Curve_times 108 (on_l [(0, .ref o), (4, .ref q), (5, .int (nI rat)), (6, .int (ti_k n))]) [] h1 sz bc bs Q := by
  intro m
  induction m with
  | zero =>
    intro n c1 h1 hn hS hc hs f9 f0 f1 f2 f3 f4
    obtain rfl : n = 255 := by omega
    refine on_iload (pc' := 110) rfl rfl rfl ?_
    refine on_if_lt (pc' := 113) (tgt := 182) rfl rfl rfl (fun cq => ?_) (fun cq => ?_)
    · exact on_relv (l := [(0, .ref o), (4, .ref q), (5, .int (nI rat))]) ⟨rfl, rfl, rfl, trivial⟩ (kk c1 h1 hS hs f9 f1 f2)
    · exact absurd (by decide) cq
  | succ m ih =>
    intro n c1 h1 hn hS hc hs f9 f0 f1 f2 f3 f4
    obtain ⟨s, s0, s1, s2, s3, s4, s5, s6, s7, s8, s9⟩ := id hS
    have et : ti_k n = nI (254 - n) := if_pos (by omega)
    have hb := cl_k_lt hk ((254 - n) / 8) (by omega)
    have eb : sh_u (cl ((254 - n) / 8)) (nI (254 - n) &&& 7) &&& 1 = nI (cl_b k (254 - n)) := by
      rw [hcl _ (by omega), pk_andN (by omega) 3 (by decide)]
      exact nI_sh _ (Nat.mod_lt _ (by decide)) _ hb
    have e3 := nI_sh3 (a := 254 - n) (by omega)
    have h32 : (254 - n) / 8 < 32 ∧ 32 < 2 ^ 31 := by omega
    have hb2 : cl_b k (254 - n) < 2 := Nat.mod_lt _ (by decide)
    have hgo : l_n x (cl_b k) (n + 1) = l_go x (cl_b k (254 - n)) (l_n x (cl_b k) n) := rfl
    refine on_iload (pc' := 110) rfl rfl rfl ?_
    refine on_if_lt (pc' := 113) (tgt := 182) rfl rfl rfl (fun cq => ?_) (fun cq => ?_)
    · rw [et] at cq
      exact absurd cq (nI_pos (by omega))
    · rw [et]
      first | refine on_aload_n (pc' := 114) rfl rfl rfl rfl ?_ | refine on_aload_nQ (pc' := 114) rfl rfl rfl rfl ?_
      apply on_get (pc' := 117) rfl rfl fl_Curve_42
      · repeat (first | assumption | exact on_up_eq _ _ _ | refine (on_up_ne (by omega)).trans ?_)
      · rfl
      refine on_iload (pc' := 119) rfl rfl rfl ?_
      refine on_iconst (pc' := 120) (v := 3) rfl rfl li_3 ?_
      refine on_iushr (pc' := 121) rfl rfl ?_
      apply on_ialoadK (pc' := 122) (t := 0) rfl rfl
      · repeat (first | assumption | exact on_up_eq _ _ _ | refine (on_up_ne (by omega)).trans ?_)
      · rfl
      · first | assumption | exact on_lit _ | rfl
      · first | assumption | omega | decide
      refine on_iload (pc' := 124) rfl rfl rfl ?_
      refine on_bipush (pc' := 126) (v := 7) rfl rfl lb_7 ?_
      refine on_iand (pc' := 127) rfl rfl ?_
      refine on_iushr (pc' := 128) rfl rfl ?_
      refine on_iconst (pc' := 129) (v := 1) rfl rfl li_1 ?_
      refine on_iand (pc' := 130) rfl rfl ?_
      rw [eb]
      refine on_if_ne (pc' := 133) (tgt := 156) rfl rfl rfl (fun cq => ?_) (fun cq => ?_)
      · have b1 : ¬ cl_b k (254 - n) = 0 := fun e => cq (by rw [e]; rfl)
        rw [show l_go x (cl_b k (254 - n)) (l_n x (cl_b k) n) = l_sw (l_st x (l_sw (l_n x (cl_b k) n))) from if_neg b1] at hgo
        first | refine on_aload_n (pc' := 157) rfl rfl rfl rfl ?_ | refine on_aload_nQ (pc' := 157) rfl rfl rfl rfl ?_
        first | refine on_aload_n (pc' := 158) rfl rfl rfl rfl ?_ | refine on_aload_nQ (pc' := 158) rfl rfl rfl rfl ?_
        apply on_get (pc' := 161) rfl rfl fl_Curve_21
        · repeat (first | assumption | exact on_up_eq _ _ _ | refine (on_up_ne (by omega)).trans ?_)
        · rfl
        first | refine on_aload_n (pc' := 162) rfl rfl rfl rfl ?_ | refine on_aload_nQ (pc' := 162) rfl rfl rfl rfl ?_
        apply on_get (pc' := 165) rfl rfl fl_Curve_24
        · repeat (first | assumption | exact on_up_eq _ _ _ | refine (on_up_ne (by omega)).trans ?_)
        · rfl
        first | refine on_aload_n (pc' := 166) rfl rfl rfl rfl ?_ | refine on_aload_nQ (pc' := 166) rfl rfl rfl rfl ?_
        apply on_get (pc' := 169) rfl rfl fl_Curve_15
        · repeat (first | assumption | exact on_up_eq _ _ _ | refine (on_up_ne (by omega)).trans ?_)
        · rfl
        first | refine on_aload_n (pc' := 170) rfl rfl rfl rfl ?_ | refine on_aload_nQ (pc' := 170) rfl rfl rfl rfl ?_
        apply on_get (pc' := 173) rfl rfl fl_Curve_18
        · repeat (first | assumption | exact on_up_eq _ _ _ | refine (on_up_ne (by omega)).trans ?_)
        · rfl
        refine on_callV (pc' := 176) (As := [.ref (o + 4), .ref (o + 5), .ref (o + 2), .ref (o + 3)]) (rest := []) (b := o) rfl rfl cw_Curve_times_64 s rfl rfl (by decide) (Nat.zero_le _) (Nat.zero_le _) (c_Curve_climbB hS f0 f3 f4 f1 f2 f9) ?_
        rintro r h2 z ⟨rfl, rfl, c2, S2, t2, g3, g4, g1, g2, e2⟩
        refine on_iinc (pc' := 179) rfl rfl rfl rfl ?_
        refine on_goto (tgt := 108) rfl rfl ?_
        refine on_relv (l := [(0, .ref o), (4, .ref q), (5, .int (nI rat)), (6, .int (ti_k (n + 1)))]) ⟨rfl, rfl, rfl, congrArg some (congrArg Value.int (by rw [← et]; exact ti_k_s (by omega))), trivial⟩ (ih (n + 1) c2 h2 (by omega) S2 ((t2 _ (by omega)).trans hc) (hs.trans t2) (by rw [e2 9 (Or.inr rfl)]; exact f9) (by rw [e2 0 (Or.inl rfl)]; exact f0) ?_ ?_ ?_ ?_)
        · rw [hgo]; exact g1
        · rw [hgo]; exact g2
        · rw [hgo]; exact g3
        · rw [hgo]; exact g4
      · have b1 : cl_b k (254 - n) = 0 := (nI_eq (b := 0) (by omega) (by omega)).mp cq
        rw [show l_go x (cl_b k (254 - n)) (l_n x (cl_b k) n) = l_st x (l_n x (cl_b k) n) from if_pos b1] at hgo
        first | refine on_aload_n (pc' := 134) rfl rfl rfl rfl ?_ | refine on_aload_nQ (pc' := 134) rfl rfl rfl rfl ?_
        first | refine on_aload_n (pc' := 135) rfl rfl rfl rfl ?_ | refine on_aload_nQ (pc' := 135) rfl rfl rfl rfl ?_
        apply on_get (pc' := 138) rfl rfl fl_Curve_15
        · repeat (first | assumption | exact on_up_eq _ _ _ | refine (on_up_ne (by omega)).trans ?_)
        · rfl
        first | refine on_aload_n (pc' := 139) rfl rfl rfl rfl ?_ | refine on_aload_nQ (pc' := 139) rfl rfl rfl rfl ?_
        apply on_get (pc' := 142) rfl rfl fl_Curve_18
        · repeat (first | assumption | exact on_up_eq _ _ _ | refine (on_up_ne (by omega)).trans ?_)
        · rfl
        first | refine on_aload_n (pc' := 143) rfl rfl rfl rfl ?_ | refine on_aload_nQ (pc' := 143) rfl rfl rfl rfl ?_
        apply on_get (pc' := 146) rfl rfl fl_Curve_21
        · repeat (first | assumption | exact on_up_eq _ _ _ | refine (on_up_ne (by omega)).trans ?_)
        · rfl
        first | refine on_aload_n (pc' := 147) rfl rfl rfl rfl ?_ | refine on_aload_nQ (pc' := 147) rfl rfl rfl rfl ?_
        apply on_get (pc' := 150) rfl rfl fl_Curve_24
        · repeat (first | assumption | exact on_up_eq _ _ _ | refine (on_up_ne (by omega)).trans ?_)
        · rfl
        refine on_callV (pc' := 153) (As := [.ref (o + 2), .ref (o + 3), .ref (o + 4), .ref (o + 5)]) (rest := []) (b := o) rfl rfl cw_Curve_times_64 s rfl rfl (by decide) (Nat.zero_le _) (Nat.zero_le _) (c_Curve_climbA hS f0 f1 f2 f3 f4 f9) ?_
        rintro r h2 z ⟨rfl, rfl, c2, S2, t2, g1, g2, g3, g4, e2⟩
        refine on_goto (tgt := 176) rfl rfl ?_
        refine on_iinc (pc' := 179) rfl rfl rfl rfl ?_
        refine on_goto (tgt := 108) rfl rfl ?_
        refine on_relv (l := [(0, .ref o), (4, .ref q), (5, .int (nI rat)), (6, .int (ti_k (n + 1)))]) ⟨rfl, rfl, rfl, congrArg some (congrArg Value.int (by rw [← et]; exact ti_k_s (by omega))), trivial⟩ (ih (n + 1) c2 h2 (by omega) S2 ((t2 _ (by omega)).trans hc) (hs.trans t2) (by rw [e2 9 (Or.inr rfl)]; exact f9) (by rw [e2 0 (Or.inl rfl)]; exact f0) ?_ ?_ ?_ ?_)
        · rw [hgo]; exact g1
        · rw [hgo]; exact g2
        · rw [hgo]; exact g3
        · rw [hgo]; exact g4
theorem cv_x_eq (k p : Nat → Nat) : cv_x k p = cv_n ((l_n ((le_v p 32 % 57896044618658097711785492504343953926634992332820282019728792003956564819968 : Nat) : Int) (cl_b k) 255).1 * (l_n ((le_v p 32 % 57896044618658097711785492504343953926634992332820282019728792003956564819968 : Nat) : Int) (cl_b k) 255).2.1 ^ cv_E) := by
  unfold cv_x
  rfl
theorem cu_S_off {c : Nat → Nat → Int64} {a : Nat} {e : va_E} (hS : cu_S o c h) (ha : a < o ∨ o + 11 ≤ a) : cu_S o c (on_up h a e) := by
  obtain ⟨s, s0, s1, s2, s3, s4, s5, s6, s7, s8, s9⟩ := hS
  exact ⟨(on_up_ne (by omega)).trans s, (on_up_ne (by omega)).trans s0, (on_up_ne (by omega)).trans s1, (on_up_ne (by omega)).trans s2, (on_up_ne (by omega)).trans s3, (on_up_ne (by omega)).trans s4, (on_up_ne (by omega)).trans s5, (on_up_ne (by omega)).trans s6, (on_up_ne (by omega)).trans s7, (on_up_ne (by omega)).trans s8, (on_up_ne (by omega)).trans s9⟩
theorem rp_0 {F : Nat → Int64} : rp (on_fl F 0 10 0) 0 := rp_k 0 (by decide) (if_pos (by omega)) (fun i h1 h2 => if_pos (by omega))
theorem rp_1 {F : Nat → Int64} : rp (vp_updL (on_fl F 0 10 0) 0 1) 1 := rp_k 1 (by decide) pk_uLs (fun i h1 h2 => by rw [pk_uLn (by omega)]; exact if_pos (by omega))
set_option maxHeartbeats 4000000 in
/-- from the clamped scalar on -/
theorem cu_ti2 {c : Nat → Nat → Int64} {x : Int} {cl : Nat → Int32} (hS : cu_S o c h) (hc : h (o + 11) = some (on_ai 0 32 cl)) (hcl : ∀ i, i < 32 → cl i = nI (cl_k k i)) (hk : ∀ i, i < 32 → k i < 256) (f9 : ip (c 9) 121665) (f0 : rp (c 0) x)
    {n2 : Nat} (hq : h q = some (on_ai 0 n2 R)) (hrat : rat + 32 ≤ n2 ∧ n2 < 2 ^ 31) (hqo : q < o ∨ o + 12 ≤ q) :
    on_E G M_Curve_times 50 (on_l [(0, .ref o), (4, .ref q), (5, .int (nI rat))]) [] h sz 0 0 (fun r h1 z => r = none ∧ z = sz ∧ cu_K o h1 ∧ h1 q = some (on_ai 0 n2 (wr_by R rat (cv_n ((l_n x (cl_b k) 255).1 * (l_n x (cl_b k) 255).2.1 ^ cv_E)) 32)) ∧ ∀ a, a ≠ q → (a < o ∨ o + 12 ≤ a) → h1 a = h a) := by
  obtain ⟨s', s0, s1, s2, s3, s4, s5, s6, s7, s8, s9⟩ := id hS
  first | refine on_aload_n (pc' := 51) rfl rfl rfl rfl ?_ | refine on_aload_nQ (pc' := 51) rfl rfl rfl rfl ?_
  apply on_get (pc' := 54) rfl rfl fl_Curve_15
  · repeat (first | assumption | exact on_up_eq _ _ _ | refine (on_up_ne (by omega)).trans ?_)
  · rfl
  refine on_lconst (pc' := 55) (v := 0) rfl rfl ll_0 ?_
  refine on_callS (pc' := 58) (As := [.ref (o + 2), .long 0]) (rest := []) rfl rfl cw_Curve_times_58 rfl rfl (by decide) (Nat.zero_le _) (Nat.zero_le _) (c_fill3 (by decide) s1) ?_
  rintro r h1 z ⟨rfl, rfl, rfl⟩
  first | refine on_aload_n (pc' := 59) rfl rfl rfl rfl ?_ | refine on_aload_nQ (pc' := 59) rfl rfl rfl rfl ?_
  apply on_get (pc' := 62) rfl rfl fl_Curve_18
  · repeat (first | assumption | exact on_up_eq _ _ _ | refine (on_up_ne (by omega)).trans ?_)
  · rfl
  refine on_lconst (pc' := 63) (v := 0) rfl rfl ll_0 ?_
  refine on_callS (pc' := 66) (As := [.ref (o + 3), .long 0]) (rest := []) rfl rfl cw_Curve_times_58 rfl rfl (by decide) (Nat.zero_le _) (Nat.zero_le _) (c_fill3 (by decide) ((on_up_ne (by omega)).trans s2)) ?_
  rintro r h1 z ⟨rfl, rfl, rfl⟩
  first | refine on_aload_n (pc' := 67) rfl rfl rfl rfl ?_ | refine on_aload_nQ (pc' := 67) rfl rfl rfl rfl ?_
  apply on_get (pc' := 70) rfl rfl fl_Curve_24
  · repeat (first | assumption | exact on_up_eq _ _ _ | refine (on_up_ne (by omega)).trans ?_)
  · rfl
  refine on_lconst (pc' := 71) (v := 0) rfl rfl ll_0 ?_
  refine on_callS (pc' := 74) (As := [.ref (o + 5), .long 0]) (rest := []) rfl rfl cw_Curve_times_58 rfl rfl (by decide) (Nat.zero_le _) (Nat.zero_le _) (c_fill3 (by decide) ((on_up_ne (by omega)).trans ((on_up_ne (by omega)).trans s4))) ?_
  rintro r h1 z ⟨rfl, rfl, rfl⟩
  first | refine on_aload_n (pc' := 75) rfl rfl rfl rfl ?_ | refine on_aload_nQ (pc' := 75) rfl rfl rfl rfl ?_
  apply on_get (pc' := 78) rfl rfl fl_Curve_15
  · repeat (first | assumption | exact on_up_eq _ _ _ | refine (on_up_ne (by omega)).trans ?_)
  · rfl
  refine on_iconst (pc' := 79) (v := 0) rfl rfl li_0 ?_
  refine on_lconst (pc' := 80) (v := 1) rfl rfl ll_1 ?_
  apply on_lastoreK (pc' := 81) (t := 1) rfl rfl
  · repeat (first | assumption | exact on_up_eq _ _ _ | refine (on_up_ne (by omega)).trans ?_)
  · rfl
  · first | assumption | exact on_lit _ | rfl
  · first | assumption | omega | decide
  first | refine on_aload_n (pc' := 82) rfl rfl rfl rfl ?_ | refine on_aload_nQ (pc' := 82) rfl rfl rfl rfl ?_
  apply on_get (pc' := 85) rfl rfl fl_Curve_24
  · repeat (first | assumption | exact on_up_eq _ _ _ | refine (on_up_ne (by omega)).trans ?_)
  · rfl
  refine on_iconst (pc' := 86) (v := 0) rfl rfl li_0 ?_
  refine on_lconst (pc' := 87) (v := 1) rfl rfl ll_1 ?_
  apply on_lastoreK (pc' := 88) (t := 1) rfl rfl
  · repeat (first | assumption | exact on_up_eq _ _ _ | refine (on_up_ne (by omega)).trans ?_)
  · rfl
  · first | assumption | exact on_lit _ | rfl
  · first | assumption | omega | decide
  first | refine on_aload_n (pc' := 89) rfl rfl rfl rfl ?_ | refine on_aload_nQ (pc' := 89) rfl rfl rfl rfl ?_
  apply on_get (pc' := 92) rfl rfl fl_Curve_11
  · repeat (first | assumption | exact on_up_eq _ _ _ | refine (on_up_ne (by omega)).trans ?_)
  · rfl
  refine on_iconst (pc' := 93) (v := 0) rfl rfl li_0 ?_
  first | refine on_aload_n (pc' := 94) rfl rfl rfl rfl ?_ | refine on_aload_nQ (pc' := 94) rfl rfl rfl rfl ?_
  apply on_get (pc' := 97) rfl rfl fl_Curve_21
  · repeat (first | assumption | exact on_up_eq _ _ _ | refine (on_up_ne (by omega)).trans ?_)
  · rfl
  refine on_iconst (pc' := 98) (v := 0) rfl rfl li_0 ?_
  refine on_bipush (pc' := 100) (v := 10) rfl rfl lb_10 ?_
  apply on_acopyL (pc' := 103) rfl rfl jm_Curve_52 (Nat.le_of_ble_eq_true rfl) (Nat.le_of_ble_eq_true rfl)
  · repeat (first | assumption | exact on_up_eq _ _ _ | refine (on_up_ne (by omega)).trans ?_)
  · repeat (first | assumption | exact on_up_eq _ _ _ | refine (on_up_ne (by omega)).trans ?_)
  · first | assumption | exact on_lit _ | rfl
  · first | assumption | exact on_lit _ | rfl
  · first | assumption | exact on_lit _ | rfl
  · first | assumption | omega | decide
  · first | assumption | omega | decide
  refine on_sipush (pc' := 106) (v := 254) rfl rfl ls_254 ?_
  refine on_istore (pc' := 108) rfl rfl (by decide) ?_
  refine on_relv (l := [(0, .ref o), (4, .ref q), (5, .int (nI rat)), (6, .int (ti_k 0))]) ⟨rfl, rfl, rfl, rfl, trivial⟩ ?_
  refine cu_ti_l (h := h) (x := x) (k := k) (cl := cl) hcl hk (fun c2 h2 S2 t2 g9 g1 g2 => ?_) 255 0 (va_up (va_up (va_up (va_up (va_up (va_up c 1 (on_fl (c 1) 0 10 0)) 2 (on_fl (c 2) 0 10 0)) 4 (on_fl (c 4) 0 10 0)) 1 (vp_updL (on_fl (c 1) 0 10 0) 0 1)) 4 (vp_updL (on_fl (c 4) 0 10 0) 0 1)) 3 (va_cpy (c 0) (c 3) 0 0 10)) _ rfl ?_ ?_ ?_ f9 f0 ?_ ?_ ?_ ?_
  · obtain ⟨s', s0, s1, s2, s3, s4, s5, s6, s7, s8, s9⟩ := id S2
    first | refine on_aload_n (pc' := 183) rfl rfl rfl rfl ?_ | refine on_aload_nQ (pc' := 183) rfl rfl rfl rfl ?_
    first | refine on_aload_n (pc' := 184) rfl rfl rfl rfl ?_ | refine on_aload_nQ (pc' := 184) rfl rfl rfl rfl ?_
    apply on_get (pc' := 187) rfl rfl fl_Curve_18
    · repeat (first | assumption | exact on_up_eq _ _ _ | refine (on_up_ne (by omega)).trans ?_)
    · rfl
    refine on_callV (pc' := 190) (As := [.ref (o + 3)]) (rest := []) (b := o) rfl rfl cw_Curve_times_68 s' rfl rfl (by decide) (Nat.zero_le _) (Nat.zero_le _) (c_Curve_invert S2 g2 g1) ?_
    rintro r h3 z ⟨rfl, rfl, c3, S3, t3, i1, i2, i9⟩
    clear s' s0 s1 s2 s3 s4 s5 s6 s7 s8 s9
    obtain ⟨s', s0, s1, s2, s3, s4, s5, s6, s7, s8, s9⟩ := id S3
    first | refine on_aload_n (pc' := 191) rfl rfl rfl rfl ?_ | refine on_aload_nQ (pc' := 191) rfl rfl rfl rfl ?_
    first | refine on_aload_n (pc' := 192) rfl rfl rfl rfl ?_ | refine on_aload_nQ (pc' := 192) rfl rfl rfl rfl ?_
    apply on_get (pc' := 195) rfl rfl fl_Curve_15
    · repeat (first | assumption | exact on_up_eq _ _ _ | refine (on_up_ne (by omega)).trans ?_)
    · rfl
    first | refine on_aload_n (pc' := 196) rfl rfl rfl rfl ?_ | refine on_aload_nQ (pc' := 196) rfl rfl rfl rfl ?_
    apply on_get (pc' := 199) rfl rfl fl_Curve_15
    · repeat (first | assumption | exact on_up_eq _ _ _ | refine (on_up_ne (by omega)).trans ?_)
    · rfl
    first | refine on_aload_n (pc' := 200) rfl rfl rfl rfl ?_ | refine on_aload_nQ (pc' := 200) rfl rfl rfl rfl ?_
    apply on_get (pc' := 203) rfl rfl fl_Curve_18
    · repeat (first | assumption | exact on_up_eq _ _ _ | refine (on_up_ne (by omega)).trans ?_)
    · rfl
    refine on_mul (pc' := 206) 1 1 2 S3 (by decide) (by decide) (by decide) (rp_ip i1) (rp_ip i2) rfl rfl cw_Curve_times_72 (fun c4 h4 S4 v4 e4 t4 => ?_)
    clear s' s0 s1 s2 s3 s4 s5 s6 s7 s8 s9
    obtain ⟨s', s0, s1, s2, s3, s4, s5, s6, s7, s8, s9⟩ := id S4
    have tt := (t2.trans t3).trans t4
    first | refine on_aload_n (pc' := 207) rfl rfl rfl rfl ?_ | refine on_aload_nQ (pc' := 207) rfl rfl rfl rfl ?_
    first | refine on_aload_n (pc' := 208) rfl rfl rfl rfl ?_ | refine on_aload_nQ (pc' := 208) rfl rfl rfl rfl ?_
    apply on_get (pc' := 211) rfl rfl fl_Curve_15
    · repeat (first | assumption | exact on_up_eq _ _ _ | refine (on_up_ne (by omega)).trans ?_)
    · rfl
    first | refine on_aload (pc' := 213) rfl rfl rfl ?_ | refine on_aloadQ (pc' := 213) rfl rfl rfl ?_
    refine on_iload (pc' := 215) rfl rfl rfl ?_
    refine on_callV (pc' := 218) (As := [.ref (o + 2), .ref q, .int (nI rat)]) (rest := []) (b := o) rfl rfl cw_Curve_times_76 s' rfl rfl (by decide) (Nat.zero_le _) (Nat.zero_le _) (c_Curve_writeReduced (a := o + 2) (by omega) s' s1 v4 ((tt q (by omega)).trans hq) hrat) ?_
    rintro r h5 z ⟨rfl, rfl, C, rfl⟩
    refine on_vreturn rfl rfl ?_
    refine ⟨rfl, rfl, ⟨va_up c4 1 C, cl, cu_S_off (cu_S_up (kr := 1) S4 (by decide)) (by omega), ?_, ?_⟩, on_up_eq _ _ _, fun a h1 h2 => ?_⟩
    · show ip (c4 9) 121665
      rw [e4 9 (by decide), i9]
      exact g9
    · rw [on_up_ne (by omega), on_up_ne (by omega), tt _ (by omega)]
      exact hc
    · rw [on_up_ne h1, on_up_ne (by omega), tt a (by omega)]
  · exact cu_S_up (kr := 3) (cu_S_up (kr := 4) (cu_S_up (kr := 1) (cu_S_up (kr := 4) (cu_S_up (kr := 2) (cu_S_up (kr := 1) hS (by decide)) (by decide)) (by decide)) (by decide)) (by decide)) (by decide)
  · repeat (first | assumption | exact on_up_eq _ _ _ | refine (on_up_ne (by omega)).trans ?_)
  · exact (((((on_sm.rf.up (by omega) (by omega)).up (by omega) (by omega)).up (by omega) (by omega)).up (by omega) (by omega)).up (by omega) (by omega)).up (by omega) (by omega)
  · exact rp_1
  · exact rp_0
  · exact rp_cpy f0
  · exact rp_1
set_option maxHeartbeats 4000000 in
/-- Curve.times: the curve's answer as 32 bytes -/
theorem c_Curve_times (hK : cu_K o h) (hs : h s = some (on_ai 0 n0 R0)) (hso : s < o ∨ o + 12 ≤ s) (hn0 : 32 ≤ n0 ∧ n0 < 2 ^ 31) (hk : ∀ i, i < 32 → R0 i = nI (k i)) (hk2 : ∀ i, i < 32 → k i < 256)
    (hb : h b = some (on_ai 0 n R1)) (hat : at_ + 32 ≤ n ∧ n < 2 ^ 31) (hp : ∀ i, i < 32 → R1 (at_ + i) = nI (p i)) (hp2 : ∀ i, i < 32 → p i < 256)
    {n2 : Nat} (hq : h q = some (on_ai 0 n2 R)) (hrat : rat + 32 ≤ n2 ∧ n2 < 2 ^ 31) (hqo : q < o ∨ o + 12 ≤ q) :
    on_Ct G M_Curve_times [.ref o, .ref s, .ref b, .int (nI at_), .ref q, .int (nI rat)] h sz 0 0 (fun r h1 z => r = none ∧ z = sz ∧ cu_K o h1 ∧ h1 q = some (on_ai 0 n2 (wr_by R rat (cv_x k p) 32)) ∧ ∀ a, a ≠ q → (a < o ∨ o + 12 ≤ a) → h1 a = h a) := by
  obtain ⟨c, cl, hS, f9, hc⟩ := hK
  obtain ⟨s', s0, s1, s2, s3, s4, s5, s6, s7, s8, s9⟩ := id hS
  refine on_Ct.of (by decide) v_Curve_times (Nat.le_of_ble_eq_true rfl) ?_
  first | refine on_aload_n (pc' := 1) rfl rfl rfl rfl ?_ | refine on_aload_nQ (pc' := 1) rfl rfl rfl rfl ?_
  first | refine on_aload_n (pc' := 2) rfl rfl rfl rfl ?_ | refine on_aload_nQ (pc' := 2) rfl rfl rfl rfl ?_
  refine on_iload_n (pc' := 3) rfl rfl rfl rfl ?_
  refine on_callV (pc' := 6) (As := [.ref b, .int (nI at_)]) (rest := []) (b := o) rfl rfl cw_Curve_times_48 s' rfl rfl (by decide) (Nat.zero_le _) (Nat.zero_le _) (c_Curve_readPoint s' s0 hb hat hp hp2) ?_
  rintro r h1 z ⟨rfl, rfl, X, hX, rfl⟩
  have hso2 : s ≠ o + 1 := by omega
  first | refine on_aload_n (pc' := 7) rfl rfl rfl rfl ?_ | refine on_aload_nQ (pc' := 7) rfl rfl rfl rfl ?_
  refine on_iconst (pc' := 8) (v := 0) rfl rfl li_0 ?_
  first | refine on_aload_n (pc' := 9) rfl rfl rfl rfl ?_ | refine on_aload_nQ (pc' := 9) rfl rfl rfl rfl ?_
  apply on_get (pc' := 12) rfl rfl fl_Curve_42
  · repeat (first | assumption | exact on_up_eq _ _ _ | refine (on_up_ne (by omega)).trans ?_)
  · rfl
  refine on_iconst (pc' := 13) (v := 0) rfl rfl li_0 ?_
  refine on_bipush (pc' := 15) (v := 32) rfl rfl lb_32 ?_
  apply on_acopy (pc' := 18) rfl rfl jm_Curve_52 (Nat.le_of_ble_eq_true rfl) (Nat.le_of_ble_eq_true rfl)
  · repeat (first | assumption | exact on_up_eq _ _ _ | refine (on_up_ne (by omega)).trans ?_)
  · repeat (first | assumption | exact on_up_eq _ _ _ | refine (on_up_ne (by omega)).trans ?_)
  · first | assumption | exact on_lit _ | rfl
  · first | assumption | exact on_lit _ | rfl
  · first | assumption | exact on_lit _ | rfl
  · first | assumption | omega | decide
  · first | assumption | omega | decide
  first | refine on_aload_n (pc' := 19) rfl rfl rfl rfl ?_ | refine on_aload_nQ (pc' := 19) rfl rfl rfl rfl ?_
  apply on_get (pc' := 22) rfl rfl fl_Curve_42
  · repeat (first | assumption | exact on_up_eq _ _ _ | refine (on_up_ne (by omega)).trans ?_)
  · rfl
  refine on_iconst (pc' := 23) (v := 0) rfl rfl li_0 ?_
  first | refine on_dup2_11 (pc' := 24) rfl rfl rfl rfl ?_ | refine on_dup2_2 (pc' := 24) rfl rfl rfl ?_
  apply on_ialoadK (pc' := 25) (t := 0) rfl rfl
  · repeat (first | assumption | exact on_up_eq _ _ _ | refine (on_up_ne (by omega)).trans ?_)
  · rfl
  · first | assumption | exact on_lit _ | rfl
  · first | assumption | omega | decide
  refine on_sipush (pc' := 28) (v := 248) rfl rfl ls_248 ?_
  refine on_iand (pc' := 29) rfl rfl ?_
  apply on_iastoreK (pc' := 30) (t := 0) rfl rfl
  · repeat (first | assumption | exact on_up_eq _ _ _ | refine (on_up_ne (by omega)).trans ?_)
  · rfl
  · first | assumption | exact on_lit _ | rfl
  · first | assumption | omega | decide
  first | refine on_aload_n (pc' := 31) rfl rfl rfl rfl ?_ | refine on_aload_nQ (pc' := 31) rfl rfl rfl rfl ?_
  apply on_get (pc' := 34) rfl rfl fl_Curve_42
  · repeat (first | assumption | exact on_up_eq _ _ _ | refine (on_up_ne (by omega)).trans ?_)
  · rfl
  refine on_bipush (pc' := 36) (v := 31) rfl rfl lb_31 ?_
  first | refine on_aload_n (pc' := 37) rfl rfl rfl rfl ?_ | refine on_aload_nQ (pc' := 37) rfl rfl rfl rfl ?_
  apply on_get (pc' := 40) rfl rfl fl_Curve_42
  · repeat (first | assumption | exact on_up_eq _ _ _ | refine (on_up_ne (by omega)).trans ?_)
  · rfl
  refine on_bipush (pc' := 42) (v := 31) rfl rfl lb_31 ?_
  apply on_ialoadK (pc' := 43) (t := 0) (k := 31) rfl rfl
  · repeat (first | assumption | exact on_up_eq _ _ _ | refine (on_up_ne (by omega)).trans ?_)
  · rfl
  · first | assumption | exact on_lit _ | rfl
  · first | assumption | omega | decide
  refine on_bipush (pc' := 45) (v := 127) rfl rfl lb_127 ?_
  refine on_iand (pc' := 46) rfl rfl ?_
  refine on_bipush (pc' := 48) (v := 64) rfl rfl lb_64 ?_
  refine on_ior (pc' := 49) rfl rfl ?_
  apply on_iastoreK (pc' := 50) (t := 0) rfl rfl
  · repeat (first | assumption | exact on_up_eq _ _ _ | refine (on_up_ne (by omega)).trans ?_)
  · rfl
  · first | assumption | exact on_lit _ | rfl
  · first | assumption | omega | decide
  refine (on_relv (l := [(0, .ref o), (4, .ref q), (5, .int (nI rat))]) ⟨rfl, rfl, rfl, trivial⟩ (cu_ti2 (c := va_up c 0 X) (k := k) (R := R) (cu_S_off (cu_S_off (cu_S_off (cu_S_up (kr := 0) hS (by decide)) (by omega)) (by omega)) (by omega)) (on_up_eq _ _ _) (fun i hi => ?_) hk2 f9 (cv_lm_v hX) (n2 := n2) ?_ hrat hqo)).imp ?_
  · have h0 := hk2 0 (by omega)
    have h31 := hk2 31 (by omega)
    unfold cl_k
    by_cases e0 : i = 0
    · subst e0
      rw [pk_un (by decide), pk_us, pk_cpy_in (Nat.zero_le _) (show _ < 0 + 32 by omega), if_pos rfl, hk _ (by omega)]
      exact cl_a248 _ h0
    · rw [if_neg e0]
      by_cases e1 : i = 31
      · subst e1
        rw [pk_us, if_pos rfl, pk_un (by decide), pk_cpy_in (Nat.zero_le _) (show _ < 0 + 32 by omega), hk _ (by omega)]
        exact cl_a127 _ h31
      · rw [if_neg e1, pk_un e1, pk_un e0, pk_cpy_in (Nat.zero_le _) (show _ < 0 + 32 by omega), Nat.zero_add, Nat.sub_zero]
        exact hk i hi
  · repeat (first | assumption | exact on_up_eq _ _ _ | refine (on_up_ne (by omega)).trans ?_)
  · rintro r h2 z ⟨rfl, rfl, k1, k2, k3⟩
    refine ⟨rfl, rfl, k1, ?_, fun a h1 h2 => ?_⟩
    · rw [cv_x_eq]; exact k2
    · rw [k3 a h1 h2, on_up_ne (by omega), on_up_ne (by omega), on_up_ne (by omega), on_up_ne (by omega)]
end TIM
