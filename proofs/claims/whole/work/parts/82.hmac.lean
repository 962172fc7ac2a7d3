/-! the class's Handshake: its object, its keyed hash -/
def hk_f (o : Nat) : List Value := [.ref (o + 1), .ref (o + 4), .ref (o + 7), .ref (o + 19), .ref (o + 20), .ref (o + 21), .ref (o + 22), .ref (o + 23), .ref (o + 24), .ref (o + 25), .ref (o + 26), .ref (o + 27), .ref (o + 28)]
section HMA
variable {G : on_G} {o q k m L n kl sz bc bs : Nat} {h : on_H} {Q : Option Value → on_H → Nat → Prop} {k0 t : Nat → Nat}
def hq_1 (k0 : Nat → Nat) (i : Nat) : Nat → Nat := fun j => if j < i then k0 j ^^^ 54 else 54
def hq_2 (p : Nat → Nat) (i : Nat) : Nat → Nat := fun j => if j < i then p j ^^^ 106 else p j
set_option maxHeartbeats 4000000 in
theorem hmq_1 {A B : Value} {K : Nat → Int32} (ho : h o = some (.inr (3, hk_f o))) (hk : h k = some (on_ai 0 kl K)) (hko : k ≠ o + 22) (hkl : kl ≤ 64) (hK : on_by K k0 kl)
    (kk : ∀ P : Nat → Int32, on_by P (hq_1 k0 kl) 64 → on_E G M_Handshake_hmac 49 (on_l [(0, .ref o), (2, A), (3, B), (4, .ref q)]) [] (on_up h (o + 22) (on_ai 0 64 P)) sz bc bs Q) :
    ∀ (m i : Nat) (P : Nat → Int32), i + m = kl → on_by P (hq_1 k0 i) 64 → on_E G M_Handshake_hmac 12 (on_l [(0, .ref o), (1, .ref k), (2, A), (3, B), (4, .ref q), (5, .int (nI i))]) [] (on_up h (o + 22) (on_ai 0 64 P)) sz bc bs Q := by
  intro m
  induction m with
  | zero =>
    intro i P hi hP
    obtain rfl : i = kl := by omega
    have k1 : on_up h (o + 22) (on_ai 0 64 P) k = some (on_ai 0 i K) := (on_up_ne hko).trans hk
    refine on_iload (pc' := 14) rfl rfl rfl ?_
    first | refine on_aload_n (pc' := 15) rfl rfl rfl rfl ?_ | refine on_aload_nQ (pc' := 15) rfl rfl rfl rfl ?_
    apply on_alenI (pc' := 16) rfl rfl
    · repeat (first | assumption | exact on_up_eq _ _ _ | refine (on_up_ne (by omega)).trans ?_)
    · rfl
    refine on_icmp_ge (pc' := 19) (tgt := 49) rfl rfl rfl (fun cq => ?_) (fun cq => ?_)
    · exact on_relv (l := [(0, .ref o), (2, A), (3, B), (4, .ref q)]) ⟨rfl, rfl, rfl, rfl, trivial⟩ (kk P hP)
    · exact absurd (nI_le (a := i) (by omega) (by omega)) cq
  | succ m ih =>
    intro i P hi hP
    have k1 : on_up h (o + 22) (on_ai 0 64 P) k = some (on_ai 0 kl K) := (on_up_ne hko).trans hk
    have hi2 : i < kl ∧ kl < 2 ^ 31 := by omega
    have hi3 : i < 64 ∧ 64 < 2 ^ 31 := by omega
    have ki := hK i hi2.1
    have pi := hP i hi3.1
    rw [show hq_1 k0 i i = 54 from if_neg (by omega)] at pi
    refine on_iload (pc' := 14) rfl rfl rfl ?_
    first | refine on_aload_n (pc' := 15) rfl rfl rfl rfl ?_ | refine on_aload_nQ (pc' := 15) rfl rfl rfl rfl ?_
    apply on_alenI (pc' := 16) rfl rfl
    · repeat (first | assumption | exact on_up_eq _ _ _ | refine (on_up_ne (by omega)).trans ?_)
    · rfl
    refine on_icmp_ge (pc' := 19) (tgt := 49) rfl rfl rfl (fun cq => ?_) (fun cq => ?_)
    · exact absurd cq (nI_ge (b := kl) (by omega) (by omega))
    · refine on_iload (pc' := 21) rfl rfl rfl ?_
      first | refine on_aload_n (pc' := 22) rfl rfl rfl rfl ?_ | refine on_aload_nQ (pc' := 22) rfl rfl rfl rfl ?_
      first | apply on_get (pc' := 25) rfl rfl fl_Handshake_40 | apply on_getN (pc' := 25) rfl rfl fl_Handshake_40
      · repeat (first | assumption | exact on_up_eq _ _ _ | refine (on_up_ne (by omega)).trans ?_)
      · rfl
      apply on_alenI (pc' := 26) rfl rfl
      · repeat (first | assumption | exact on_up_eq _ _ _ | refine (on_up_ne (by omega)).trans ?_)
      · rfl
      refine on_icmp_ge (pc' := 29) (tgt := 49) rfl rfl rfl (fun cq => ?_) (fun cq => ?_)
      · exact absurd cq (nI_ge (b := 64) (by omega) (by omega))
      · first | refine on_aload_n (pc' := 30) rfl rfl rfl rfl ?_ | refine on_aload_nQ (pc' := 30) rfl rfl rfl rfl ?_
        first | apply on_get (pc' := 33) rfl rfl fl_Handshake_40 | apply on_getN (pc' := 33) rfl rfl fl_Handshake_40
        · repeat (first | assumption | exact on_up_eq _ _ _ | refine (on_up_ne (by omega)).trans ?_)
        · rfl
        refine on_iload (pc' := 35) rfl rfl rfl ?_
        first | refine on_dup2_11 (pc' := 36) rfl rfl rfl rfl ?_ | refine on_dup2_2 (pc' := 36) rfl rfl rfl ?_
        apply on_ialoadK (pc' := 37) (t := 0) rfl rfl
        · repeat (first | assumption | exact on_up_eq _ _ _ | refine (on_up_ne (by omega)).trans ?_)
        · rfl
        · first | assumption | exact on_lit _ | rfl
        · first | assumption | omega | decide
        rw [pi.1]
        first | refine on_aload_n (pc' := 38) rfl rfl rfl rfl ?_ | refine on_aload_nQ (pc' := 38) rfl rfl rfl rfl ?_
        refine on_iload (pc' := 40) rfl rfl rfl ?_
        apply on_ialoadK (pc' := 41) (t := 0) rfl rfl
        · repeat (first | assumption | exact on_up_eq _ _ _ | refine (on_up_ne (by omega)).trans ?_)
        · rfl
        · first | assumption | exact on_lit _ | rfl
        · first | assumption | omega | decide
        rw [ki.1]
        refine on_ixor (pc' := 42) rfl rfl ?_
        rw [nI_xor]
        apply on_iastoreK (pc' := 43) (t := 0) rfl rfl
        · repeat (first | assumption | exact on_up_eq _ _ _ | refine (on_up_ne (by omega)).trans ?_)
        · rfl
        · first | assumption | exact on_lit _ | rfl
        · first | assumption | omega | decide
        refine on_iinc1 (pc' := 46) rfl rfl rfl ?_
        refine on_goto (tgt := 12) rfl rfl ?_
        rw [on_up_up]
        refine on_relv (l := [(0, .ref o), (1, .ref k), (2, A), (3, B), (4, .ref q), (5, .int (nI (i + 1)))]) ⟨rfl, rfl, rfl, rfl, rfl, congrArg some (congrArg Value.int (nI_1 i)), trivial⟩ (ih (i + 1) _ (by omega) (fun j hj => ?_))
        by_cases e : j = i
        · subst e
          rw [pk_us, show hq_1 k0 (j + 1) j = k0 j ^^^ 54 from if_pos (by omega), Nat.xor_comm]
          exact ⟨rfl, xor_lt8 ki.2 (by decide)⟩
        · rw [pk_un e, show hq_1 k0 (i + 1) j = hq_1 k0 i j by
            unfold hq_1
            by_cases e2 : j < i
            · rw [if_pos e2, if_pos (by omega)]
            · rw [if_neg e2, if_neg (by omega)]]
          exact hP j hj
set_option maxHeartbeats 4000000 in
theorem hmq_2 {p : Nat → Nat} (ho : h o = some (.inr (3, hk_f o)))
    (kk : ∀ P : Nat → Int32, on_by P (fun j => p j ^^^ 106) 64 → on_E G M_Handshake_hmac 125 (on_l [(0, .ref o), (4, .ref q)]) [] (on_up h (o + 22) (on_ai 0 64 P)) sz bc bs Q) :
    ∀ (m i : Nat) (P : Nat → Int32), i + m = 64 → on_by P (hq_2 p i) 64 → on_E G M_Handshake_hmac 97 (on_l [(0, .ref o), (4, .ref q), (5, .int (nI i))]) [] (on_up h (o + 22) (on_ai 0 64 P)) sz bc bs Q := by
  intro m
  induction m with
  | zero =>
    intro i P hi hP
    obtain rfl : i = 64 := by omega
    refine on_iload (pc' := 99) rfl rfl rfl ?_
    first | refine on_aload_n (pc' := 100) rfl rfl rfl rfl ?_ | refine on_aload_nQ (pc' := 100) rfl rfl rfl rfl ?_
    first | apply on_get (pc' := 103) rfl rfl fl_Handshake_40 | apply on_getN (pc' := 103) rfl rfl fl_Handshake_40
    · repeat (first | assumption | exact on_up_eq _ _ _ | refine (on_up_ne (by omega)).trans ?_)
    · rfl
    apply on_alenI (pc' := 104) rfl rfl
    · repeat (first | assumption | exact on_up_eq _ _ _ | refine (on_up_ne (by omega)).trans ?_)
    · rfl
    refine on_icmp_ge (pc' := 107) (tgt := 125) rfl rfl rfl (fun cq => ?_) (fun cq => ?_)
    · exact on_relv (l := [(0, .ref o), (4, .ref q)]) ⟨rfl, rfl, trivial⟩ (kk P (fun j hj => by have := hP j hj; unfold hq_2 at this; rw [if_pos hj] at this; exact this))
    · exact absurd (nI_le (a := 64) (by omega) (by omega)) cq
  | succ m ih =>
    intro i P hi hP
    have hi3 : i < 64 ∧ 64 < 2 ^ 31 := by omega
    have pi := hP i hi3.1
    rw [show hq_2 p i i = p i from if_neg (by omega)] at pi
    refine on_iload (pc' := 99) rfl rfl rfl ?_
    first | refine on_aload_n (pc' := 100) rfl rfl rfl rfl ?_ | refine on_aload_nQ (pc' := 100) rfl rfl rfl rfl ?_
    first | apply on_get (pc' := 103) rfl rfl fl_Handshake_40 | apply on_getN (pc' := 103) rfl rfl fl_Handshake_40
    · repeat (first | assumption | exact on_up_eq _ _ _ | refine (on_up_ne (by omega)).trans ?_)
    · rfl
    apply on_alenI (pc' := 104) rfl rfl
    · repeat (first | assumption | exact on_up_eq _ _ _ | refine (on_up_ne (by omega)).trans ?_)
    · rfl
    refine on_icmp_ge (pc' := 107) (tgt := 125) rfl rfl rfl (fun cq => ?_) (fun cq => ?_)
    · exact absurd cq (nI_ge (b := 64) (by omega) (by omega))
    · first | refine on_aload_n (pc' := 108) rfl rfl rfl rfl ?_ | refine on_aload_nQ (pc' := 108) rfl rfl rfl rfl ?_
      first | apply on_get (pc' := 111) rfl rfl fl_Handshake_40 | apply on_getN (pc' := 111) rfl rfl fl_Handshake_40
      · repeat (first | assumption | exact on_up_eq _ _ _ | refine (on_up_ne (by omega)).trans ?_)
      · rfl
      refine on_iload (pc' := 113) rfl rfl rfl ?_
      first | refine on_dup2_11 (pc' := 114) rfl rfl rfl rfl ?_ | refine on_dup2_2 (pc' := 114) rfl rfl rfl ?_
      apply on_ialoadK (pc' := 115) (t := 0) rfl rfl
      · repeat (first | assumption | exact on_up_eq _ _ _ | refine (on_up_ne (by omega)).trans ?_)
      · rfl
      · first | assumption | exact on_lit _ | rfl
      · first | assumption | omega | decide
      rw [pi.1]
      refine on_bipush (pc' := 117) (v := 106) rfl rfl lb_106 ?_
      refine on_ixor (pc' := 118) rfl rfl ?_
      rw [show (106 : Int32) = nI 106 from rfl, nI_xor]
      apply on_iastoreK (pc' := 119) (t := 0) rfl rfl
      · repeat (first | assumption | exact on_up_eq _ _ _ | refine (on_up_ne (by omega)).trans ?_)
      · rfl
      · first | assumption | exact on_lit _ | rfl
      · first | assumption | omega | decide
      refine on_iinc1 (pc' := 122) rfl rfl rfl ?_
      refine on_goto (tgt := 97) rfl rfl ?_
      rw [on_up_up]
      refine on_relv (l := [(0, .ref o), (4, .ref q), (5, .int (nI (i + 1)))]) ⟨rfl, rfl, congrArg some (congrArg Value.int (nI_1 i)), trivial⟩ (ih (i + 1) _ (by omega) (fun j hj => ?_))
      by_cases e : j = i
      · subst e
        rw [pk_us, show hq_2 p (j + 1) j = p j ^^^ 106 from if_pos (by omega)]
        exact ⟨rfl, xor_lt8 pi.2 (by decide)⟩
      · rw [pk_un e, show hq_2 p (i + 1) j = hq_2 p i j by
          unfold hq_2
          by_cases e2 : j < i
          · rw [if_pos e2, if_pos (by omega)]
          · rw [if_neg e2, if_neg (by omega)]]
        exact hP j hj
theorem hq_54 (k0 : Nat → Nat) (kl j : Nat) : hq_1 k0 kl j = hm_k k0 kl 54 j := by
  unfold hq_1 hm_k
  split
  · rfl
  · rw [Nat.zero_xor]
theorem hq_92 (k0 : Nat → Nat) (kl j : Nat) : hq_1 k0 kl j ^^^ 106 = hm_k k0 kl 92 j := by
  rw [hq_54]
  unfold hm_k
  rw [Nat.xor_assoc]
  rfl
theorem sp_sl_congr {f g : Nat → Nat} {at_ cnt : Nat} (h : ∀ i, i < cnt → f (at_ + i) = g (at_ + i)) : sp_sl f at_ cnt = sp_sl g at_ cnt := by
  unfold sp_sl
  exact List.map_congr_left (fun i hi => h i (List.mem_range.mp hi))
set_option maxHeartbeats 8000000 in
/-- hmac -/
theorem c_hmac (ho : h o = some (.inr (3, hk_f o))) (hS : sh_W (o + 1) h) (hp : rW h (o + 22) 64) (hi : rW h (o + 23) 32) (hk : rB h k kl k0) (hko : k < o ∨ (o + 4 ≤ k ∧ k ≠ o + 22)) (hkl : kl ≤ 64) {T : Nat → Int32} (hmr : h m = some (on_ai 0 L T)) (hmo : m < o ∨ (o + 4 ≤ m ∧ m ≠ o + 22)) (hn : n ≤ L) (hL : L < 2 ^ 20) (hT : on_by T t n) (hq : rW h q 32) (hqo : q < o ∨ (o + 4 ≤ q ∧ q ≠ o + 22 ∧ q ≠ o + 23)) :
    on_Ct G M_Handshake_hmac [.ref o, .ref k, .ref m, .int (nI n), .ref q] h sz 0 0 (fun r h1 z => r = none ∧ z = sz ∧ sh_W (o + 1) h1 ∧ rW h1 (o + 22) 64 ∧ rW h1 (o + 23) 32 ∧ rB h1 q 32 (hm k0 kl t n) ∧ ∀ a, a ≠ q → (a < o + 1 ∨ o + 4 ≤ a) → a ≠ o + 22 → a ≠ o + 23 → h1 a = h a) := by
  obtain ⟨P0, hp⟩ := hp
  obtain ⟨I0, hi⟩ := hi
  obtain ⟨K, hk, hK⟩ := hk
  obtain ⟨R, hq⟩ := hq
  refine on_Ct.of (by decide) v_Handshake_hmac (Nat.le_of_ble_eq_true rfl) ?_
  first | refine on_aload_n (pc' := 1) rfl rfl rfl rfl ?_ | refine on_aload_nQ (pc' := 1) rfl rfl rfl rfl ?_
  first | apply on_get (pc' := 4) rfl rfl fl_Handshake_40 | apply on_getN (pc' := 4) rfl rfl fl_Handshake_40
  · repeat (first | assumption | exact on_up_eq _ _ _ | refine (on_up_ne (by omega)).trans ?_)
  · rfl
  refine on_bipush (pc' := 6) (v := 54) rfl rfl lb_54 ?_
  refine on_callS (pc' := 9) (As := [.ref (o + 22), .int 54]) (rest := []) rfl rfl cw_Handshake_hmac_142 rfl rfl (by decide) (Nat.zero_le _) (Nat.zero_le _) (c_fill (by decide) hp) ?_
  rintro r h1 sz ⟨rfl, rfl, rfl⟩
  refine on_iconst (pc' := 10) (v := 0) rfl rfl li_0 ?_
  refine on_istore (pc' := 12) rfl rfl (by decide) ?_
  refine on_relv (l := [(0, .ref o), (1, .ref k), (2, .ref m), (3, .int (nI n)), (4, .ref q), (5, .int (nI 0))]) ⟨rfl, rfl, rfl, rfl, rfl, rfl, trivial⟩ (hmq_1 (k0 := k0) ho hk (by omega) hkl hK (fun P hP => ?_) kl 0 _ (by omega) (fun j hj => ⟨(if_pos (by omega) : on_fl P0 0 64 54 j = 54), by rw [show hq_1 k0 0 j = 54 from if_neg (by omega)]; decide⟩))
  have S1 : sh_W (o + 1) (on_up h (o + 22) (on_ai 0 64 P)) := hS.keep (fun a h1 h2 => on_up_ne (by omega))
  have o1 : on_up h (o + 22) (on_ai 0 64 P) o = some (.inr (3, hk_f o)) := (on_up_ne (by omega)).trans ho
  have p1 : on_up h (o + 22) (on_ai 0 64 P) (o + 22) = some (on_ai 0 64 P) := on_up_eq _ _ _
  have t1 : ∀ a, a ≠ o + 22 → on_up h (o + 22) (on_ai 0 64 P) a = h a := fun a ha => on_up_ne ha
  generalize on_up h (o + 22) (on_ai 0 64 P) = h1 at *
  obtain ⟨f1, g1, l1, S1'⟩ := id S1
  first | refine on_aload_n (pc' := 50) rfl rfl rfl rfl ?_ | refine on_aload_nQ (pc' := 50) rfl rfl rfl rfl ?_
  first | apply on_get (pc' := 53) rfl rfl fl_Handshake_12 | apply on_getN (pc' := 53) rfl rfl fl_Handshake_12
  · repeat (first | assumption | exact on_up_eq _ _ _ | refine (on_up_ne (by omega)).trans ?_)
  · rfl
  refine on_callV (pc' := 56) (As := []) (rest := []) (b := o + 1) rfl rfl cw_Handshake_hmac_103 S1'.1 rfl rfl (by decide) (Nat.zero_le _) (Nat.zero_le _) (c_Sha_start S1) ?_
  rintro r h2 sz ⟨rfl, rfl, X2, t2⟩
  have o2 := (t2 o (by omega)).trans o1
  have p2 := (t2 (o + 22) (by omega)).trans p1
  obtain ⟨f2, g2, X2', -⟩ := id X2
  first | refine on_aload_n (pc' := 57) rfl rfl rfl rfl ?_ | refine on_aload_nQ (pc' := 57) rfl rfl rfl rfl ?_
  first | apply on_get (pc' := 60) rfl rfl fl_Handshake_12 | apply on_getN (pc' := 60) rfl rfl fl_Handshake_12
  · repeat (first | assumption | exact on_up_eq _ _ _ | refine (on_up_ne (by omega)).trans ?_)
  · rfl
  first | refine on_aload_n (pc' := 61) rfl rfl rfl rfl ?_ | refine on_aload_nQ (pc' := 61) rfl rfl rfl rfl ?_
  first | apply on_get (pc' := 64) rfl rfl fl_Handshake_40 | apply on_getN (pc' := 64) rfl rfl fl_Handshake_40
  · repeat (first | assumption | exact on_up_eq _ _ _ | refine (on_up_ne (by omega)).trans ?_)
  · rfl
  refine on_iconst (pc' := 65) (v := 0) rfl rfl li_0 ?_
  first | refine on_aload_n (pc' := 66) rfl rfl rfl rfl ?_ | refine on_aload_nQ (pc' := 66) rfl rfl rfl rfl ?_
  first | apply on_get (pc' := 69) rfl rfl fl_Handshake_40 | apply on_getN (pc' := 69) rfl rfl fl_Handshake_40
  · repeat (first | assumption | exact on_up_eq _ _ _ | refine (on_up_ne (by omega)).trans ?_)
  · rfl
  apply on_alenI (pc' := 70) rfl rfl
  · repeat (first | assumption | exact on_up_eq _ _ _ | refine (on_up_ne (by omega)).trans ?_)
  · rfl
  refine on_callV (pc' := 73) (As := [.ref (o + 22), .int (nI 0), .int (nI 64)]) (rest := []) (b := o + 1) rfl rfl cw_Handshake_hmac_85 X2'.1 rfl rfl (by decide) (Nat.zero_le _) (Nat.zero_le _) (c_Sha_add (b := hq_1 k0 kl) X2 (by decide) p2 (by omega) (by decide) (by decide) (fun i hi => by rw [Nat.zero_add]; exact hP i hi)) ?_
  rintro r h3 sz ⟨rfl, rfl, X3, t3⟩
  have o3 := (t3 o (by omega)).trans o2
  have m3 := (t3 m (by omega)).trans ((t2 m (by omega)).trans ((t1 m (by omega)).trans hmr))
  obtain ⟨f3, g3, X3', -⟩ := id X3
  first | refine on_aload_n (pc' := 74) rfl rfl rfl rfl ?_ | refine on_aload_nQ (pc' := 74) rfl rfl rfl rfl ?_
  first | apply on_get (pc' := 77) rfl rfl fl_Handshake_12 | apply on_getN (pc' := 77) rfl rfl fl_Handshake_12
  · repeat (first | assumption | exact on_up_eq _ _ _ | refine (on_up_ne (by omega)).trans ?_)
  · rfl
  first | refine on_aload_n (pc' := 78) rfl rfl rfl rfl ?_ | refine on_aload_nQ (pc' := 78) rfl rfl rfl rfl ?_
  refine on_iconst (pc' := 79) (v := 0) rfl rfl li_0 ?_
  refine on_iload_n (pc' := 80) rfl rfl rfl rfl ?_
  refine on_callV (pc' := 83) (As := [.ref m, .int (nI 0), .int (nI n)]) (rest := []) (b := o + 1) rfl rfl cw_Handshake_hmac_85 X3'.1 rfl rfl (by decide) (Nat.zero_le _) (Nat.zero_le _) (c_Sha_add (b := t) X3 (by rw [List.length_append, sp_sl_len]; show 0 + 64 + n < 2 ^ 31; omega) m3 (by omega) (by omega) (by omega) (fun i hi => by rw [Nat.zero_add]; exact hT i hi)) ?_
  rintro r h4 sz ⟨rfl, rfl, X4, t4⟩
  have o4 := (t4 o (by omega)).trans o3
  have i4 := (t4 (o + 23) (by omega)).trans ((t3 (o + 23) (by omega)).trans ((t2 (o + 23) (by omega)).trans ((t1 (o + 23) (by omega)).trans hi)))
  obtain ⟨f4, g4, X4', -⟩ := id X4
  first | refine on_aload_n (pc' := 84) rfl rfl rfl rfl ?_ | refine on_aload_nQ (pc' := 84) rfl rfl rfl rfl ?_
  first | apply on_get (pc' := 87) rfl rfl fl_Handshake_12 | apply on_getN (pc' := 87) rfl rfl fl_Handshake_12
  · repeat (first | assumption | exact on_up_eq _ _ _ | refine (on_up_ne (by omega)).trans ?_)
  · rfl
  first | refine on_aload_n (pc' := 88) rfl rfl rfl rfl ?_ | refine on_aload_nQ (pc' := 88) rfl rfl rfl rfl ?_
  first | apply on_get (pc' := 91) rfl rfl fl_Handshake_43 | apply on_getN (pc' := 91) rfl rfl fl_Handshake_43
  · repeat (first | assumption | exact on_up_eq _ _ _ | refine (on_up_ne (by omega)).trans ?_)
  · rfl
  refine on_callV (pc' := 94) (As := [.ref (o + 23)]) (rest := []) (b := o + 1) rfl rfl cw_Handshake_hmac_92 X4'.1 rfl rfl (by decide) (Nat.zero_le _) (Nat.zero_le _) (c_Sha_end X4 (by rw [List.length_append, List.length_append, sp_sl_len, sp_sl_len]; show 0 + 64 + n < 2 ^ 28; omega) i4 (by omega)) ?_
  rintro r h5 sz ⟨rfl, rfl, S5, d5, t5⟩
  have o5 := (t5 o (by omega) (by omega)).trans o4
  have p5 : h5 (o + 22) = some (on_ai 0 64 P) := (t5 (o + 22) (by omega) (by omega)).trans ((t4 _ (by omega)).trans ((t3 _ (by omega)).trans p2))
  have tt5 : ∀ a, (a < o + 1 ∨ o + 4 ≤ a) → a ≠ o + 22 → a ≠ o + 23 → h5 a = h a := fun a h1 h2 h3 => by rw [t5 a h3 (by omega), t4 a (by omega), t3 a (by omega), t2 a (by omega), t1 a h2]
  clear t5 t4 t3 t2 t1
  refine on_iconst (pc' := 95) (v := 0) rfl rfl li_0 ?_
  refine on_istore (pc' := 97) rfl rfl (by decide) ?_
  have z := hmq_2 (G := G) (q := q) (sz := sz) (bc := 0) (bs := 0) (p := hq_1 k0 kl) (Q := fun r h1 z => r = none ∧ z = sz ∧ sh_W (o + 1) h1 ∧ rW h1 (o + 22) 64 ∧ rW h1 (o + 23) 32 ∧ rB h1 q 32 (hm k0 kl t n) ∧ ∀ a, a ≠ q → (a < o + 1 ∨ o + 4 ≤ a) → a ≠ o + 22 → a ≠ o + 23 → h1 a = h a) o5 ?_ 64 0 P rfl (fun j hj => by rw [show hq_2 (hq_1 k0 kl) 0 j = hq_1 k0 kl j from if_neg (by omega)]; exact hP j hj)
  · rw [on_up_self p5] at z
    exact on_relv (l := [(0, .ref o), (4, .ref q), (5, .int (nI 0))]) ⟨rfl, rfl, rfl, trivial⟩ z
  intro P6 hP6
  have S6 : sh_W (o + 1) (on_up h5 (o + 22) (on_ai 0 64 P6)) := S5.keep (fun a h1 h2 => on_up_ne (by omega))
  have o6 : on_up h5 (o + 22) (on_ai 0 64 P6) o = some (.inr (3, hk_f o)) := (on_up_ne (by omega)).trans o5
  have p6 : on_up h5 (o + 22) (on_ai 0 64 P6) (o + 22) = some (on_ai 0 64 P6) := on_up_eq _ _ _
  have d6 := (on_up_ne (h := h5) (a := o + 22) (e := on_ai 0 64 P6) (show o + 23 ≠ o + 22 by omega)).trans d5
  have t6 : ∀ a, (a < o + 1 ∨ o + 4 ≤ a) → a ≠ o + 22 → a ≠ o + 23 → on_up h5 (o + 22) (on_ai 0 64 P6) a = h a := fun a h1 h2 h3 => (on_up_ne h2).trans (tt5 a h1 h2 h3)
  generalize on_up h5 (o + 22) (on_ai 0 64 P6) = h6 at *
  obtain ⟨f6, g6, l6, S6'⟩ := id S6
  first | refine on_aload_n (pc' := 126) rfl rfl rfl rfl ?_ | refine on_aload_nQ (pc' := 126) rfl rfl rfl rfl ?_
  first | apply on_get (pc' := 129) rfl rfl fl_Handshake_12 | apply on_getN (pc' := 129) rfl rfl fl_Handshake_12
  · repeat (first | assumption | exact on_up_eq _ _ _ | refine (on_up_ne (by omega)).trans ?_)
  · rfl
  refine on_callV (pc' := 132) (As := []) (rest := []) (b := o + 1) rfl rfl cw_Handshake_hmac_103 S6'.1 rfl rfl (by decide) (Nat.zero_le _) (Nat.zero_le _) (c_Sha_start S6) ?_
  rintro r h7 sz ⟨rfl, rfl, X7, t7⟩
  have o7 := (t7 o (by omega)).trans o6
  have p7 := (t7 (o + 22) (by omega)).trans p6
  obtain ⟨f7, g7, X7', -⟩ := id X7
  first | refine on_aload_n (pc' := 133) rfl rfl rfl rfl ?_ | refine on_aload_nQ (pc' := 133) rfl rfl rfl rfl ?_
  first | apply on_get (pc' := 136) rfl rfl fl_Handshake_12 | apply on_getN (pc' := 136) rfl rfl fl_Handshake_12
  · repeat (first | assumption | exact on_up_eq _ _ _ | refine (on_up_ne (by omega)).trans ?_)
  · rfl
  first | refine on_aload_n (pc' := 137) rfl rfl rfl rfl ?_ | refine on_aload_nQ (pc' := 137) rfl rfl rfl rfl ?_
  first | apply on_get (pc' := 140) rfl rfl fl_Handshake_40 | apply on_getN (pc' := 140) rfl rfl fl_Handshake_40
  · repeat (first | assumption | exact on_up_eq _ _ _ | refine (on_up_ne (by omega)).trans ?_)
  · rfl
  refine on_iconst (pc' := 141) (v := 0) rfl rfl li_0 ?_
  first | refine on_aload_n (pc' := 142) rfl rfl rfl rfl ?_ | refine on_aload_nQ (pc' := 142) rfl rfl rfl rfl ?_
  first | apply on_get (pc' := 145) rfl rfl fl_Handshake_40 | apply on_getN (pc' := 145) rfl rfl fl_Handshake_40
  · repeat (first | assumption | exact on_up_eq _ _ _ | refine (on_up_ne (by omega)).trans ?_)
  · rfl
  apply on_alenI (pc' := 146) rfl rfl
  · repeat (first | assumption | exact on_up_eq _ _ _ | refine (on_up_ne (by omega)).trans ?_)
  · rfl
  refine on_callV (pc' := 149) (As := [.ref (o + 22), .int (nI 0), .int (nI 64)]) (rest := []) (b := o + 1) rfl rfl cw_Handshake_hmac_85 X7'.1 rfl rfl (by decide) (Nat.zero_le _) (Nat.zero_le _) (c_Sha_add (b := fun j => hq_1 k0 kl j ^^^ 106) X7 (by decide) p7 (by omega) (by decide) (by decide) (fun i hi => by rw [Nat.zero_add]; exact hP6 i hi)) ?_
  rintro r h8 sz ⟨rfl, rfl, X8, t8⟩
  have o8 := (t8 o (by omega)).trans o7
  have d8 := (t8 (o + 23) (by omega)).trans ((t7 (o + 23) (by omega)).trans d6)
  obtain ⟨f8, g8, X8', -⟩ := id X8
  first | refine on_aload_n (pc' := 150) rfl rfl rfl rfl ?_ | refine on_aload_nQ (pc' := 150) rfl rfl rfl rfl ?_
  first | apply on_get (pc' := 153) rfl rfl fl_Handshake_12 | apply on_getN (pc' := 153) rfl rfl fl_Handshake_12
  · repeat (first | assumption | exact on_up_eq _ _ _ | refine (on_up_ne (by omega)).trans ?_)
  · rfl
  first | refine on_aload_n (pc' := 154) rfl rfl rfl rfl ?_ | refine on_aload_nQ (pc' := 154) rfl rfl rfl rfl ?_
  first | apply on_get (pc' := 157) rfl rfl fl_Handshake_43 | apply on_getN (pc' := 157) rfl rfl fl_Handshake_43
  · repeat (first | assumption | exact on_up_eq _ _ _ | refine (on_up_ne (by omega)).trans ?_)
  · rfl
  refine on_iconst (pc' := 158) (v := 0) rfl rfl li_0 ?_
  refine on_bipush (pc' := 160) (v := 32) rfl rfl lb_32 ?_
  refine on_callV (pc' := 163) (As := [.ref (o + 23), .int (nI 0), .int (nI 32)]) (rest := []) (b := o + 1) rfl rfl cw_Handshake_hmac_85 X8'.1 rfl rfl (by decide) (Nat.zero_le _) (Nat.zero_le _) (c_Sha_add (b := sp_d ([] ++ sp_sl (hq_1 k0 kl) 0 64 ++ sp_sl t 0 n)) X8 (by rw [List.length_append, sp_sl_len]; decide) d8 (by omega) (by decide) (by decide) (fun i hi => by rw [Nat.zero_add]; exact ⟨on_tk_lt hi, sp_d_lt _ _⟩)) ?_
  rintro r h9 sz ⟨rfl, rfl, X9, t9⟩
  have o9 := (t9 o (by omega)).trans o8
  have q9 : h9 q = some (on_ai 0 32 R) := (t9 q (by omega)).trans ((t8 q (by omega)).trans ((t7 q (by omega)).trans ((t6 q (by omega) (by omega) (by omega)).trans hq)))
  obtain ⟨f9, g9, X9', -⟩ := id X9
  first | refine on_aload_n (pc' := 164) rfl rfl rfl rfl ?_ | refine on_aload_nQ (pc' := 164) rfl rfl rfl rfl ?_
  first | apply on_get (pc' := 167) rfl rfl fl_Handshake_12 | apply on_getN (pc' := 167) rfl rfl fl_Handshake_12
  · repeat (first | assumption | exact on_up_eq _ _ _ | refine (on_up_ne (by omega)).trans ?_)
  · rfl
  first | refine on_aload (pc' := 169) rfl rfl rfl ?_ | refine on_aloadQ (pc' := 169) rfl rfl rfl ?_
  refine on_callV (pc' := 172) (As := [.ref q]) (rest := []) (b := o + 1) rfl rfl cw_Handshake_hmac_92 X9'.1 rfl rfl (by decide) (Nat.zero_le _) (Nat.zero_le _) (c_Sha_end X9 (by rw [List.length_append, List.length_append, sp_sl_len, sp_sl_len]; decide) q9 (by omega)) ?_
  rintro r h10 sz ⟨rfl, rfl, S10, d10, t10⟩
  refine on_vreturn rfl rfl ?_
  have tt : ∀ a, a ≠ q → (a < o + 1 ∨ o + 4 ≤ a) → h10 a = h6 a := fun a h1 h2 => by rw [t10 a h1 (by omega), t9 a (by omega), t8 a (by omega), t7 a (by omega)]
  refine ⟨rfl, rfl, S10, ⟨P6, (tt _ (by omega) (by omega)).trans p6⟩, ⟨_, (tt _ (by omega) (by omega)).trans d6⟩, ⟨_, d10, fun i hi => ?_⟩, fun a h1 h2 h3 h4 => (tt a h1 h2).trans (t6 a h2 h3 h4)⟩
  rw [on_tk_lt hi]
  refine ⟨congrArg nI ?_, sp_d_lt _ _⟩
  have e1 : sp_sl (fun j => hq_1 k0 kl j ^^^ 106) 0 64 = sp_sl (hm_k k0 kl 92) 0 64 := sp_sl_congr (fun i hi => hq_92 k0 kl _)
  have e2 : sp_sl (hq_1 k0 kl) 0 64 = sp_sl (hm_k k0 kl 54) 0 64 := sp_sl_congr (fun i hi => hq_54 k0 kl _)
  rw [List.nil_append, List.nil_append, e1, e2]
  rfl
end HMA
