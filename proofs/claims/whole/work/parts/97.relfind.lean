/-! a Relay looks for its entries -/
theorem rf_none {p : Nat → Bool} {n : Nat} (h : ∀ j, j < n → p j = false) : (List.range n).find? p = none := by
  rw [List.find?_eq_none]
  intro x hx
  rw [h x (List.mem_range.mp hx)]
  decide
theorem rf_some {p : Nat → Bool} {n k : Nat} (hk : k < n) (h1 : p k = true) (h : ∀ j, j < k → p j = false) : (List.range n).find? p = some k := by
  rw [List.find?_range_eq_some]
  exact ⟨h1, List.mem_range.mpr hk, fun j hj => by rw [h j hj]; rfl⟩
/-- the entries of a Relay at a -/
def rl_E (a tr : Nat) (en : Nat → Option aE) (h : on_H) : Prop := h (a + 6) = some (on_aq 5 12 (re_f a 12)) ∧ ∀ j, j < 12 → en_S (a + 8 + 21 * j) tr (en j) h
/-- the entry at a place -/
def eA (a : Nat) (k : Option Nat) : Value := va_rf (k.map (fun j => a + 8 + 21 * j))
section RFI
variable {G : on_G} {a ot hs tr sz bc bs : Nat} {kc w : Int32} {en : Nat → Option aE} {h h2 : on_H} {Q : Option Value → on_H → Nat → Prop}
theorem rl_E.keep (k : rl_E a tr en h) (q : ∀ x, a + 6 ≤ x → x < a + 260 → x ≠ a + 7 → h2 x = h x) : rl_E a tr en h2 := ⟨(q _ (by omega) (by omega) (by omega)).trans k.1, fun j hj => (k.2 j hj).keep (fun x h1 h2 => q x (by omega) (by omega) (by omega))⟩
theorem en_hd {e : Nat} {oe : Option aE} (k : en_S e tr oe h) : ∃ (sc fr fn on_ onn us wt : Int32) (S V W C : Nat → Int32), en_B e sc fr fn on_ onn us wt S V W C h ∧ ((oe = none ∧ us = 0) ∨ ∃ x, oe = some x ∧ us = 1 ∧ fr = nI x.fr ∧ fn = x.fn ∧ on_ = oI x.on ∧ (∀ q, x.on = some q → onn = nI q.2) ∧ wt = bI x.wt ∧ sc = nI x.st.length) := by
  cases oe with
  | none =>
    obtain ⟨sc, fr, fn, on_, onn, wt, S, V, W, C, k1, -, -⟩ := (k : en_N e tr h)
    exact ⟨sc, fr, fn, on_, onn, 0, wt, S, V, W, C, k1, Or.inl ⟨rfl, rfl⟩⟩
  | some x =>
    obtain ⟨onn, S, V, W, C, k1, k2, -, -, -⟩ := (k : en_U e tr x h)
    exact ⟨_, _, _, _, onn, 1, _, S, V, W, C, k1, Or.inr ⟨x, rfl, rfl, rfl, rfl, rfl, k2, rfl, rfl⟩⟩
def p_fr (en : Nat → Option aE) (fr : Nat) (num : Int32) : Nat → Bool := fun k => match en k with | some e => decide (e.fr = fr) && decide (e.fn = num) | none => false
def p_to (en : Nat → Option aE) (fr : Nat) (num : Int32) : Nat → Bool := fun k => match en k with | some e => (match e.on with | some q => decide (q.1 = fr) && decide (nI q.2 = num) | none => false) | none => false
/-- nodes of entries are small numbers -/
def en_w (en : Nat → Option aE) : Prop := ∀ j x, en j = some x → x.fr < 10 ∧ ∀ q, x.on = some q → q.1 < 10
set_option maxHeartbeats 8000000 in
theorem efr_l {fr : Nat} {num : Int32} (hfr : fr < 10) (hw : en_w en) (ho : rl_O a ot hs kc w h) (K : rl_E a tr en h)
    (kn : e_fr en fr num = none → on_E G M_Relay_entryFrom 60 (on_l []) [] h sz bc bs Q) (ks : ∀ k, k < 12 → e_fr en fr num = some k → on_E G M_Relay_entryFrom 51 (on_l [(6, .ref (a + 8 + 21 * k))]) [] h sz bc bs Q) :
    ∀ (m i : Nat), i + m = 12 → (∀ j, j < i → p_fr en fr num j = false) → on_E G M_Relay_entryFrom 12 (on_l [(0, .ref a), (1, .int (nI fr)), (2, .int num), (3, .ref (a + 6)), (4, .int (nI 12)), (5, .int (nI i))]) [] h sz bc bs Q := by
  obtain ⟨k6, kE⟩ := K
  intro m
  induction m with
  | zero =>
    intro i hi hj
    obtain rfl : i = 12 := by omega
    refine on_iload (pc' := 14) rfl rfl rfl ?_
    refine on_iload (pc' := 16) rfl rfl rfl ?_
    refine on_icmp_ge (pc' := 19) (tgt := 60) rfl rfl rfl (fun cq => ?_) (fun cq => ?_)
    · exact on_relv (l := []) trivial (kn (rf_none hj))
    · exact absurd (nI_le (a := 12) (by omega) (by omega)) cq
  | succ m ih =>
    intro i hi hj
    have i12 : i < 12 ∧ 12 < 2 ^ 31 := by omega
    obtain ⟨sc, f1, fn, on_, onn, us, wt, S, V, W, C, ⟨b0, -⟩, hx⟩ := en_hd (kE i i12.1)
    have next : p_fr en fr num i = false → on_E G M_Relay_entryFrom 54 (on_l [(0, .ref a), (1, .int (nI fr)), (2, .int num), (3, .ref (a + 6)), (4, .int (nI 12)), (5, .int (nI i))]) [] h sz bc bs Q := fun hn => by
      refine on_iinc1 (pc' := 57) rfl rfl rfl ?_
      refine on_goto (tgt := 12) rfl rfl ?_
      refine on_relv (l := [(0, .ref a), (1, .int (nI fr)), (2, .int num), (3, .ref (a + 6)), (4, .int (nI 12)), (5, .int (nI (i + 1)))]) ⟨rfl, rfl, rfl, rfl, rfl, congrArg some (congrArg Value.int (nI_1 i)), trivial⟩ (ih (i + 1) (by omega) (fun j hj2 => ?_))
      by_cases z : j = i
      · rw [z]; exact hn
      · exact hj j (by omega)
    refine on_iload (pc' := 14) rfl rfl rfl ?_
    refine on_iload (pc' := 16) rfl rfl rfl ?_
    refine on_icmp_ge (pc' := 19) (tgt := 60) rfl rfl rfl (fun cq => ?_) (fun cq => ?_)
    · exact absurd cq (nI_ge (b := 12) (by omega) (by omega))
    · first | refine on_aload_n (pc' := 20) rfl rfl rfl rfl ?_ | refine on_aload_nQ (pc' := 20) rfl rfl rfl rfl ?_
      refine on_iload (pc' := 22) rfl rfl rfl ?_
      apply on_aaloadK (pc' := 23) rfl rfl
      · repeat (first | assumption | exact on_up_eq _ _ _ | refine (on_up_ne (by omega)).trans ?_)
      · rfl
      · first | assumption | exact on_lit _ | rfl
      · first | assumption | omega | decide
      rw [show va_rf (re_f a 12 i) = .ref (a + 8 + 21 * i) by unfold re_f; rw [if_pos i12.1]; rfl]
      rcases hx with ⟨he, rfl⟩ | ⟨x, he, rfl, rfl, rfl, rfl, hon, rfl, rfl⟩
      · first | refine on_astore (pc' := 25) rfl rfl (by decide) ?_ | refine on_astoreQ (pc' := 25) rfl rfl (by decide) ?_
        first | refine on_aload (pc' := 27) rfl rfl rfl ?_ | refine on_aloadQ (pc' := 27) rfl rfl rfl ?_
        first | apply on_get (pc' := 30) rfl rfl fl_Relay_55 | apply on_getN (pc' := 30) rfl rfl fl_Relay_55
        · repeat (first | assumption | exact on_up_eq _ _ _ | refine (on_up_ne (by omega)).trans ?_)
        · rfl
        refine on_if_eq (pc' := 33) (tgt := 54) rfl rfl rfl (fun cq => ?_) (fun cq => ?_)
        · exact on_relv (l := [(0, .ref a), (1, .int (nI fr)), (2, .int num), (3, .ref (a + 6)), (4, .int (nI 12)), (5, .int (nI i))]) ⟨rfl, rfl, rfl, rfl, rfl, rfl, trivial⟩ (next (by unfold p_fr; rw [he]))
        · exact absurd rfl cq
      · have hxf := (hw i x he).1
        have pe : p_fr en fr num i = (decide (x.fr = fr) && decide (x.fn = num)) := by unfold p_fr; rw [he]
        first | refine on_astore (pc' := 25) rfl rfl (by decide) ?_ | refine on_astoreQ (pc' := 25) rfl rfl (by decide) ?_
        first | refine on_aload (pc' := 27) rfl rfl rfl ?_ | refine on_aloadQ (pc' := 27) rfl rfl rfl ?_
        first | apply on_get (pc' := 30) rfl rfl fl_Relay_55 | apply on_getN (pc' := 30) rfl rfl fl_Relay_55
        · repeat (first | assumption | exact on_up_eq _ _ _ | refine (on_up_ne (by omega)).trans ?_)
        · rfl
        refine on_if_eq (pc' := 33) (tgt := 54) rfl rfl rfl (fun cq => ?_) (fun cq => ?_)
        · exact absurd cq (by decide)
        · clear cq
          first | refine on_aload (pc' := 35) rfl rfl rfl ?_ | refine on_aloadQ (pc' := 35) rfl rfl rfl ?_
          first | apply on_get (pc' := 38) rfl rfl fl_Relay_93 | apply on_getN (pc' := 38) rfl rfl fl_Relay_93
          · repeat (first | assumption | exact on_up_eq _ _ _ | refine (on_up_ne (by omega)).trans ?_)
          · rfl
          refine on_iload_n (pc' := 39) rfl rfl rfl rfl ?_
          refine on_icmp_ne (pc' := 42) (tgt := 54) rfl rfl rfl (fun cq => ?_) (fun cq => ?_)
          · have ne : ¬ x.fr = fr := fun z => cq (by rw [z])
            exact on_relv (l := [(0, .ref a), (1, .int (nI fr)), (2, .int num), (3, .ref (a + 6)), (4, .int (nI 12)), (5, .int (nI i))]) ⟨rfl, rfl, rfl, rfl, rfl, rfl, trivial⟩ (next (by rw [pe, decide_eq_false ne]; rfl))
          · have eq : x.fr = fr := (nI_eq (by omega) (by omega)).mp cq
            clear cq
            first | refine on_aload (pc' := 44) rfl rfl rfl ?_ | refine on_aloadQ (pc' := 44) rfl rfl rfl ?_
            first | apply on_get (pc' := 47) rfl rfl fl_Relay_96 | apply on_getN (pc' := 47) rfl rfl fl_Relay_96
            · repeat (first | assumption | exact on_up_eq _ _ _ | refine (on_up_ne (by omega)).trans ?_)
            · rfl
            refine on_iload_n (pc' := 48) rfl rfl rfl rfl ?_
            refine on_icmp_ne (pc' := 51) (tgt := 54) rfl rfl rfl (fun cq => ?_) (fun cq => ?_)
            · exact on_relv (l := [(0, .ref a), (1, .int (nI fr)), (2, .int num), (3, .ref (a + 6)), (4, .int (nI 12)), (5, .int (nI i))]) ⟨rfl, rfl, rfl, rfl, rfl, rfl, trivial⟩ (next (by rw [pe, decide_eq_false cq, Bool.and_false]))
            · exact on_relv (l := [(6, .ref (a + 8 + 21 * i))]) ⟨rfl, trivial⟩ (ks i i12.1 (rf_some i12.1 (by show p_fr en fr num i = true; rw [pe, decide_eq_true eq, decide_eq_true cq]; rfl) hj))
/-- entryFrom -/
theorem c_entryFrom {fr : Nat} {num : Int32} (hfr : fr < 10) (hw : en_w en) (ho : rl_O a ot hs kc w h) (K : rl_E a tr en h) :
    on_Ct G M_Relay_entryFrom [.ref a, .int (nI fr), .int num] h sz 0 0 (fun r h1 z => r = some (eA a (e_fr en fr num)) ∧ z = sz ∧ h1 = h) := by
  have o1 : h a = some (.inr (8, [.ref (a + 1), .ref ot, .ref hs, .ref (a + 3), .ref (a + 4), .ref (a + 5), .ref (a + 6), .ref (a + 7), .int kc, .int w])) := ho
  have k6 := K.1
  refine on_Ct.of (by decide) v_Relay_entryFrom (Nat.le_of_ble_eq_true rfl) ?_
  first | refine on_aload_n (pc' := 1) rfl rfl rfl rfl ?_ | refine on_aload_nQ (pc' := 1) rfl rfl rfl rfl ?_
  first | apply on_get (pc' := 4) rfl rfl fl_Relay_23 | apply on_getN (pc' := 4) rfl rfl fl_Relay_23
  · repeat (first | assumption | exact on_up_eq _ _ _ | refine (on_up_ne (by omega)).trans ?_)
  · rfl
  first | refine on_astore_n (pc' := 5) rfl rfl rfl (by decide) ?_ | refine on_astore_nQ (pc' := 5) rfl rfl rfl (by decide) ?_
  first | refine on_aload_n (pc' := 6) rfl rfl rfl rfl ?_ | refine on_aload_nQ (pc' := 6) rfl rfl rfl rfl ?_
  apply on_alenQ (pc' := 7) rfl rfl
  · repeat (first | assumption | exact on_up_eq _ _ _ | refine (on_up_ne (by omega)).trans ?_)
  · rfl
  refine on_istore (pc' := 9) rfl rfl (by decide) ?_
  refine on_iconst (pc' := 10) (v := 0) rfl rfl li_0 ?_
  refine on_istore (pc' := 12) rfl rfl (by decide) ?_
  refine on_relv (l := [(0, .ref a), (1, .int (nI fr)), (2, .int num), (3, .ref (a + 6)), (4, .int (nI 12)), (5, .int (nI 0))]) ⟨rfl, rfl, rfl, rfl, rfl, rfl, trivial⟩ (efr_l hfr hw ho K (fun hn => ?_) (fun k hk he => ?_) 12 0 rfl (fun j hj => absurd hj (by omega)))
  · refine on_null (pc' := 61) rfl rfl ?_
    first | refine on_areturn (r := some _) (M := M_Relay_entryFrom) (pc := 61) (rt := (Jvm.ClassFile.FieldType.object "OnionNet$Entry")) rfl rfl (Or.inl ⟨_, rfl⟩) ?_ | refine on_areturn (r := none) (M := M_Relay_entryFrom) (pc := 61) (rt := (Jvm.ClassFile.FieldType.object "OnionNet$Entry")) rfl rfl (Or.inl ⟨_, rfl⟩) ?_ | refine on_areturn (M := M_Relay_entryFrom) (pc := 61) (rt := (Jvm.ClassFile.FieldType.object "OnionNet$Entry")) rfl rfl (Or.inl ⟨_, rfl⟩) ?_
    exact ⟨by rw [hn]; rfl, rfl, rfl⟩
  · first | refine on_aload (pc' := 53) rfl rfl rfl ?_ | refine on_aloadQ (pc' := 53) rfl rfl rfl ?_
    first | refine on_areturn (r := some _) (M := M_Relay_entryFrom) (pc := 53) (rt := (Jvm.ClassFile.FieldType.object "OnionNet$Entry")) rfl rfl (Or.inl ⟨_, rfl⟩) ?_ | refine on_areturn (r := none) (M := M_Relay_entryFrom) (pc := 53) (rt := (Jvm.ClassFile.FieldType.object "OnionNet$Entry")) rfl rfl (Or.inl ⟨_, rfl⟩) ?_ | refine on_areturn (M := M_Relay_entryFrom) (pc := 53) (rt := (Jvm.ClassFile.FieldType.object "OnionNet$Entry")) rfl rfl (Or.inl ⟨_, rfl⟩) ?_
    exact ⟨by rw [he]; rfl, rfl, rfl⟩
set_option maxHeartbeats 8000000 in
theorem eto_l {fr : Nat} {num : Int32} (hfr : fr < 10) (hw : en_w en) (ho : rl_O a ot hs kc w h) (K : rl_E a tr en h)
    (kn : e_to en fr num = none → on_E G M_Relay_entryTo 60 (on_l []) [] h sz bc bs Q) (ks : ∀ k, k < 12 → e_to en fr num = some k → on_E G M_Relay_entryTo 51 (on_l [(6, .ref (a + 8 + 21 * k))]) [] h sz bc bs Q) :
    ∀ (m i : Nat), i + m = 12 → (∀ j, j < i → p_to en fr num j = false) → on_E G M_Relay_entryTo 12 (on_l [(0, .ref a), (1, .int (nI fr)), (2, .int num), (3, .ref (a + 6)), (4, .int (nI 12)), (5, .int (nI i))]) [] h sz bc bs Q := by
  obtain ⟨k6, kE⟩ := K
  intro m
  induction m with
  | zero =>
    intro i hi hj
    obtain rfl : i = 12 := by omega
    refine on_iload (pc' := 14) rfl rfl rfl ?_
    refine on_iload (pc' := 16) rfl rfl rfl ?_
    refine on_icmp_ge (pc' := 19) (tgt := 60) rfl rfl rfl (fun cq => ?_) (fun cq => ?_)
    · exact on_relv (l := []) trivial (kn (rf_none hj))
    · exact absurd (nI_le (a := 12) (by omega) (by omega)) cq
  | succ m ih =>
    intro i hi hj
    have i12 : i < 12 ∧ 12 < 2 ^ 31 := by omega
    obtain ⟨sc, f1, fn, on_, onn, us, wt, S, V, W, C, ⟨b0, -⟩, hx⟩ := en_hd (kE i i12.1)
    have next : p_to en fr num i = false → on_E G M_Relay_entryTo 54 (on_l [(0, .ref a), (1, .int (nI fr)), (2, .int num), (3, .ref (a + 6)), (4, .int (nI 12)), (5, .int (nI i))]) [] h sz bc bs Q := fun hn => by
      refine on_iinc1 (pc' := 57) rfl rfl rfl ?_
      refine on_goto (tgt := 12) rfl rfl ?_
      refine on_relv (l := [(0, .ref a), (1, .int (nI fr)), (2, .int num), (3, .ref (a + 6)), (4, .int (nI 12)), (5, .int (nI (i + 1)))]) ⟨rfl, rfl, rfl, rfl, rfl, congrArg some (congrArg Value.int (nI_1 i)), trivial⟩ (ih (i + 1) (by omega) (fun j hj2 => ?_))
      by_cases z : j = i
      · rw [z]; exact hn
      · exact hj j (by omega)
    have nx := fun lv => on_relv (lv := lv) (G := G) (M := M_Relay_entryTo) (pc := 54) (st := []) (h := h) (sz := sz) (bc := bc) (bs := bs) (Q := Q) (l := [(0, .ref a), (1, .int (nI fr)), (2, .int num), (3, .ref (a + 6)), (4, .int (nI 12)), (5, .int (nI i))])
    refine on_iload (pc' := 14) rfl rfl rfl ?_
    refine on_iload (pc' := 16) rfl rfl rfl ?_
    refine on_icmp_ge (pc' := 19) (tgt := 60) rfl rfl rfl (fun cq => ?_) (fun cq => ?_)
    · exact absurd cq (nI_ge (b := 12) (by omega) (by omega))
    · first | refine on_aload_n (pc' := 20) rfl rfl rfl rfl ?_ | refine on_aload_nQ (pc' := 20) rfl rfl rfl rfl ?_
      refine on_iload (pc' := 22) rfl rfl rfl ?_
      apply on_aaloadK (pc' := 23) rfl rfl
      · repeat (first | assumption | exact on_up_eq _ _ _ | refine (on_up_ne (by omega)).trans ?_)
      · rfl
      · first | assumption | exact on_lit _ | rfl
      · first | assumption | omega | decide
      rw [show va_rf (re_f a 12 i) = .ref (a + 8 + 21 * i) by unfold re_f; rw [if_pos i12.1]; rfl]
      rcases hx with ⟨he, rfl⟩ | ⟨x, he, rfl, rfl, rfl, rfl, hon, rfl, rfl⟩
      · first | refine on_astore (pc' := 25) rfl rfl (by decide) ?_ | refine on_astoreQ (pc' := 25) rfl rfl (by decide) ?_
        first | refine on_aload (pc' := 27) rfl rfl rfl ?_ | refine on_aloadQ (pc' := 27) rfl rfl rfl ?_
        first | apply on_get (pc' := 30) rfl rfl fl_Relay_55 | apply on_getN (pc' := 30) rfl rfl fl_Relay_55
        · repeat (first | assumption | exact on_up_eq _ _ _ | refine (on_up_ne (by omega)).trans ?_)
        · rfl
        refine on_if_eq (pc' := 33) (tgt := 54) rfl rfl rfl (fun cq => ?_) (fun cq => ?_)
        · exact nx _ ⟨rfl, rfl, rfl, rfl, rfl, rfl, trivial⟩ (next (by unfold p_to; rw [he]))
        · exact absurd rfl cq
      · first | refine on_astore (pc' := 25) rfl rfl (by decide) ?_ | refine on_astoreQ (pc' := 25) rfl rfl (by decide) ?_
        first | refine on_aload (pc' := 27) rfl rfl rfl ?_ | refine on_aloadQ (pc' := 27) rfl rfl rfl ?_
        first | apply on_get (pc' := 30) rfl rfl fl_Relay_55 | apply on_getN (pc' := 30) rfl rfl fl_Relay_55
        · repeat (first | assumption | exact on_up_eq _ _ _ | refine (on_up_ne (by omega)).trans ?_)
        · rfl
        refine on_if_eq (pc' := 33) (tgt := 54) rfl rfl rfl (fun cq => ?_) (fun cq => ?_)
        · exact absurd cq (by decide)
        · clear cq
          cases ho2 : x.on with
          | none =>
            have pe : p_to en fr num i = false := by unfold p_to; rw [he]; show (match x.on with | some q => _ | none => false) = false; rw [ho2]
            first | refine on_aload (pc' := 35) rfl rfl rfl ?_ | refine on_aloadQ (pc' := 35) rfl rfl rfl ?_
            first | apply on_get (pc' := 38) rfl rfl fl_Relay_112 | apply on_getN (pc' := 38) rfl rfl fl_Relay_112
            · repeat (first | assumption | exact on_up_eq _ _ _ | refine (on_up_ne (by omega)).trans ?_)
            · rfl
            refine on_iload_n (pc' := 39) rfl rfl rfl rfl ?_
            refine on_icmp_ne (pc' := 42) (tgt := 54) rfl rfl rfl (fun cq => ?_) (fun cq => ?_)
            · exact nx _ ⟨rfl, rfl, rfl, rfl, rfl, rfl, trivial⟩ (next pe)
            · exact absurd cq (fun z => by
                have : ∀ f, f < 10 → ¬ ((-1 : Int32) = nI f) := by decide
                exact this fr hfr ((congrArg oI ho2).symm.trans z))
          | some q =>
            have pe : p_to en fr num i = (decide (q.1 = fr) && decide (nI q.2 = num)) := by unfold p_to; rw [he]; show (match x.on with | some q => _ | none => false) = _; rw [ho2]
            have hq := (hw i x he).2 q ho2
            obtain rfl := hon q ho2
            first | refine on_aload (pc' := 35) rfl rfl rfl ?_ | refine on_aloadQ (pc' := 35) rfl rfl rfl ?_
            first | apply on_get (pc' := 38) rfl rfl fl_Relay_112 | apply on_getN (pc' := 38) rfl rfl fl_Relay_112
            · repeat (first | assumption | exact on_up_eq _ _ _ | refine (on_up_ne (by omega)).trans ?_)
            · rfl
            refine on_iload_n (pc' := 39) rfl rfl rfl rfl ?_
            refine on_icmp_ne (pc' := 42) (tgt := 54) rfl rfl rfl (fun cq => ?_) (fun cq => ?_)
            · have ne : ¬ q.1 = fr := fun z => cq (by rw [ho2, ← z]; rfl)
              exact nx _ ⟨rfl, rfl, rfl, rfl, rfl, rfl, trivial⟩ (next (by rw [pe, decide_eq_false ne]; rfl))
            · have eq : q.1 = fr := (nI_eq (a := q.1) (b := fr) (by omega) (by omega)).mp ((congrArg oI ho2).symm.trans cq)
              clear cq
              first | refine on_aload (pc' := 44) rfl rfl rfl ?_ | refine on_aloadQ (pc' := 44) rfl rfl rfl ?_
              first | apply on_get (pc' := 47) rfl rfl fl_Relay_115 | apply on_getN (pc' := 47) rfl rfl fl_Relay_115
              · repeat (first | assumption | exact on_up_eq _ _ _ | refine (on_up_ne (by omega)).trans ?_)
              · rfl
              refine on_iload_n (pc' := 48) rfl rfl rfl rfl ?_
              refine on_icmp_ne (pc' := 51) (tgt := 54) rfl rfl rfl (fun cq => ?_) (fun cq => ?_)
              · exact nx _ ⟨rfl, rfl, rfl, rfl, rfl, rfl, trivial⟩ (next (by rw [pe, decide_eq_false cq, Bool.and_false]))
              · exact on_relv (l := [(6, .ref (a + 8 + 21 * i))]) ⟨rfl, trivial⟩ (ks i i12.1 (rf_some i12.1 (by show p_to en fr num i = true; rw [pe, decide_eq_true eq, decide_eq_true cq]; rfl) hj))
/-- entryTo -/
theorem c_entryTo {fr : Nat} {num : Int32} (hfr : fr < 10) (hw : en_w en) (ho : rl_O a ot hs kc w h) (K : rl_E a tr en h) :
    on_Ct G M_Relay_entryTo [.ref a, .int (nI fr), .int num] h sz 0 0 (fun r h1 z => r = some (eA a (e_to en fr num)) ∧ z = sz ∧ h1 = h) := by
  have o1 : h a = some (.inr (8, [.ref (a + 1), .ref ot, .ref hs, .ref (a + 3), .ref (a + 4), .ref (a + 5), .ref (a + 6), .ref (a + 7), .int kc, .int w])) := ho
  have k6 := K.1
  refine on_Ct.of (by decide) v_Relay_entryTo (Nat.le_of_ble_eq_true rfl) ?_
  first | refine on_aload_n (pc' := 1) rfl rfl rfl rfl ?_ | refine on_aload_nQ (pc' := 1) rfl rfl rfl rfl ?_
  first | apply on_get (pc' := 4) rfl rfl fl_Relay_23 | apply on_getN (pc' := 4) rfl rfl fl_Relay_23
  · repeat (first | assumption | exact on_up_eq _ _ _ | refine (on_up_ne (by omega)).trans ?_)
  · rfl
  first | refine on_astore_n (pc' := 5) rfl rfl rfl (by decide) ?_ | refine on_astore_nQ (pc' := 5) rfl rfl rfl (by decide) ?_
  first | refine on_aload_n (pc' := 6) rfl rfl rfl rfl ?_ | refine on_aload_nQ (pc' := 6) rfl rfl rfl rfl ?_
  apply on_alenQ (pc' := 7) rfl rfl
  · repeat (first | assumption | exact on_up_eq _ _ _ | refine (on_up_ne (by omega)).trans ?_)
  · rfl
  refine on_istore (pc' := 9) rfl rfl (by decide) ?_
  refine on_iconst (pc' := 10) (v := 0) rfl rfl li_0 ?_
  refine on_istore (pc' := 12) rfl rfl (by decide) ?_
  refine on_relv (l := [(0, .ref a), (1, .int (nI fr)), (2, .int num), (3, .ref (a + 6)), (4, .int (nI 12)), (5, .int (nI 0))]) ⟨rfl, rfl, rfl, rfl, rfl, rfl, trivial⟩ (eto_l hfr hw ho K (fun hn => ?_) (fun k hk he => ?_) 12 0 rfl (fun j hj => absurd hj (by omega)))
  · refine on_null (pc' := 61) rfl rfl ?_
    first | refine on_areturn (r := some _) (M := M_Relay_entryTo) (pc := 61) (rt := (Jvm.ClassFile.FieldType.object "OnionNet$Entry")) rfl rfl (Or.inl ⟨_, rfl⟩) ?_ | refine on_areturn (r := none) (M := M_Relay_entryTo) (pc := 61) (rt := (Jvm.ClassFile.FieldType.object "OnionNet$Entry")) rfl rfl (Or.inl ⟨_, rfl⟩) ?_ | refine on_areturn (M := M_Relay_entryTo) (pc := 61) (rt := (Jvm.ClassFile.FieldType.object "OnionNet$Entry")) rfl rfl (Or.inl ⟨_, rfl⟩) ?_
    exact ⟨by rw [hn]; rfl, rfl, rfl⟩
  · first | refine on_aload (pc' := 53) rfl rfl rfl ?_ | refine on_aloadQ (pc' := 53) rfl rfl rfl ?_
    first | refine on_areturn (r := some _) (M := M_Relay_entryTo) (pc := 53) (rt := (Jvm.ClassFile.FieldType.object "OnionNet$Entry")) rfl rfl (Or.inl ⟨_, rfl⟩) ?_ | refine on_areturn (r := none) (M := M_Relay_entryTo) (pc := 53) (rt := (Jvm.ClassFile.FieldType.object "OnionNet$Entry")) rfl rfl (Or.inl ⟨_, rfl⟩) ?_ | refine on_areturn (M := M_Relay_entryTo) (pc := 53) (rt := (Jvm.ClassFile.FieldType.object "OnionNet$Entry")) rfl rfl (Or.inl ⟨_, rfl⟩) ?_
    exact ⟨by rw [he]; rfl, rfl, rfl⟩
set_option maxHeartbeats 8000000 in
theorem efe_l (ho : rl_O a ot hs kc w h) (K : rl_E a tr en h)
    (kn : e_fe en = none → on_E G M_Relay_freeEntry 37 (on_l []) [] h sz bc bs Q) (ks : ∀ k, k < 12 → e_fe en = some k → on_E G M_Relay_freeEntry 28 (on_l [(4, .ref (a + 8 + 21 * k))]) [] h sz bc bs Q) :
    ∀ (m i : Nat), i + m = 12 → (∀ j, j < i → (en j).isNone = false) → on_E G M_Relay_freeEntry 10 (on_l [(0, .ref a), (1, .ref (a + 6)), (2, .int (nI 12)), (3, .int (nI i))]) [] h sz bc bs Q := by
  obtain ⟨k6, kE⟩ := K
  intro m
  induction m with
  | zero =>
    intro i hi hj
    obtain rfl : i = 12 := by omega
    refine on_iload_n (pc' := 11) rfl rfl rfl rfl ?_
    refine on_iload_n (pc' := 12) rfl rfl rfl rfl ?_
    refine on_icmp_ge (pc' := 15) (tgt := 37) rfl rfl rfl (fun cq => ?_) (fun cq => ?_)
    · exact on_relv (l := []) trivial (kn (rf_none hj))
    · exact absurd (nI_le (a := 12) (by omega) (by omega)) cq
  | succ m ih =>
    intro i hi hj
    have i12 : i < 12 ∧ 12 < 2 ^ 31 := by omega
    obtain ⟨sc, f1, fn, on_, onn, us, wt, S, V, W, C, ⟨b0, -⟩, hx⟩ := en_hd (kE i i12.1)
    refine on_iload_n (pc' := 11) rfl rfl rfl rfl ?_
    refine on_iload_n (pc' := 12) rfl rfl rfl rfl ?_
    refine on_icmp_ge (pc' := 15) (tgt := 37) rfl rfl rfl (fun cq => ?_) (fun cq => ?_)
    · exact absurd cq (nI_ge (b := 12) (by omega) (by omega))
    · first | refine on_aload_n (pc' := 16) rfl rfl rfl rfl ?_ | refine on_aload_nQ (pc' := 16) rfl rfl rfl rfl ?_
      refine on_iload_n (pc' := 17) rfl rfl rfl rfl ?_
      apply on_aaloadK (pc' := 18) rfl rfl
      · repeat (first | assumption | exact on_up_eq _ _ _ | refine (on_up_ne (by omega)).trans ?_)
      · rfl
      · first | assumption | exact on_lit _ | rfl
      · first | assumption | omega | decide
      rw [show va_rf (re_f a 12 i) = .ref (a + 8 + 21 * i) by unfold re_f; rw [if_pos i12.1]; rfl]
      rcases hx with ⟨he, rfl⟩ | ⟨x, he, rfl, -⟩
      · first | refine on_astore (pc' := 20) rfl rfl (by decide) ?_ | refine on_astoreQ (pc' := 20) rfl rfl (by decide) ?_
        first | refine on_aload (pc' := 22) rfl rfl rfl ?_ | refine on_aloadQ (pc' := 22) rfl rfl rfl ?_
        first | apply on_get (pc' := 25) rfl rfl fl_Relay_55 | apply on_getN (pc' := 25) rfl rfl fl_Relay_55
        · repeat (first | assumption | exact on_up_eq _ _ _ | refine (on_up_ne (by omega)).trans ?_)
        · rfl
        refine on_if_ne (pc' := 28) (tgt := 31) rfl rfl rfl (fun cq => ?_) (fun cq => ?_)
        · exact absurd rfl cq
        · exact on_relv (l := [(4, .ref (a + 8 + 21 * i))]) ⟨rfl, trivial⟩ (ks i i12.1 (rf_some i12.1 (by rw [he]; rfl) hj))
      · first | refine on_astore (pc' := 20) rfl rfl (by decide) ?_ | refine on_astoreQ (pc' := 20) rfl rfl (by decide) ?_
        first | refine on_aload (pc' := 22) rfl rfl rfl ?_ | refine on_aloadQ (pc' := 22) rfl rfl rfl ?_
        first | apply on_get (pc' := 25) rfl rfl fl_Relay_55 | apply on_getN (pc' := 25) rfl rfl fl_Relay_55
        · repeat (first | assumption | exact on_up_eq _ _ _ | refine (on_up_ne (by omega)).trans ?_)
        · rfl
        refine on_if_ne (pc' := 28) (tgt := 31) rfl rfl rfl (fun cq => ?_) (fun cq => ?_)
        · refine on_iinc1 (pc' := 34) rfl rfl rfl ?_
          refine on_goto (tgt := 10) rfl rfl ?_
          refine on_relv (l := [(0, .ref a), (1, .ref (a + 6)), (2, .int (nI 12)), (3, .int (nI (i + 1)))]) ⟨rfl, rfl, rfl, congrArg some (congrArg Value.int (nI_1 i)), trivial⟩ (ih (i + 1) (by omega) (fun j hj2 => ?_))
          by_cases z : j = i
          · rw [z, he]; rfl
          · exact hj j (by omega)
        · exact absurd cq (by decide)
/-- freeEntry -/
theorem c_freeEntry (ho : rl_O a ot hs kc w h) (K : rl_E a tr en h) :
    on_Ct G M_Relay_freeEntry [.ref a] h sz 0 0 (fun r h1 z => r = some (eA a (e_fe en)) ∧ z = sz ∧ h1 = h) := by
  have o1 : h a = some (.inr (8, [.ref (a + 1), .ref ot, .ref hs, .ref (a + 3), .ref (a + 4), .ref (a + 5), .ref (a + 6), .ref (a + 7), .int kc, .int w])) := ho
  have k6 := K.1
  refine on_Ct.of (by decide) v_Relay_freeEntry (Nat.le_of_ble_eq_true rfl) ?_
  first | refine on_aload_n (pc' := 1) rfl rfl rfl rfl ?_ | refine on_aload_nQ (pc' := 1) rfl rfl rfl rfl ?_
  first | apply on_get (pc' := 4) rfl rfl fl_Relay_23 | apply on_getN (pc' := 4) rfl rfl fl_Relay_23
  · repeat (first | assumption | exact on_up_eq _ _ _ | refine (on_up_ne (by omega)).trans ?_)
  · rfl
  first | refine on_astore_n (pc' := 5) rfl rfl rfl (by decide) ?_ | refine on_astore_nQ (pc' := 5) rfl rfl rfl (by decide) ?_
  first | refine on_aload_n (pc' := 6) rfl rfl rfl rfl ?_ | refine on_aload_nQ (pc' := 6) rfl rfl rfl rfl ?_
  apply on_alenQ (pc' := 7) rfl rfl
  · repeat (first | assumption | exact on_up_eq _ _ _ | refine (on_up_ne (by omega)).trans ?_)
  · rfl
  refine on_istore_n (pc' := 8) rfl rfl rfl (by decide) ?_
  refine on_iconst (pc' := 9) (v := 0) rfl rfl li_0 ?_
  refine on_istore_n (pc' := 10) rfl rfl rfl (by decide) ?_
  refine on_relv (l := [(0, .ref a), (1, .ref (a + 6)), (2, .int (nI 12)), (3, .int (nI 0))]) ⟨rfl, rfl, rfl, rfl, trivial⟩ (efe_l ho K (fun hn => ?_) (fun k hk he => ?_) 12 0 rfl (fun j hj => absurd hj (by omega)))
  · refine on_null (pc' := 38) rfl rfl ?_
    first | refine on_areturn (r := some _) (M := M_Relay_freeEntry) (pc := 38) (rt := (Jvm.ClassFile.FieldType.object "OnionNet$Entry")) rfl rfl (Or.inl ⟨_, rfl⟩) ?_ | refine on_areturn (r := none) (M := M_Relay_freeEntry) (pc := 38) (rt := (Jvm.ClassFile.FieldType.object "OnionNet$Entry")) rfl rfl (Or.inl ⟨_, rfl⟩) ?_ | refine on_areturn (M := M_Relay_freeEntry) (pc := 38) (rt := (Jvm.ClassFile.FieldType.object "OnionNet$Entry")) rfl rfl (Or.inl ⟨_, rfl⟩) ?_
    exact ⟨by rw [hn]; rfl, rfl, rfl⟩
  · first | refine on_aload (pc' := 30) rfl rfl rfl ?_ | refine on_aloadQ (pc' := 30) rfl rfl rfl ?_
    first | refine on_areturn (r := some _) (M := M_Relay_freeEntry) (pc := 30) (rt := (Jvm.ClassFile.FieldType.object "OnionNet$Entry")) rfl rfl (Or.inl ⟨_, rfl⟩) ?_ | refine on_areturn (r := none) (M := M_Relay_freeEntry) (pc := 30) (rt := (Jvm.ClassFile.FieldType.object "OnionNet$Entry")) rfl rfl (Or.inl ⟨_, rfl⟩) ?_ | refine on_areturn (M := M_Relay_freeEntry) (pc := 30) (rt := (Jvm.ClassFile.FieldType.object "OnionNet$Entry")) rfl rfl (Or.inl ⟨_, rfl⟩) ?_
    exact ⟨by rw [he]; rfl, rfl, rfl⟩
set_option maxHeartbeats 8000000 in
theorem mine_l {q : Nat} {X I : Nat → Int32} {x : aB} {sd : Int64} (o1 : h a = some (.inr (8, [.ref (a + 1), .ref ot, .ref hs, .ref (a + 3), .ref (a + 4), .ref (a + 5), .ref (a + 6), .ref (a + 7), .int kc, .int w]))) (hq : h q = some (on_ai 0 140 X)) (hX : on_by X x 140) (hi : h (a + 5) = some (on_ai 0 36 I)) (hI : on_by I (rs_i sd) 36)
    (ky : (∀ j, j < 36 → x (5 + j) = rs_i sd j) → on_E G M_Relay_isMine 30 (on_l []) [] h sz bc bs Q) (kn : (∃ j, j < 36 ∧ ¬ x (5 + j) = rs_i sd j) → on_E G M_Relay_isMine 22 (on_l []) [] h sz bc bs Q) :
    ∀ (m i : Nat), i + m = 36 → (∀ j, j < i → x (5 + j) = rs_i sd j) → on_E G M_Relay_isMine 2 (on_l [(0, .ref a), (1, .ref q), (2, .int (nI i))]) [] h sz bc bs Q := by
  intro m
  induction m with
  | zero =>
    intro i hi hj
    obtain rfl : i = 36 := by omega
    refine on_iload_n (pc' := 3) rfl rfl rfl rfl ?_
    refine on_bipush (pc' := 5) (v := 36) rfl rfl lb_36 ?_
    refine on_icmp_ge (pc' := 8) (tgt := 30) rfl rfl rfl (fun cq => ?_) (fun cq => ?_)
    · exact on_relv (l := []) trivial (ky hj)
    · exact absurd (nI_le (a := 36) (by omega) (by omega)) cq
  | succ m ih =>
    intro i hi hj
    have i36 : i < 36 ∧ 36 < 2 ^ 31 := by omega
    have i140 : 5 + i < 140 ∧ 140 < 2 ^ 31 := by omega
    have e5 : (5 : Int32) + nI i = nI (5 + i) := nI_add 5 i
    have xi := hX (5 + i) i140.1
    have ii := hI i i36.1
    refine on_iload_n (pc' := 3) rfl rfl rfl rfl ?_
    refine on_bipush (pc' := 5) (v := 36) rfl rfl lb_36 ?_
    refine on_icmp_ge (pc' := 8) (tgt := 30) rfl rfl rfl (fun cq => ?_) (fun cq => ?_)
    · exact absurd cq (nI_ge (b := 36) (by omega) (by omega))
    · first | refine on_aload_n (pc' := 9) rfl rfl rfl rfl ?_ | refine on_aload_nQ (pc' := 9) rfl rfl rfl rfl ?_
      refine on_iconst (pc' := 10) (v := 5) rfl rfl li_5 ?_
      refine on_iload_n (pc' := 11) rfl rfl rfl rfl ?_
      refine on_iadd (pc' := 12) rfl rfl ?_
      rw [e5]
      apply on_ialoadK (pc' := 13) (t := 0) rfl rfl
      · repeat (first | assumption | exact on_up_eq _ _ _ | refine (on_up_ne (by omega)).trans ?_)
      · rfl
      · first | assumption | exact on_lit _ | rfl
      · first | assumption | omega | decide
      rw [xi.1]
      first | refine on_aload_n (pc' := 14) rfl rfl rfl rfl ?_ | refine on_aload_nQ (pc' := 14) rfl rfl rfl rfl ?_
      first | apply on_get (pc' := 17) rfl rfl fl_Relay_18 | apply on_getN (pc' := 17) rfl rfl fl_Relay_18
      · repeat (first | assumption | exact on_up_eq _ _ _ | refine (on_up_ne (by omega)).trans ?_)
      · rfl
      refine on_iload_n (pc' := 18) rfl rfl rfl rfl ?_
      apply on_ialoadK (pc' := 19) (t := 0) rfl rfl
      · repeat (first | assumption | exact on_up_eq _ _ _ | refine (on_up_ne (by omega)).trans ?_)
      · rfl
      · first | assumption | exact on_lit _ | rfl
      · first | assumption | omega | decide
      rw [ii.1]
      refine on_icmp_eq (pc' := 22) (tgt := 24) rfl rfl rfl (fun cq => ?_) (fun cq => ?_)
      · have e : x (5 + i) = rs_i sd i := (nI_eq (by omega) (by omega)).mp cq
        refine on_iinc1 (pc' := 27) rfl rfl rfl ?_
        refine on_goto (tgt := 2) rfl rfl ?_
        refine on_relv (l := [(0, .ref a), (1, .ref q), (2, .int (nI (i + 1)))]) ⟨rfl, rfl, congrArg some (congrArg Value.int (nI_1 i)), trivial⟩ (ih (i + 1) (by omega) (fun j hj2 => ?_))
        by_cases z : j = i
        · rw [z]; exact e
        · exact hj j (by omega)
      · exact on_relv (l := []) trivial (kn ⟨i, i36.1, fun z => cq (by rw [z])⟩)
/-- isMine -/
theorem c_isMine {q : Nat} {x : aB} {r : aR} (ho : rl_O a ot hs kc w h) (hq : rB h q 140 x) (hi : rB h (a + 5) 36 (rs_i r.se)) :
    on_Ct G M_Relay_isMine [.ref a, .ref q] h sz 0 0 (fun v h1 z => v = some (.int (bI (r_me r x))) ∧ z = sz ∧ h1 = h) := by
  obtain ⟨X, q1, X'⟩ := hq
  obtain ⟨I, i1, I'⟩ := hi
  refine on_Ct.of (by decide) v_Relay_isMine (Nat.le_of_ble_eq_true rfl) ?_
  refine on_iconst (pc' := 1) (v := 0) rfl rfl li_0 ?_
  refine on_istore_n (pc' := 2) rfl rfl rfl (by decide) ?_
  refine on_relv (l := [(0, .ref a), (1, .ref q), (2, .int (nI 0))]) ⟨rfl, rfl, rfl, trivial⟩ (mine_l (sd := r.se) ho q1 X' i1 I' (fun hy => ?_) (fun hn => ?_) 36 0 rfl (fun j hj => absurd hj (by omega)))
  · have e : r_me r x = true := by
      unfold r_me
      rw [List.all_eq_true]
      exact fun j hj => decide_eq_true (hy j (List.mem_range.mp hj))
    refine on_iconst (pc' := 31) (v := 1) rfl rfl li_1 ?_
    refine on_zreturn rfl rfl ?_ ?_
    · first | rfl | assumption
    exact ⟨by rw [e]; rfl, rfl, rfl⟩
  · have e : r_me r x = false := by
      obtain ⟨j, hj, nj⟩ := hn
      cases z : r_me r x with
      | false => rfl
      | true =>
        unfold r_me at z
        exact absurd (of_decide_eq_true (List.all_eq_true.mp z j (List.mem_range.mpr hj))) nj
    refine on_iconst (pc' := 23) (v := 0) rfl rfl li_0 ?_
    refine on_zreturn rfl rfl ?_ ?_
    · first | rfl | assumption
    exact ⟨by rw [e]; rfl, rfl, rfl⟩
end RFI
