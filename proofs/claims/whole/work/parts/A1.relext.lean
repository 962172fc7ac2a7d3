/-! a Relay: plain answers, sealed; sendExtended, extendEntry, beginStream, keep -/
theorem getD_snoc {α : Type} {st : List α} {x d : α} {i : Nat} : (st ++ [x]).getD i d = if i < st.length then st.getD i d else if i = st.length then x else d := by
  rw [List.getD_eq_getElem?_getD, List.getD_eq_getElem?_getD]
  by_cases h : i < st.length
  · rw [if_pos h, List.getElem?_append_left h]
  · rw [if_neg h, List.getElem?_append_right (by omega)]
    by_cases h2 : i = st.length
    · rw [if_pos h2, h2, Nat.sub_self]; rfl
    · rw [if_neg h2, List.getElem?_eq_none (by simp; omega)]; rfl
abbrev aP : Type := List (Nat × aB × Bool)
abbrev p0 : Nat × aB × Bool := (0, (fun _ => 0), false)
/-- an Outbox with cells that are plain or not -/
def ob_P (u : Nat) (L : aP) (h : on_H) : Prop := ∃ c to pl, ob_S u L.length c to pl h ∧ ∀ i, i < L.length → (to i, c i, pl i) = L.getD i p0
theorem ob_P.keep {u : Nat} {L : aP} {h h2 : on_H} (k : ob_P u L h) (e : ∀ a, u ≤ a → a < u + 8 → h2 a = h a) : ob_P u L h2 := by
  obtain ⟨c, to, pl, k1, k2⟩ := k
  exact ⟨c, to, pl, k1.keep e, k2⟩
theorem ob_P.nil {u : Nat} {h : on_H} (K : ob_E u h) : ob_P u [] h := ⟨_, _, _, K, fun i hi => absurd hi (Nat.not_lt_zero i)⟩
theorem ob_P.snoc {u t : Nat} {L : aP} {h : on_H} {c : Nat → aB} {to : Nat → Nat} {pl : Nat → Bool} {X : aB} {b : Bool} (K : ob_S u (L.length + 1) (fu c L.length X) (fu to L.length t) (fu pl L.length b) h) (k2 : ∀ i, i < L.length → (to i, c i, pl i) = L.getD i p0) : ob_P u (L ++ [(t, X, b)]) h := by
  refine ⟨fu c L.length X, fu to L.length t, fu pl L.length b, ?_, fun i hi => ?_⟩
  · rw [List.length_append]; exact K
  · rw [List.length_append] at hi
    have hi : i < L.length + 1 := hi
    rw [getD_snoc]
    by_cases z : i = L.length
    · subst z
      rw [if_neg (Nat.lt_irrefl _), if_pos rfl, fu_s, fu_s, fu_s]
    · rw [if_pos (by omega), fu_n z, fu_n z, fu_n z]
      exact k2 i (by omega)
/-- cells sealed one behind the other -/
def se : aL → aP → aL × aO
  | l, [] => (l, [])
  | l, (t, c, true) :: r => ((se (sg_l l c) r).1, (t, sg_c l c) :: (se (sg_l l c) r).2)
  | l, (t, c, false) :: r => ((se l r).1, (t, c) :: (se l r).2)
def ao_eq (A B : aO) : Prop := A.length = B.length ∧ ∀ i, i < A.length → (A.getD i o0).1 = (B.getD i o0).1 ∧ ∀ j, j < 140 → (A.getD i o0).2 j = (B.getD i o0).2 j
theorem ob_L.to {u : Nat} {A B : aO} {h : on_H} (k : ob_L u A h) (e : ao_eq A B) : ob_L u B h := by
  obtain ⟨c, to, pl, k1, k2⟩ := k
  refine ⟨c, to, pl, by rw [← e.1]; exact k1, fun i hi => ?_⟩
  have hi2 : i < A.length := by rw [e.1]; exact hi
  exact ⟨(k2 i hi2).1.trans (e.2 i hi2).1, fun j hj => ((k2 i hi2).2 j hj).trans ((e.2 i hi2).2 j hj)⟩
theorem ao_0 : ao_eq [] [] := ⟨rfl, fun i hi => absurd hi (Nat.not_lt_zero i)⟩
theorem ao_c {t : Nat} {x y : aB} {A B : aO} (h1 : ∀ j, j < 140 → x j = y j) (h2 : ao_eq A B) : ao_eq ((t, x) :: A) ((t, y) :: B) := by
  refine ⟨congrArg (· + 1) h2.1, fun i hi => ?_⟩
  cases i with
  | zero => exact ⟨rfl, h1⟩
  | succ i => exact h2.2 i (Nat.lt_of_succ_lt_succ hi)
/-- a plain cell sealed -/
theorem sg_pl_l {l : aL} {num : Int32} {cmd s n : Nat} {d : Nat → Nat} : sg_l l (pl_c num cmd s n d) = bk_l l cmd s n d := by
  unfold sg_l bk_l
  rw [sp_sl_congr (f := pl_c num cmd s n d) (g := mk_c cmd s n d) (at_ := 5) (cnt := 135) (fun i hi => if_neg (by omega))]
theorem ce_k_in {num : Int32} {cmd n j : Nat} {p : Nat → Nat} (h1 : 5 ≤ j) (h2 : j < 5 + n) : ce_k num cmd p n j = p (j - 5) := by
  unfold ce_k
  rw [if_neg (by omega), if_neg (by omega), if_pos h2]
theorem sg_pl_c {l : aL} {num : Int32} {cmd s n : Nat} {d : Nat → Nat} {j : Nat} (hj : j < 140) : sg_c l (pl_c num cmd s n d) j = ce_k num 3 (bk_p l cmd s n d) 135 j := by
  have e : sp_sl (pl_c num cmd s n d) 5 135 = sp_sl (mk_c cmd s n d) 5 135 := sp_sl_congr (fun i hi => if_neg (by omega))
  by_cases h5 : 5 ≤ j
  · rw [ce_k_in h5 (by omega)]
    show (if 5 ≤ j then rc_s l.ms (pl_c num cmd s n d) j ^^^ cc_ks l.K (l.pos + (j - 5)) else _) = rc_s l.ms (mk_c cmd s n d) (5 + (j - 5)) ^^^ cc_ks l.K (l.pos + (j - 5))
    rw [if_pos h5, show 5 + (j - 5) = j by omega]
    refine congrArg (· ^^^ cc_ks l.K (l.pos + (j - 5))) ?_
    unfold rc_s
    rw [e, show pl_c num cmd s n d j = mk_c cmd s n d j from if_neg (by omega)]
  · show (if 5 ≤ j then _ else rc_s l.ms (pl_c num cmd s n d) j) = _
    rw [if_neg h5]
    unfold rc_s
    rw [if_neg (fun z => by omega)]
    unfold pl_c ce_k
    rw [if_pos (by omega)]
    by_cases h4 : j < 4
    · rw [if_pos h4, if_pos h4]
    · rw [if_neg h4, if_neg h4, if_pos (by omega), if_pos (by omega)]
section REX
variable {G : on_G} {a ot hs nm u q e sz bc bs : Nat} {r : aR} {h : on_H} {x y : aB} {Q : Option Value → on_H → Nat → Prop}
/-- sealAll over at most two cells -/
theorem sea_P {l : aL} {L : aP} {c : Nat → aB} {to : Nat → Nat} {pl : Nat → Bool} {h1 : on_H} (hn : L.length ≤ 2) (k2 : ∀ i, i < L.length → (to i, c i, pl i) = L.getD i p0) (O1 : ob_S u L.length (sq l c pl L.length).2 to pl h1) :
    ob_L u (se l L).2 h1 ∧ (sq l c pl L.length).1 = (se l L).1 := by
  match L, hn, k2, O1 with
  | [], _, _, O1 => exact ⟨⟨_, _, _, O1, fun i hi => absurd hi (Nat.not_lt_zero i)⟩, rfl⟩
  | [(t, X, b1)], _, k2, O1 =>
    obtain ⟨e1, e2, e3⟩ := (by have := k2 0 (Nat.zero_lt_succ _); exact ⟨congrArg (·.1) this, congrArg (·.2.1) this, congrArg (·.2.2) this⟩ : to 0 = t ∧ c 0 = X ∧ pl 0 = b1)
    cases b1 with
    | true =>
      have z : sq l c pl 1 = (sg_l l X, fu c 0 (sg_c l X)) := by rw [← e2]; exact if_pos e3
      have O2 : ob_S u 1 (sq l c pl 1).2 to pl h1 := O1
      rw [z] at O2
      exact ⟨ob_1 O2 e1 (fun j _ => (congrFun fu_s j : fu c 0 (sg_c l X) 0 j = _)), congrArg (·.1) z⟩
    | false =>
      have z : sq l c pl 1 = (l, c) := if_neg (by rw [e3]; decide)
      have O2 : ob_S u 1 (sq l c pl 1).2 to pl h1 := O1
      rw [z] at O2
      exact ⟨ob_1 O2 e1 (fun j _ => congrFun e2 j), congrArg (·.1) z⟩
  | [(t, X, b1), (t2, X2, b2)], _, k2, O1 =>
    obtain ⟨e1, e2, e3⟩ := (by have := k2 0 (Nat.zero_lt_succ _); exact ⟨congrArg (·.1) this, congrArg (·.2.1) this, congrArg (·.2.2) this⟩ : to 0 = t ∧ c 0 = X ∧ pl 0 = b1)
    obtain ⟨f1, f2, f3⟩ := (by have := k2 1 (Nat.lt_succ_self 1); exact ⟨congrArg (·.1) this, congrArg (·.2.1) this, congrArg (·.2.2) this⟩ : to 1 = t2 ∧ c 1 = X2 ∧ pl 1 = b2)
    have O2 : ob_S u 2 (sq l c pl 2).2 to pl h1 := O1
    cases b1 with
    | true =>
      have z : sq l c pl 1 = (sg_l l X, fu c 0 (sg_c l X)) := by rw [← e2]; exact if_pos e3
      have z1 : (sq l c pl 1).2 1 = X2 := by rw [z]; show fu c 0 (sg_c l X) 1 = X2; rw [fu_n (by decide), f2]
      cases b2 with
      | true =>
        have w : sq l c pl 2 = (sg_l (sg_l l X) X2, fu (fu c 0 (sg_c l X)) 1 (sg_c (sg_l l X) X2)) := by
          refine (if_pos f3 : sq l c pl 2 = _).trans ?_
          rw [z1, z]
        rw [w] at O2
        exact ⟨ob_2 O2 e1 (fun j _ => (congrFun ((fu_n (by decide)).trans fu_s) j : fu (fu c 0 (sg_c l X)) 1 (sg_c (sg_l l X) X2) 0 j = _)) f1 (fun j _ => (congrFun fu_s j : fu (fu c 0 (sg_c l X)) 1 (sg_c (sg_l l X) X2) 1 j = _)), congrArg (·.1) w⟩
      | false =>
        have w : sq l c pl 2 = (sg_l l X, fu c 0 (sg_c l X)) := (if_neg (by rw [f3]; decide) : sq l c pl 2 = _).trans z
        rw [w] at O2
        exact ⟨ob_2 O2 e1 (fun j _ => (congrFun fu_s j : fu c 0 (sg_c l X) 0 j = _)) f1 (fun j _ => (congrFun ((fu_n (by decide)).trans f2) j : fu c 0 (sg_c l X) 1 j = _)), congrArg (·.1) w⟩
    | false =>
      have z : sq l c pl 1 = (l, c) := if_neg (by rw [e3]; decide)
      have z1 : (sq l c pl 1).2 1 = X2 := by rw [z]; exact f2
      cases b2 with
      | true =>
        have w : sq l c pl 2 = (sg_l l X2, fu c 1 (sg_c l X2)) := by
          refine (if_pos f3 : sq l c pl 2 = _).trans ?_
          rw [z1, z]
        rw [w] at O2
        exact ⟨ob_2 O2 e1 (fun j _ => (congrFun ((fu_n (by decide)).trans e2) j : fu c 1 (sg_c l X2) 0 j = _)) f1 (fun j _ => (congrFun fu_s j : fu c 1 (sg_c l X2) 1 j = _)), congrArg (·.1) w⟩
      | false =>
        have w : sq l c pl 2 = (l, c) := (if_neg (by rw [f3]; decide) : sq l c pl 2 = _).trans z
        rw [w] at O2
        exact ⟨ob_2 O2 e1 (fun j _ => congrFun e2 j) f1 (fun j _ => congrFun f2 j), congrArg (·.1) w⟩
/-- a plain cell gets its data -/
theorem pl_dat {F X : Nat → Int32} {num : Int32} {cmd s n i0 : Nat} {d : Nat → Nat} (hF : on_by F (pl_c num cmd s n (fun _ => 0)) 140) (hX : ∀ j, j < n → X (i0 + j) = nI (d j) ∧ d j < 256) : on_by (va_cpy X F i0 16 n) (pl_c num cmd s n d) 140 := fun i hi => by
  by_cases z : 16 ≤ i ∧ i < 16 + n
  · rw [pk_cpy_in z.1 z.2, (hX (i - 16) (by omega)).1]
    unfold pl_c mk_c
    rw [if_neg (by omega), if_neg (by omega), if_neg (by omega), if_neg (by omega), if_neg (by omega), if_neg (by omega), if_pos z]
    exact ⟨rfl, (hX (i - 16) (by omega)).2⟩
  · rw [pk_cpy_out (show i < 16 ∨ 16 + n ≤ i by omega)]
    have := hF i hi
    rw [show pl_c num cmd s n d i = pl_c num cmd s n (fun _ => 0) i from by unfold pl_c mk_c; rw [if_neg z, if_neg z]]
    exact this
end REX
