/-! the class's Entry -/
def oI (q : Option (Nat × Nat)) : Int32 := match q with | none => -1 | some p => nI p.1
def bI (b : Bool) : Int32 := if b = true then 1 else 0
def kI (k : Option Nat) : Int32 := match k with | none => -1 | some n => nI n
abbrev s0 : aS := (0, 0, 0, 0)
/-- an Entry's object and rows at e -/
def en_B (e : Nat) (sc fr fn on_ onn us wt : Int32) (S V W C : Nat → Int32) (h : on_H) : Prop := h e = some (.inr (7, [.ref (e + 5), .ref (e + 13), .ref (e + 1), .ref (e + 2), .ref (e + 3), .ref (e + 4), .int sc, .int fr, .int fn, .int on_, .int onn, .int us, .int wt])) ∧ h (e + 1) = some (on_ai 0 4 S) ∧ h (e + 2) = some (on_ai 0 4 V) ∧ h (e + 3) = some (on_ai 0 4 W) ∧ h (e + 4) = some (on_ai 0 4 C)
/-- its streams in four rows -/
def st_r (st : List aS) (S V W C : Nat → Int32) : Prop := st.length ≤ 4 ∧ ∀ i, i < st.length → S i = nI (st.getD i s0).id ∧ V i = nI (st.getD i s0).so ∧ W i = (st.getD i s0).wi ∧ C i = (st.getD i s0).ca ∧ (st.getD i s0).id < 65536 ∧ (st.getD i s0).so < 256
def la_A (o tr : Nat) (l : aL) (h : on_H) : Prop := la_S o tr l.ms l.K l.pos h
/-- an entry in use, or free -/
def en_U (e tr : Nat) (x : aE) (h : on_H) : Prop := ∃ (onn : Int32) (S V W C : Nat → Int32), en_B e (nI x.st.length) (nI x.fr) x.fn (oI x.on) onn 1 (bI x.wt) S V W C h ∧ (∀ q, x.on = some q → onn = nI q.2) ∧ st_r x.st S V W C ∧ la_A (e + 5) tr x.fw h ∧ la_A (e + 13) tr x.bw h
def en_N (e tr : Nat) (h : on_H) : Prop := ∃ (sc fr fn on_ onn wt : Int32) (S V W C : Nat → Int32), en_B e sc fr fn on_ onn 0 wt S V W C h ∧ la_W (e + 5) tr h ∧ la_W (e + 13) tr h
def en_S (e tr : Nat) (oe : Option aE) (h : on_H) : Prop := match oe with | some x => en_U e tr x h | none => en_N e tr h
section ENT
variable {G : on_G} {e tr sz bc bs : Nat} {h h2 : on_H} {Q : Option Value → on_H → Nat → Prop} {sc fr fn on_ onn us wt : Int32} {S V W C : Nat → Int32}
theorem en_B.keep (k : en_B e sc fr fn on_ onn us wt S V W C h) (q : ∀ a, e ≤ a → a < e + 5 → h2 a = h a) : en_B e sc fr fn on_ onn us wt S V W C h2 := by
  obtain ⟨k0, k1, k2, k3, k4⟩ := k
  exact ⟨(q _ (by omega) (by omega)).trans k0, (q _ (by omega) (by omega)).trans k1, (q _ (by omega) (by omega)).trans k2, (q _ (by omega) (by omega)).trans k3, (q _ (by omega) (by omega)).trans k4⟩
theorem la_A.keep {o : Nat} {l : aL} (k : la_A o tr l h) (q : ∀ a, o ≤ a → a < o + 8 → h2 a = h a) : la_A o tr l h2 := la_S.keep k q
theorem en_U.keep {x : aE} (k : en_U e tr x h) (q : ∀ a, e ≤ a → a < e + 21 → h2 a = h a) : en_U e tr x h2 := by
  obtain ⟨onn, S, V, W, C, k1, k2, k3, k4, k5⟩ := k
  exact ⟨onn, S, V, W, C, k1.keep (fun a h1 h2 => q a (by omega) (by omega)), k2, k3, k4.keep (fun a h1 h2 => q a (by omega) (by omega)), k5.keep (fun a h1 h2 => q a (by omega) (by omega))⟩
theorem en_N.keep (k : en_N e tr h) (q : ∀ a, e ≤ a → a < e + 21 → h2 a = h a) : en_N e tr h2 := by
  obtain ⟨sc, fr, fn, on_, onn, wt, S, V, W, C, k1, k4, k5⟩ := k
  exact ⟨sc, fr, fn, on_, onn, wt, S, V, W, C, k1.keep (fun a h1 h2 => q a (by omega) (by omega)), k4.keep (fun a h1 h2 => q a (by omega) (by omega)), k5.keep (fun a h1 h2 => q a (by omega) (by omega))⟩
theorem en_S.keep {oe : Option aE} (k : en_S e tr oe h) (q : ∀ a, e ≤ a → a < e + 21 → h2 a = h a) : en_S e tr oe h2 := by
  cases oe with
  | none => exact en_N.keep k q
  | some x => exact en_U.keep k q
/-- an entry that is no longer used -/
theorem en_U.free {x : aE} (k : en_U e tr x h) : ∃ (sc fr fn on_ onn wt : Int32) (S V W C : Nat → Int32), en_B e sc fr fn on_ onn 1 wt S V W C h ∧ la_W (e + 5) tr h ∧ la_W (e + 13) tr h := by
  obtain ⟨onn, S, V, W, C, k1, k2, k3, k4, k5⟩ := k
  exact ⟨_, _, _, _, onn, _, S, V, W, C, k1, la_S.w k4, la_S.w k5⟩
set_option maxHeartbeats 4000000 in
/-- begin -/
theorem c_Entry_begin {f n : Int32} (K : en_B e sc fr fn on_ onn us wt S V W C h) :
    on_Ct G M_Entry_begin [.ref e, .int f, .int n] h sz 0 0 (fun r h1 z => r = none ∧ z = sz ∧ en_B e 0 f n (-1) onn 1 0 S V W C h1 ∧ ∀ a, a ≠ e → h1 a = h a) := by
  obtain ⟨k0, k1, k2, k3, k4⟩ := K
  refine on_Ct.of (by decide) v_Entry_begin (Nat.le_of_ble_eq_true rfl) ?_
  first | refine on_aload_n (pc' := 1) rfl rfl rfl rfl ?_ | refine on_aload_nQ (pc' := 1) rfl rfl rfl rfl ?_
  refine on_iconst (pc' := 2) (v := 1) rfl rfl li_1 ?_
  first | apply on_put (pc' := 5) rfl rfl fp_Entry_36 | apply on_putN (pc' := 5) rfl rfl fp_Entry_36
  · repeat (first | assumption | exact on_up_eq _ _ _ | refine (on_up_ne (by omega)).trans ?_)
  · first | rfl | assumption
  · first | rfl | assumption
  · exact Nat.le_of_ble_eq_true rfl
  first | refine on_aload_n (pc' := 6) rfl rfl rfl rfl ?_ | refine on_aload_nQ (pc' := 6) rfl rfl rfl rfl ?_
  refine on_iload_n (pc' := 7) rfl rfl rfl rfl ?_
  first | apply on_put (pc' := 10) rfl rfl fp_Entry_40 | apply on_putN (pc' := 10) rfl rfl fp_Entry_40
  · repeat (first | assumption | exact on_up_eq _ _ _ | refine (on_up_ne (by omega)).trans ?_)
  · first | rfl | assumption
  · first | rfl | assumption
  · exact Nat.le_of_ble_eq_true rfl
  first | refine on_aload_n (pc' := 11) rfl rfl rfl rfl ?_ | refine on_aload_nQ (pc' := 11) rfl rfl rfl rfl ?_
  refine on_iload_n (pc' := 12) rfl rfl rfl rfl ?_
  first | apply on_put (pc' := 15) rfl rfl fp_Entry_44 | apply on_putN (pc' := 15) rfl rfl fp_Entry_44
  · repeat (first | assumption | exact on_up_eq _ _ _ | refine (on_up_ne (by omega)).trans ?_)
  · first | rfl | assumption
  · first | rfl | assumption
  · exact Nat.le_of_ble_eq_true rfl
  first | refine on_aload_n (pc' := 16) rfl rfl rfl rfl ?_ | refine on_aload_nQ (pc' := 16) rfl rfl rfl rfl ?_
  refine on_iconst (pc' := 17) (v := (-1)) rfl rfl li_m1 ?_
  first | apply on_put (pc' := 20) rfl rfl fp_Entry_47 | apply on_putN (pc' := 20) rfl rfl fp_Entry_47
  · repeat (first | assumption | exact on_up_eq _ _ _ | refine (on_up_ne (by omega)).trans ?_)
  · first | rfl | assumption
  · first | rfl | assumption
  · exact Nat.le_of_ble_eq_true rfl
  first | refine on_aload_n (pc' := 21) rfl rfl rfl rfl ?_ | refine on_aload_nQ (pc' := 21) rfl rfl rfl rfl ?_
  refine on_iconst (pc' := 22) (v := 0) rfl rfl li_0 ?_
  first | apply on_put (pc' := 25) rfl rfl fp_Entry_50 | apply on_putN (pc' := 25) rfl rfl fp_Entry_50
  · repeat (first | assumption | exact on_up_eq _ _ _ | refine (on_up_ne (by omega)).trans ?_)
  · first | rfl | assumption
  · first | rfl | assumption
  · exact Nat.le_of_ble_eq_true rfl
  first | refine on_aload_n (pc' := 26) rfl rfl rfl rfl ?_ | refine on_aload_nQ (pc' := 26) rfl rfl rfl rfl ?_
  refine on_iconst (pc' := 27) (v := 0) rfl rfl li_0 ?_
  first | apply on_put (pc' := 30) rfl rfl fp_Entry_53 | apply on_putN (pc' := 30) rfl rfl fp_Entry_53
  · repeat (first | assumption | exact on_up_eq _ _ _ | refine (on_up_ne (by omega)).trans ?_)
  · first | rfl | assumption
  · first | rfl | assumption
  · exact Nat.le_of_ble_eq_true rfl
  refine on_vreturn rfl rfl ?_
  refine ⟨rfl, rfl, ⟨on_up_eq _ _ _, ?_, ?_, ?_, ?_⟩, fun a ha => ?_⟩
  · repeat (first | assumption | exact on_up_eq _ _ _ | refine (on_up_ne (by omega)).trans ?_)
  · repeat (first | assumption | exact on_up_eq _ _ _ | refine (on_up_ne (by omega)).trans ?_)
  · repeat (first | assumption | exact on_up_eq _ _ _ | refine (on_up_ne (by omega)).trans ?_)
  · repeat (first | assumption | exact on_up_eq _ _ _ | refine (on_up_ne (by omega)).trans ?_)
  · rw [on_up_ne ha, on_up_ne ha, on_up_ne ha, on_up_ne ha, on_up_ne ha, on_up_ne ha]
theorem s_at_none {st : List aS} {id : Nat} (h : ∀ i, i < st.length → ¬ (st.getD i s0).id = id) : s_at st id = none := by
  unfold s_at
  rw [List.findIdx?_eq_none_iff]
  intro x hx
  obtain ⟨i, hi, e⟩ := List.getElem_of_mem hx
  have := h i hi
  rw [List.getD_eq_getElem?_getD, List.getElem?_eq_getElem hi, Option.getD_some, e] at this
  exact decide_eq_false this
theorem s_at_some {st : List aS} {id k : Nat} (hk : k < st.length) (h1 : (st.getD k s0).id = id) (h : ∀ i, i < k → ¬ (st.getD i s0).id = id) : s_at st id = some k := by
  unfold s_at
  rw [List.findIdx?_eq_some_iff_getElem]
  refine ⟨hk, ?_, fun j hj => ?_⟩
  · rw [List.getD_eq_getElem?_getD, List.getElem?_eq_getElem hk, Option.getD_some] at h1
    exact decide_eq_true h1
  · have := h j hj
    rw [List.getD_eq_getElem?_getD, List.getElem?_eq_getElem (by omega), Option.getD_some] at this
    simp only [decide_eq_true_eq]
    exact this
set_option maxHeartbeats 4000000 in
theorem slo_l {st : List aS} {id : Nat} (hid : id < 65536) (K : en_B e (nI st.length) fr fn on_ onn us wt S V W C h) (hr : st_r st S V W C)
    (kn : s_at st id = none → on_E G M_Entry_slotOf 28 (on_l []) [] h sz bc bs Q) (ks : ∀ k, s_at st id = some k → on_E G M_Entry_slotOf 20 (on_l [(2, .int (nI k))]) [] h sz bc bs Q) :
    ∀ (m i : Nat), i + m = st.length → (∀ j, j < i → ¬ (st.getD j s0).id = id) → on_E G M_Entry_slotOf 2 (on_l [(0, .ref e), (1, .int (nI id)), (2, .int (nI i))]) [] h sz bc bs Q := by
  obtain ⟨k0, k1, -, -, -⟩ := K
  have hl := hr.1
  intro m
  induction m with
  | zero =>
    intro i hi hj
    obtain rfl : i = st.length := by omega
    refine on_iload_n (pc' := 3) rfl rfl rfl rfl ?_
    first | refine on_aload_n (pc' := 4) rfl rfl rfl rfl ?_ | refine on_aload_nQ (pc' := 4) rfl rfl rfl rfl ?_
    first | apply on_get (pc' := 7) rfl rfl fl_Entry_53 | apply on_getN (pc' := 7) rfl rfl fl_Entry_53
    · repeat (first | assumption | exact on_up_eq _ _ _ | refine (on_up_ne (by omega)).trans ?_)
    · rfl
    refine on_icmp_ge (pc' := 10) (tgt := 28) rfl rfl rfl (fun cq => ?_) (fun cq => ?_)
    · exact on_relv (l := []) trivial (kn (s_at_none hj))
    · exact absurd (nI_le (a := st.length) (Nat.le_refl _) (by omega)) cq
  | succ m ih =>
    intro i hi hj
    have i4 : i < 4 ∧ 4 < 2 ^ 31 := by omega
    obtain ⟨r1, -, -, -, r5, -⟩ := hr.2 i (by omega)
    refine on_iload_n (pc' := 3) rfl rfl rfl rfl ?_
    first | refine on_aload_n (pc' := 4) rfl rfl rfl rfl ?_ | refine on_aload_nQ (pc' := 4) rfl rfl rfl rfl ?_
    first | apply on_get (pc' := 7) rfl rfl fl_Entry_53 | apply on_getN (pc' := 7) rfl rfl fl_Entry_53
    · repeat (first | assumption | exact on_up_eq _ _ _ | refine (on_up_ne (by omega)).trans ?_)
    · rfl
    refine on_icmp_ge (pc' := 10) (tgt := 28) rfl rfl rfl (fun cq => ?_) (fun cq => ?_)
    · exact absurd cq (nI_ge (b := st.length) (by omega) (by omega))
    · first | refine on_aload_n (pc' := 11) rfl rfl rfl rfl ?_ | refine on_aload_nQ (pc' := 11) rfl rfl rfl rfl ?_
      first | apply on_get (pc' := 14) rfl rfl fl_Entry_9 | apply on_getN (pc' := 14) rfl rfl fl_Entry_9
      · repeat (first | assumption | exact on_up_eq _ _ _ | refine (on_up_ne (by omega)).trans ?_)
      · rfl
      refine on_iload_n (pc' := 15) rfl rfl rfl rfl ?_
      apply on_ialoadK (pc' := 16) (t := 0) rfl rfl
      · repeat (first | assumption | exact on_up_eq _ _ _ | refine (on_up_ne (by omega)).trans ?_)
      · rfl
      · first | assumption | exact on_lit _ | rfl
      · first | assumption | omega | decide
      rw [r1]
      refine on_iload_n (pc' := 17) rfl rfl rfl rfl ?_
      refine on_icmp_ne (pc' := 20) (tgt := 22) rfl rfl rfl (fun cq => ?_) (fun cq => ?_)
      · have ne : ¬ (st.getD i s0).id = id := fun z => cq (by rw [z])
        refine on_iinc1 (pc' := 25) rfl rfl rfl ?_
        refine on_goto (tgt := 2) rfl rfl ?_
        refine on_relv (l := [(0, .ref e), (1, .int (nI id)), (2, .int (nI (i + 1)))]) ⟨rfl, rfl, congrArg some (congrArg Value.int (nI_1 i)), trivial⟩ (ih (i + 1) (by omega) (fun j hj2 => ?_))
        by_cases z : j = i
        · rw [z]; exact ne
        · exact hj j (by omega)
      · have eq : (st.getD i s0).id = id := (nI_eq (by omega) (by omega)).mp cq
        exact on_relv (l := [(2, .int (nI i))]) ⟨rfl, trivial⟩ (ks i (s_at_some (by omega) eq hj))
/-- slotOf -/
theorem c_slotOf {st : List aS} {id : Nat} (hid : id < 65536) (K : en_B e (nI st.length) fr fn on_ onn us wt S V W C h) (hr : st_r st S V W C) :
    on_Ct G M_Entry_slotOf [.ref e, .int (nI id)] h sz 0 0 (fun r h1 z => r = some (.int (kI (s_at st id))) ∧ z = sz ∧ h1 = h) := by
  refine on_Ct.of (by decide) v_Entry_slotOf (Nat.le_of_ble_eq_true rfl) ?_
  refine on_iconst (pc' := 1) (v := 0) rfl rfl li_0 ?_
  refine on_istore_n (pc' := 2) rfl rfl rfl (by decide) ?_
  refine on_relv (l := [(0, .ref e), (1, .int (nI id)), (2, .int (nI 0))]) ⟨rfl, rfl, rfl, trivial⟩ (slo_l hid K hr (fun hn => ?_) (fun k hk => ?_) st.length 0 (by omega) (fun j hj => absurd hj (by omega)))
  · refine on_iconst (pc' := 29) (v := (-1)) rfl rfl li_m1 ?_
    refine on_ireturn rfl rfl ?_
    exact ⟨by rw [hn]; rfl, rfl, rfl⟩
  · refine on_iload_n (pc' := 21) rfl rfl rfl rfl ?_
    refine on_ireturn rfl rfl ?_
    exact ⟨by rw [hk]; rfl, rfl, rfl⟩
theorem getD_app {st : List aS} {x : aS} {i : Nat} : (st ++ [x]).getD i s0 = if i < st.length then st.getD i s0 else if i = st.length then x else s0 := by
  rw [List.getD_eq_getElem?_getD, List.getD_eq_getElem?_getD]
  by_cases h : i < st.length
  · rw [if_pos h, List.getElem?_append_left h]
  · rw [if_neg h, List.getElem?_append_right (by omega)]
    by_cases h2 : i = st.length
    · rw [if_pos h2, h2, Nat.sub_self]; rfl
    · rw [if_neg h2, List.getElem?_eq_none (by simp; omega)]; rfl
set_option maxHeartbeats 4000000 in
/-- addStream -/
theorem c_Entry_addStream {st : List aS} {id so : Nat} (hid : id < 65536) (hso : so < 256) (K : en_B e (nI st.length) fr fn on_ onn us wt S V W C h) (hr : st_r st S V W C) :
    on_Ct G M_Entry_addStream [.ref e, .int (nI id), .int (nI so)] h sz 0 0 (fun r h1 z => z = sz ∧ (∀ a, (a < e ∨ e + 5 ≤ a) → h1 a = h a) ∧ ((st.length < 4 ∧ r = some (.int 1) ∧ ∃ S V W C, en_B e (nI (st ++ [(id, so, 4, 0)]).length) fr fn on_ onn us wt S V W C h1 ∧ st_r (st ++ [(id, so, 4, 0)]) S V W C) ∨ (¬ st.length < 4 ∧ r = some (.int 0) ∧ h1 = h))) := by
  obtain ⟨k0, k1, k2, k3, k4⟩ := K
  have hl := hr.1
  refine on_Ct.of (by decide) v_Entry_addStream (Nat.le_of_ble_eq_true rfl) ?_
  first | refine on_aload_n (pc' := 1) rfl rfl rfl rfl ?_ | refine on_aload_nQ (pc' := 1) rfl rfl rfl rfl ?_
  first | apply on_get (pc' := 4) rfl rfl fl_Entry_53 | apply on_getN (pc' := 4) rfl rfl fl_Entry_53
  · repeat (first | assumption | exact on_up_eq _ _ _ | refine (on_up_ne (by omega)).trans ?_)
  · rfl
  refine on_iconst (pc' := 5) (v := 4) rfl rfl li_4 ?_
  refine on_icmp_lt (pc' := 8) (tgt := 10) rfl rfl rfl (fun cq => ?_) (fun cq => ?_)
  · have l4 : st.length < 4 := by
      rcases Nat.lt_or_ge st.length 4 with g | g
      · exact g
      · exact absurd cq (nI_nlt (a := st.length) (b := 4) g (by omega))
    have i4 : st.length < 4 ∧ 4 < 2 ^ 31 := by omega
    have e1 : nI st.length + 1 = nI (st.length + 1) := nI_1 _
    first | refine on_aload_n (pc' := 11) rfl rfl rfl rfl ?_ | refine on_aload_nQ (pc' := 11) rfl rfl rfl rfl ?_
    first | apply on_get (pc' := 14) rfl rfl fl_Entry_9 | apply on_getN (pc' := 14) rfl rfl fl_Entry_9
    · repeat (first | assumption | exact on_up_eq _ _ _ | refine (on_up_ne (by omega)).trans ?_)
    · rfl
    first | refine on_aload_n (pc' := 15) rfl rfl rfl rfl ?_ | refine on_aload_nQ (pc' := 15) rfl rfl rfl rfl ?_
    first | apply on_get (pc' := 18) rfl rfl fl_Entry_53 | apply on_getN (pc' := 18) rfl rfl fl_Entry_53
    · repeat (first | assumption | exact on_up_eq _ _ _ | refine (on_up_ne (by omega)).trans ?_)
    · rfl
    refine on_iload_n (pc' := 19) rfl rfl rfl rfl ?_
    apply on_iastoreK (pc' := 20) (t := 0) rfl rfl
    · repeat (first | assumption | exact on_up_eq _ _ _ | refine (on_up_ne (by omega)).trans ?_)
    · rfl
    · first | assumption | exact on_lit _ | rfl
    · first | assumption | omega | decide
    first | refine on_aload_n (pc' := 21) rfl rfl rfl rfl ?_ | refine on_aload_nQ (pc' := 21) rfl rfl rfl rfl ?_
    first | apply on_get (pc' := 24) rfl rfl fl_Entry_15 | apply on_getN (pc' := 24) rfl rfl fl_Entry_15
    · repeat (first | assumption | exact on_up_eq _ _ _ | refine (on_up_ne (by omega)).trans ?_)
    · rfl
    first | refine on_aload_n (pc' := 25) rfl rfl rfl rfl ?_ | refine on_aload_nQ (pc' := 25) rfl rfl rfl rfl ?_
    first | apply on_get (pc' := 28) rfl rfl fl_Entry_53 | apply on_getN (pc' := 28) rfl rfl fl_Entry_53
    · repeat (first | assumption | exact on_up_eq _ _ _ | refine (on_up_ne (by omega)).trans ?_)
    · rfl
    refine on_iload_n (pc' := 29) rfl rfl rfl rfl ?_
    apply on_iastoreK (pc' := 30) (t := 0) rfl rfl
    · repeat (first | assumption | exact on_up_eq _ _ _ | refine (on_up_ne (by omega)).trans ?_)
    · rfl
    · first | assumption | exact on_lit _ | rfl
    · first | assumption | omega | decide
    first | refine on_aload_n (pc' := 31) rfl rfl rfl rfl ?_ | refine on_aload_nQ (pc' := 31) rfl rfl rfl rfl ?_
    first | apply on_get (pc' := 34) rfl rfl fl_Entry_18 | apply on_getN (pc' := 34) rfl rfl fl_Entry_18
    · repeat (first | assumption | exact on_up_eq _ _ _ | refine (on_up_ne (by omega)).trans ?_)
    · rfl
    first | refine on_aload_n (pc' := 35) rfl rfl rfl rfl ?_ | refine on_aload_nQ (pc' := 35) rfl rfl rfl rfl ?_
    first | apply on_get (pc' := 38) rfl rfl fl_Entry_53 | apply on_getN (pc' := 38) rfl rfl fl_Entry_53
    · repeat (first | assumption | exact on_up_eq _ _ _ | refine (on_up_ne (by omega)).trans ?_)
    · rfl
    refine on_iconst (pc' := 39) (v := 4) rfl rfl li_4 ?_
    apply on_iastoreK (pc' := 40) (t := 0) rfl rfl
    · repeat (first | assumption | exact on_up_eq _ _ _ | refine (on_up_ne (by omega)).trans ?_)
    · rfl
    · first | assumption | exact on_lit _ | rfl
    · first | assumption | omega | decide
    first | refine on_aload_n (pc' := 41) rfl rfl rfl rfl ?_ | refine on_aload_nQ (pc' := 41) rfl rfl rfl rfl ?_
    first | apply on_get (pc' := 44) rfl rfl fl_Entry_21 | apply on_getN (pc' := 44) rfl rfl fl_Entry_21
    · repeat (first | assumption | exact on_up_eq _ _ _ | refine (on_up_ne (by omega)).trans ?_)
    · rfl
    first | refine on_aload_n (pc' := 45) rfl rfl rfl rfl ?_ | refine on_aload_nQ (pc' := 45) rfl rfl rfl rfl ?_
    first | apply on_get (pc' := 48) rfl rfl fl_Entry_53 | apply on_getN (pc' := 48) rfl rfl fl_Entry_53
    · repeat (first | assumption | exact on_up_eq _ _ _ | refine (on_up_ne (by omega)).trans ?_)
    · rfl
    refine on_iconst (pc' := 49) (v := 0) rfl rfl li_0 ?_
    apply on_iastoreK (pc' := 50) (t := 0) rfl rfl
    · repeat (first | assumption | exact on_up_eq _ _ _ | refine (on_up_ne (by omega)).trans ?_)
    · rfl
    · first | assumption | exact on_lit _ | rfl
    · first | assumption | omega | decide
    first | refine on_aload_n (pc' := 51) rfl rfl rfl rfl ?_ | refine on_aload_nQ (pc' := 51) rfl rfl rfl rfl ?_
    refine on_dup (pc' := 52) rfl rfl rfl ?_
    first | apply on_get (pc' := 55) rfl rfl fl_Entry_53 | apply on_getN (pc' := 55) rfl rfl fl_Entry_53
    · repeat (first | assumption | exact on_up_eq _ _ _ | refine (on_up_ne (by omega)).trans ?_)
    · rfl
    refine on_iconst (pc' := 56) (v := 1) rfl rfl li_1 ?_
    refine on_iadd (pc' := 57) rfl rfl ?_
    rw [e1]
    first | apply on_put (pc' := 60) rfl rfl fp_Entry_53 | apply on_putN (pc' := 60) rfl rfl fp_Entry_53
    · repeat (first | assumption | exact on_up_eq _ _ _ | refine (on_up_ne (by omega)).trans ?_)
    · first | rfl | assumption
    · first | rfl | assumption
    · exact Nat.le_of_ble_eq_true rfl
    refine on_iconst (pc' := 61) (v := 1) rfl rfl li_1 ?_
    refine on_zreturn rfl rfl ?_ ?_
    · first | rfl | assumption
    refine ⟨rfl, fun a ha => ?_, Or.inl ⟨l4, rfl, upd S st.length (nI id), upd V st.length (nI so), upd W st.length 4, upd C st.length 0, ⟨?_, ?_, ?_, ?_, ?_⟩, ?_, fun i hi => ?_⟩⟩
    · rw [on_up_ne (by omega), on_up_ne (by omega), on_up_ne (by omega), on_up_ne (by omega), on_up_ne (by omega)]
    · rw [on_up_eq, List.length_append]; rfl
    · repeat (first | assumption | exact on_up_eq _ _ _ | refine (on_up_ne (by omega)).trans ?_)
    · repeat (first | assumption | exact on_up_eq _ _ _ | refine (on_up_ne (by omega)).trans ?_)
    · repeat (first | assumption | exact on_up_eq _ _ _ | refine (on_up_ne (by omega)).trans ?_)
    · repeat (first | assumption | exact on_up_eq _ _ _ | refine (on_up_ne (by omega)).trans ?_)
    · rw [List.length_append]; show st.length + 1 ≤ 4; omega
    · rw [List.length_append] at hi
      have hi : i < st.length + 1 := hi
      rw [getD_app]
      by_cases z : i = st.length
      · subst z
        rw [if_neg (Nat.lt_irrefl _), if_pos rfl, pk_us, pk_us, pk_us, pk_us]
        exact ⟨rfl, rfl, rfl, rfl, hid, hso⟩
      · rw [if_pos (by omega), pk_un z, pk_un z, pk_un z, pk_un z]
        exact hr.2 i (by omega)
  · have l4 : ¬ st.length < 4 := fun g => cq (nI_lt (b := 4) g (by decide))
    refine on_iconst (pc' := 9) (v := 0) rfl rfl li_0 ?_
    refine on_zreturn rfl rfl ?_ ?_
    · first | rfl | assumption
    exact ⟨rfl, fun _ _ => rfl, Or.inr ⟨l4, rfl, rfl⟩⟩
theorem s_rm_len {st : List aS} {k : Nat} : (s_rm st k).length = st.length - 1 := by
  unfold s_rm
  rw [List.length_dropLast, List.length_set]
theorem s_rm_get {st : List aS} {k i : Nat} (hk : k < st.length) (hi : i < st.length - 1) : (s_rm st k).getD i s0 = if i = k then st.getD (st.length - 1) s0 else st.getD i s0 := by
  unfold s_rm
  rw [List.getD_eq_getElem?_getD, List.getElem?_dropLast, List.length_set, if_pos hi, List.getElem?_set]
  by_cases e : k = i
  · subst e
    rw [if_pos rfl, if_pos hk, if_pos rfl, Option.getD_some, List.getLastD_eq_getLast?, List.getLast?_eq_getElem?, List.getD_eq_getElem?_getD]
  · rw [if_neg e, if_neg (fun z => e z.symm), List.getD_eq_getElem?_getD]
set_option maxHeartbeats 4000000 in
/-- removeStream -/
theorem c_removeStream {st : List aS} {k : Option Nat} (hk : ∀ i, k = some i → i < st.length) (K : en_B e (nI st.length) fr fn on_ onn us wt S V W C h) (hr : st_r st S V W C) :
    on_Ct G M_Entry_removeStream [.ref e, .int (kI k)] h sz 0 0 (fun r h1 z => r = none ∧ z = sz ∧ (∀ a, (a < e ∨ e + 5 ≤ a) → h1 a = h a) ∧ ∃ S V W C, en_B e (nI (match k with | some i => s_rm st i | none => st).length) fr fn on_ onn us wt S V W C h1 ∧ st_r (match k with | some i => s_rm st i | none => st) S V W C) := by
  have hl := hr.1
  obtain ⟨k0, k1, k2, k3, k4⟩ := id K
  refine on_Ct.of (by decide) v_Entry_removeStream (Nat.le_of_ble_eq_true rfl) ?_
  cases k with
  | none =>
    refine on_iload_n (pc' := 1) rfl rfl rfl rfl ?_
    refine on_if_lt (pc' := 4) (tgt := 12) rfl rfl rfl (fun cq => ?_) (fun cq => ?_)
    · refine on_vreturn rfl rfl ?_
      exact ⟨rfl, rfl, fun _ _ => rfl, S, V, W, C, K, hr⟩
    · exact absurd (by decide) cq
  | some i =>
    have hi := hk i rfl
    have i4 : i < 4 ∧ 4 < 2 ^ 31 := by omega
    have j4 : st.length - 1 < 4 ∧ 4 < 2 ^ 31 := by omega
    have e1 : nI st.length - 1 = nI (st.length - 1) := by rw [show (1 : Int32) = nI 1 from rfl, pk_sub (by omega)]
    show on_E G M_Entry_removeStream 0 (on_l (lv_args 0 [.ref e, .int (nI i)])) [] h sz 0 0 _
    refine on_iload_n (pc' := 1) rfl rfl rfl rfl ?_
    refine on_if_lt (pc' := 4) (tgt := 12) rfl rfl rfl (fun cq => ?_) (fun cq => ?_)
    · exact absurd cq (nI_pos (by omega))
    · refine on_iload_n (pc' := 5) rfl rfl rfl rfl ?_
      first | refine on_aload_n (pc' := 6) rfl rfl rfl rfl ?_ | refine on_aload_nQ (pc' := 6) rfl rfl rfl rfl ?_
      first | apply on_get (pc' := 9) rfl rfl fl_Entry_53 | apply on_getN (pc' := 9) rfl rfl fl_Entry_53
      · repeat (first | assumption | exact on_up_eq _ _ _ | refine (on_up_ne (by omega)).trans ?_)
      · rfl
      refine on_icmp_lt (pc' := 12) (tgt := 13) rfl rfl rfl (fun cq => ?_) (fun cq => ?_)
      rotate_left
      · exact absurd (nI_lt hi (by omega)) cq
      · first | refine on_aload_n (pc' := 14) rfl rfl rfl rfl ?_ | refine on_aload_nQ (pc' := 14) rfl rfl rfl rfl ?_
        refine on_dup (pc' := 15) rfl rfl rfl ?_
        first | apply on_get (pc' := 18) rfl rfl fl_Entry_53 | apply on_getN (pc' := 18) rfl rfl fl_Entry_53
        · repeat (first | assumption | exact on_up_eq _ _ _ | refine (on_up_ne (by omega)).trans ?_)
        · rfl
        refine on_iconst (pc' := 19) (v := 1) rfl rfl li_1 ?_
        refine on_isub (pc' := 20) rfl rfl ?_
        rw [e1]
        first | apply on_put (pc' := 23) rfl rfl fp_Entry_53 | apply on_putN (pc' := 23) rfl rfl fp_Entry_53
        · repeat (first | assumption | exact on_up_eq _ _ _ | refine (on_up_ne (by omega)).trans ?_)
        · first | rfl | assumption
        · first | rfl | assumption
        · exact Nat.le_of_ble_eq_true rfl
        first | refine on_aload_n (pc' := 24) rfl rfl rfl rfl ?_ | refine on_aload_nQ (pc' := 24) rfl rfl rfl rfl ?_
        first | apply on_get (pc' := 27) rfl rfl fl_Entry_9 | apply on_getN (pc' := 27) rfl rfl fl_Entry_9
        · repeat (first | assumption | exact on_up_eq _ _ _ | refine (on_up_ne (by omega)).trans ?_)
        · rfl
        refine on_iload_n (pc' := 28) rfl rfl rfl rfl ?_
        first | refine on_aload_n (pc' := 29) rfl rfl rfl rfl ?_ | refine on_aload_nQ (pc' := 29) rfl rfl rfl rfl ?_
        first | apply on_get (pc' := 32) rfl rfl fl_Entry_9 | apply on_getN (pc' := 32) rfl rfl fl_Entry_9
        · repeat (first | assumption | exact on_up_eq _ _ _ | refine (on_up_ne (by omega)).trans ?_)
        · rfl
        first | refine on_aload_n (pc' := 33) rfl rfl rfl rfl ?_ | refine on_aload_nQ (pc' := 33) rfl rfl rfl rfl ?_
        first | apply on_get (pc' := 36) rfl rfl fl_Entry_53 | apply on_getN (pc' := 36) rfl rfl fl_Entry_53
        · repeat (first | assumption | exact on_up_eq _ _ _ | refine (on_up_ne (by omega)).trans ?_)
        · rfl
        apply on_ialoadK (pc' := 37) (t := 0) rfl rfl
        · repeat (first | assumption | exact on_up_eq _ _ _ | refine (on_up_ne (by omega)).trans ?_)
        · rfl
        · first | assumption | exact on_lit _ | rfl
        · first | assumption | omega | decide
        apply on_iastoreK (pc' := 38) (t := 0) rfl rfl
        · repeat (first | assumption | exact on_up_eq _ _ _ | refine (on_up_ne (by omega)).trans ?_)
        · rfl
        · first | assumption | exact on_lit _ | rfl
        · first | assumption | omega | decide
        first | refine on_aload_n (pc' := 39) rfl rfl rfl rfl ?_ | refine on_aload_nQ (pc' := 39) rfl rfl rfl rfl ?_
        first | apply on_get (pc' := 42) rfl rfl fl_Entry_15 | apply on_getN (pc' := 42) rfl rfl fl_Entry_15
        · repeat (first | assumption | exact on_up_eq _ _ _ | refine (on_up_ne (by omega)).trans ?_)
        · rfl
        refine on_iload_n (pc' := 43) rfl rfl rfl rfl ?_
        first | refine on_aload_n (pc' := 44) rfl rfl rfl rfl ?_ | refine on_aload_nQ (pc' := 44) rfl rfl rfl rfl ?_
        first | apply on_get (pc' := 47) rfl rfl fl_Entry_15 | apply on_getN (pc' := 47) rfl rfl fl_Entry_15
        · repeat (first | assumption | exact on_up_eq _ _ _ | refine (on_up_ne (by omega)).trans ?_)
        · rfl
        first | refine on_aload_n (pc' := 48) rfl rfl rfl rfl ?_ | refine on_aload_nQ (pc' := 48) rfl rfl rfl rfl ?_
        first | apply on_get (pc' := 51) rfl rfl fl_Entry_53 | apply on_getN (pc' := 51) rfl rfl fl_Entry_53
        · repeat (first | assumption | exact on_up_eq _ _ _ | refine (on_up_ne (by omega)).trans ?_)
        · rfl
        apply on_ialoadK (pc' := 52) (t := 0) rfl rfl
        · repeat (first | assumption | exact on_up_eq _ _ _ | refine (on_up_ne (by omega)).trans ?_)
        · rfl
        · first | assumption | exact on_lit _ | rfl
        · first | assumption | omega | decide
        apply on_iastoreK (pc' := 53) (t := 0) rfl rfl
        · repeat (first | assumption | exact on_up_eq _ _ _ | refine (on_up_ne (by omega)).trans ?_)
        · rfl
        · first | assumption | exact on_lit _ | rfl
        · first | assumption | omega | decide
        first | refine on_aload_n (pc' := 54) rfl rfl rfl rfl ?_ | refine on_aload_nQ (pc' := 54) rfl rfl rfl rfl ?_
        first | apply on_get (pc' := 57) rfl rfl fl_Entry_18 | apply on_getN (pc' := 57) rfl rfl fl_Entry_18
        · repeat (first | assumption | exact on_up_eq _ _ _ | refine (on_up_ne (by omega)).trans ?_)
        · rfl
        refine on_iload_n (pc' := 58) rfl rfl rfl rfl ?_
        first | refine on_aload_n (pc' := 59) rfl rfl rfl rfl ?_ | refine on_aload_nQ (pc' := 59) rfl rfl rfl rfl ?_
        first | apply on_get (pc' := 62) rfl rfl fl_Entry_18 | apply on_getN (pc' := 62) rfl rfl fl_Entry_18
        · repeat (first | assumption | exact on_up_eq _ _ _ | refine (on_up_ne (by omega)).trans ?_)
        · rfl
        first | refine on_aload_n (pc' := 63) rfl rfl rfl rfl ?_ | refine on_aload_nQ (pc' := 63) rfl rfl rfl rfl ?_
        first | apply on_get (pc' := 66) rfl rfl fl_Entry_53 | apply on_getN (pc' := 66) rfl rfl fl_Entry_53
        · repeat (first | assumption | exact on_up_eq _ _ _ | refine (on_up_ne (by omega)).trans ?_)
        · rfl
        apply on_ialoadK (pc' := 67) (t := 0) rfl rfl
        · repeat (first | assumption | exact on_up_eq _ _ _ | refine (on_up_ne (by omega)).trans ?_)
        · rfl
        · first | assumption | exact on_lit _ | rfl
        · first | assumption | omega | decide
        apply on_iastoreK (pc' := 68) (t := 0) rfl rfl
        · repeat (first | assumption | exact on_up_eq _ _ _ | refine (on_up_ne (by omega)).trans ?_)
        · rfl
        · first | assumption | exact on_lit _ | rfl
        · first | assumption | omega | decide
        first | refine on_aload_n (pc' := 69) rfl rfl rfl rfl ?_ | refine on_aload_nQ (pc' := 69) rfl rfl rfl rfl ?_
        first | apply on_get (pc' := 72) rfl rfl fl_Entry_21 | apply on_getN (pc' := 72) rfl rfl fl_Entry_21
        · repeat (first | assumption | exact on_up_eq _ _ _ | refine (on_up_ne (by omega)).trans ?_)
        · rfl
        refine on_iload_n (pc' := 73) rfl rfl rfl rfl ?_
        first | refine on_aload_n (pc' := 74) rfl rfl rfl rfl ?_ | refine on_aload_nQ (pc' := 74) rfl rfl rfl rfl ?_
        first | apply on_get (pc' := 77) rfl rfl fl_Entry_21 | apply on_getN (pc' := 77) rfl rfl fl_Entry_21
        · repeat (first | assumption | exact on_up_eq _ _ _ | refine (on_up_ne (by omega)).trans ?_)
        · rfl
        first | refine on_aload_n (pc' := 78) rfl rfl rfl rfl ?_ | refine on_aload_nQ (pc' := 78) rfl rfl rfl rfl ?_
        first | apply on_get (pc' := 81) rfl rfl fl_Entry_53 | apply on_getN (pc' := 81) rfl rfl fl_Entry_53
        · repeat (first | assumption | exact on_up_eq _ _ _ | refine (on_up_ne (by omega)).trans ?_)
        · rfl
        apply on_ialoadK (pc' := 82) (t := 0) rfl rfl
        · repeat (first | assumption | exact on_up_eq _ _ _ | refine (on_up_ne (by omega)).trans ?_)
        · rfl
        · first | assumption | exact on_lit _ | rfl
        · first | assumption | omega | decide
        apply on_iastoreK (pc' := 83) (t := 0) rfl rfl
        · repeat (first | assumption | exact on_up_eq _ _ _ | refine (on_up_ne (by omega)).trans ?_)
        · rfl
        · first | assumption | exact on_lit _ | rfl
        · first | assumption | omega | decide
        refine on_vreturn rfl rfl ?_
        refine ⟨rfl, rfl, fun a ha => ?_, upd S i (S (st.length - 1)), upd V i (V (st.length - 1)), upd W i (W (st.length - 1)), upd C i (C (st.length - 1)), ⟨?_, ?_, ?_, ?_, ?_⟩, ?_, fun j hj => ?_⟩
        · rw [on_up_ne (by omega), on_up_ne (by omega), on_up_ne (by omega), on_up_ne (by omega), on_up_ne (by omega)]
        · rw [on_up_ne (by omega), on_up_ne (by omega), on_up_ne (by omega), on_up_ne (by omega), on_up_eq, s_rm_len]; rfl
        · repeat (first | assumption | exact on_up_eq _ _ _ | refine (on_up_ne (by omega)).trans ?_)
        · repeat (first | assumption | exact on_up_eq _ _ _ | refine (on_up_ne (by omega)).trans ?_)
        · repeat (first | assumption | exact on_up_eq _ _ _ | refine (on_up_ne (by omega)).trans ?_)
        · repeat (first | assumption | exact on_up_eq _ _ _ | refine (on_up_ne (by omega)).trans ?_)
        · rw [s_rm_len]; omega
        · rw [s_rm_len] at hj
          rw [s_rm_get hi hj]
          by_cases z : j = i
          · subst z
            rw [if_pos rfl, pk_us, pk_us, pk_us, pk_us]
            exact hr.2 (st.length - 1) (by omega)
          · rw [if_neg z, pk_un z, pk_un z, pk_un z, pk_un z]
            exact hr.2 j (by omega)
end ENT
