section ONC
variable {G : on_G} {M : on_M} {pc pc' : Nat} {lv : on_V} {st : List Value} {h : on_H} {sz bc bs : Nat} {Q : Option Value → on_H → Nat → Prop}
theorem on_good {M2 : on_M} (hc : Cond.code (on_y M2) (on_cc M2) (on_nL M2) (on_rt M2) ∈ on_W) : GoodIn on_W (on_ws M2) := fun w hw => by
  rcases List.mem_cons.mp hw with rfl | h
  · exact ⟨hc, on_W_good _ hc⟩
  · exact ⟨h, on_W_good _ h⟩
theorem on_blind {av : List Value} : FrameBlind (va_Pc av (fun U => on_R G h sz U.heap ∧ on_K G U ∧ on_b G ≤ U.heap.size ∧ on_St G U U.heap)) := fun a U g mk q => by
  obtain ⟨q0, q1, q2, q3, q4⟩ := q
  exact ⟨q0, q1, on_K.same (u := U) (U := U.calling g mk a) rfl q2, q3, on_St.same (u := U) (U := U.calling g mk a) rfl q4⟩
theorem on_after {p : Program} {l : Launch} {e : Env} {R : Room} {s : State} {m : MethodId} {args : Array Value} {below : List Frame} {meth : Method} {c : Code} {H : Heap} {locs : List Loc} {cells slots mc ms : Nat} {ls : Array Slot} {st0 rest : List Value} {a : Array Value} {Q2 : Option Value → on_H → Nat → Prop} {Qz : State → Prop}
    (hr : va_Run p l e R s m args below meth c H locs cells slots mc ms (F0 m pc ls st0) rest (on_Qc G Q2 a) (on_A G)) (hS : va_S (on_A G) s.heap H locs)
    (kk : ∀ (r : Option Value) (h1 : on_H) (sz1 : Nat) (H1 : Heap) (locs1 : List Loc), Q2 r h1 sz1 → on_R G h1 sz1 H1 → va_S (on_A G) s.heap H1 locs1 → W p l e R s m args below meth c H1 locs1 (cells + mc) (slots + ms) Qz (F0 m (pc + 3) ls (r.toList ++ rest))) : W p l e R s m args below meth c H locs cells slots Qz (F0 m pc ls st0) := by
  intro T hT X
  obtain ⟨v, st₀, t, T', L, h0, X', hL, e1, e2, ⟨⟨r, h1, sz1, hv, hq, hR1⟩, hz, hk⟩, st⟩ := hr T hT X
  cases hv
  rw [h0] at hz hk
  obtain ⟨t2, a1, b1⟩ := kk v h1 sz1 T'.heap (locs ++ L) hq (by rw [e1]; exact hR1) ⟨Nat.le_trans hS.1 (by rw [e1]; exact hz), fun q g1 g2 => by rw [e1, hk q (Nat.lt_of_lt_of_le g1 hS.1) g2]; exact hS.2.1 q g1 g2, fun q hq => by
      rcases List.mem_append.mp hq with h | h
      · exact hS.2.2 q h
      · exact hL q h⟩ T' rfl X'
  exact ⟨t2, st t2 a1, b1⟩
/-- what a call of M2 at a place of M's pool needs -/
def on_CB (M M2 : on_M) (idx n : Nat) : Prop := Cond.methodLink (on_y M).cls idx (on_y M2) ∈ on_W ∧ Cond.code (on_y M2) (on_cc M2) (on_nL M2) (on_rt M2) ∈ on_W ∧ Cond.initialized (on_y M2).cls ∈ on_W ∧ ((on_y M2).cls ≠ "java/lang/invoke/MethodHandle" ∧ (on_y M2).cls ≠ "java/lang/invoke/VarHandle" ∧ (parseMethodDescriptor (on_y M2).desc).map (fun d => d.parameters.length) = some n) ∧ on_fr M2 + 1 ≤ on_fr M ∧ 8 + (on_nL M2 + 11) + on_lo M2 ≤ on_lo M
def on_CV (M M2 : on_M) (idx n ci : Nat) : Prop := on_CB M M2 idx n ∧ Cond.instanceMethod (on_y M2) ∈ on_W ∧ Cond.selects (on_y M2).cls (on_y M2) (on_y M2) ∈ on_W ∧ ∃ q : vw_C, on_cl[ci]? = some q ∧ q.1 = (on_y M2).cls
def on_CS (M M2 : on_M) (idx n : Nat) : Prop := on_CB M M2 idx n ∧ Cond.static (on_y M2) ∈ on_W
def on_CI (M M2 : on_M) (idx n : Nat) : Prop := on_CB M M2 idx n ∧ (on_y M2).name = "<init>" ∧ on_rt M2 = none ∧ Cond.instanceMethod (on_y M2) ∈ on_W
theorem on_callB {M2 : on_M} {idx n mc ms : Nat} {p : Program} {R : Room} {s : State} {m : MethodId} {args : Array Value} {meth : Method} {c : Code} (S : on_Std G M p R s m args meth c) (hC : on_CB M M2 idx n) :
    CallB R s args (on_y M).cls idx (on_y M2) (on_cc M2) (on_nL M2) (on_rt M2) (on_ws M2) (on_rm M2 mc ms) mc ms n := by
  obtain ⟨c1, c2, c3, c4, c5, c6⟩ := hC
  have hts := S.2.2.2.2.2.2.2.1
  exact callB_of n hts (on_good c2) rfl rfl rfl (hts _ c3) (hts _ c1) c4 ⟨by rw [S.2.2.2.2.2.2.2.2.2.1]; exact c5, by rw [S.2.2.2.2.2.2.2.2.2.2.1]; exact c6⟩
theorem on_pre {p : Program} {R : Room} {s : State} {m : MethodId} {args : Array Value} {meth : Method} {c : Code} {H : Heap} {locs : List Loc} {av : List Value} (S : on_Std G M p R s m args meth c) (hR : on_R G h sz H) (hS : va_S (on_A G) s.heap H locs) :
    ∀ U : State, U.heap = H → s.WarmedH U.vm → va_Pc av (fun U => on_R G h sz U.heap ∧ on_K G U ∧ on_b G ≤ U.heap.size ∧ on_St G U U.heap) av.toArray U := fun U hU hW =>
  ⟨rfl, by rw [hU]; exact hR, S.2.2.2.2.2.2.2.2.1.warm hW, by rw [hU]; exact Nat.le_trans S.2.2.2.2.2.2.2.2.2.2.2.1 hS.1, by rw [hU]; exact (S.sta.kept hS.2.1).warm hW⟩
theorem on_callV {M2 : on_M} {idx n ci b mc ms : Nat} {As rest fs : List Value} {Q2 : Option Value → on_H → Nat → Prop} (hd : on_tb M pc = some (.invokevirtual idx, 3)) (hp : pc + 3 = pc') (hC : on_CV M M2 idx n ci) (hb : h b = some (.inr (ci, fs))) (hst : st = As.reverse ++ .ref b :: rest) (hn : As.length = n) (hrest : (rest.map fun v => v.category).sum ≤ 8) (hmc : mc ≤ bc) (hms : ms ≤ bs)
    (hM : on_Ct G M2 (.ref b :: As) h sz mc ms Q2) (k : ∀ (r : Option Value) (h1 : on_H) (sz1 : Nat), Q2 r h1 sz1 → on_E G M pc' lv (r.toList ++ rest) h1 sz1 (bc - mc) (bs - ms) Q) : on_E G M pc lv st h sz bc bs Q := by
  subst hp
  intro p l e R s m args below meth c H locs cells slots ls S hl hR hS hc hs
  obtain ⟨hCB, c1, c2, q, c3, c4⟩ := hC
  have hts := S.2.2.2.2.2.2.2.1
  have hrecv := va_recv (q0 := 0) (fs := fs) S.2.2.2.2.2.2.2.2.1.1 (hR.one hb) c3 rfl
  rw [c4] at hrecv
  refine on_after (va_runV (C := (on_y M2).cls) (Ts := on_W) (As := As) (rest := rest) ⟨S.1, S.2.1, S.2.2.1, S.2.2.2.2.2.2.1, hts⟩ (hM l) ⟨on_callB S hCB, hts _ c1, hts _ c2⟩ ⟨on_blind, hrecv, on_pre S hR hS⟩ rfl hn hl.1 hst (by show 2 * 0 + _ ≤ 8; omega) (S.dec hd) ⟨by omega, by omega⟩) hS (fun r h1 sz1 H1 locs1 hq hR1 hS1 => ?_)
  exact k r h1 sz1 hq p l e R s m args below meth c H1 locs1 _ _ ls S hl hR1 hS1 (by omega) (by omega)
theorem on_callS {M2 : on_M} {idx n mc ms : Nat} {As rest : List Value} {Q2 : Option Value → on_H → Nat → Prop} (hd : on_tb M pc = some (.invokestatic idx, 3)) (hp : pc + 3 = pc') (hC : on_CS M M2 idx n) (hst : st = As.reverse ++ rest) (hn : As.length = n) (hrest : (rest.map fun v => v.category).sum ≤ 8) (hmc : mc ≤ bc) (hms : ms ≤ bs)
    (hM : on_Ct G M2 As h sz mc ms Q2) (k : ∀ (r : Option Value) (h1 : on_H) (sz1 : Nat), Q2 r h1 sz1 → on_E G M pc' lv (r.toList ++ rest) h1 sz1 (bc - mc) (bs - ms) Q) : on_E G M pc lv st h sz bc bs Q := by
  subst hp
  intro p l e R s m args below meth c H locs cells slots ls S hl hR hS hc hs
  obtain ⟨hCB, c1⟩ := hC
  have hts := S.2.2.2.2.2.2.2.1
  refine on_after (va_runS (Ts := on_W) (As := As) (rest := rest) ⟨S.1, S.2.1, S.2.2.1, S.2.2.2.2.2.2.1, hts⟩ (hM l) ⟨on_callB S hCB, hts _ c1⟩ ⟨on_blind, on_pre S hR hS⟩ rfl hn hl.1 hst (by show 2 * 0 + _ ≤ 8; omega) (S.dec hd) ⟨by omega, by omega⟩) hS (fun r h1 sz1 H1 locs1 hq hR1 hS1 => ?_)
  exact k r h1 sz1 hq p l e R s m args below meth c H1 locs1 _ _ ls S hl hR1 hS1 (by omega) (by omega)
theorem on_callI {M2 : on_M} {idx n b mc ms : Nat} {As rest : List Value} {Q2 : Option Value → on_H → Nat → Prop} (hd : on_tb M pc = some (.invokespecial idx, 3)) (hp : pc + 3 = pc') (hC : on_CI M M2 idx n) (hst : st = As.reverse ++ .ref b :: rest) (hn : As.length = n) (hrest : (rest.map fun v => v.category).sum ≤ 8) (hmc : mc ≤ bc) (hms : ms ≤ bs)
    (hM : on_Ct G M2 (.ref b :: As) h sz mc ms Q2) (k : ∀ (r : Option Value) (h1 : on_H) (sz1 : Nat), Q2 r h1 sz1 → on_E G M pc' lv (r.toList ++ rest) h1 sz1 (bc - mc) (bs - ms) Q) : on_E G M pc lv st h sz bc bs Q := by
  subst hp
  intro p l e R s m args below meth c H locs cells slots ls S hl hR hS hc hs
  obtain ⟨hCB, c1, c2, c3⟩ := hC
  have hts := S.2.2.2.2.2.2.2.1
  have hCB2 : CallB R s args (on_y M).cls idx (on_y M2) (on_cc M2) (on_nL M2) none (on_ws M2) (on_rm M2 mc ms) mc ms n := by
    have := on_callB (mc := mc) (ms := ms) S hCB
    rw [c2] at this
    exact this
  refine on_after (va_runI (Ts := on_W) (As := As) (rest := rest) (b := b) ⟨S.1, S.2.1, S.2.2.1, S.2.2.2.2.2.2.1, hts⟩ (hM l) ⟨hCB2, c1, hts _ c3⟩ ⟨on_blind, on_pre S hR hS⟩ rfl hn hl.1 hst (by show 2 * 0 + _ ≤ 8; omega) (S.dec hd) ⟨by omega, by omega⟩) hS (fun r h1 sz1 H1 locs1 hq hR1 hS1 => ?_)
  exact k r h1 sz1 hq p l e R s m args below meth c H1 locs1 _ _ ls S hl hR1 hS1 (by omega) (by omega)
/-- the JDK's smaller and larger of two -/
def i_min (x y : Int32) : Int32 := if y < x then y else x
def i_max (x y : Int32) : Int32 := if x < y then y else x
theorem on_min {idx : Nat} {x y : Int32} (hd : on_tb M pc = some (.invokestatic idx, 3)) (hp : pc + 3 = pc') (w1 : Cond.methodLink (on_y M).cls idx Lib.Math.min.name ∈ on_W) (w2 : Cond.static Lib.Math.min.name ∈ on_W) (w3 : Cond.initialized "java/lang/Math" ∈ on_W) (w4 : Cond.code Lib.Math.min.name Lib.Math.min.code 2 (some .int) ∈ on_W) (hfr : 1 ≤ on_fr M) (hlo : (st.map fun v => v.category).sum + 13 ≤ on_lo M) (k : on_E G M pc' lv (.int (i_min x y) :: st) h sz bc bs Q) : on_E G M pc lv (.int y :: .int x :: st) h sz bc bs Q := by
  subst hp
  intro p l e R s m args below meth c H locs cells slots ls S hl hR hS hc hs
  have hts := S.2.2.2.2.2.2.2.1
  exact va_mmin S.1 S.2.1 (by rw [S.2.2.1, hl.1]) S.2.2.2.2.2.2.1 (hts _ w1) (hts _ w2) (hts _ w3) (hts _ w4) (by rw [S.2.2.2.2.2.2.2.2.2.1]; exact hfr) (by rw [S.2.2.2.2.2.2.2.2.2.2.1]; exact hlo) (by omega) (by omega) (S.dec hd) (k p l e R s m args below meth c H locs cells slots ls S hl hR hS hc hs)
theorem on_max {idx : Nat} {x y : Int32} (hd : on_tb M pc = some (.invokestatic idx, 3)) (hp : pc + 3 = pc') (w1 : Cond.methodLink (on_y M).cls idx Lib.Math.max.name ∈ on_W) (w2 : Cond.static Lib.Math.max.name ∈ on_W) (w3 : Cond.initialized "java/lang/Math" ∈ on_W) (w4 : Cond.code Lib.Math.max.name Lib.Math.max.code 2 (some .int) ∈ on_W) (hfr : 1 ≤ on_fr M) (hlo : (st.map fun v => v.category).sum + 13 ≤ on_lo M) (k : on_E G M pc' lv (.int (i_max x y) :: st) h sz bc bs Q) : on_E G M pc lv (.int y :: .int x :: st) h sz bc bs Q := by
  subst hp
  intro p l e R s m args below meth c H locs cells slots ls S hl hR hS hc hs
  have hts := S.2.2.2.2.2.2.2.1
  exact va_mmax S.1 S.2.1 (by rw [S.2.2.1, hl.1]) S.2.2.2.2.2.2.1 (hts _ w1) (hts _ w2) (hts _ w3) (hts _ w4) (by rw [S.2.2.2.2.2.2.2.2.2.1]; exact hfr) (by rw [S.2.2.2.2.2.2.2.2.2.2.1]; exact hlo) (by omega) (by omega) (S.dec hd) (k p l e R s m args below meth c H locs cells slots ls S hl hR hS hc hs)
end ONC
