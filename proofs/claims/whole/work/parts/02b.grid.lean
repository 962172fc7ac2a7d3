/-! MG: arrays of arrays, and new int[4][140] by one instruction: laws of our own -/
/-- what the word on an array class over arrays says -/
theorem mg_ov {t : FieldType} {A : Array Value} {u : State} (h : (Cond.arrayOver (.array t)).before A u = true) :
    ∃ q c k, u.vm.findClass (FieldType.array t).toString = some q ∧ (u.vm.classes.findIdx? fun (x : Class) => match x.kind with | .array component _ => component == q | _ => false) = some c ∧ u.vm.classes[c]? = some k ∧ k.kind = .array q (.array t) ∧ u.vm.findClass ("[" ++ (FieldType.array t).toString) = some c := by
  unfold Cond.before Cond.holds at h
  simp only [Cond.value] at h
  have h0 := eq_of_beq h
  obtain ⟨q, hq, h1⟩ := Option.bind_eq_some_iff.mp h0
  obtain ⟨c, hc, h2⟩ := Option.bind_eq_some_iff.mp h1
  obtain ⟨k, hk, h3⟩ := Option.map_eq_some_iff.mp h2
  refine ⟨q, c, k, hq, hc, hk, ?_⟩
  have hp := (Array.findIdx?_eq_some_iff_getElem.mp hc).2.1
  rw [(Array.getElem?_eq_some_iff.mp hk).2] at hp
  revert hp h3
  generalize hkk : k.kind = kd
  cases kd with
  | array q2 t2 =>
    intro h3 hp
    obtain ⟨e1, e2⟩ := Bool.and_eq_true_iff.mp h3
    have e3 : q2 = q := eq_of_beq hp
    have e4 : t2 = .array t := of_decide_eq_true e1
    rw [e3, e4]
    exact ⟨rfl, of_decide_eq_true e2⟩
  | _ => intro h3; simp at h3
theorem mg_mv {t : FieldType} {A B : Array Value} {u U : State} (hv : u.vm.Alike U.vm) (h : (Cond.arrayOver (.array t)).before A u = true) : (Cond.arrayOver (.array t)).before B U = true := by
  obtain ⟨q, c, k, h1, h2, h3, h4, h5⟩ := mg_ov h
  obtain ⟨k2, h6, h7⟩ := hv.2.2 _ _ h3
  have e1 : U.vm.findClass (FieldType.array t).toString = some q := by rw [hv.findClass]; exact h1
  have e2 : (U.vm.classes.findIdx? fun (x : Class) => match x.kind with | .array component _ => component == q | _ => false) = some c := (hv.findIdx?_eqK _ (fun _ => rfl)).trans h2
  have e3 : k2.kind = .array q (.array t) := by rw [h7]; exact h4
  have e4 : U.vm.findClass ("[" ++ (FieldType.array t).toString) = some c := by rw [hv.findClass]; exact h5
  unfold Cond.before Cond.holds
  simp only [Cond.value]
  rw [e1]
  refine beq_iff_eq.mpr (Option.bind_eq_some_iff.mpr ⟨q, rfl, Option.bind_eq_some_iff.mpr ⟨c, e2, Option.map_eq_some_iff.mpr ⟨k2, h6, ?_⟩⟩⟩)
  rw [e3]
  simp [e4]
/-- a row of 140 ints; the row of rows of which i places are filled; the state with one row more -/
def mg_a (cI : ClassId) : Cell := { cls := cI, slots := Array.replicate 140 (.int 0) }
def mg_p (z i j : Nat) : Value := bif Nat.blt j i then .ref (z + 1 + j) else .null
def mg_o (cA : ClassId) (z i : Nat) : Cell := { cls := cA, slots := #[mg_p z i 0, mg_p z i 1, mg_p z i 2, mg_p z i 3] }
def mg_0 (u : State) (cA : ClassId) : State := u.pushCell (mg_o cA u.heap.size 0)
def mg_1 (u : State) (cA cI : ClassId) (z i : Nat) : State := (u.pushCell (mg_a cI)).setCell z (mg_o cA z (i + 1))
def mg_n (u : State) (cA cI : ClassId) : Nat → State
  | 0 => mg_0 u cA
  | i + 1 => mg_1 (mg_n u cA cI i) cA cI u.heap.size i
/-- what is known of the i-th of these states -/
def mg_I (s0 : State) (cA cI : ClassId) (i : Nat) (u : State) : Prop :=
  u.heap.size = s0.heap.size + 1 + i ∧ u.heap[s0.heap.size]? = some (mg_o cA s0.heap.size i) ∧ u.vm = s0.vm ∧ u.slotsUsed = s0.slotsUsed + 4 + 140 * i ∧ (∀ q : Nat, q < s0.heap.size → u.heap[q]? = s0.heap[q]?) ∧ ∀ j, j < i → u.heap[s0.heap.size + 1 + j]? = some (mg_a cI)
theorem mg_I0 (s0 : State) (cA cI : ClassId) : mg_I s0 cA cI 0 (mg_0 s0 cA) :=
  ⟨by simp [mg_0], by simp [mg_0], rfl, by simp [mg_0, mg_o], fun q hq => State.heap_pushCell_of_lt _ _ hq, fun j hj => absurd hj (Nat.not_lt_zero j)⟩
theorem mg_I1 {s0 u : State} {cA cI : ClassId} {i : Nat} (h : mg_I s0 cA cI i u) : mg_I s0 cA cI (i + 1) (mg_1 u cA cI s0.heap.size i) := by
  obtain ⟨h1, h2, h3, h4, h5, h6⟩ := h
  have hz : s0.heap.size < u.heap.size := by omega
  refine ⟨?_, State.heap_setCell_self ((State.heap_pushCell_of_lt _ _ hz).trans h2), h3, ?_, fun q hq => ?_, fun j hj => ?_⟩
  · simp [mg_1, State.setCell, h1]; omega
  · simp [mg_1, mg_a, h4]; omega
  · exact (State.heap_setCell_other (Nat.ne_of_gt hq)).trans ((State.heap_pushCell_of_lt _ _ (Nat.lt_trans hq hz)).trans (h5 q hq))
  · refine (State.heap_setCell_other (show s0.heap.size ≠ s0.heap.size + 1 + j by omega)).trans ?_
    by_cases hj2 : j < i
    · exact (State.heap_pushCell_of_lt _ _ (show s0.heap.size + 1 + j < u.heap.size by omega)).trans (h6 j hj2)
    · rw [show s0.heap.size + 1 + j = u.heap.size by omega]
      exact State.heap_pushCell_size _ _
theorem mg_In (s0 : State) (cA cI : ClassId) : ∀ i, mg_I s0 cA cI i (mg_n s0 cA cI i)
  | 0 => mg_I0 s0 cA cI
  | i + 1 => mg_I1 (mg_In s0 cA cI i)
theorem mg_set (cA : ClassId) (z : Nat) : ∀ i, i < 4 → (mg_o cA z i).setSlot i (.ref (z + 1 + i)) = mg_o cA z (i + 1)
  | 0, _ => rfl
  | 1, _ => rfl
  | 2, _ => rfl
  | 3, _ => rfl
theorem mg_nt (u : State) (f : JFrame) (cA cI : ClassId) : ∀ i, mg_n (u.setTop f) cA cI i = (mg_n u cA cI i).setTop f
  | 0 => rfl
  | i + 1 => by
    show mg_1 (mg_n (u.setTop f) cA cI i) cA cI u.heap.size i = _
    rw [mg_nt u f cA cI i]
    rfl
section MGW
variable {E : CtlPost} {e : Env} {d : Bool} {acts : List Action} {u s0 : State} {cA cI cc : ClassId} {kA kI : Class}
theorem mg_w1 (h1 : u.vm.classes[cI]? = some kI) (h2 : kI.kind = .array cc .int) (h3 : e.platform.arrayLengthLimit = 2147483645) (h4 : e.platform.maxHeapBytes = 536870912) (h5 : u.heap.size < e.platform.maxCells) (h6 : u.slotsUsed + 140 ≤ e.platform.maxSlots) {Q : Addr → Pre}
    (hq : ∀ acts', Q u.heap.size d acts' (u.pushCell (mg_a cI))) : wp (multianewarray.make cI [140]) Q E e d acts u := by
  rw [multianewarray.make]
  simp only [wp_bind', W.ite, show ¬ ((140 : Int32) < 0) by decide, if_false, wp_pure', W.theClass, h1, h2, Option.some.injEq, exists_eq_left']
  exact W.newArray_of h1 h2 (by rw [h3]; decide) (by rw [h4]; decide) h5 h6 rfl hq
/-- one turn of the loop -/
theorem mg_ws {i : Nat} (hi : i < 4) (hA : s0.vm.classes[cA]? = some kA) (hA2 : kA.kind = .array cI (.array .int)) (h1 : s0.vm.classes[cI]? = some kI) (h2 : kI.kind = .array cc .int) (h3 : e.platform.arrayLengthLimit = 2147483645) (h4 : e.platform.maxHeapBytes = 536870912) (h5 : s0.heap.size + 5 ≤ e.platform.maxCells) (h6 : s0.slotsUsed + 564 ≤ e.platform.maxSlots) {Q : ForInStep PUnit → Pre}
    (hq : ∀ d' acts', Q (ForInStep.yield PUnit.unit) d' acts' (mg_n s0 cA cI (i + 1))) : wp (do
      let a ← multianewarray.make cI [140]
      writeLoc s0.heap.size i (Value.ref a)
      Pure.pure (ForInStep.yield PUnit.unit)) Q E e d acts (mg_n s0 cA cI i) := by
  obtain ⟨g1, g2, g3, g4, -, -⟩ := mg_In s0 cA cI i
  have hz : s0.heap.size < (mg_n s0 cA cI i).heap.size := by omega
  have g5 : ((mg_n s0 cA cI i).pushCell (mg_a cI)).heap[s0.heap.size]? = some (mg_o cA s0.heap.size i) := (State.heap_pushCell_of_lt _ _ hz).trans g2
  simp only [wp_bind']
  refine mg_w1 (by rw [g3]; exact h1) h2 h3 h4 (by omega) (by omega) (fun a2 => ?_)
  refine ⟨_, g5, (fun w => by cases w), hi, ?_, ?_⟩
  · have g6 : ((mg_n s0 cA cI i).pushCell (mg_a cI)).vm = s0.vm := g3
    simp [State.fitsSlot, State.slotType?, g3, mg_o, hA, hA2]
    rfl
  · rw [g1, mg_set cA _ i hi]
    exact hq _ _
theorem mg_wl (hA : s0.vm.classes[cA]? = some kA) (hA2 : kA.kind = .array cI (.array .int)) (h1 : s0.vm.classes[cI]? = some kI) (h2 : kI.kind = .array cc .int) (h3 : e.platform.arrayLengthLimit = 2147483645) (h4 : e.platform.maxHeapBytes = 536870912) (h5 : s0.heap.size + 5 ≤ e.platform.maxCells) (h6 : s0.slotsUsed + 564 ≤ e.platform.maxSlots) {Q : Addr → Pre}
    (hq : ∀ d' acts', Q s0.heap.size d' acts' (mg_n s0 cA cI 4)) : wp (multianewarray.make cA [4, 140]) Q E e d acts s0 := by
  rw [multianewarray.make]
  simp only [wp_bind', W.ite, show ¬ ((4 : Int32) < 0) by decide, if_false, wp_pure', W.theClass, hA, hA2, Option.some.injEq, exists_eq_left']
  refine W.newArray_of hA hA2 (by rw [h3]; decide) (by rw [h4]; decide) (by omega) (by show _ + 4 ≤ _; omega) rfl (fun acts' => ?_)
  rw [show (s0.pushCell { cls := cA, slots := Array.replicate (Int32.toNatClampNeg 4) .null } : State) = mg_n s0 cA cI 0 from rfl]
  simp only [show ((4 : Int32) == 0) = false by decide, show Int32.toNatClampNeg 4 = 4 by decide]
  rw [if_neg Bool.false_ne_true, wp_bind', Std.Legacy.Range.forIn_eq_forIn_range']
  show wp (forIn [0, 1, 2, 3] PUnit.unit _) _ E e d acts' _
  simp only [List.forIn_cons, List.forIn_nil]
  rw [wp_bind']
  refine mg_ws (i := 0) (by decide) hA hA2 h1 h2 h3 h4 h5 h6 (fun d1 b1 => ?_)
  show wp (_ >>= _) _ E e d1 b1 _
  rw [wp_bind']
  refine mg_ws (i := 1) (by decide) hA hA2 h1 h2 h3 h4 h5 h6 (fun d2 b2 => ?_)
  show wp (_ >>= _) _ E e d2 b2 _
  rw [wp_bind']
  refine mg_ws (i := 2) (by decide) hA hA2 h1 h2 h3 h4 h5 h6 (fun d3 b3 => ?_)
  show wp (_ >>= _) _ E e d3 b3 _
  rw [wp_bind']
  refine mg_ws (i := 3) (by decide) hA hA2 h1 h2 h3 h4 h5 h6 (fun d4 b4 => ?_)
  simp only [wp_pure']
  exact hq _ _
end MGW
section MGS
variable {p : Program} {l : Launch} {e : Env} {R : Room} {s : State} {m : MethodId} {args : Array Value} {below : List Frame} {meth : Method} {c : Code} {T : State} {locs : List Loc} {cells slots : Nat}
theorem mg_Sn (X : Stand p l e R s m args below meth c T locs cells slots) (cA cI : ClassId) : ∀ i, i ≤ 4 → Stand p l e R s m args below meth c (mg_n T cA cI i) locs (cells + (1 + i)) (slots + (4 + 140 * i))
  | 0, _ => X.pushed (mg_o cA T.heap.size 0)
  | i + 1, hi => by
    have Y := (mg_Sn X cA cI i (by omega)).pushed (mg_a cI)
    obtain ⟨g1, g2, -⟩ := mg_In T cA cI i
    have hz : T.heap.size < (mg_n T cA cI i).heap.size := by omega
    have Z := Y.stored ((State.heap_pushCell_of_lt _ _ hz).trans g2) i (.ref (T.heap.size + 1 + i))
    rw [mg_set cA _ i (by omega)] at Z
    have W := Z.dropFresh (fun x hx => by
      obtain rfl := List.mem_singleton.mp hx
      exact X.heapGrown)
    have e1 : (mg_a cI).slots.size = 140 := by simp [mg_a]
    rw [e1] at W
    rw [show cells + (1 + (i + 1)) = cells + (1 + i) + 1 by omega, show slots + (4 + 140 * (i + 1)) = slots + (4 + 140 * i) + 140 by omega]
    exact W
set_option maxHeartbeats 4000000 in
/-- new int[4][140] by the one instruction -/
theorem mg_multi (X : Stand p l e R s m args below meth c T locs cells slots) (hexec : p.tables.exec = Jvm.exec) {own : String} {index : Nat} (hown : s.vm.findClass own = some m.cls)
    (w1 : (Cond.classLink own index "[[I").before args s = true) (w2 : (Cond.arrayOver (.array .int)).before args s = true) (w3 : (Cond.arrayClass .int).before args s = true)
    {g : JFrame} (hg : g.method = m) (hd : decode c.code g.pc = .ok (.multianewarray index 2, 4)) {rest : List Value} (hst : g.stack = .int 140 :: .int 4 :: rest) (hc : cells + 5 ≤ R.cells) (hs : slots + 564 ≤ R.slots) :
    ∃ (vm₁ : Vm) (cA cI : ClassId), s.WarmedH vm₁ ∧ s.vm.findClass "[[I" = some cA ∧ s.vm.findClass "[I" = some cI ∧ Stand p l e R s m args below meth c (mg_n (T.setVm vm₁) cA cI 4) locs (cells + 5) (slots + 564) ∧
      ∀ target, Steps p.tables e below ((mg_n (T.setVm vm₁) cA cI 4).setTop { g with pc := g.pc + 4, stack := .ref T.heap.size :: rest }) target → Steps p.tables e below (T.setTop g) target := by
  subst hg
  obtain ⟨cI, cA, kA, a1, -, a3, a4, a5⟩ := mg_ov w2
  obtain ⟨cI2, kI, cc, b1, b2, b3⟩ := Cond.arrayClass_spec w3
  obtain rfl : cI2 = cI := Option.some.inj (b1.symm.trans a1)
  obtain ⟨cB, f1, f2⟩ := Cond.classLink_spec hown w1 e.platform (by rw [X.admits.platform])
  obtain rfl : cB = cA := Option.some.inj (f1.symm.trans a5)
  obtain ⟨u1, u2, -⟩ := State.classEntry (e := e) X.warmed f2
  generalize T.vm.noted g.method.cls index (.cls cB) = vm₁ at u1 u2
  obtain ⟨kA2, k1, k2⟩ := u2.alike.2.2 _ _ a3
  obtain ⟨kI2, k3, k4⟩ := u2.alike.2.2 _ _ b2
  have X1 := mg_Sn (X.noted u2) cB cI2 4 (Nat.le_refl 4)
  obtain ⟨r1, r2⟩ := X.roomAbove hc hs
  refine ⟨vm₁, cB, cI2, u2, f1, a1, X1, fun target hr => ?_⟩
  jvm_step X.here [hexec, hd]
  simp only [multianewarray.sem, wp_bind', W.resolveClassAt_links (State.method?_setTop g X.here.top) u1]
  rw [W.popN, if_neg (by decide)]
  refine ⟨g, State.topJava?_setTop' (s := T.setVm vm₁) g X.here.top, [.int 4, .int 140], rest, rfl, hst, ?_⟩
  simp only [List.mapM_cons, List.mapM_nil, wp_bind', wp_pure']
  rw [show ((T.setTop g).setVm vm₁).setTop { g with stack := rest } = (T.setVm vm₁).setTop { g with stack := rest } from (State.setTop_setTop (T.setVm vm₁) g _)]
  refine mg_wl (s0 := (T.setVm vm₁).setTop { g with stack := rest }) (kA := kA2) (kI := kI2) (cI := cI2) (cc := cc) k1 (by rw [k2]; exact a4) k3 (by rw [k4]; exact b3) (Launch.admits_arrayLengthLimit X.admits) (Launch.admits_maxHeapBytes X.admits) r1 r2 (fun d' acts' => ?_)
  rw [mg_nt]
  simp only [wp_bind', W.mark, W.pushRef, State.topJava?_setTop' _ X1.here.top, Option.some.injEq, exists_eq_left', State.setTop_setTop, State.heap_setTop]
  intro acts
  simp [jvm, X1.here.top]
  exact hr
end MGS
