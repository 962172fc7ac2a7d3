/-! THE CLAIM OUT OF ONE WALK OF THE LAW'S BODY. Your part is whole_start (and what it stands on); all else here is the same for every law, but numbers. -/
def R_law : String := "OnionNetLaw"
def lw_P (b : Addr) (xs : List Int32) (args : Array Value) (s : State) : Prop := args = #[.ref b] ∧ s.IntsAt b xs ∧ xs.length ≤ 2560 ∧ (Jvm.Cond.and given_1 narrow_1).before args s = true
def lw_Q (_ : Array Value) (s : State) (o : Outcome) (t : State) : Prop := o = .returned (some (.int 1)) ∧ Framed s o t [] 600000 7302250
def lw_Z (below : List Frame) (a : Array Value) (s : State) : State → Prop := fun t => ∃ o, t.status = .running ∧ Ended t below o ∧ lw_Q a s o t
/-- the law's own end, with 1 on the stack, nothing written that was there before, its room as the claim has it -/
theorem lw_ret {p : Program} {l : Launch} {e : Env} {s : State} {m : MethodId} {below : List Frame} {meth : Method} {c : Code} {b : Nat} (hx : p.tables.exec = Jvm.exec) (hb : c.code = code) (hr : meth.sig.returnType = ret) (hlocks : meth.locks = false) {pc : Nat} {H : Heap} {ls : Array Slot} (hdg : decode code pc = .ok (.ireturn, 1)) : W p l e room_1 s m #[Value.ref b] below meth c H [] 600000 7302250 (lw_Z below #[Value.ref b] s) (F0 m pc ls [.int 1]) := by
  intro T hT X
  obtain ⟨fs, hret, hrun, hended, hW, hframe⟩ := X.leave (v := some (.int 1)) (hlocks := hlocks) (fun h => by rw [hr] at h; cases h)
  have hmeth' : T.vm.method? m = some meth := X.method'
  refine ⟨T.setFrames fs, ?_, .returned (some (.int 1)), hrun, hended, rfl, ⟨_, rfl⟩, hW, hframe⟩
  jvm_step X.here [X.here.top, hx, hb, hdg, hmeth', hr, ret, narrow_b1]
  (try refine ⟨rfl, ?_⟩); (try refine ⟨rfl, ?_⟩)
  first | (intro acts; rw [hret _ acts rfl rfl rfl]) | rw [hret _ _ rfl rfl rfl]
  exact Steps.refl _
/-- what holds at the law's entry: the machine, the code, the tables' words (any of lw_tbl by 'hts w (by decide +kernel)'), the script of L ints xs at the cell b, what the Statement gives of the start (any of its parts by flat_of_before) -/
def lw_At (p : Program) (s : State) (m : MethodId) (meth : Method) (c : Code) (b L : Nat) (xs : Nat → Int32) : Prop :=
  p.tables.exec = Jvm.exec ∧ c.code = code ∧ meth.sig.returnType = ret ∧ c.maxLocals = 4 ∧ s.vm.findClass R_law = some m.cls ∧ (∀ w ∈ lw_tbl, w.before #[Value.ref b] s = true) ∧ va_X b L xs s s.heap ∧ b < s.heap.size ∧ meth.locks = false ∧ (Jvm.Cond.and given_1 narrow_1).before #[Value.ref b] s = true ∧ meth.name = "law"
/-! LX: the law's own method, from a start that has the script -/
/-- the script b, its length, its ints; the room; nothing old is written -/
def lx_P (G : on_G) (R : Room) (s : State) (args : Array Value) (Q : Nat × Nat × (Nat → Int32)) : Prop := R = room_1 ∧ args = #[Value.ref Q.1] ∧ va_X Q.1 Q.2.1 Q.2.2 s s.heap ∧ Q.1 < s.heap.size ∧ on_b G = s.heap.size
def lx_E (G : on_G) (M : on_M) (pc : Nat) (lv : on_V) (st : List Value) (h : on_H) (sz bc bs : Nat) (Q : Nat × Nat × (Nat → Int32)) : Prop :=
  ∀ (p : Program) (l : Launch) (e : Env) (R : Room) (s : State) (m : MethodId) (args : Array Value) (below : List Frame) (meth : Method) (c : Code) (H : Heap) (locs : List Loc) (cells slots : Nat) (ls : Array Slot),
    on_Std G M p R s m args meth c → lx_P G R s args Q → on_L ls (on_nL M) lv → on_R G h sz H → va_S (on_A G) s.heap H locs → cells + bc ≤ R.cells → slots + bs ≤ R.slots →
    W p l e R s m args below meth c H locs cells slots (lw_Z below args s) (F0 m pc ls st)
section LXR
variable {G : on_G} {M : on_M} {pc pc' : Nat} {lv : on_V} {st : List Value} {h : on_H} {sz bc bs : Nat} {Q : Nat × Nat × (Nat → Int32)}
theorem lx_iadd {x y : Int32} (hd : on_tb M pc = some (.iadd, 1)) (hp : pc + 1 = pc')  (k : lx_E G M pc' lv (.int (x + y) :: st) h sz bc bs Q) : lx_E G M pc lv (.int y :: .int x :: st) h sz bc bs Q := by
  subst hp
  intro p l e R s m args below meth c H locs cells slots ls S hX hl hR hS hc hs
  exact lv_iadd S.1 S.2.1 (S.dec hd)  (k p l e R s m args below meth c H locs cells slots ls S hX hl hR hS hc hs)
theorem lx_isub {x y : Int32} (hd : on_tb M pc = some (.isub, 1)) (hp : pc + 1 = pc')  (k : lx_E G M pc' lv (.int (x - y) :: st) h sz bc bs Q) : lx_E G M pc lv (.int y :: .int x :: st) h sz bc bs Q := by
  subst hp
  intro p l e R s m args below meth c H locs cells slots ls S hX hl hR hS hc hs
  exact lv_isub S.1 S.2.1 (S.dec hd)  (k p l e R s m args below meth c H locs cells slots ls S hX hl hR hS hc hs)
theorem lx_iand {x y : Int32} (hd : on_tb M pc = some (.iand, 1)) (hp : pc + 1 = pc')  (k : lx_E G M pc' lv (.int (x &&& y) :: st) h sz bc bs Q) : lx_E G M pc lv (.int y :: .int x :: st) h sz bc bs Q := by
  subst hp
  intro p l e R s m args below meth c H locs cells slots ls S hX hl hR hS hc hs
  exact lv_iand S.1 S.2.1 (S.dec hd)  (k p l e R s m args below meth c H locs cells slots ls S hX hl hR hS hc hs)
theorem lx_i2l {x : Int32} (hd : on_tb M pc = some (.i2l, 1)) (hp : pc + 1 = pc')  (k : lx_E G M pc' lv (.long x.toInt64 :: st) h sz bc bs Q) : lx_E G M pc lv (.int x :: st) h sz bc bs Q := by
  subst hp
  intro p l e R s m args below meth c H locs cells slots ls S hX hl hR hS hc hs
  exact lv_i2l S.1 S.2.1 (S.dec hd) rfl (k p l e R s m args below meth c H locs cells slots ls S hX hl hR hS hc hs)
theorem lx_lshl {x : Int64} {y : Int32} (hd : on_tb M pc = some (.lshl, 1)) (hp : pc + 1 = pc')  (k : lx_E G M pc' lv (.long (sl_l x y) :: st) h sz bc bs Q) : lx_E G M pc lv (.int y :: .long x :: st) h sz bc bs Q := by
  subst hp
  intro p l e R s m args below meth c H locs cells slots ls S hX hl hR hS hc hs
  exact lv_lshl S.1 S.2.1 (S.dec hd) rfl (k p l e R s m args below meth c H locs cells slots ls S hX hl hR hS hc hs)
theorem lx_land {x y : Int64} (hd : on_tb M pc = some (.land, 1)) (hp : pc + 1 = pc')  (k : lx_E G M pc' lv (.long (x &&& y) :: st) h sz bc bs Q) : lx_E G M pc lv (.long y :: .long x :: st) h sz bc bs Q := by
  subst hp
  intro p l e R s m args below meth c H locs cells slots ls S hX hl hR hS hc hs
  exact lv_land S.1 S.2.1 (S.dec hd)  (k p l e R s m args below meth c H locs cells slots ls S hX hl hR hS hc hs)
theorem lx_lor {x y : Int64} (hd : on_tb M pc = some (.lor, 1)) (hp : pc + 1 = pc')  (k : lx_E G M pc' lv (.long (x ||| y) :: st) h sz bc bs Q) : lx_E G M pc lv (.long y :: .long x :: st) h sz bc bs Q := by
  subst hp
  intro p l e R s m args below meth c H locs cells slots ls S hX hl hR hS hc hs
  exact lv_lor S.1 S.2.1 (S.dec hd)  (k p l e R s m args below meth c H locs cells slots ls S hX hl hR hS hc hs)
theorem lx_iload_n {k0 : Fin 4} {i : Nat} {x : Int32} (hd : on_tb M pc = some (.iload_n k0, 1)) (hp : pc + 1 = pc') (hi : (k0 : Nat) = i) (hv : lv i = some (.int x)) (k : lx_E G M pc' lv (.int x :: st) h sz bc bs Q) : lx_E G M pc lv (st) h sz bc bs Q := by
  subst hp
  intro p l e R s m args below meth c H locs cells slots ls S hX hl hR hS hc hs
  exact lv_iload_n S.1 S.2.1 (S.dec hd) hi (hl.2.2 _ _ hv) (k p l e R s m args below meth c H locs cells slots ls S hX hl hR hS hc hs)
theorem lx_aload_n {k0 : Fin 4} {i : Nat} {x : Nat} (hd : on_tb M pc = some (.aload_n k0, 1)) (hp : pc + 1 = pc') (hi : (k0 : Nat) = i) (hv : lv i = some (.ref x)) (k : lx_E G M pc' lv (.ref x :: st) h sz bc bs Q) : lx_E G M pc lv (st) h sz bc bs Q := by
  subst hp
  intro p l e R s m args below meth c H locs cells slots ls S hX hl hR hS hc hs
  exact lv_aload_n S.1 S.2.1 (S.dec hd) hi (hl.2.2 _ _ hv) (k p l e R s m args below meth c H locs cells slots ls S hX hl hR hS hc hs)
theorem lx_astore_n {k0 : Fin 4} {i : Nat} {x : Nat} (hd : on_tb M pc = some (.astore_n k0, 1)) (hp : pc + 1 = pc') (hi : (k0 : Nat) = i) (hn : i < on_nL M) (k : lx_E G M pc' (on_s1 lv i (.ref x)) (st) h sz bc bs Q) : lx_E G M pc lv (.ref x :: st) h sz bc bs Q := by
  subst hp
  intro p l e R s m args below meth c H locs cells slots ls S hX hl hR hS hc hs
  exact lv_astore_n S.1 S.2.1 (S.dec hd) hi hl.has hn rfl (fun ls' hl' => k p l e R s m args below meth c H locs cells slots ls' S hX (hl.st1 hl') hR hS hc hs)
theorem lx_istore_n {k0 : Fin 4} {i : Nat} {x : Int32} (hd : on_tb M pc = some (.istore_n k0, 1)) (hp : pc + 1 = pc') (hi : (k0 : Nat) = i) (hn : i < on_nL M) (k : lx_E G M pc' (on_s1 lv i (.int x)) (st) h sz bc bs Q) : lx_E G M pc lv (.int x :: st) h sz bc bs Q := by
  subst hp
  intro p l e R s m args below meth c H locs cells slots ls S hX hl hR hS hc hs
  exact lv_istore_n S.1 S.2.1 (S.dec hd) hi hl.has hn rfl (fun ls' hl' => k p l e R s m args below meth c H locs cells slots ls' S hX (hl.st1 hl') hR hS hc hs)
theorem lx_iconst {n : Int} {v : Int32} (hd : on_tb M pc = some (.iconst n, 1)) (hp : pc + 1 = pc') (hv : Int32.ofInt n = v) (k : lx_E G M pc' lv (.int v :: st) h sz bc bs Q) : lx_E G M pc lv (st) h sz bc bs Q := by
  subst hp
  intro p l e R s m args below meth c H locs cells slots ls S hX hl hR hS hc hs
  exact lv_iconst S.1 S.2.1 (S.dec hd) hv (k p l e R s m args below meth c H locs cells slots ls S hX hl hR hS hc hs)
theorem lx_bipush {n : Int} {v : Int32} (hd : on_tb M pc = some (.bipush n, 2)) (hp : pc + 2 = pc') (hv : (Int8.ofInt n).toInt32 = v) (k : lx_E G M pc' lv (.int v :: st) h sz bc bs Q) : lx_E G M pc lv (st) h sz bc bs Q := by
  subst hp
  intro p l e R s m args below meth c H locs cells slots ls S hX hl hR hS hc hs
  exact lv_bipush S.1 S.2.1 (S.dec hd) hv (k p l e R s m args below meth c H locs cells slots ls S hX hl hR hS hc hs)
theorem lx_dup {va : Value} (hd : on_tb M pc = some (.dup, 1)) (hp : pc + 1 = pc') (hva : va.category = 1) (k : lx_E G M pc' lv (va :: va :: st) h sz bc bs Q) : lx_E G M pc lv (va :: st) h sz bc bs Q := by
  subst hp
  intro p l e R s m args below meth c H locs cells slots ls S hX hl hR hS hc hs
  exact lv_dup S.1 S.2.1 (S.dec hd) hva (k p l e R s m args below meth c H locs cells slots ls S hX hl hR hS hc hs)
theorem lx_goto {off : Int} {tgt : Nat} (hd : on_tb M pc = some (.goto off, 3)) (ht : (pc : Int) + off = (tgt : Int)) (k : lx_E G M tgt lv st h sz bc bs Q) : lx_E G M pc lv st h sz bc bs Q := by
  intro p l e R s m args below meth c H locs cells slots ls S hX hl hR hS hc hs
  exact lv_goto S.1 S.2.1 (S.dec hd) ht (k p l e R s m args below meth c H locs cells slots ls S hX hl hR hS hc hs)
theorem lx_icmp_gt {x y : Int32} {off : Int} {tgt : Nat} (hd : on_tb M pc = some (.if_icmp .gt off, 3)) (hp : pc + 3 = pc') (ht : (pc : Int) + off = (tgt : Int)) (kt : y < x → lx_E G M tgt lv st h sz bc bs Q) (kf : ¬ y < x → lx_E G M pc' lv st h sz bc bs Q) : lx_E G M pc lv (.int y :: .int x :: st) h sz bc bs Q := by
  subst hp
  intro p l e R s m args below meth c H locs cells slots ls S hX hl hR hS hc hs
  exact lv_icmp_gt S.1 S.2.1 (S.dec hd) ht (fun c0 => kt c0 p l e R s m args below meth c H locs cells slots ls S hX hl hR hS hc hs) (fun c0 => kf c0 p l e R s m args below meth c H locs cells slots ls S hX hl hR hS hc hs)
theorem lx_icmp_eq {x y : Int32} {off : Int} {tgt : Nat} (hd : on_tb M pc = some (.if_icmp .eq off, 3)) (hp : pc + 3 = pc') (ht : (pc : Int) + off = (tgt : Int)) (kt : x = y → lx_E G M tgt lv st h sz bc bs Q) (kf : ¬ x = y → lx_E G M pc' lv st h sz bc bs Q) : lx_E G M pc lv (.int y :: .int x :: st) h sz bc bs Q := by
  subst hp
  intro p l e R s m args below meth c H locs cells slots ls S hX hl hR hS hc hs
  exact lv_icmp_eq S.1 S.2.1 (S.dec hd) ht (fun c0 => kt c0 p l e R s m args below meth c H locs cells slots ls S hX hl hR hS hc hs) (fun c0 => kf c0 p l e R s m args below meth c H locs cells slots ls S hX hl hR hS hc hs)
theorem lx_tableIn {dflt lo hi : Int} {offs : Array Int} {len : Nat} {x : Int32} {off : Int} {tgt : Nat} (hd : on_tb M pc = some (.tableswitch dflt lo hi offs, len)) (h1 : ¬ x.toInt < lo) (h2 : ¬ hi < x.toInt) (ho : offs[(x.toInt - lo).toNat]? = some off) (ht : (pc : Int) + off = (tgt : Int)) (k : lx_E G M tgt lv st h sz bc bs Q) : lx_E G M pc lv (.int x :: st) h sz bc bs Q := by
  intro p l e R s m args below meth c H locs cells slots ls S hX hl hR hS hc hs
  exact lv_tableIn S.1 S.2.1 (S.dec hd) h1 h2 ho ht (k p l e R s m args below meth c H locs cells slots ls S hX hl hR hS hc hs)
theorem lx_tableOut {dflt lo hi : Int} {offs : Array Int} {len : Nat} {x : Int32} {tgt : Nat} (hd : on_tb M pc = some (.tableswitch dflt lo hi offs, len)) (hx : x.toInt < lo ∨ hi < x.toInt) (ht : (pc : Int) + dflt = (tgt : Int)) (k : lx_E G M tgt lv st h sz bc bs Q) : lx_E G M pc lv (.int x :: st) h sz bc bs Q := by
  intro p l e R s m args below meth c H locs cells slots ls S hX hl hR hS hc hs
  exact lv_tableOut S.1 S.2.1 (S.dec hd) hx ht (k p l e R s m args below meth c H locs cells slots ls S hX hl hR hS hc hs)
theorem lx_iinc {i : Nat} {n : Int} {x v : Int32} (hd : on_tb M pc = some (.iinc i n, 3)) (hp : pc + 3 = pc') (hx : lv i = some (.int x)) (hv : x + Int32.ofInt n = v) (k : lx_E G M pc' (on_s1 lv i (.int v)) st h sz bc bs Q) : lx_E G M pc lv st h sz bc bs Q := by
  subst hp
  intro p l e R s m args below meth c H locs cells slots ls S hX hl hR hS hc hs
  obtain ⟨kk, hkk⟩ := List.mem_iff_getElem?.mp (on_ll_mem.mpr ⟨hl.inb hx, hx⟩)
  exact lv_iinc S.1 S.2.1 (S.dec hd) hl.has hkk hv (hl.inb hx) rfl (fun ls' hl' => k p l e R s m args below meth c H locs cells slots ls' S hX (hl.st1 hl') hR hS hc hs)
theorem lx_ldc2 {index : Nat} {v : Int64} (hd : on_tb M pc = some (.ldc2_w index, 3)) (hp : pc + 3 = pc') (hw : Cond.constantLong (on_y M).cls index v ∈ on_W) (k : lx_E G M pc' lv (.long v :: st) h sz bc bs Q) : lx_E G M pc lv st h sz bc bs Q := by
  subst hp
  intro p l e R s m args below meth c H locs cells slots ls S hX hl hR hS hc hs
  exact lv_ldc2 S.1 S.2.1 S.2.2.2.2.2.2.1 (S.2.2.2.2.2.2.2.1 _ hw) (S.dec hd) (k p l e R s m args below meth c H locs cells slots ls S hX hl hR hS hc hs)
theorem lx_callI {M2 : on_M} {idx n b mc ms : Nat} {As rest : List Value} {Q2 : Option Value → on_H → Nat → Prop} (hd : on_tb M pc = some (.invokespecial idx, 3)) (hp : pc + 3 = pc') (hC : on_CI M M2 idx n) (hst : st = As.reverse ++ .ref b :: rest) (hn : As.length = n) (hrest : (rest.map fun v => v.category).sum ≤ 8) (hmc : mc ≤ bc) (hms : ms ≤ bs)
    (hM : on_Ct G M2 (.ref b :: As) h sz mc ms Q2) (k : ∀ (r : Option Value) (h1 : on_H) (sz1 : Nat), Q2 r h1 sz1 → lx_E G M pc' lv (r.toList ++ rest) h1 sz1 (bc - mc) (bs - ms) Q) : lx_E G M pc lv st h sz bc bs Q := by
  subst hp
  intro p l e R s m args below meth c H locs cells slots ls S hX hl hR hS hc hs
  obtain ⟨hCB, c1, c2, c3⟩ := hC
  have hts := S.2.2.2.2.2.2.2.1
  have hCB2 : CallB R s args (on_y M).cls idx (on_y M2) (on_cc M2) (on_nL M2) none (on_ws M2) (on_rm M2 mc ms) mc ms n := by
    have := on_callB (mc := mc) (ms := ms) S hCB
    rw [c2] at this
    exact this
  refine on_after (va_runI (Ts := on_W) (As := As) (rest := rest) (b := b) ⟨S.1, S.2.1, S.2.2.1, S.2.2.2.2.2.2.1, hts⟩ (hM l) ⟨hCB2, c1, hts _ c3⟩ ⟨on_blind, on_pre S hR hS⟩ rfl hn hl.1 hst (by show 2 * 0 + _ ≤ 8; omega) (S.dec hd) ⟨by omega, by omega⟩) hS (fun r h1 sz1 H1 locs1 hq hR1 hS1 => ?_)
  exact k r h1 sz1 hq p l e R s m args below meth c H1 locs1 _ _ ls S hX hl hR1 hS1 (by omega) (by omega)
theorem lx_callV {M2 : on_M} {idx n ci b mc ms : Nat} {As rest fs : List Value} {Q2 : Option Value → on_H → Nat → Prop} (hd : on_tb M pc = some (.invokevirtual idx, 3)) (hp : pc + 3 = pc') (hC : on_CV M M2 idx n ci) (hb : h b = some (.inr (ci, fs))) (hst : st = As.reverse ++ .ref b :: rest) (hn : As.length = n) (hrest : (rest.map fun v => v.category).sum ≤ 8) (hmc : mc ≤ bc) (hms : ms ≤ bs)
    (hM : on_Ct G M2 (.ref b :: As) h sz mc ms Q2) (k : ∀ (r : Option Value) (h1 : on_H) (sz1 : Nat), Q2 r h1 sz1 → lx_E G M pc' lv (r.toList ++ rest) h1 sz1 (bc - mc) (bs - ms) Q) : lx_E G M pc lv st h sz bc bs Q := by
  subst hp
  intro p l e R s m args below meth c H locs cells slots ls S hX hl hR hS hc hs
  obtain ⟨hCB, c1, c2, q, c3, c4⟩ := hC
  have hts := S.2.2.2.2.2.2.2.1
  have hrecv := va_recv (q0 := 0) (fs := fs) S.2.2.2.2.2.2.2.2.1.1 (hR.one hb) c3 rfl
  rw [c4] at hrecv
  refine on_after (va_runV (C := (on_y M2).cls) (Ts := on_W) (As := As) (rest := rest) ⟨S.1, S.2.1, S.2.2.1, S.2.2.2.2.2.2.1, hts⟩ (hM l) ⟨on_callB S hCB, hts _ c1, hts _ c2⟩ ⟨on_blind, hrecv, on_pre S hR hS⟩ rfl hn hl.1 hst (by show 2 * 0 + _ ≤ 8; omega) (S.dec hd) ⟨by omega, by omega⟩) hS (fun r h1 sz1 H1 locs1 hq hR1 hS1 => ?_)
  exact k r h1 sz1 hq p l e R s m args below meth c H1 locs1 _ _ ls S hX hl hR1 hS1 (by omega) (by omega)
theorem lx_new {ci index N : Nat} {ty : Nat → FieldType} {fs : List Value} (hd : on_tb M pc = some (.new index, 3)) (hp : pc + 3 = pc') (hN : on_NW (on_y M).cls index ci N ty) (hfs : ∀ j, j < N → defaultValue (ty j) = vp_V fs j) (hbc : 1 ≤ bc) (hbs : N ≤ bs) (kk : lx_E G M pc' lv (.ref sz :: st) (on_up h sz (.inr (ci, fs))) (sz + 1) (bc - 1) (bs - N) Q) : lx_E G M pc lv st h sz bc bs Q := by
  subst hp
  intro p l e R s m args below meth c H locs cells slots ls S hX hl hR hS hc hs
  obtain ⟨⟨C, T, N'⟩, hcl, rfl, hin, hty, w1, w2, w3⟩ := hN
  have hts := S.2.2.2.2.2.2.2.1
  have hKn := S.2.2.2.2.2.2.2.2.1.1.1 ci _ hcl
  have hbz : on_b G ≤ sz := Nat.le_trans S.2.2.2.2.2.2.2.2.2.2.2.1 (by rw [← hR.1]; exact hS.1)
  refine W.newcK S.1 S.2.1 S.2.2.2.2.2.2.1 (hts _ w1) (hts _ w2) (hts _ w3) rfl (S.dec hd) (by omega) (by dsimp only at hbs ⊢; omega) hKn.2.1 hR.1 fun H1 kC hkC e1 z1 o1 => ?_
  exact kk p l e R s m args below meth c H1 locs (cells + 1) (slots + N') ls S hX hl (hR.push z1 o1 hbz ⟨_, hcl, (u_born ty hts hin hKn hkC e1 hty).to hfs⟩) (on_S_push hS hR.1 z1 o1) (by omega) (by dsimp only at hbs ⊢; omega)
theorem lx_relv {l : List (Nat × Value)} (hs : on_lvs lv l) (k : lx_E G M pc (on_l l) st h sz bc bs Q) : lx_E G M pc lv st h sz bc bs Q := by
  intro p l0 e R s m args below meth c H locs cells slots ls S hX hl hR hS hc hs2
  exact k p l0 e R s m args below meth c H locs cells slots ls S hX ⟨hl.1, hl.2.1, fun i v hi => hl.2.2 i v (on_lvs_mem hs (i, v) (on_l_mem hi))⟩ hR hS hc hs2
theorem lx_budget {bc2 bs2 : Nat} (hc : bc2 ≤ bc) (hs : bs2 ≤ bs) (k : lx_E G M pc lv st h sz bc2 bs2 Q) : lx_E G M pc lv st h sz bc bs Q := by
  intro p l e R s m args below meth c H locs cells slots ls S hX hl hR hS h1 h2
  exact k p l e R s m args below meth c H locs cells slots ls S hX hl hR hS (by omega) (by omega)
/-- the script's length -/
theorem lx_slen (hd : on_tb M pc = some (.arraylength, 1)) (hp : pc + 1 = pc') (kk : lx_E G M pc' lv (.int (nI Q.2.1) :: st) h sz bc bs Q) : lx_E G M pc lv (.ref Q.1 :: st) h sz bc bs Q := by
  subst hp
  intro p l e R s m args below meth c H locs cells slots ls S hX hl hR hS hc hs
  exact va_slen S.1 S.2.1 hX.2.2.1 hX.2.2.2.1 (fun z => absurd hX.2.2.2.1 (by have z : on_b G ≤ Q.1 := z; have := hX.2.2.2.2; omega)) hS (S.dec hd) (kk p l e R s m args below meth c H locs cells slots ls S hX hl hR hS hc hs)
/-- an int of the script -/
theorem lx_sld {k : Nat} {i : Int32} (hd : on_tb M pc = some (.iaload, 1)) (hp : pc + 1 = pc') (hi : i = nI k) (hk : k < Q.2.1 ∧ Q.2.1 < 2 ^ 31) (kk : lx_E G M pc' lv (.int (Q.2.2 k) :: st) h sz bc bs Q) : lx_E G M pc lv (.int i :: .ref Q.1 :: st) h sz bc bs Q := by
  subst hp
  subst hi
  intro p l e R s m args below meth c H locs cells slots ls S hX hl hR hS hc hs
  have hc0 : (nI k).toNatClampNeg = k := nI_clamp (by omega)
  refine va_sld S.1 S.2.1 hX.2.2.1 hX.2.2.2.1 (fun z => absurd hX.2.2.2.1 (by have z : on_b G ≤ Q.1 := z; have := hX.2.2.2.2; omega)) hS (vp_in_nI hk.1 hk.2) (S.dec hd) ?_
  rw [hc0]
  exact kk p l e R s m args below meth c H locs cells slots ls S hX hl hR hS hc hs
/-- the law's end -/
theorem lx_ret (hM : on_cc M = code) (hr : on_rt M = ret) (hd : on_tb M pc = some (.ireturn, 1)) : lx_E G M pc lv [.int 1] h sz bc bs Q := by
  intro p l e R s m args below meth c H locs cells slots ls S hX hl hR hS hc hs
  obtain ⟨rfl, rfl, hX1, hbl, hbz⟩ := hX
  refine va_forget (fun q hq => by rw [← hbz]; exact hS.2.2 q hq) ?_
  have h1 : cells + bc ≤ 600000 := hc
  have h2 : slots + bs ≤ 7302250 := hs
  refine W.widen (k := 600000) (n := 7302250) (by omega) (by omega) ?_
  exact lw_ret S.1 (S.2.1.trans hM) (S.2.2.2.1.trans hr) S.2.2.2.2.1 (by rw [← hM]; exact S.dec hd)
end LXR
