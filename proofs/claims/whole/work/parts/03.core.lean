/-! ON: the walk of one method as a judgement over an abstract heap (a function from addresses to cells) -/
abbrev on_H : Type := Nat → Option va_E
abbrev on_G : Type := va_G × (Nat → ClassId) × Nat × (Nat → Nat)
abbrev on_b (G : on_G) : Nat := G.2.2.1
abbrev on_sa (G : on_G) : Nat → Nat := G.2.2.2
/-- a method: its name, its code, its locals, its return type, the frames and the words of stack that it may open, its instructions by their places -/
abbrev on_M : Type := MethodName × ByteArray × Nat × Option FieldType × Nat × Nat × (Nat → Option (Instr × Nat))
abbrev on_V : Type := Nat → Option Value
abbrev on_y (M : on_M) : MethodName := M.1
abbrev on_cc (M : on_M) : ByteArray := M.2.1
abbrev on_nL (M : on_M) : Nat := M.2.2.1
abbrev on_rt (M : on_M) : Option FieldType := M.2.2.2.1
abbrev on_fr (M : on_M) : Nat := M.2.2.2.2.1
abbrev on_lo (M : on_M) : Nat := M.2.2.2.2.2.1
abbrev on_tb (M : on_M) : Nat → Option (Instr × Nat) := M.2.2.2.2.2.2
def on_ok (M : on_M) : Prop := ∀ (pc : Nat) (q : Instr × Nat), on_tb M pc = some q → decode (on_cc M) pc = .ok q
def on_t (n : Nat) (f : Nat → Option (Instr × Nat)) : Nat → Option (Instr × Nat) := fun pc => bif Nat.blt pc n then f pc else none
def on_ck (c : ByteArray) (n : Nat) (f : Nat → Option (Instr × Nat)) : Bool := (List.range n).all (fun pc => match f pc with | some q => decide (decode c pc = .ok q) | none => true)
theorem on_ck_ok {c : ByteArray} {n : Nat} {f : Nat → Option (Instr × Nat)} (h : on_ck c n f = true) (pc : Nat) (q : Instr × Nat) (hq : on_t n f pc = some q) : decode c pc = .ok q := by
  unfold on_t at hq
  by_cases hb : Nat.blt pc n = true
  · rw [hb, cond_true] at hq
    have h1 := List.all_eq_true.mp h pc (List.mem_range.mpr (Nat.blt_eq.mp hb))
    rw [hq] at h1
    exact of_decide_eq_true h1
  · rw [Bool.not_eq_true] at hb
    rw [hb, cond_false] at hq
    cases hq
/-- a method's words: its own code, and the common list -/
abbrev on_ws (M : on_M) : List Cond := Cond.code (on_y M) (on_cc M) (on_nL M) (on_rt M) :: on_W
def on_up (h : on_H) (a : Nat) (e : va_E) : on_H := fun q => if q = a then some e else h q
theorem on_up_eq (h : on_H) (a : Nat) (e : va_E) : on_up h a e a = some e := if_pos rfl
theorem on_up_ne {h : on_H} {a q : Nat} {e : va_E} (n : q ≠ a) : on_up h a e q = h q := if_neg n
theorem on_up_up (h : on_H) (a : Nat) (e e2 : va_E) : on_up (on_up h a e) a e2 = on_up h a e2 := by
  funext q
  by_cases k : q = a
  · simp [on_up, k]
  · simp [on_up, k]
theorem on_up_self {h : on_H} {a : Nat} {e : va_E} (k : h a = some e) : on_up h a e = h := by
  funext q
  by_cases k2 : q = a
  · subst k2; rw [on_up_eq, k]
  · rw [on_up_ne k2]
theorem on_up_comm {h : on_H} {a b : Nat} {e e2 : va_E} (n : a ≠ b) : on_up (on_up h a e) b e2 = on_up (on_up h b e2) a e := by
  funext q
  by_cases k : q = a
  · subst k; simp [on_up, n]
  · simp [on_up, k]
def on_c (dA : Nat → ClassId) (e : va_E) : va_E := match e with
  | .inl x => .inl (dA x.1, x.2)
  | .inr o => .inr o
abbrev on_A (G : on_G) : Nat → Prop := fun q => on_b G ≤ q
theorem on_Nw {w : Cond} (hk : on_W2k w = true) {s U : State} (hW : s.WarmedH U.vm) (h : va_Nw w s) : va_Nw w U := by
  cases w with
  | fieldLinkNest a i b n d x => exact va_Nw.warmF hW h
  | methodLinkNest a i x y => exact va_Nw.warmM hW h
  | arrayOver t =>
    cases t with
    | object C => exact va_AO.moved hW.alike h
    | array t => exact mg_mv hW.alike h
    | _ => simp [on_W2k] at hk
  | _ => simp [on_W2k] at hk
theorem on_Nw_same {w : Cond} (hk : on_W2k w = true) {u U : State} (hv : u.vm = U.vm) (h : va_Nw w u) : va_Nw w U := by
  cases w with
  | fieldLinkNest a i b n d x => exact va_Nw.same rfl hv h
  | methodLinkNest a i x y => exact va_Nw.same rfl hv h
  | arrayOver t =>
    cases t with
    | object C => exact va_AO.moved (hv ▸ Vm.Alike.refl u.vm) h
    | array t => exact mg_mv (hv ▸ Vm.Alike.refl u.vm) h
    | _ => simp [on_W2k] at hk
  | _ => simp [on_W2k] at hk
theorem on_W2_use {w : Cond} (hk : on_W2k w = true) {A : Array Value} {U : State} (h : va_Nw w U) : w.before A U = true := by
  cases w with
  | fieldLinkNest a i b n d x => exact va_Nw.use rfl h
  | methodLinkNest a i x y => exact va_Nw.use rfl h
  | arrayOver t =>
    cases t with
    | object C => exact va_AO.use h
    | array t => exact h
    | _ => simp [on_W2k] at hk
  | _ => simp [on_W2k] at hk
/-- rows of int rows: their components are the int rows -/
def on_MA (G : on_G) (s : State) : Prop := ∃ kA : Class, s.vm.classes[G.2.1 3]? = some kA ∧ kA.kind = .array (G.2.1 0) (.array .int)
theorem on_MA.moved {G : on_G} {u U : State} (hvm : u.vm.Alike U.vm) (h : on_MA G u) : on_MA G U := by
  obtain ⟨k, h1, h2⟩ := h
  obtain ⟨k1, g1, g2⟩ := hvm.2.2 _ _ h1
  exact ⟨k1, g1, by rw [g2]; exact h2⟩
def on_K (G : on_G) (s : State) : Prop := va_K G.1 on_cl [] s ∧ (∀ (t : Nat) (ty : FieldType), on_tyl[t]? = some ty → ArrOfT s (G.2.1 t) ty ∧ va_RA s (G.2.1 t) ty) ∧ (∀ w ∈ on_W2, va_Nw w s) ∧ on_MA G s
theorem on_K.warm {G : on_G} {u U : State} (hW : u.WarmedH U.vm) (h : on_K G u) : on_K G U := ⟨h.1.moved hW.alike, fun t ty ht => ⟨arrOfT_moved hW.alike (h.2.1 t ty ht).1, (h.2.1 t ty ht).2.moved hW.alike⟩, fun w hw => on_Nw (List.mem_filter.mp hw).2 hW (h.2.2.1 w hw), h.2.2.2.moved hW.alike⟩
theorem on_K.same {G : on_G} {u U : State} (hv : u.vm = U.vm) (h : on_K G u) : on_K G U := ⟨h.1.moved (hv ▸ Vm.Alike.refl u.vm), fun t ty ht => ⟨arrOfT_moved (hv ▸ Vm.Alike.refl u.vm) (h.2.1 t ty ht).1, (h.2.1 t ty ht).2.moved (hv ▸ Vm.Alike.refl u.vm)⟩, fun w hw => on_Nw_same (List.mem_filter.mp hw).2 hv (h.2.2.1 w hw), h.2.2.2.moved (hv ▸ Vm.Alike.refl u.vm)⟩
theorem on_K.nest {G : on_G} {s : State} {w : Cond} {A : Array Value} (h : on_K G s) (hw : w ∈ on_W2) : w.before A s = true := on_W2_use (List.mem_filter.mp hw).2 (h.2.2.1 w hw)
def on_R (G : on_G) (h : on_H) (sz : Nat) (H : Heap) : Prop := H.size = sz ∧ ∀ (a : Nat) (e : va_E), h a = some e → on_b G ≤ a ∧ va_at G.1 on_cl (a, on_c G.2.1 e) H
theorem on_R.set {G : on_G} {h : on_H} {sz a : Nat} {e : va_E} {H H1 : Heap} (hR : on_R G h sz H) (z : H1.size = H.size) (oq : ∀ q : Nat, q ≠ a → H1[q]? = H[q]?) (hb : on_b G ≤ a) (he : va_at G.1 on_cl (a, on_c G.2.1 e) H1) : on_R G (on_up h a e) sz H1 := by
  refine ⟨z.trans hR.1, fun b e2 hb2 => ?_⟩
  by_cases k : b = a
  · subst k
    rw [on_up_eq] at hb2
    obtain rfl := Option.some.inj hb2
    exact ⟨hb, he⟩
  · rw [on_up_ne k] at hb2
    obtain ⟨h1, h2⟩ := hR.2 b e2 hb2
    exact ⟨h1, h2.kept (oq b k)⟩
theorem on_R.push {G : on_G} {h : on_H} {sz : Nat} {e : va_E} {H H1 : Heap} (hR : on_R G h sz H) (z : H1.size = sz + 1) (oq : ∀ q : Nat, q < sz → H1[q]? = H[q]?) (hb : on_b G ≤ sz) (he : va_at G.1 on_cl (sz, on_c G.2.1 e) H1) : on_R G (on_up h sz e) (sz + 1) H1 := by
  refine ⟨z, fun b e2 hb2 => ?_⟩
  by_cases k : b = sz
  · subst k
    rw [on_up_eq] at hb2
    obtain rfl := Option.some.inj hb2
    exact ⟨hb, he⟩
  · rw [on_up_ne k] at hb2
    obtain ⟨h1, h2⟩ := hR.2 b e2 hb2
    have hl : b < H.size := h2.lt
    exact ⟨h1, h2.kept (oq b (by rw [← hR.1]; exact hl))⟩
theorem on_R.lt {G : on_G} {h : on_H} {sz a : Nat} {e : va_E} {H : Heap} (hR : on_R G h sz H) (ha : h a = some e) : a < sz := by
  have := (hR.2 a e ha).2.lt
  rw [hR.1] at this
  exact this
/-- locals as a function -/
def on_L (ls : Array Slot) (nL : Nat) (lv : on_V) : Prop := ls.size = nL ∧ lv_wf ls ∧ ∀ (i : Nat) (v : Value), lv i = some v → ls[i]? = some (.val v)
def on_c1 (v : Option Value) : Option Value := match v with
  | some (.long _) => none
  | some (.double _) => none
  | x => x
def on_s1 (lv : on_V) (i : Nat) (v : Value) : on_V := fun j => bif Nat.beq j i then some v else bif Nat.beq (j + 1) i then on_c1 (lv j) else lv j
def on_s2 (lv : on_V) (i : Nat) (v : Value) : on_V := fun j => bif Nat.beq j i then some v else bif Nat.beq j (i + 1) then none else bif Nat.beq (j + 1) i then on_c1 (lv j) else lv j
def on_l : List (Nat × Value) → on_V
  | [] => fun _ => none
  | q :: r => fun j => bif Nat.beq j q.1 then some q.2 else on_l r j
theorem on_c1_some {v : Option Value} {x : Value} (h : on_c1 v = some x) : v = some x ∧ ¬ x.category = 2 := by
  unfold on_c1 at h
  split at h
  · cases h
  · cases h
  · rename_i h1 h2
    subst h
    refine ⟨rfl, fun hc => ?_⟩
    cases x with
    | long y => exact h1 y rfl
    | double y => exact h2 y rfl
    | _ => simp [Value.category] at hc
def on_ll (nL : Nat) (lv : on_V) : List (Nat × Value) := (List.range nL).filterMap (fun j => (lv j).map (fun v => (j, v)))
theorem on_ll_mem {nL : Nat} {lv : on_V} {j : Nat} {v : Value} : (j, v) ∈ on_ll nL lv ↔ j < nL ∧ lv j = some v := by
  unfold on_ll
  rw [List.mem_filterMap]
  constructor
  · rintro ⟨k, h1, h2⟩
    cases hk : lv k with
    | none => rw [hk] at h2; cases h2
    | some x =>
      rw [hk] at h2
      simp only [Option.map_some, Option.some.injEq, Prod.mk.injEq] at h2
      obtain ⟨rfl, rfl⟩ := h2
      exact ⟨List.mem_range.mp h1, hk⟩
  · rintro ⟨h1, h2⟩
    exact ⟨j, List.mem_range.mpr h1, by rw [h2]; rfl⟩
theorem on_L.has {ls : Array Slot} {nL : Nat} {lv : on_V} (h : on_L ls nL lv) : lv_has ls nL (on_ll nL lv) := ⟨h.1, h.2.1, fun q hq => h.2.2 q.1 q.2 (on_ll_mem.mp hq).2⟩
theorem on_L.inb {ls : Array Slot} {nL : Nat} {lv : on_V} (h : on_L ls nL lv) {j : Nat} {v : Value} (hj : lv j = some v) : j < nL := by
  have := h.2.2 j v hj
  rw [← h.1]
  exact (Array.getElem?_eq_some_iff.mp this).1
theorem on_L.st1 {ls ls' : Array Slot} {nL i : Nat} {lv : on_V} {v : Value} (h : on_L ls nL lv) (h' : lv_has ls' nL ((i, v) :: (on_ll nL lv).filter (fun q => !(q.1 == i) && !(q.1 + 1 == i && q.2.category == 2)))) : on_L ls' nL (on_s1 lv i v) := by
  refine ⟨h'.1, h'.2.1, fun j x hx => ?_⟩
  unfold on_s1 at hx
  by_cases k : j = i
  · subst k
    rw [Nat.beq_refl, cond_true] at hx
    obtain rfl := Option.some.inj hx
    exact h'.2.2 (j, v) List.mem_cons_self
  · have kb : Nat.beq j i = false := by rw [← Bool.not_eq_true, Nat.beq_eq]; exact k
    rw [kb, cond_false] at hx
    refine h'.2.2 (j, x) (List.mem_cons_of_mem _ (List.mem_filter.mpr ?_))
    by_cases k2 : j + 1 = i
    · subst k2
      rw [Nat.beq_refl, cond_true] at hx
      obtain ⟨h1, h2⟩ := on_c1_some hx
      refine ⟨on_ll_mem.mpr ⟨h.inb h1, h1⟩, ?_⟩
      simp [h2]
    · have kb2 : Nat.beq (j + 1) i = false := by rw [← Bool.not_eq_true, Nat.beq_eq]; exact k2
      rw [kb2, cond_false] at hx
      refine ⟨on_ll_mem.mpr ⟨h.inb hx, hx⟩, ?_⟩
      simp [k, k2]
theorem on_L.st2 {ls ls' : Array Slot} {nL i : Nat} {lv : on_V} {v : Value} (h : on_L ls nL lv) (h' : lv_has ls' nL ((i, v) :: (on_ll nL lv).filter (fun q => !(q.1 == i) && (!(q.1 == i + 1) && !(q.1 + 1 == i && q.2.category == 2))))) : on_L ls' nL (on_s2 lv i v) := by
  refine ⟨h'.1, h'.2.1, fun j x hx => ?_⟩
  unfold on_s2 at hx
  by_cases k : j = i
  · subst k
    rw [Nat.beq_refl, cond_true] at hx
    obtain rfl := Option.some.inj hx
    exact h'.2.2 (j, v) List.mem_cons_self
  · have kb : Nat.beq j i = false := by rw [← Bool.not_eq_true, Nat.beq_eq]; exact k
    rw [kb, cond_false] at hx
    by_cases k3 : j = i + 1
    · subst k3
      rw [Nat.beq_refl, cond_true] at hx
      cases hx
    have kb3 : Nat.beq j (i + 1) = false := by rw [← Bool.not_eq_true, Nat.beq_eq]; exact k3
    rw [kb3, cond_false] at hx
    refine h'.2.2 (j, x) (List.mem_cons_of_mem _ (List.mem_filter.mpr ?_))
    by_cases k2 : j + 1 = i
    · subst k2
      rw [Nat.beq_refl, cond_true] at hx
      obtain ⟨h1, h2⟩ := on_c1_some hx
      refine ⟨on_ll_mem.mpr ⟨h.inb h1, h1⟩, ?_⟩
      simp [h2]
      omega
    · have kb2 : Nat.beq (j + 1) i = false := by rw [← Bool.not_eq_true, Nat.beq_eq]; exact k2
      rw [kb2, cond_false] at hx
      refine ⟨on_ll_mem.mpr ⟨h.inb hx, hx⟩, ?_⟩
      simp [k, k2, k3]
theorem on_l_mem {l : List (Nat × Value)} {j : Nat} {v : Value} (h : on_l l j = some v) : (j, v) ∈ l := by
  induction l with
  | nil => cases h
  | cons q r ih =>
    unfold on_l at h
    by_cases k : j = q.1
    · subst k
      rw [Nat.beq_refl, cond_true] at h
      obtain rfl := Option.some.inj h
      exact List.mem_cons_self
    · have kb : Nat.beq j q.1 = false := by rw [← Bool.not_eq_true, Nat.beq_eq]; exact k
      rw [kb, cond_false] at h
      exact List.mem_cons_of_mem _ (ih h)
/-- the constant rows of the classes: where they lie, what they hold -/
def on_St0 (G : on_G) (U : State) (H : Heap) : Prop := ∀ (k : Nat) (q : String × String × List Int32), on_stl[k]? = some q → va_Z q.1 q.2.1 "[I" (.ref (on_sa G k)) (on_A G) U H ∧ va_T .int (on_sa G k) q.2.2.length (fun j => .int (q.2.2.getD j 0)) (on_A G) U H
/-- the two words of the reference -/
def on_sxl : List Nat := [8, 16]
def on_sxb : List (List Int32) := [[79, 78, 73, 79, 78, 78, 69, 84], [101, 120, 112, 97, 110, 100, 32, 51, 50, 45, 98, 121, 116, 101, 32, 107]]
def on_Sx (G : on_G) (U : State) (H : Heap) : Prop := vk_S 2 on_sxl on_sxb (fun i => on_sa G (10 + i)) (fun i => on_sa G (20 + i)) (on_A G) U H ∧ vk_R "OnionNetModel" 147 "ONIONNET" (on_sa G 10) U ∧ vk_R "OnionNetModel" 226 "expand 32-byte k" (on_sa G 11) U ∧ va_Z "java/lang/String" "COMPACT_STRINGS" "Z" (.int 1) (on_A G) U H ∧ ∃ r : Option Nat, va_Z "jdk/internal/util/Preconditions" "SIOOBE_FORMATTER" "Ljava/util/function/BiFunction;" (va_rf r) (on_A G) U H
def on_St (G : on_G) (U : State) (H : Heap) : Prop := on_St0 G U H ∧ on_Sx G U H
theorem on_St.warm {G : on_G} {u U : State} {H : Heap} (hW : u.WarmedH U.vm) (h : on_St G u H) : on_St G U H := ⟨fun k q hk => ⟨(h.1 k q hk).1.moved hW.alike, (h.1 k q hk).2.moved hW.alike⟩, h.2.1.moved hW.alike, h.2.2.1.warm hW, h.2.2.2.1.warm hW, h.2.2.2.2.1.moved hW.alike, h.2.2.2.2.2.elim fun r q => ⟨r, q.moved hW.alike⟩⟩
theorem on_St.same {G : on_G} {u U : State} {H : Heap} (hv : U.vm = u.vm) (h : on_St G u H) : on_St G U H := by
  have ha : u.vm.Alike U.vm := by rw [hv]; exact Vm.Alike.refl u.vm
  exact ⟨fun k q hk => ⟨(h.1 k q hk).1.moved ha, (h.1 k q hk).2.moved ha⟩, h.2.1.moved ha, h.2.2.1.same hv, h.2.2.2.1.same hv, h.2.2.2.2.1.moved ha, h.2.2.2.2.2.elim fun r q => ⟨r, q.moved ha⟩⟩
theorem on_St.kept {G : on_G} {U : State} {H H1 : Heap} (h : on_St G U H) (hq : ∀ a : Nat, a < H.size → ¬ on_A G a → H1[a]? = H[a]?) : on_St G U H1 := ⟨fun k q hk => ⟨(h.1 k q hk).1.kept hq, (h.1 k q hk).2.kept hq⟩, h.2.1.kept hq, h.2.2.1, h.2.2.2.1, h.2.2.2.2.1.kept hq, h.2.2.2.2.2.elim fun r q => ⟨r, q.kept hq⟩⟩
/-- what stands in a method's frame all along -/
def on_Std (G : on_G) (M : on_M) (p : Program) (R : Room) (s : State) (m : MethodId) (args : Array Value) (meth : Method) (c : Code) : Prop :=
  p.tables.exec = Jvm.exec ∧ c.code = on_cc M ∧ c.maxLocals = on_nL M ∧ meth.sig.returnType = on_rt M ∧ meth.locks = false ∧ meth.name = (on_y M).name ∧ s.vm.findClass (on_y M).cls = some m.cls ∧ (∀ w ∈ on_W, w.before args s = true) ∧ on_K G s ∧ R.frames = on_fr M ∧ R.locals = on_lo M ∧ on_b G ≤ s.heap.size ∧ on_St G s s.heap ∧ on_ok M
section ONS
variable {G : on_G} {M : on_M} {p : Program} {R : Room} {s : State} {m : MethodId} {args : Array Value} {meth : Method} {c : Code}
theorem on_Std.dec {pc : Nat} {q : Instr × Nat} (S : on_Std G M p R s m args meth c) (h : on_tb M pc = some q) : decode (on_cc M) pc = .ok q := S.2.2.2.2.2.2.2.2.2.2.2.2.2 pc q h
theorem on_Std.sta (S : on_Std G M p R s m args meth c) : on_St G s s.heap := S.2.2.2.2.2.2.2.2.2.2.2.2.1
theorem on_Std.st (S : on_Std G M p R s m args meth c) : on_St0 G s s.heap := S.2.2.2.2.2.2.2.2.2.2.2.2.1.1
theorem on_Std.sx (S : on_Std G M p R s m args meth c) : on_Sx G s s.heap := S.2.2.2.2.2.2.2.2.2.2.2.2.1.2
end ONS
def on_Qc (G : on_G) (Q : Option Value → on_H → Nat → Prop) : Array Value → State → Outcome → State → Prop := fun _ st o t => (∃ (r : Option Value) (h : on_H) (sz : Nat), o = .returned r ∧ Q r h sz ∧ on_R G h sz t.heap) ∧ va_F (on_A G) st t
/-- from pc, with these locals, this stack, this heap, and at most bc cells of bs slots to make: the method returns, with Q -/
def on_E (G : on_G) (M : on_M) (pc : Nat) (lv : on_V) (st : List Value) (h : on_H) (sz bc bs : Nat) (Q : Option Value → on_H → Nat → Prop) : Prop :=
  ∀ (p : Program) (l : Launch) (e : Env) (R : Room) (s : State) (m : MethodId) (args : Array Value) (below : List Frame) (meth : Method) (c : Code) (H : Heap) (locs : List Loc) (cells slots : Nat) (ls : Array Slot),
    on_Std G M p R s m args meth c → on_L ls (on_nL M) lv → on_R G h sz H → va_S (on_A G) s.heap H locs → cells + bc ≤ R.cells → slots + bs ≤ R.slots →
    W p l e R s m args below meth c H locs cells slots (MQ below (on_Qc G Q) args s R.cells R.slots (on_A G)) (F0 m pc ls st)
def on_rm (M : on_M) (mc ms : Nat) : Room := { frames := on_fr M, cells := mc, slots := ms, locals := on_lo M }
/-- a method's contract at these arguments and this heap -/
def on_Ct (G : on_G) (M : on_M) (av : List Value) (h : on_H) (sz mc ms : Nat) (Q : Option Value → on_H → Nat → Prop) : Prop :=
  ∀ l : Launch, Met l (on_y M) (on_ws M) (on_rm M mc ms) (va_Pc av (fun U => on_R G h sz U.heap ∧ on_K G U ∧ on_b G ≤ U.heap.size ∧ on_St G U U.heap)) (on_Qc G Q) mc ms (on_A G)
theorem on_Ct.of {G : on_G} {M : on_M} {av : List Value} {h : on_H} {sz mc ms : Nat} {Q : Option Value → on_H → Nat → Prop} (hy : plainName (on_y M).cls = true) (hok : on_ok M) (hn : (lg_sl av).length ≤ on_nL M)
    (k : on_E G M 0 (on_l (lv_args 0 av)) [] h sz mc ms Q) : on_Ct G M av h sz mc ms Q := by
  intro l
  refine Met.ofW (cc := on_cc M) (maxL := on_nL M) (ret := on_rt M) hy rfl ?_
  intro p e s m args below meth c s₁ B hml hv
  obtain ⟨rfl, hR, hK, hb, hst⟩ := hv
  have hl := lv_entry av hn
  rw [lg_entry_eq]
  exact k p l e (on_rm M mc ms) s m _ below meth c s.heap [] 0 0 _ ⟨B.exec, B.bytes, hml, B.returns, B.notSynchronized, (name_of_methodNamed B.named B.method).1, findClass_of_methodNamed B.named, fun w hw => atoms_spec (ws := on_ws M) B.pre w (List.mem_cons_of_mem _ hw), hK, rfl, rfl, hb, hst, hok⟩
    ⟨hl.1, hl.2.1, fun i v hi => hl.2.2 (i, v) (on_l_mem hi)⟩ hR va_S.rf (by show 0 + mc ≤ mc; omega) (by show 0 + ms ≤ ms; omega)
theorem on_R.one {G : on_G} {h : on_H} {sz a : Nat} {e : va_E} {H : Heap} (hR : on_R G h sz H) (ha : h a = some e) : va_P G.1 on_cl [(a, on_c G.2.1 e)] H := by
  intro k q hk
  cases k with
  | zero => cases hk; exact (hR.2 a e ha).2
  | succ k => simp at hk
theorem on_K.ty {G : on_G} {s : State} {t : Nat} {ty : FieldType} (hK : on_K G s) (ht : on_tyl[t]? = some ty) : va_K G.1 on_cl [(G.2.1 t, ty)] s := by
  refine ⟨hK.1.1, fun k q hk => ?_⟩
  cases k with
  | zero => cases hk; exact hK.2.1 t ty ht
  | succ k => simp at hk
