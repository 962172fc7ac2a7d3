/-! decoding by a window of a few bytes -/
section DCW
def dw_eq (c : ByteArray) (p : Nat) (c2 : ByteArray) (p2 : Nat) : Prop := ∀ (j : Nat) (b : UInt8), c2.data[p2 + j]? = some b → c.data[p + j]? = some b
theorem dw_eq.shift {c c2 : ByteArray} {p p2 : Nat} (h : dw_eq c p c2 p2) (k : Nat) : dw_eq c (p + k) c2 (p2 + k) := fun j b hb => by
  rw [Nat.add_assoc] at hb ⊢
  exact h (k + j) b hb
def dw_r {α : Type} (r r2 : Jvm.ClassFile.Decoder α) : Prop := ∀ (c c2 : ByteArray) (p p2 : Nat), dw_eq c p c2 p2 → ∀ (a : α) (q : Nat), r2.runAt c2 p2 = .ok (a, q) → ∃ k, q = p2 + k ∧ r.runAt c p = .ok (a, p + k)
theorem dw_pure {α : Type} (a : α) : dw_r (pure a) (pure a) := fun c c2 p p2 _ x q h => by
  cases h
  exact ⟨0, rfl, rfl⟩
theorem dw_throw {α : Type} {r : Jvm.ClassFile.Decoder α} {e : Jvm.ClassFile.DecodeError} : dw_r r (throw e) := fun c c2 p p2 _ x q h => by
  cases h
theorem dw_bind {α β : Type} {r r2 : Jvm.ClassFile.Decoder α} {f f2 : α → Jvm.ClassFile.Decoder β} (h1 : dw_r r r2) (h2 : ∀ a, dw_r (f a) (f2 a)) : dw_r (r >>= f) (r2 >>= f2) := fun c c2 p p2 hw x q h => by
  have e2 : (r2 >>= f2).runAt c2 p2 = (match r2.runAt c2 p2 with | .ok (a, s) => (f2 a).runAt c2 s | .error e => .error e) := by
    show Except.bind (r2 c2 p2) _ = _
    show Except.bind (r2.runAt c2 p2) _ = _
    cases r2.runAt c2 p2 <;> rfl
  have e1 : (r >>= f).runAt c p = (match r.runAt c p with | .ok (a, s) => (f a).runAt c s | .error e => .error e) := by
    show Except.bind (r.runAt c p) _ = _
    cases r.runAt c p <;> rfl
  rw [e2] at h
  cases hr : r2.runAt c2 p2 with
  | error e => rw [hr] at h; cases h
  | ok y =>
    obtain ⟨a, s⟩ := y
    rw [hr] at h
    obtain ⟨k, rfl, k2⟩ := h1 c c2 p p2 hw a s hr
    obtain ⟨k3, rfl, k4⟩ := h2 a c c2 (p + k) (p2 + k) (hw.shift k) x q h
    refine ⟨k + k3, by omega, ?_⟩
    rw [e1, k2]
    show (f a).runAt c (p + k) = _
    rw [k4, Nat.add_assoc]
theorem dw_map {α β : Type} {r r2 : Jvm.ClassFile.Decoder α} {f : α → β} (h1 : dw_r r r2) : dw_r (f <$> r) (f <$> r2) := by
  have := dw_bind h1 (f := fun a => pure (f a)) (f2 := fun a => pure (f a)) (fun a => dw_pure (f a))
  rw [bind_pure_comp, bind_pure_comp] at this
  exact this
theorem dw_u1e (d : ByteArray) (s : Nat) : (Jvm.ClassFile.Reader.u1 : Jvm.ClassFile.Decoder Nat).runAt d s = if h : s < d.size then .ok (d[s].toNat, s + 1) else .error (Jvm.ClassFile.HasTruncated.truncated s) := by
  by_cases hs : s < d.size
  · rw [dif_pos hs]
    show ((if h : s < d.size then _ else _ : Jvm.ClassFile.Decoder Nat) d s) = _
    rw [dif_pos hs]
    rfl
  · rw [dif_neg hs]
    show ((if h : s < d.size then _ else _ : Jvm.ClassFile.Decoder Nat) d s) = _
    rw [dif_neg hs]
    rfl
theorem dw_u1 : dw_r (Jvm.ClassFile.Reader.u1) (Jvm.ClassFile.Reader.u1) := fun c c2 p p2 hw x q h => by
  have e := dw_u1e
  rw [e] at h
  by_cases h2 : p2 < c2.size
  · rw [dif_pos h2] at h
    cases h
    have hb : c2.data[p2 + 0]? = some c2[p2] := by
      rw [Nat.add_zero]
      exact Array.getElem?_eq_getElem h2
    have h3 := hw 0 _ hb
    rw [Nat.add_zero] at h3
    obtain ⟨h4, h5⟩ := Array.getElem?_eq_some_iff.mp h3
    refine ⟨1, rfl, ?_⟩
    have h6 : p < c.size := h4
    rw [e, dif_pos h6]
    show Except.ok (c.data[p].toNat, p + 1) = _
    rw [h5]
  · rw [dif_neg h2] at h
    cases h
theorem dw_u2 : dw_r (Jvm.ClassFile.Reader.u2) (Jvm.ClassFile.Reader.u2) := dw_bind dw_u1 (fun _ => dw_bind dw_u1 (fun _ => dw_pure _))
theorem dw_s1 : dw_r (Jvm.ClassFile.Reader.s1) (Jvm.ClassFile.Reader.s1) := dw_map dw_u1
theorem dw_s2 : dw_r (Jvm.ClassFile.Reader.s2) (Jvm.ClassFile.Reader.s2) := dw_map dw_u2
/-- the opcodes that are looked at by a window -/
def dw_ok (op : Nat) : Bool := op < 170 || (171 < op && op < 185) || op == 187 || (188 < op && op < 196) || op == 198 || op == 199
theorem dw_bindP {α β : Type} {P : α → Prop} {r r2 : Jvm.ClassFile.Decoder α} {f f2 : α → Jvm.ClassFile.Decoder β} (h1 : dw_r r r2) (h2 : ∀ a, P a → dw_r (f a) (f2 a)) (c c2 : ByteArray) (p p2 : Nat) (hw : dw_eq c p c2 p2) (hP : ∀ a s, r2.runAt c2 p2 = .ok (a, s) → P a) (x : β) (q : Nat) (h : (r2 >>= f2).runAt c2 p2 = .ok (x, q)) : ∃ k, q = p2 + k ∧ (r >>= f).runAt c p = .ok (x, p + k) := by
  have e2 : (r2 >>= f2).runAt c2 p2 = (match r2.runAt c2 p2 with | .ok (a, s) => (f2 a).runAt c2 s | .error e => .error e) := by
    show Except.bind (r2.runAt c2 p2) _ = _
    cases r2.runAt c2 p2 <;> rfl
  have e1 : (r >>= f).runAt c p = (match r.runAt c p with | .ok (a, s) => (f a).runAt c s | .error e => .error e) := by
    show Except.bind (r.runAt c p) _ = _
    cases r.runAt c p <;> rfl
  rw [e2] at h
  cases hr : r2.runAt c2 p2 with
  | error e => rw [hr] at h; cases h
  | ok y =>
    obtain ⟨a, s⟩ := y
    rw [hr] at h
    obtain ⟨k, rfl, k2⟩ := h1 c c2 p p2 hw a s hr
    obtain ⟨k3, rfl, k4⟩ := h2 a (hP a _ hr) c c2 (p + k) (p2 + k) (hw.shift k) x q h
    refine ⟨k + k3, by omega, ?_⟩
    rw [e1, k2]
    show (f a).runAt c (p + k) = _
    rw [k4, Nat.add_assoc]
set_option maxHeartbeats 4000000 in
set_option maxRecDepth 100000 in
theorem dw_instr (pc : Nat) (c c2 : ByteArray) (p p2 : Nat) (hw : dw_eq c p c2 p2) (hP : ∀ a s, (Jvm.ClassFile.Reader.u1 : Jvm.ClassFile.Decoder Nat).runAt c2 p2 = .ok (a, s) → dw_ok a = true) (x : Instr) (q : Nat) (h : (Jvm.ClassFile.Decoder.instr 0).runAt c2 p2 = .ok (x, q)) : ∃ k, q = p2 + k ∧ (Jvm.ClassFile.Decoder.instr pc).runAt c p = .ok (x, p + k) := by
  unfold Jvm.ClassFile.Decoder.instr at h ⊢
  refine dw_bindP (P := fun a => dw_ok a = true) dw_u1 (fun a ha => ?_) c c2 p p2 hw hP x q h
  split <;> first
    | exact dw_pure _
    | exact dw_bind dw_u1 (fun _ => dw_pure _)
    | exact dw_bind dw_u2 (fun _ => dw_pure _)
    | exact dw_bind dw_s1 (fun _ => dw_pure _)
    | exact dw_bind dw_s2 (fun _ => dw_pure _)
    | exact dw_bind dw_u1 (fun _ => dw_bind dw_s1 (fun _ => dw_pure _))
    | exact absurd ha (by decide)
    | exact dw_throw
    | skip
def dw_win (bs : List UInt8) : ByteArray := ⟨(bs.take 3).toArray⟩
def dw_op (bs : List UInt8) : Bool := match bs with
  | [] => false
  | b :: _ => dw_ok b.toNat
def dw_chk (c : ByteArray) : Nat → List UInt8 → List (Nat × Instr × Nat) → Bool
  | _, _, [] => true
  | pc, bs, q :: r => Nat.beq q.1 pc && (bif dw_op bs then decide ((Jvm.ClassFile.Decoder.instr 0).runAt (dw_win bs) 0 = .ok q.2) else decide (decode c pc = .ok q.2)) && dw_chk c (pc + q.2.2) (bs.drop q.2.2) r
theorem dw_fast {c : ByteArray} {pc : Nat} {bs : List UInt8} {x : Instr} {n : Nat} (hbs : bs = c.data.toList.drop pc) (ho : dw_op bs = true) (h : (Jvm.ClassFile.Decoder.instr 0).runAt (dw_win bs) 0 = .ok (x, n)) : decode c pc = .ok (x, n) := by
  have hw : dw_eq c pc (dw_win bs) 0 := fun j b hb => by
    have h1 : (bs.take 3)[j]? = some b := by
      have : ((bs.take 3).toArray)[0 + j]? = some b := hb
      rw [Nat.zero_add] at this
      simpa using this
    have h2 : bs[j]? = some b := by
      rw [List.getElem?_take] at h1
      by_cases hj : j < 3
      · rw [if_pos hj] at h1; exact h1
      · rw [if_neg hj] at h1; cases h1
    rw [hbs, List.getElem?_drop] at h2
    simpa using h2
  obtain ⟨k, hk, hr⟩ := dw_instr pc c (dw_win bs) pc 0 hw (fun a s hs => by
    rw [dw_u1e] at hs
    cases bs with
    | nil => cases ho
    | cons b r =>
      have hz : 0 < (dw_win (b :: r)).size := by
        show 0 < ((b :: r).take 3).toArray.size
        simp
      rw [dif_pos hz] at hs
      cases hs
      exact ho) x n h
  rw [Nat.zero_add] at hk
  subst hk
  unfold decode
  rw [hr]
  show Except.ok (x, pc + n - pc) = _
  rw [Nat.add_sub_cancel_left]
theorem dw_chk_ok {c : ByteArray} : ∀ (l : List (Nat × Instr × Nat)) (pc : Nat) (bs : List UInt8), bs = c.data.toList.drop pc → dw_chk c pc bs l = true → ∀ q ∈ l, decode c q.1 = .ok q.2
  | [], _, _, _, _, q, hq => by cases hq
  | x :: r, pc, bs, hbs, h, q, hq => by
    unfold dw_chk at h
    rw [Bool.and_eq_true, Bool.and_eq_true] at h
    obtain ⟨⟨h1, h2⟩, h3⟩ := h
    have e1 : x.1 = pc := Nat.eq_of_beq_eq_true h1
    rcases List.mem_cons.mp hq with e | hm
    · rw [e, e1]
      cases ho : dw_op bs with
      | true =>
        rw [ho, cond_true] at h2
        exact dw_fast hbs ho (of_decide_eq_true h2)
      | false =>
        rw [ho, cond_false] at h2
        exact of_decide_eq_true h2
    · exact dw_chk_ok r (pc + x.2.2) (bs.drop x.2.2) (by rw [hbs, List.drop_drop]) h3 q hm
def dw_all (c : ByteArray) (n : Nat) (f : Nat → Option (Instr × Nat)) : Bool := dw_chk c 0 c.data.toList ((List.range n).filterMap (fun pc => (f pc).map (fun q => (pc, q))))
theorem dw_all_ok {c : ByteArray} {n : Nat} {f : Nat → Option (Instr × Nat)} (h : dw_all c n f = true) (pc : Nat) (q : Instr × Nat) (hq : on_t n f pc = some q) : decode c pc = .ok q := by
  unfold on_t at hq
  by_cases hb : Nat.blt pc n = true
  · rw [hb, cond_true] at hq
    exact dw_chk_ok _ 0 _ rfl h (pc, q) (List.mem_filterMap.mpr ⟨pc, List.mem_range.mpr (Nat.blt_eq.mp hb), by rw [hq]; rfl⟩)
  · rw [Bool.not_eq_true] at hb
    rw [hb, cond_false] at hq
    cases hq
end DCW
