section ONH
variable {G : on_G} {M : on_M} {pc pc' : Nat} {lv : on_V} {st : List Value} {h : on_H} {sz bc bs : Nat} {Q : Option Value → on_H → Nat → Prop}
/-- what links a field's place: the class of number ci, its k-th slot -/
def on_FL (C0 : String) (index ci k : Nat) : Prop := ∃ q : vw_C, on_cl[ci]? = some q ∧ k < q.2.2 ∧ (∀ w ∈ u_ws q.1 q.2.1 q.2.2, w ∈ on_W) ∧ Cond.fieldLink C0 index (q.2.1 k).1 (q.2.1 k).2.1 (q.2.1 k).2.2.1 ∈ on_W
/-- the same for a write -/
def on_FP (C0 : String) (index ci k : Nat) (ty : FieldType) (fin : Bool) : Prop := ∃ (q : vw_C) (ty0 : Nat → FieldType), on_cl[ci]? = some q ∧ k < q.2.2 ∧ (∀ w ∈ u_ws q.1 q.2.1 q.2.2, w ∈ on_W) ∧ Cond.fieldLink C0 index (q.2.1 k).1 (q.2.1 k).2.1 (q.2.1 k).2.2.1 ∈ on_W ∧
  (∀ j, j < q.2.2 → parseFieldDescriptor (q.2.1 j).2.2.1 = some (ty0 j)) ∧ (∀ a, a < q.2.2 → ∀ b, b < q.2.2 → a ≠ b → (q.2.1 a).2.1 ≠ (q.2.1 b).2.1) ∧ parseFieldDescriptor (q.2.1 k).2.2.1 = some ty ∧ (q.2.1 k).2.2.2 = fin ∧ (fin = true → (q.2.1 k).1 = C0)
theorem on_get {a ci k index : Nat} {fs : List Value} {v : Value} (hd : on_tb M pc = some (.getfield index, 3)) (hp : pc + 3 = pc') (hF : on_FL (on_y M).cls index ci k) (ha : h a = some (.inr (ci, fs))) (hv : fs[k]? = some v) (kk : on_E G M pc' lv (v :: st) h sz bc bs Q) : on_E G M pc lv (.ref a :: st) h sz bc bs Q := by
  subst hp
  intro p l e R s m args below meth c H locs cells slots ls S hl hR hS hc hs
  obtain ⟨⟨C, T, N⟩, hcl, hk, hin, hlink⟩ := hF
  have hts := S.2.2.2.2.2.2.2.1
  exact va_get (ref := (T k).1) S.1 S.2.1 hts hin S.2.2.2.2.2.2.1 S.2.2.2.2.2.2.2.2.1.1 (hR.one ha) 0 rfl hcl k hk (hts _ hlink) (fun _ x => x) hv (S.dec hd) (kk p l e R s m args below meth c H locs cells slots ls S hl hR hS hc hs)
theorem on_put {a ci k index : Nat} {ty : FieldType} {fs : List Value} {v : Value} (hd : on_tb M pc = some (.putfield index, 3)) (hp : pc + 3 = pc') (hF : on_FP (on_y M).cls index ci k ty false) (ha : h a = some (.inr (ci, fs))) (hn : narrow ty v = v) (hfit : fits ty v = true) (hkl : k < fs.length) (kk : on_E G M pc' lv st (on_up h a (.inr (ci, fs.set k v))) sz bc bs Q) : on_E G M pc lv (v :: .ref a :: st) h sz bc bs Q := by
  subst hp
  intro p l e R s m args below meth c H locs cells slots ls S hl hR hS hc hs
  obtain ⟨⟨C, T, N⟩, ty0, hcl, hk, hin, hlink, hty, hnm, hdsc, hfin, -⟩ := hF
  have hts := S.2.2.2.2.2.2.2.1
  have hK := S.2.2.2.2.2.2.2.2.1.1
  have hap := va_apart (own := (on_y M).cls) hts hin ty0 hty hnm hK hcl
  obtain ⟨r, h1, cell, q1, q2, q3, q4⟩ := (hR.2 a _ ha).2
  have hr : r = (C, T, N) := Option.some.inj (h1.symm.trans hcl)
  subst hr
  obtain ⟨hSl, hfc, kC, hkC, hkind⟩ := hK.1 ci _ hcl
  obtain ⟨cf, kf, fi, f, hi, hsl⟩ := hSl k hk
  have hlay := hts _ (hin _ (u_in_lay hk))
  unfold u_lay at hlay
  rw [if_neg (by rw [hfin]; decide)] at hlay
  have hst := (u_facts hfc hkC (u_lays hts hin hk) hi).1
  have h6 := u_store hfc hkC hkind hlay hi hdsc hn hfit
  refine W.putK S.1 S.2.1 (f := f) ⟨S.2.2.2.2.2.2.1, hts _ hlink, ⟨_, _, _, hi⟩, hst⟩ (by rw [q2]; exact h6) q1 q3 (by rw [hsl]; exact k2_hasslot (q4 k hk)) rfl rfl (S.dec hd) fun H' e1 e2 e3 => ?_
  rw [hsl] at e1 ⊢
  exact kk p l e R s m args below meth c H' _ cells slots ls S hl (hR.set e2 e3 (hR.2 a _ ha).1 ⟨_, hcl, t_OB.to (V := updV (vp_V fs) k v) ⟨_, e1, q2, q3, t_set q4 hap hk v⟩ (fun j _ => vp_updV_set hkl v j)⟩) (hS.put e2 e3 (hR.2 a _ ha).1) hc hs
theorem on_putF {a ci k index : Nat} {ty : FieldType} {fs : List Value} {v : Value} (hd : on_tb M pc = some (.putfield index, 3)) (hp : pc + 3 = pc') (hF : on_FP (on_y M).cls index ci k ty true) (hini : (on_y M).name = "<init>") (ha : h a = some (.inr (ci, fs))) (hn : narrow ty v = v) (hfit : fits ty v = true) (hkl : k < fs.length) (kk : on_E G M pc' lv st (on_up h a (.inr (ci, fs.set k v))) sz bc bs Q) : on_E G M pc lv (v :: .ref a :: st) h sz bc bs Q := by
  subst hp
  intro p l e R s m args below meth c H locs cells slots ls S hl hR hS hc hs
  obtain ⟨⟨C, T, N⟩, ty0, hcl, hk, hin, hlink, hty, hnm, hdsc, hfin, hdecl⟩ := hF
  have hdecl := hdecl rfl
  have hts := S.2.2.2.2.2.2.2.1
  have hown := S.2.2.2.2.2.2.1
  have hK := S.2.2.2.2.2.2.2.2.1.1
  have hap := va_apart (own := (on_y M).cls) hts hin ty0 hty hnm hK hcl
  obtain ⟨r, h1, cell, q1, q2, q3, q4⟩ := (hR.2 a _ ha).2
  have hr : r = (C, T, N) := Option.some.inj (h1.symm.trans hcl)
  subst hr
  obtain ⟨hSl, hfc, kC, hkC, hkind⟩ := hK.1 ci _ hcl
  obtain ⟨cf, kf, fi, f, hi, hsl⟩ := hSl k hk
  have hlay := hts _ (hin _ (u_in_lay hk))
  unfold u_lay at hlay
  rw [if_pos hfin] at hlay
  have hst := (u_facts hfc hkC (u_lays hts hin hk) hi).1
  have hcf : m.cls = cf := by
    obtain ⟨_, _, c', _, _, _, -, -, hf', -, -, -, hown2, -⟩ := Cond.laysFinal_spec hlay
    have e1 : c' = cf := by have := hi.symm.trans hf'; simp at this; exact this.1.symm
    rw [hdecl] at hown2
    rw [← e1]; exact Option.some.inj (hown.symm.trans hown2)
  have h6 := u_fits hfc hkC hkind (Or.inr hlay) hi hdsc hn hfit
  refine W.putFinK S.1 S.2.1 hown (hts _ hlink) hi hst hcf (S.2.2.2.2.2.1.trans hini) (by rw [q2]; exact h6) q1 q3 (by rw [hsl]; exact k2_hasslot (q4 k hk)) rfl rfl (S.dec hd) fun H' e1 e2 e3 => ?_
  rw [hsl] at e1 ⊢
  exact kk p l e R s m args below meth c H' _ cells slots ls S hl (hR.set e2 e3 (hR.2 a _ ha).1 ⟨_, hcl, t_OB.to (V := updV (vp_V fs) k v) ⟨_, e1, q2, q3, t_set q4 hap hk v⟩ (fun j _ => vp_updV_set hkl v j)⟩) (hS.put e2 e3 (hR.2 a _ ha).1) hc hs
/-- arrays: of ints (booleans lie as ints too), of longs, of references -/
abbrev on_ai (t n : Nat) (f : Nat → Int32) : va_E := .inl (t, n, .inl f)
abbrev on_al (t n : Nat) (f : Nat → Int64) : va_E := .inl (t, n, .inr (.inl f))
abbrev on_aq (t n : Nat) (f : Nat → Option Nat) : va_E := .inl (t, n, .inr (.inr (.inr (.inr f))))
theorem on_iaload {a t n : Nat} {f : Nat → Int32} {i : Int32} (hd : on_tb M pc = some (.iaload, 1)) (hp : pc + 1 = pc') (ha : h a = some (on_ai t n f)) (ht : on_tyl[t]? = some .int) (hi : vp_in i n) (kk : on_E G M pc' lv (.int (f i.toNatClampNeg) :: st) h sz bc bs Q) : on_E G M pc lv (.int i :: .ref a :: st) h sz bc bs Q := by
  subst hp
  intro p l e R s m args below meth c H locs cells slots ls S hl hR hS hc hs
  exact va_iald S.1 S.2.1 (S.2.2.2.2.2.2.2.2.1.ty ht) (hR.one ha) 0 0 rfl rfl hi (S.dec hd) (kk p l e R s m args below meth c H locs cells slots ls S hl hR hS hc hs)
theorem on_zaload {a t n : Nat} {f : Nat → Int32} {i : Int32} (hd : on_tb M pc = some (.baload, 1)) (hp : pc + 1 = pc') (ha : h a = some (on_ai t n f)) (ht : on_tyl[t]? = some .boolean) (hi : vp_in i n) (kk : on_E G M pc' lv (.int (f i.toNatClampNeg) :: st) h sz bc bs Q) : on_E G M pc lv (.int i :: .ref a :: st) h sz bc bs Q := by
  subst hp
  intro p l e R s m args below meth c H locs cells slots ls S hl hR hS hc hs
  exact va_zald S.1 S.2.1 (S.2.2.2.2.2.2.2.2.1.ty ht) (hR.one ha) 0 0 rfl rfl hi (S.dec hd) (kk p l e R s m args below meth c H locs cells slots ls S hl hR hS hc hs)
theorem on_laload {a t n : Nat} {f : Nat → Int64} {i : Int32} (hd : on_tb M pc = some (.laload, 1)) (hp : pc + 1 = pc') (ha : h a = some (on_al t n f)) (ht : on_tyl[t]? = some .long) (hi : vp_in i n) (kk : on_E G M pc' lv (.long (f i.toNatClampNeg) :: st) h sz bc bs Q) : on_E G M pc lv (.int i :: .ref a :: st) h sz bc bs Q := by
  subst hp
  intro p l e R s m args below meth c H locs cells slots ls S hl hR hS hc hs
  exact va_lald S.1 S.2.1 (S.2.2.2.2.2.2.2.2.1.ty ht) (hR.one ha) 0 0 rfl rfl hi (S.dec hd) (kk p l e R s m args below meth c H locs cells slots ls S hl hR hS hc hs)
theorem on_aaload {a t n : Nat} {C : String} {f : Nat → Option Nat} {i : Int32} (hd : on_tb M pc = some (.aaload, 1)) (hp : pc + 1 = pc') (ha : h a = some (on_aq t n f)) (ht : on_tyl[t]? = some (.object C)) (hi : vp_in i n) (kk : on_E G M pc' lv (va_rf (f i.toNatClampNeg) :: st) h sz bc bs Q) : on_E G M pc lv (.int i :: .ref a :: st) h sz bc bs Q := by
  subst hp
  intro p l e R s m args below meth c H locs cells slots ls S hl hR hS hc hs
  exact va_aldq S.1 S.2.1 (S.2.2.2.2.2.2.2.2.1.ty ht) (hR.one ha) 0 0 rfl rfl hi (S.dec hd) (kk p l e R s m args below meth c H locs cells slots ls S hl hR hS hc hs)
theorem on_alen {a t : Nat} {x : vp_A} {ty : FieldType} {v : Int32} (hd : on_tb M pc = some (.arraylength, 1)) (hp : pc + 1 = pc') (ha : h a = some (.inl (t, x))) (ht : on_tyl[t]? = some ty) (hv : Int32.ofNat x.1 = v) (kk : on_E G M pc' lv (.int v :: st) h sz bc bs Q) : on_E G M pc lv (.ref a :: st) h sz bc bs Q := by
  subst hp
  intro p l e R s m args below meth c H locs cells slots ls S hl hR hS hc hs
  exact va_alen S.1 S.2.1 (S.2.2.2.2.2.2.2.2.1.ty ht) (hR.one ha) 0 0 rfl rfl hv (S.dec hd) (kk p l e R s m args below meth c H locs cells slots ls S hl hR hS hc hs)
theorem on_upd_cell {cA : ClassId} {n k : Nat} {f : Nat → Int32} {x : Int32} : (vp_cell cA (n, .inl f)).setSlot k (.int x) = vp_cell cA (n, .inl (upd f k x)) := by
  rw [vp_cell_i, vp_cell_i, arrV_store]
  congr 1
  funext q
  by_cases hq : q = k
  · subst hq; simp [updV, upd]
  · simp [updV, upd, hq]
theorem on_updL_cell {cA : ClassId} {n k : Nat} {f : Nat → Int64} {x : Int64} : (vp_cell cA (n, .inr (.inl f))).setSlot k (.long x) = vp_cell cA (n, .inr (.inl (vp_updL f k x))) := by
  rw [vp_cell_l, vp_cell_l, arrV_store]
  congr 1
  funext q
  by_cases hq : q = k
  · subst hq; simp [updV, vp_updL]
  · simp [updV, vp_updL, hq]
theorem on_updQ_cell {cA : ClassId} {n k : Nat} {f : Nat → Option Nat} {r : Option Nat} : (vp_cell cA (n, .inr (.inr (.inr (.inr f))))).setSlot k (va_rf r) = vp_cell cA (n, .inr (.inr (.inr (.inr (va_up f k r))))) := by
  rw [vp_cell_q, vp_cell_q, arrV_store]
  congr 1
  funext q
  by_cases hq : q = k
  · subst hq; simp [updV, va_up]
  · simp [updV, va_up, hq]
theorem on_iastore {a t n : Nat} {f : Nat → Int32} {i x : Int32} (hd : on_tb M pc = some (.iastore, 1)) (hp : pc + 1 = pc') (ha : h a = some (on_ai t n f)) (ht : on_tyl[t]? = some .int) (hi : vp_in i n) (kk : on_E G M pc' lv st (on_up h a (on_ai t n (upd f i.toNatClampNeg x))) sz bc bs Q) : on_E G M pc lv (.int x :: .int i :: .ref a :: st) h sz bc bs Q := by
  subst hp
  intro p l e R s m args below meth c H locs cells slots ls S hl hR hS hc hs
  have hcell : H[a]? = some (vp_cell (G.2.1 t) (n, .inl f)) := (hR.2 a _ ha).2
  refine W.iast S.1 S.2.1 hcell ((S.2.2.2.2.2.2.2.2.1.2.1 t _ ht).1 n (fun j => .int (f j))) (fun q => by cases q) (by show ¬ (i < 0 ∨ (arrV _ _ _).slots.size ≤ _); rw [arrV_size]; exact hi) rfl rfl (S.dec hd) fun H1 e1 z oq => ?_
  exact kk p l e R s m args below meth c H1 _ cells slots ls S hl (hR.set z oq (hR.2 a _ ha).1 (by show H1[a]? = some (vp_cell _ _); rw [e1, on_upd_cell])) (hS.put z oq (hR.2 a _ ha).1) hc hs
theorem on_zastore {a t n : Nat} {f : Nat → Int32} {i x : Int32} (hd : on_tb M pc = some (.bastore, 1)) (hp : pc + 1 = pc') (ha : h a = some (on_ai t n f)) (ht : on_tyl[t]? = some .boolean) (hi : vp_in i n) (hx : narrow .boolean (.int x) = .int x) (kk : on_E G M pc' lv st (on_up h a (on_ai t n (upd f i.toNatClampNeg x))) sz bc bs Q) : on_E G M pc lv (.int x :: .int i :: .ref a :: st) h sz bc bs Q := by
  subst hp
  intro p l e R s m args below meth c H locs cells slots ls S hl hR hS hc hs
  have hcell : H[a]? = some (vp_cell (G.2.1 t) (n, .inl f)) := (hR.2 a _ ha).2
  refine W.zast S.1 S.2.1 hcell ((S.2.2.2.2.2.2.2.2.1.2.1 t _ ht).1 n (fun j => .int (f j))) (fun q => by cases q) (by show ¬ (i < 0 ∨ (arrV _ _ _).slots.size ≤ _); rw [arrV_size]; exact hi) rfl rfl (S.dec hd) fun H1 e1 z oq => ?_
  exact kk p l e R s m args below meth c H1 _ cells slots ls S hl (hR.set z oq (hR.2 a _ ha).1 (by show H1[a]? = some (vp_cell _ _); rw [e1, hx, on_upd_cell])) (hS.put z oq (hR.2 a _ ha).1) hc hs
theorem on_lastore {a t n : Nat} {f : Nat → Int64} {i : Int32} {x : Int64} (hd : on_tb M pc = some (.lastore, 1)) (hp : pc + 1 = pc') (ha : h a = some (on_al t n f)) (ht : on_tyl[t]? = some .long) (hi : vp_in i n) (kk : on_E G M pc' lv st (on_up h a (on_al t n (vp_updL f i.toNatClampNeg x))) sz bc bs Q) : on_E G M pc lv (.long x :: .int i :: .ref a :: st) h sz bc bs Q := by
  subst hp
  intro p l e R s m args below meth c H locs cells slots ls S hl hR hS hc hs
  have hcell : H[a]? = some (vp_cell (G.2.1 t) (n, .inr (.inl f))) := (hR.2 a _ ha).2
  refine W.last S.1 S.2.1 hcell ((S.2.2.2.2.2.2.2.2.1.2.1 t _ ht).1 n (fun j => .long (f j))) (fun q => by cases q) (by show ¬ (i < 0 ∨ (arrV _ _ _).slots.size ≤ _); rw [arrV_size]; exact hi) rfl rfl (S.dec hd) fun H1 e1 z oq => ?_
  exact kk p l e R s m args below meth c H1 _ cells slots ls S hl (hR.set z oq (hR.2 a _ ha).1 (by show H1[a]? = some (vp_cell _ _); rw [e1, on_updL_cell])) (hS.put z oq (hR.2 a _ ha).1) hc hs
theorem on_aastore {a b t n ci : Nat} {q : vw_C} {vs : List Value} {f : Nat → Option Nat} {i : Int32} (hd : on_tb M pc = some (.aastore, 1)) (hp : pc + 1 = pc') (ha : h a = some (on_aq t n f)) (hcl : on_cl[ci]? = some q) (ht : on_tyl[t]? = some (.object q.1)) (hb : h b = some (.inr (ci, vs))) (hi : vp_in i n) (kk : on_E G M pc' lv st (on_up h a (on_aq t n (va_up f i.toNatClampNeg (some b)))) sz bc bs Q) : on_E G M pc lv (.ref b :: .int i :: .ref a :: st) h sz bc bs Q := by
  subst hp
  intro p l e R s m args below meth c H locs cells slots ls S hl hR hS hc hs
  have hcell : H[a]? = some (vp_cell (G.2.1 t) (n, .inr (.inr (.inr (.inr f))))) := (hR.2 a _ ha).2
  have hlt : i.toNatClampNeg < n := Nat.not_le.mp fun q => hi (Or.inr q)
  have h0 : ¬ i < 0 := fun q => hi (Or.inl q)
  obtain ⟨r', hr', cellV, g1, g2, g3, -⟩ := (hR.2 b _ hb).2
  have hcls := (S.2.2.2.2.2.2.2.2.1.1.1 ci q hcl).2
  obtain ⟨kA, comp, k1, k2, k3, -⟩ := (S.2.2.2.2.2.2.2.2.1.2.1 t _ ht).2
  have hcomp : comp = G.1.1 ci := Option.some.inj (k3.symm.trans hcls.1)
  subst hcomp
  obtain ⟨kC, hkC, -⟩ := hcls.2
  refine W.aast S.1 S.2.1 hcell (fun q h => by cases h) (fun h => by cases h) k1 k2 rfl hkC ⟨h0, by show _ < (arrV _ _ _).slots.size; rw [arrV_size]; exact hlt⟩ g1 (fun q h => by rw [g3] at h; cases h) (by rw [g2]; exact hkC) (by rw [g2]; exact va_assign hcls) rfl rfl (S.dec hd) fun H1 e1 z oq => ?_
  exact kk p l e R s m args below meth c H1 _ cells slots ls S hl (hR.set z oq (hR.2 a _ ha).1 (by show H1[a]? = some (vp_cell _ _); rw [e1]; exact congrArg some (on_updQ_cell (r := some b)))) (hS.put z oq (hR.2 a _ ha).1) hc hs
/-- a new object of the class of number ci -/
def on_NW (C0 : String) (index ci N : Nat) (ty : Nat → FieldType) : Prop := ∃ q : vw_C, on_cl[ci]? = some q ∧ q.2.2 = N ∧ (∀ w ∈ u_ws q.1 q.2.1 q.2.2, w ∈ on_W) ∧ (∀ k, k < q.2.2 → parseFieldDescriptor (q.2.1 k).2.2.1 = some (ty k)) ∧ Cond.classLink C0 index q.1 ∈ on_W ∧ Cond.instantiable q.1 q.2.2 ∈ on_W ∧ Cond.initialized q.1 ∈ on_W
theorem on_S_push {A : Nat → Prop} {H0 H H1 : Heap} {locs : List Loc} {sz : Nat} (hS : va_S A H0 H locs) (hz : H.size = sz) (z : H1.size = sz + 1) (oq : ∀ q : Nat, q < sz → H1[q]? = H[q]?) : va_S A H0 H1 locs := by
  subst hz
  exact ⟨Nat.le_trans hS.1 (by omega), fun q h1 h2 => (oq q (Nat.lt_of_lt_of_le h1 hS.1)).trans (hS.2.1 q h1 h2), hS.2.2⟩
theorem on_new {ci index N : Nat} {ty : Nat → FieldType} {fs : List Value} (hd : on_tb M pc = some (.new index, 3)) (hp : pc + 3 = pc') (hN : on_NW (on_y M).cls index ci N ty) (hfs : ∀ j, j < N → defaultValue (ty j) = vp_V fs j) (hbc : 1 ≤ bc) (hbs : N ≤ bs) (kk : on_E G M pc' lv (.ref sz :: st) (on_up h sz (.inr (ci, fs))) (sz + 1) (bc - 1) (bs - N) Q) : on_E G M pc lv st h sz bc bs Q := by
  subst hp
  intro p l e R s m args below meth c H locs cells slots ls S hl hR hS hc hs
  obtain ⟨⟨C, T, N'⟩, hcl, rfl, hin, hty, w1, w2, w3⟩ := hN
  have hts := S.2.2.2.2.2.2.2.1
  have hKn := S.2.2.2.2.2.2.2.2.1.1.1 ci _ hcl
  have hbz : on_b G ≤ sz := Nat.le_trans S.2.2.2.2.2.2.2.2.2.2.2.1 (by rw [← hR.1]; exact hS.1)
  refine W.newcK S.1 S.2.1 S.2.2.2.2.2.2.1 (hts _ w1) (hts _ w2) (hts _ w3) rfl (S.dec hd) (by omega) (by dsimp only at hbs ⊢; omega) hKn.2.1 hR.1 fun H1 kC hkC e1 z1 o1 => ?_
  exact kk p l e R s m args below meth c H1 locs (cells + 1) (slots + N') ls S hl (hR.push z1 o1 hbz ⟨_, hcl, (u_born ty hts hin hKn hkC e1 hty).to hfs⟩) (on_S_push hS hR.1 z1 o1) (by omega) (by dsimp only at hbs ⊢; omega)
theorem on_newarray {t N : Nat} {atype : ArrayType} {ty : FieldType} {n : Int32} {a0 : vp_A} (hd : on_tb M pc = some (.newarray atype, 2)) (hp : pc + 2 = pc') (hty : newarray.typeOf atype = ty) (ht : on_tyl[t]? = some ty) (hra : ∀ (U : State) (c1 c2 : ClassId), va_RA U c1 ty → U.vm.findClass ("[" ++ ty.toString) = some c2 → c1 = c2) (hw : Cond.arrayClass ty ∈ on_W) (ha : ∀ cA : ClassId, vp_cell cA a0 = arrV cA N (fun _ => defaultValue ty)) (hn : ¬ n < 0) (hN : n.toNatClampNeg = N) (hbytes : N * componentBytes ty ≤ 536870912) (hbc : 1 ≤ bc) (hbs : N ≤ bs) (kk : on_E G M pc' lv (.ref sz :: st) (on_up h sz (.inl (t, a0))) (sz + 1) (bc - 1) (bs - N) Q) : on_E G M pc lv (.int n :: st) h sz bc bs Q := by
  subst hp
  subst hty
  intro p l e R s m args below meth c H locs cells slots ls S hl hR hS hc hs
  have hbz : on_b G ≤ sz := Nat.le_trans S.2.2.2.2.2.2.2.2.2.2.2.1 (by rw [← hR.1]; exact hS.1)
  refine va_newaK S.1 S.2.1 (S.2.2.2.2.2.2.2.1 _ hw) rfl (S.dec hd) rfl hn hN hbytes (by omega) (by omega) hR.1 fun H1 cA e1 z1 o1 f1 f2 => ?_
  have hcA := hra s _ _ (S.2.2.2.2.2.2.2.2.1.2.1 t _ ht).2 f2
  exact kk p l e R s m args below meth c H1 locs (cells + 1) (slots + N) ls S hl (hR.push z1 o1 hbz (by show H1[sz]? = some (vp_cell _ _); rw [ha, hcA]; exact e1)) (on_S_push hS hR.1 z1 o1) (by omega) (by omega)
theorem on_anewarray {t N index : Nat} {C : String} {n : Int32} (hd : on_tb M pc = some (.anewarray index, 3)) (hp : pc + 3 = pc') (ht : on_tyl[t]? = some (.object C)) (w1 : Cond.classLink (on_y M).cls index C ∈ on_W) (w2 : Cond.arrayOver (.object C) ∈ on_W2) (hn : ¬ n < 0) (hN : n.toNatClampNeg = N) (hbytes : N * 4 ≤ 536870912) (hbc : 1 ≤ bc) (hbs : N ≤ bs) (kk : on_E G M pc' lv (.ref sz :: st) (on_up h sz (on_aq t N (fun _ => none))) (sz + 1) (bc - 1) (bs - N) Q) : on_E G M pc lv (.int n :: st) h sz bc bs Q := by
  subst hp
  subst hN
  intro p l e R s m args below meth c H locs cells slots ls S hl hR hS hc hs
  have hts := S.2.2.2.2.2.2.2.1
  have hbz : on_b G ≤ sz := Nat.le_trans S.2.2.2.2.2.2.2.2.2.2.2.1 (by rw [← hR.1]; exact hS.1)
  refine W.anew S.1 S.2.1 S.2.2.2.2.2.2.1 (hts _ w1) (S.2.2.2.2.2.2.2.2.1.nest w2) rfl (S.dec hd) rfl hn hbytes (by omega) (by omega) fun cA kA comp f1 f2 f3 f4 => ?_
  obtain ⟨kA2, comp2, g1, g2, g3, g4⟩ := (S.2.2.2.2.2.2.2.2.1.2.1 t _ ht).2
  have hcA : G.2.1 t = cA := Option.some.inj (g4.symm.trans f1)
  have z1 : (H.push ({ cls := cA, slots := Array.replicate n.toNatClampNeg .null, vm := .none } : Cell)).size = sz + 1 := by rw [Array.size_push, hR.1]
  have o1 : ∀ q : Nat, q < sz → (H.push ({ cls := cA, slots := Array.replicate n.toNatClampNeg .null, vm := .none } : Cell))[q]? = H[q]? := fun q hq => by rw [Array.getElem?_push, if_neg (by rw [hR.1]; exact Nat.ne_of_lt hq)]
  have hK := kk p l e R s m args below meth c (H.push ({ cls := cA, slots := Array.replicate n.toNatClampNeg .null, vm := .none } : Cell)) locs (cells + 1) (slots + n.toNatClampNeg) ls S hl (hR.push z1 o1 hbz (by
    show (H.push _)[sz]? = some (vp_cell _ _)
    rw [← hR.1, Array.getElem?_push_size, hcA, arrV_new]
    rfl)) (on_S_push hS hR.1 z1 o1) (by omega) (by omega)
  rw [← hR.1] at hK
  exact hK
/-- Object's constructor -/
theorem on_objInit {idx a : Nat} (hd : on_tb M pc = some (.invokespecial idx, 3)) (hp : pc + 3 = pc') (w1 : Cond.methodLink (on_y M).cls idx Lib.objectInit ∈ on_W) (w2 : Cond.instanceMethod Lib.objectInit ∈ on_W) (w3 : Cond.code Lib.objectInit ⟨#[0xb1]⟩ 1 none ∈ on_W) (hfr : 1 ≤ on_fr M) (hlo : (st.map fun v => v.category).sum + 12 ≤ on_lo M) (k : on_E G M pc' lv st h sz bc bs Q) : on_E G M pc lv (.ref a :: st) h sz bc bs Q := by
  subst hp
  intro p l e R s m args below meth c H locs cells slots ls S hl hR hS hc hs
  have hts := S.2.2.2.2.2.2.2.1
  exact W.objInit S.1 S.2.1 S.2.2.2.2.2.2.1 (hts _ w1) (hts _ w2) (hts _ w3) rfl (by rw [S.2.2.1]; exact hl.1) rfl (S.dec hd) (by rw [S.2.2.2.2.2.2.2.2.2.1]; exact hfr) (by rw [S.2.2.2.2.2.2.2.2.2.2.1]; show 2 * 0 + _ + 12 ≤ _; omega) (k p l e R s m args below meth c H locs cells slots ls S hl hR hS hc hs)
/-- a constant row: its reference, its elements -/
theorem on_getstatic {index k : Nat} {q : String × String × List Int32} (hd : on_tb M pc = some (.getstatic index, 3)) (hp : pc + 3 = pc') (hq : on_stl[k]? = some q) (w1 : Cond.fieldLink (on_y M).cls index q.1 q.2.1 "[I" ∈ on_W) (kk : on_E G M pc' lv (.ref (on_sa G k) :: st) h sz bc bs Q) : on_E G M pc lv st h sz bc bs Q := by
  subst hp
  intro p l e R s m args below meth c H locs cells slots ls S hl hR hS hc hs
  exact va_gets S.1 S.2.1 (S.st k q hq).1 hS S.2.2.2.2.2.2.1 (S.2.2.2.2.2.2.2.1 _ w1) (fun _ x => x) (S.dec hd) (kk p l e R s m args below meth c H locs cells slots ls S hl hR hS hc hs)
theorem on_saload {k : Nat} {q : String × String × List Int32} {i : Int32} (hd : on_tb M pc = some (.iaload, 1)) (hp : pc + 1 = pc') (hq : on_stl[k]? = some q) (hi : vp_in i q.2.2.length) (kk : on_E G M pc' lv (.int (q.2.2.getD i.toNatClampNeg 0) :: st) h sz bc bs Q) : on_E G M pc lv (.int i :: .ref (on_sa G k) :: st) h sz bc bs Q := by
  subst hp
  intro p l e R s m args below meth c H locs cells slots ls S hl hR hS hc hs
  exact va_ti S.1 S.2.1 (S.st k q hq).2 hS hi rfl (S.dec hd) (kk p l e R s m args below meth c H locs cells slots ls S hl hR hS hc hs)
theorem on_slen {k : Nat} {q : String × String × List Int32} {v : Int32} (hd : on_tb M pc = some (.arraylength, 1)) (hp : pc + 1 = pc') (hq : on_stl[k]? = some q) (hv : Int32.ofNat q.2.2.length = v) (kk : on_E G M pc' lv (.int v :: st) h sz bc bs Q) : on_E G M pc lv (.ref (on_sa G k) :: st) h sz bc bs Q := by
  subst hp
  intro p l e R s m args below meth c H locs cells slots ls S hl hR hS hc hs
  exact va_tlen S.1 S.2.1 (S.st k q hq).2 hS hv (S.dec hd) (kk p l e R s m args below meth c H locs cells slots ls S hl hR hS hc hs)
end ONH
